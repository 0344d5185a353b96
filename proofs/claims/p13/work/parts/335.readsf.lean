section
/-! readOneS, readS: what they read -/
theorem psw_at {w : gd} {K : Nat → Int32} {v : Int32} {j' : Nat} (h : (nwo w).bind (psw K v) = some j') : ∃ j, nwo w = some j ∧ K j = v ∧ j < 700 ∧ j' = j + 1 := by
  obtain ⟨j, hj, h2⟩ := Option.bind_eq_some_iff.mp h
  unfold psw at h2
  split at h2
  · next c => exact ⟨j, hj, c.1, c.2, (Option.some.inj h2).symm⟩
  · exact absurd h2 (by simp)
theorem vRs_of {k : Nat} {x x' : gd} {r : Int32} (h : FRr k x r x') (h5 : x'.1 5 = x.1 5) (hb : (x'.1 0 9).toInt = 0) (h67 : x'.1 5 (x'.1 0 8).toNatClampNeg = 67) {tg : Option Nat} {M : gU} (v : vRr x' r tg M) : vRs x' r tg M := by
  refine ⟨v, fun e10 e3 => ?_⟩
  obtain ⟨u1, u2, u3⟩ := h.2 hb e10 e3
  rw [u3]
  exact ⟨by rw [h5]; exact u1, by rw [← u2]; exact h67⟩
theorem sf_readOneS (k : Nat) (ihS : SfS k) {G : mG} {D : Nat} {x : gd} {F : Int32 → gd → Prop} (hD : 4 * k + 23 ≤ D) (hpre : PreK k 0 x) (hb : (x.1 0 9).toInt = 0) (hlt : LT x) (hbs : pbs (x.1 5 (x.1 0 8).toNatClampNeg)) (hF : ∀ r x', QO k x r x' → FOs k x r x' → F r x') : MT G D z_readOneS 0 [(0, vr 0)] [] x (ri F) := by
  obtain ⟨D, rfl⟩ : ∃ m, D = m + 23 := ⟨D - 23, by omega⟩
  obtain ⟨pn, n0, c0, k16, nst⟩ := id hpre
  have pv := PN_v pn
  have k1 : (1 : Int32).toInt = 1 := rfl
  have k8 : (8 : Int32).toInt = 8 := rfl
  have p1 := pn.1
  have p2 := pn.2.1
  obtain ⟨i, ei⟩ : ∃ i, i = (x.1 0 8).toNatClampNeg := ⟨_, rfl⟩
  have hi : nwo x = some i := by rw [ei]; exact nwo_o hb
  obtain ⟨K, eK⟩ : ∃ K, K = x.1 5 := ⟨_, rfl⟩
  have one : ∀ {i'}, nwo x = some i' → i' = i := fun h => Option.some.inj (h.symm.trans hi)
  have i1 : ∀ {y : gd}, (y.1 0 8).toInt = (x.1 0 8).toInt + 1 → (y.1 0 8).toNatClampNeg = i + 1 := fun {y} h => by rw [ei, t_cl, t_cl]; omega
  -- what stepping keeps
  have kp : ∀ {y : gd}, SS x y → y.1 0 20 = x.1 0 20 ∧ y.1 0 21 = x.1 0 21 ∧ y.1 0 13 = x.1 0 13 ∧ LT y ∧ cr x ≤ cr y ∧ 0 ≤ (y.1 0 9).toInt := fun {y} s => ⟨s.1.1 20 (by decide), s.1.1 21 (by decide), s.1.1 13 (by decide), by unfold LT; rw [s.1.1 21 (by decide)]; exact hlt, (cr_ss s).1, s.2.1.2.2.1⟩
  have k5 : ∀ {y : gd}, RP x y → y.1 5 = K := fun {y} h => by rw [eK]; exact h.1.2.1 5 (by decide) (by decide)
  have nn : ∀ {y : gd}, (y.1 0 9).toInt = 0 → ∃ j, nwo y = some j ∧ j = (y.1 0 8).toNatClampNeg := fun {y} h => ⟨_, nwo_o h, rfl⟩
  refine sg_readOneS_0 (sp_here pn (fun r2 _ hr2 => ?_))
  have er2 : r2 = K i := by rw [eK, ei]; exact hr2 hb
  refine ⟨fun c => ?_, fun c => ?_, fun c => ?_, fun c => ?_, fun c => ?_, fun c => ?_, fun c => ?_, fun c => ?_, fun c => ?_, fun c => ?_⟩
  · -- a let
    have hK : K i = 26 := er2.symm.trans c
    refine sf_step pn (fun y1 s1 t1 h1 => sf_passName s1.2.1 (fun y2 s2 t2 h2 => ?_))
    rw [k5 (RP_ss s1)] at h2
    have sx2 := SS_tr s1 s2
    obtain ⟨e20, e21, e13, lt2, cx2, b2⟩ := kp sx2
    have p225 : ∀ z : gd, SS x z → ((z.1 0 9).toInt = 0 → (z.1 0 8).toInt = (x.1 0 8).toInt + 2 ∧ ¬ z.1 0 21 = 8) → nwo z = (nwo y2).bind (fun i => if lts x < 8 then some i else none) → MT G (D + 23) z_readOneS 225 [(0, vr 0), (1, vi (x.1 0 8)), (4, vi (y1.1 0 8))] [] z (ri F) := by
      intro z sz hz hnz
      obtain ⟨a20, a21, a13, ltz, cxz, bz⟩ := kp sz
      refine sg_readOneS_225 _ _ (fun z1 e1 => ?_)
      obtain ⟨r1, g1, f8, f9, f13, f20, f21⟩ := RP_21 sz.2.1 e1
      refine sf_pass _ r1.2.1 (fun z2 s2 t2 h2z => ?_)
      have rx1 := RP_tr (RP_ss sz) r1
      rw [k5 rx1] at h2z
      have c2 := cr_ss s2
      have h20 : z2.1 0 20 = x.1 0 20 := by rw [s2.1.1 20 (by decide), f20, a20]
      have h21 : z2.1 0 21 = z.1 0 21 + 1 := by rw [s2.1.1 21 (by decide), f21]
      have rx2 := RP_tr rx1 (RP_ss s2)
      refine sf_readR k (by omega) (PreK_rp hpre rx2 (by omega) (fun _ => ⟨h20, by omega⟩)) (fun r4 z3 h3 hf3 => ?_)
      obtain ⟨r3, l3, c3, d3, rr3, ok3⟩ := h3
      obtain ⟨M3, fr, vr3⟩ := hf3.1 none
      rw [k5 rx2] at fr
      have rx3 := RP_tr rx2 r3
      have bz2 := s2.2.1.2.2.1
      have low : -(3 * ((k : Int) + 1) + 1) ≤ cr z3 := by
        by_cases q : (z2.1 0 9).toInt = 0
        · have q1 := s2.2.2.2.2 q
          have := c2.2 q (t2 q)
          rw [f9] at q1
          have h8 := (hz q1).1
          have u13 : (z.1 0 13).toInt = (x.1 0 13).toInt := by rw [a13]
          have : cr z = cr x + 4 := by unfold cr; omega
          omega
        · have := d3 (by omega); omega
      have u21 : (z3.1 0 21).toInt = (x.1 0 21).toInt + 1 := by
        rw [l3, h21, a21, t_add (by rw [k1]; have := hlt.1; omega) (by rw [k1]; have := hlt.2; omega), k1]
      refine sp_node _ _ _ _ _ (nodeV rx3 n0 (by omega)) (fun w hw => ?_)
      have qo : QO k x (z3.1 0 13) w := endO rx3 n0 k16 low pv hw (fun q => by
        obtain ⟨o1, o2, o3, o4, o5⟩ := ok3 q
        have q1 := s2.2.2.2.2 o1
        have t2' := t2 o1
        have cc := c2.2 o1 t2'
        rw [f9] at q1
        obtain ⟨h8, h7⟩ := hz q1
        have u8 : (z1.1 0 8).toInt = (z.1 0 8).toInt := by rw [f8]
        have n8 : ¬ (x.1 0 21).toInt = 8 := fun e => h7 (by rw [t_eq, k8, a21]; exact e)
        have := hlt.1
        have := hlt.2
        exact ⟨by rw [o2, h20], by omega, by omega, by omega, ⟨by omega, by omega⟩, Or.inl ⟨rfl, PN_v s1.2.1, by omega, vR_mono (by omega) o5⟩⟩)
      refine sf_pass _ qo.1.2.1 (fun y s t hy => ri_i (hF _ _ (endP qo s t) ?_))
      rw [k5 qo.1] at hy
      have c9 := FX_qS (FX_qT h1) (FX_qS (FX_qP h2) (FX_qS (FX_qC (lts x < 8) hnz) (FX_qS (FX_qP (h2z.trans (by rw [nwo_e f8 f9]))) (FX_qS (FX_qN [(23, i + 1, 0)] rfl) (FX_qS (FX_to fr (nE_nwo hw)) (FX_qS (FX_qP hy) (FX_qV (22, i + 1, i) rfl)))))))
      have hl : lts y = lts x + 1 := by
        have e : y.1 0 21 = z3.1 0 21 := (s.1.1 21 (by decide)).trans (hw.1.1 21 (by decide))
        unfold lts
        rw [e, t_cl, t_cl, u21]
        have := hlt.1
        omega
      refine ⟨_, FXs_eq (FXs_c 1 c9 (fun _ _ => hl)) (fun i' hi' L => ?_), fun q => ?_⟩
      · obtain rfl := one hi'
        rw [← eK, pS_let hK]
      · have qw := s.2.2.2.2 q
        have f9' : w.1 0 9 = z3.1 0 9 := hw.1.1 9 (by decide)
        have f8' : w.1 0 8 = z3.1 0 8 := hw.1.1 8 (by decide)
        rw [f9'] at qw
        obtain ⟨j, hj, -⟩ := nn q
        rw [hy] at hj
        obtain ⟨j2, hj2, h67, -, -⟩ := psw_at hj
        have e2 := (nwo_is hj2).2
        rw [f8'] at e2
        rw [← e2] at h67
        have q2 := r3.2.2.2.1 qw
        have q1 := s2.2.2.2.2 q2
        rw [f9] at q1
        have y10 : (y1.1 0 9).toInt = 0 := by
          obtain ⟨jz, hjz, -⟩ := nn q1
          rw [hnz] at hjz
          obtain ⟨j5, hj5, -⟩ := Option.bind_eq_some_iff.mp hjz
          rw [h2] at hj5
          obtain ⟨j6, hj6, -⟩ := psw_at hj5
          exact (nwo_is hj6).1
        have a1 := i1 (t1 y10)
        refine wS_RP (Int.le_refl _) (RP_ss s) (endF rx3 n0 (by omega) hw (by decide) (Or.inl ⟨rfl, M3, vRs_of hf3 ((k5 rx3).trans (k5 rx2).symm) qw (by rw [k5 rx3]; exact h67) (vr3 qw), ?_⟩))
        rw [a1, ← ei]
        rfl
    have l8 : lts x < 8 ↔ ¬ (x.1 0 21).toInt = 8 := by
      have := hlt.1
      have := hlt.2
      unfold lts
      rw [t_cl]
      omega
    refine ⟨fun q => p225 y2 sx2 (fun q2 => absurd (by rw [t_eq]; exact q2) q) ?_, fun q0 => ⟨fun q8 => p225 y2 sx2 (fun q2 => ?_) ?_, fun q8 => sp_fault _ _ (by decide) (PN_v s1.2.1) sx2.2.1 (fun y9 s9 b9 _ _ => p225 y9 (SS_tr sx2 s9) (fun q2 => by omega) ?_)⟩⟩
    · have : nwo y2 = none := nwo_b (by have q' : ¬ (y2.1 0 9).toInt = 0 := fun e => q (t_eq.mpr e); omega)
      rw [this]; rfl
    · have := t2 q2
      have := t1 (s2.2.2.2.2 q2)
      exact ⟨by omega, q8⟩
    · have c8 : lts x < 8 := l8.mpr (fun e => q8 (by rw [t_eq, k8, e21]; exact e))
      cases nwo y2 with
      | none => rfl
      | some j => rw [Option.bind_some, if_pos c8]
    · have c8 : ¬ lts x < 8 := fun z => l8.mp z (by rw [← e21, q8]; exact k8)
      rw [nwo_b b9]
      cases nwo y2 with
      | none => rfl
      | some j => rw [Option.bind_some, if_neg c8]
  · -- a store
    have hK : K i = 1 := er2.symm.trans c
    refine sf_step pn (fun y1 s1 t1 h1 => ?_)
    obtain ⟨e20, e21, e13, lt1, cx1, b1⟩ := kp s1
    refine sf_take _ s1.2.1 (fun h65 => ⟨fun _ => ?_, fun q => absurd rfl q⟩) (fun y2 j hj h65 b1' s2 t2 h2 => ⟨fun q => absurd q (by decide), fun _ => ?_⟩)
    · refine sf_pass _ s1.2.1 (fun y2 s2 t2 h2 => ?_)
      rw [k5 (RP_ss s1)] at h2
      have sx2 := SS_tr s1 s2
      obtain ⟨f20, f21, f13, lt2, cx2, b2⟩ := kp sx2
      refine sf_readR k (by omega) (PreK_w (PreK_ss hpre sx2) (by decide)) (fun r3 y3 h3 hf3 => ?_)
      obtain ⟨r23, l3, c3, d3, rr3, ok3⟩ := h3
      obtain ⟨M3, fr, vr3⟩ := hf3.1 (some i)
      rw [k5 (RP_ss sx2)] at fr
      have rx3 := RP_tr (RP_ss sx2) r23
      have c1 := cr_ss s1
      have c2 := cr_ss s2
      have low : -(3 * ((k : Int) + 1) + 1) ≤ cr y3 := by
        by_cases q : (y2.1 0 9).toInt = 0
        · have := c2.2 q (t2 q); omega
        · have := d3 (by omega); omega
      refine sp_node _ _ _ _ _ (nodeV rx3 n0 (by omega)) (fun w hw => ?_)
      have qo : QO k x (y3.1 0 13) w := endO rx3 n0 k16 low pv hw (fun q => by
        obtain ⟨o1, o2, o3, o4, o5⟩ := ok3 q
        have q1 := s2.2.2.2.2 o1
        have t1' := t1 q1
        have t2' := t2 o1
        have := c2.2 o1 t2'
        have := c1.2 q1 t1'
        have u21 : (y3.1 0 21).toInt = (x.1 0 21).toInt := by rw [l3, f21]
        exact ⟨by rw [o2, f20], by omega, by omega, by omega, by unfold LT; rw [l3]; exact lt2, Or.inr (Or.inl ⟨rfl, pv, vR_mono (by omega) o5⟩)⟩)
      refine sg_readOneS_341 _ (sf_pass _ qo.1.2.1 (fun y s t hy => ri_i (hF _ _ (endP qo s t) ?_)))
      rw [k5 qo.1] at hy
      have c9 := FX_qS (FX_qT h1) (FX_qS (FX_qP h2) (FX_qS (FX_to fr (nE_nwo hw)) (FX_qS (FX_qP hy) (FX_qV (77, i, 0) rfl))))
      have hl : lts y = lts x := by
        have e : y.1 0 21 = y3.1 0 21 := (s.1.1 21 (by decide)).trans (hw.1.1 21 (by decide))
        unfold lts
        rw [e, l3, f21]
      refine ⟨_, FXs_eq (FXs_c 0 c9 (fun _ _ => hl)) (fun i' hi' L => ?_), fun q => ?_⟩
      · obtain rfl := one hi'
        rw [← eK]
        by_cases c7 : i' < 700
        · have n65 : ¬ K (i' + 1) = 65 := by
            rw [hi, Option.bind_some, ps1, if_pos c7] at h1
            have := h65 (i' + 1) h1
            rw [k5 (RP_ss s1)] at this
            exact this
          rw [pS_set hK n65]
          rfl
        · rw [pS_1 (by rw [hK]; decide) (by rw [hK]; decide) (by rw [hK]; decide)]
          unfold qS qT
          rw [ps1, if_neg c7]
          rfl
      · have qw := s.2.2.2.2 q
        have f9' : w.1 0 9 = y3.1 0 9 := hw.1.1 9 (by decide)
        have f8' : w.1 0 8 = y3.1 0 8 := hw.1.1 8 (by decide)
        rw [f9'] at qw
        obtain ⟨j, hj, -⟩ := nn q
        rw [hy] at hj
        obtain ⟨j2, hj2, h67, -, -⟩ := psw_at hj
        have e2 := (nwo_is hj2).2
        rw [f8'] at e2
        rw [← e2] at h67
        refine wS_RP (Int.le_refl _) (RP_ss s) (endF rx3 n0 (by omega) hw (by decide) (Or.inr (Or.inl ⟨rfl, rfl, M3, ?_, ?_⟩)))
        · rw [← ei]; exact vRs_of hf3 ((k5 rx3).trans (k5 (RP_ss sx2)).symm) qw (by rw [k5 rx3]; exact h67) (vr3 qw)
        · rw [← ei]; rfl
    · have sx2 := SS_tr s1 s2
      obtain ⟨f20, f21, f13, lt2, cx2, b2⟩ := kp sx2
      have c1 := cr_ss s1
      have c2 := cr_ss s2
      refine sf_E k (g := 0) _ _ (by omega) (by decide) (PreK_ss hpre sx2) (fun r3 y3 h3 hf3 => ?_)
      obtain ⟨r23, l3, c3, d3, rr3, ok3⟩ := h3
      obtain ⟨M3, f3, v3⟩ := FE_0 hf3
      rw [k5 (RP_ss sx2)] at f3
      have rx3 := RP_tr (RP_ss sx2) r23
      refine sf_pass _ r23.2.1 (fun y4 s4 t4 h4 => sf_pass _ s4.2.1 (fun y5 s5 t5 h5 => ?_))
      rw [k5 rx3] at h4
      rw [k5 (RP_tr rx3 (RP_ss s4))] at h5
      have c4 := cr_ss s4
      have c5 := cr_ss s5
      have s35 := SS_tr s4 s5
      have rx5 := RP_tr rx3 (RP_ss s35)
      have g20 : y5.1 0 20 = y3.1 0 20 := s35.1.1 20 (by decide)
      have g21 : y5.1 0 21 = x.1 0 21 := by rw [s35.1.1 21 (by decide), l3, f21]
      refine sf_E k (g := -200) _ _ (by omega) (by decide) (PreK_rp hpre rx5 (by omega) (fun q => by
        obtain ⟨a1, a2, a3, a4⟩ := ok3 (s35.2.2.2.2 q)
        exact ⟨by rw [g20, a1, f20], by omega⟩)) (fun r6 y6 h6 hf6 => ?_)
      obtain ⟨r56, l6, c6, d6, rr6, ok6⟩ := h6
      obtain ⟨M6, f6, v6⟩ := FE_0 hf6
      rw [k5 rx5] at f6
      have rx6 := RP_tr rx5 r56
      have low : -(3 * ((k : Int) + 1) + 1) ≤ cr y6 := by
        by_cases q : (y5.1 0 9).toInt = 0
        · obtain ⟨a1, a2, a3, a4⟩ := ok3 (s35.2.2.2.2 q)
          omega
        · rw [d6 (by have := s5.2.1.2.2.1; omega)]
          omega
      refine sp_node _ _ _ _ _ (nodeV rx6 n0 (by omega)) (fun w hw => ?_)
      have qo : QO k x (y6.1 0 13) w := endO rx6 n0 k16 low pv hw (fun q => by
        obtain ⟨o1, o2, o3, o4⟩ := ok6 q
        have q5 := r56.2.2.2.1 q
        have q4 := s5.2.2.2.2 q5
        have q3 := s4.2.2.2.2 q4
        obtain ⟨a1, a2, a3, a4⟩ := ok3 q3
        have t5' := t5 q5
        have t4' := t4 q4
        have q2 := r23.2.2.2.1 q3
        have t2' := t2 q2
        have t1' := t1 b1'
        have u21 : (y6.1 0 21).toInt = (x.1 0 21).toInt := by rw [l6, g21]
        exact ⟨by rw [o1, g20, a1, f20], by omega, by omega, by omega, by unfold LT; rw [l6, g21]; exact hlt, Or.inr (Or.inr (Or.inl ⟨rfl, pv, ((y3.1 0 8).toInt - (y2.1 0 8).toInt).toNat, ((y6.1 0 8).toInt - (y5.1 0 8).toInt).toNat, by omega, vE_RP (RP_tr (RP_ss s35) r56) a4, o4⟩))⟩)
      refine sg_readOneS_341 _ (sf_pass _ qo.1.2.1 (fun y s t hy => ri_i (hF _ _ (endP qo s t) ?_)))
      rw [k5 qo.1] at hy
      have h2' : nwo y2 = (nwo y1).bind ps1 := by rw [hj]; exact h2
      have c9 := FX_qS (FX_qN (y := x) [(7, i, 0)] rfl) (FX_qS (FX_qT h1) (FX_qS (FX_qT h2') (FX_qS (FX_X f3) (FX_qS (FX_qP h4) (FX_qS (FX_qP h5) (FX_qS (FX_to (FX_X f6) (nE_nwo hw)) (FX_qS (FX_qP hy) (FX_qV (78, i, 0) rfl))))))))
      have hl : lts y = lts x := by
        have e : y.1 0 21 = y6.1 0 21 := (s.1.1 21 (by decide)).trans (hw.1.1 21 (by decide))
        unfold lts
        rw [e, l6, g21]
      refine ⟨_, FXs_eq (FXs_c 0 c9 (fun _ _ => hl)) (fun i' hi' L => ?_), fun q => ?_⟩
      · obtain rfl := one hi'
        have ej : j = i' + 1 := by
          rw [hi, Option.bind_some] at h1
          exact (ps1_is (h1.symm.trans hj)).1
        rw [k5 (RP_ss s1), ej] at h65
        rw [← eK, pS_put hK h65]
        rfl
      · have qw := s.2.2.2.2 q
        have f9' : w.1 0 9 = y6.1 0 9 := hw.1.1 9 (by decide)
        rw [f9'] at qw
        have q5 := r56.2.2.2.1 qw
        have q3 := s35.2.2.2.2 q5
        obtain ⟨⟨n3, w3⟩, -⟩ := v3 q3
        obtain ⟨⟨n6, w6⟩, -⟩ := v6 qw
        refine wS_RP (Int.le_refl _) (RP_ss s) (endF rx6 n0 (by omega) hw (by decide) (Or.inr (Or.inr (Or.inl ⟨rfl, rfl, n3, n6, M3, M6, vV_RP (RP_tr (RP_ss s35) r56) w3, w6, ?_⟩))))
        rw [← ei]; rfl
  · -- an if
    have hK : K i = 24 := er2.symm.trans c
    exact sf_readIf k ihS (by omega) hpre hb hlt (by rw [← eK, ← ei]; exact hK) (fun r y h hf => ri_i (hF _ _ h hf))
  · -- a while
    have hK : K i = 41 := er2.symm.trans c
    refine sf_step pn (fun y1 s1 t1 h1 => ?_)
    obtain ⟨e20, e21, e13, lt1, cx1, b1⟩ := kp s1
    have c1 := cr_ss s1
    refine sf_E k (g := 0) _ _ (by omega) (by decide) (PreK_ss hpre s1) (fun r3 y2 h2 hf2 => ?_)
    obtain ⟨r12, l2, c2, d2, rr2, ok2⟩ := h2
    obtain ⟨M2, f2, v2⟩ := FE_0 hf2
    rw [k5 (RP_ss s1)] at f2
    have rx2 := RP_tr (RP_ss s1) r12
    have lt2 : LT y2 := by unfold LT; rw [l2]; exact lt1
    have pre2 : PreK k (-700) y2 := PreK_rp hpre rx2 (by omega) (fun q => by
      obtain ⟨a1, a2, a3, a4⟩ := ok2 q
      exact ⟨by rw [a1, e20], by omega⟩)
    refine sf_readBlock k ihS (by omega) pre2 (fun _ => lt2) (fun r5 y4 h4 hf4 => ?_)
    obtain ⟨r4, c4, d4, rr4, ok4⟩ := h4
    obtain ⟨M4, f4, v4⟩ := hf4 1
    rw [k5 rx2] at f4
    have rx4 := RP_tr rx2 r4
    have b2 := pre2.1.2.2.1
    have low4 : -(3 * ((k : Int) + 1) + 1) ≤ cr y4 := by
      by_cases q : (y2.1 0 9).toInt = 0
      · exact c4 q
      · have := d4 (by omega); omega
    refine sp_node _ _ _ _ _ (nodeV rx4 n0 (by omega)) (fun w hw => ri_i (hF _ _ (endO rx4 n0 k16 low4 pv hw (fun q => ?_)) ?_))
    · obtain ⟨o1, o2, o3, o4, o5, o6⟩ := ok4 q
      have q2 := r4.2.2.2.1 q
      obtain ⟨a1, a2, a3, a4⟩ := ok2 q2
      have q1 := r12.2.2.2.1 q2
      have st := t1 q1
      have cs := c1.2 q1 st
      have h21 : y2.1 0 21 = x.1 0 21 := by rw [l2, e21]
      rw [h21] at o4 o6
      have o9 := vB_keep rx2.2.2.2.2.1 (l := r5.toInt) ⟨NK_rfl y4, fun _ _ _ _ => rfl⟩ (fun _ _ _ _ g => vS_low rx2.2.2.2.2.1 g) (Int.le_refl _) o6
      exact ⟨by rw [o1, a1, e20], by omega, by omega, o4, o5, Or.inr (Or.inr (Or.inr (Or.inr (Or.inl ⟨rfl, ((y2.1 0 8).toInt - (y1.1 0 8).toInt).toNat, ((y4.1 0 8).toInt - (y2.1 0 8).toInt).toNat, by omega, vE_RP r4 a4, o9, o9.1.2⟩))))⟩
    · have c9 := FX_qS (FX_qT h1) (FX_qS (FX_X f2) (FX_qV (61, i, 0) rfl))
      have hl : lts y2 = lts x := by unfold lts; rw [l2, e21]
      refine ⟨_, FXs_eq (FXs_to (FXs_seq (FXs_c 0 c9 (fun _ _ => hl)) f4) (nE_nwo hw) (nE_lts hw)) (fun i' hi' L => ?_), fun q => ?_⟩
      · obtain rfl := one hi'
        rw [← eK, pS_while hK]
        rfl
      · have f9' : w.1 0 9 = y4.1 0 9 := hw.1.1 9 (by decide)
        rw [f9'] at q
        have q2 := r4.2.2.2.1 q
        obtain ⟨⟨n, ve⟩, -⟩ := v2 q2
        have wb := wB_low rx2.2.2.2.2.1 (v4 q)
        refine endF rx4 n0 (by omega) hw (by decide) (Or.inr (Or.inr (Or.inr (Or.inr (Or.inl ⟨rfl, n, M2, M4, vV_RP r4 ve, wb, wb.1.2, ?_⟩)))))
        rw [← ei]
        simp only [List.append_assoc, List.nil_append]
  · -- a lock
    have hK : K i = 27 := er2.symm.trans c
    refine sf_step pn (fun y1 s1 t1 h1 => sf_passName s1.2.1 (fun y2 s2 t2 h2 => ?_))
    rw [k5 (RP_ss s1)] at h2
    have sx2 := SS_tr s1 s2
    obtain ⟨e20, e21, e13, lt2, cx2, b2⟩ := kp sx2
    have c1 := cr_ss s1
    have c2 := cr_ss s2
    refine sf_readBlock k ihS (by omega) (PreK_w (PreK_ss hpre sx2) (by decide)) (fun _ => lt2) (fun r5 y4 h4 hf4 => ?_)
    obtain ⟨r4, c4, d4, rr4, ok4⟩ := h4
    obtain ⟨M4, f4, v4⟩ := hf4 2
    rw [k5 (RP_ss sx2)] at f4
    have rx4 := RP_tr (RP_ss sx2) r4
    have low4 : -(3 * ((k : Int) + 1) + 1) ≤ cr y4 := by
      by_cases q : (y2.1 0 9).toInt = 0
      · exact c4 q
      · have := d4 (by omega); omega
    refine sp_node _ _ _ _ _ (nodeV rx4 n0 (by omega)) (fun w hw => ri_i (hF _ _ (endO rx4 n0 k16 low4 pv hw (fun q => ?_)) ?_))
    · obtain ⟨o1, o2, o3, o4, o5, o6⟩ := ok4 q
      have q2 := r4.2.2.2.1 q
      have q1 := s2.2.2.2.2 q2
      have st1 := t1 q1
      have st2 := t2 q2
      rw [e21] at o4 o6
      rw [e13] at o6
      exact ⟨by rw [o1, e20], by omega, by omega, o4, o5, Or.inr (Or.inr (Or.inr (Or.inr (Or.inr (Or.inl ⟨rfl, PN_v s1.2.1, vB_mono (by omega) (Nat.le_refl _) o6, o6.1.2⟩)))))⟩
    · have c9 := FX_qS (FX_qT h1) (FX_qS (FX_qP h2) (FX_qV (65, i, i + 1) rfl))
      refine ⟨_, FXs_eq (FXs_to (FXs_seq (FXs_c 0 c9 (fun _ _ => SS_lts sx2)) f4) (nE_nwo hw) (nE_lts hw)) (fun i' hi' L => ?_), fun q => ?_⟩
      · obtain rfl := one hi'
        rw [← eK, pS_lock hK]
        rfl
      · have f9' : w.1 0 9 = y4.1 0 9 := hw.1.1 9 (by decide)
        rw [f9'] at q
        have q2 := r4.2.2.2.1 q
        have q1 := s2.2.2.2.2 q2
        have a1 := i1 (t1 q1)
        have wb := wB_low (RP_ss sx2).2.2.2.2.1 (v4 q)
        refine endF rx4 n0 (by omega) hw (by decide) (Or.inr (Or.inr (Or.inr (Or.inr (Or.inr (Or.inl ⟨rfl, M4, wb, wb.1.2, ?_⟩))))))
        rw [a1, ← ei]
        rfl
  · -- fence, pause
    refine sf_step pn (fun y1 s1 t1 h1 => sf_pass _ s1.2.1 (fun y2 s2 t2 h2 => ?_))
    rw [k5 (RP_ss s1)] at h2
    have sx2 := SS_tr s1 s2
    obtain ⟨e20, e21, e13, lt2, cx2, b2⟩ := kp sx2
    have c1 := cr_ss s1
    have c2 := cr_ss s2
    refine sp_node _ _ _ _ _ (nodeV (RP_ss sx2) n0 (by omega)) (fun w hw => ri_i (hF _ _ (endO (RP_ss sx2) n0 k16 (by omega) pv hw (fun q => ?_)) ?_))
    · have q1 := s2.2.2.2.2 q
      have st1 := t1 q1
      have st2 := t2 q
      have := c2.2 q st2
      have := c1.2 q1 st1
      exact ⟨e20, by omega, by omega, by rw [e21]; exact Int.le_refl _, lt2, Or.inr (Or.inr (Or.inr (Or.inr (Or.inr (Or.inr (Or.inr (Or.inl rfl)))))))⟩
    · have c9 := FX_qS (FX_qT h1) (FX_qS (FX_qP h2) (FX_qV (68, i, 0) (nE_nwo hw)))
      refine ⟨_, FXs_eq (FXs_c 0 c9 (fun _ _ => (nE_lts hw).trans (SS_lts sx2))) (fun i' hi' L => ?_), fun q => ?_⟩
      · obtain rfl := one hi'
        rw [← eK, pS_one (by rw [← er2]; exact c.elim Or.inl (fun q => Or.inr (Or.inl q)))]
        rfl
      · refine endF (RP_ss sx2) n0 (by omega) hw (by decide) (Or.inr (Or.inr (Or.inr (Or.inr (Or.inr (Or.inr (Or.inr (Or.inl ⟨rfl, ⟨?_, c⟩, ?_⟩))))))))
        · rw [k5 (RP_ss sx2), ← ei]; exact er2
        · rw [← ei]; rfl
  · refine sf_step pn (fun y1 s1 t1 h1 => sf_pass _ s1.2.1 (fun y2 s2 t2 h2 => ?_))
    rw [k5 (RP_ss s1)] at h2
    have sx2 := SS_tr s1 s2
    obtain ⟨e20, e21, e13, lt2, cx2, b2⟩ := kp sx2
    have c1 := cr_ss s1
    have c2 := cr_ss s2
    refine sp_node _ _ _ _ _ (nodeV (RP_ss sx2) n0 (by omega)) (fun w hw => ri_i (hF _ _ (endO (RP_ss sx2) n0 k16 (by omega) pv hw (fun q => ?_)) ?_))
    · have q1 := s2.2.2.2.2 q
      have st1 := t1 q1
      have st2 := t2 q
      have := c2.2 q st2
      have := c1.2 q1 st1
      exact ⟨e20, by omega, by omega, by rw [e21]; exact Int.le_refl _, lt2, Or.inr (Or.inr (Or.inr (Or.inr (Or.inr (Or.inr (Or.inr (Or.inr (Or.inr (Or.inr rfl)))))))))⟩
    · have c9 := FX_qS (FX_qT h1) (FX_qS (FX_qP h2) (FX_qV (68, i, 0) (nE_nwo hw)))
      refine ⟨_, FXs_eq (FXs_c 0 c9 (fun _ _ => (nE_lts hw).trans (SS_lts sx2))) (fun i' hi' L => ?_), fun q => ?_⟩
      · obtain rfl := one hi'
        rw [← eK, pS_one (by rw [← er2]; exact Or.inr (Or.inr c))]
        rfl
      · refine endF (RP_ss sx2) n0 (by omega) hw (by decide) (Or.inr (Or.inr (Or.inr (Or.inr (Or.inr (Or.inr (Or.inr (Or.inr (Or.inr (Or.inr ⟨rfl, ?_, ?_⟩))))))))))
        · rw [k5 (RP_ss sx2), ← ei, ← er2]; exact c
        · rw [← ei]; rfl
  · -- assert, back
    refine sf_step pn (fun y1 s1 t1 h1 => ?_)
    obtain ⟨e20, e21, e13, lt1, cx1, b1⟩ := kp s1
    have c1 := cr_ss s1
    refine sf_E k (g := 0) _ _ (by omega) (by decide) (PreK_ss hpre s1) (fun r3 y2 h2 hf2 => ?_)
    obtain ⟨r12, l2, c2, d2, rr2, ok2⟩ := h2
    obtain ⟨M2, f2, v2⟩ := FE_0 hf2
    rw [k5 (RP_ss s1)] at f2
    have rx2 := RP_tr (RP_ss s1) r12
    refine sf_pass _ r12.2.1 (fun y3 s3 t3 h3 => ?_)
    rw [k5 rx2] at h3
    have c3 := cr_ss s3
    have rx3 := RP_tr rx2 (RP_ss s3)
    have h21 : y3.1 0 21 = x.1 0 21 := by rw [s3.1.1 21 (by decide), l2, e21]
    have p488 : ∀ w : Int32, (w = 28 ∨ w = 30) → ((w = 28 ∧ K i = 13) ∨ (w = 30 ∧ K i = 14)) → MT G (D + 23) z_readOneS 488 [(0, vr 0), (1, vi (x.1 0 8)), (9, vi r3)] [vi w, vr 0] y3 (ri F) := by
      intro w0 hw0 hw1
      refine sg_readOneS_488 _ _ _ (sp_node _ _ _ _ _ (nodeV rx3 n0 (by omega)) (fun w hw => ri_i (hF _ _ (endO rx3 n0 k16 (by omega) pv hw (fun q => ?_)) ?_)))
      · have q2 := s3.2.2.2.2 q
        obtain ⟨a1, a2, a3, a4⟩ := ok2 q2
        have q1 := r12.2.2.2.1 q2
        have st1 := t1 q1
        have st3 := t3 q
        have := c1.2 q1 st1
        have h20 : y3.1 0 20 = x.1 0 20 := by rw [s3.1.1 20 (by decide), a1, e20]
        exact ⟨h20, by omega, by omega, by rw [h21]; exact Int.le_refl _, by unfold LT; rw [h21]; exact hlt, Or.inr (Or.inr (Or.inr (Or.inr (Or.inr (Or.inr (Or.inr (Or.inr (Or.inl ⟨hw0, vE_mono _ _ _ _ _ _ _ (by omega) (by omega) (Nat.le_refl _) (vE_RP (RP_ss s3) a4)⟩))))))))⟩
      · have c9 := FX_qS (FX_qT h1) (FX_qS (FX_X f2) (FX_qS (FX_qP h3) (FX_qV (69, i, 0) (nE_nwo hw))))
        refine ⟨_, FXs_eq (FXs_c 0 c9 (fun _ _ => (nE_lts hw).trans (by unfold lts; rw [h21]; rfl))) (fun i' hi' L => ?_), fun q => ?_⟩
        · obtain rfl := one hi'
          rw [← eK, pS_sum (hw1.imp (fun z => z.2) (fun z => z.2))]
          rfl
        · have f9' : w.1 0 9 = y3.1 0 9 := hw.1.1 9 (by decide)
          rw [f9'] at q
          obtain ⟨⟨n, ve⟩, -⟩ := v2 (s3.2.2.2.2 q)
          refine endF rx3 n0 (by omega) hw (by rcases hw0 with e | e <;> rw [e] <;> decide) (Or.inr (Or.inr (Or.inr (Or.inr (Or.inr (Or.inr (Or.inr (Or.inr (Or.inl ⟨hw0, ?_, n, M2, vV_RP (RP_ss s3) ve, ?_⟩)))))))))
          · rw [k5 rx3, ← ei]; exact hw1
          · rw [← ei]; rfl
    rw [er2]
    rw [er2] at c
    exact ⟨fun n13 => p488 _ (Or.inr rfl) (Or.inr ⟨rfl, c.resolve_left n13⟩), fun e13 => p488 _ (Or.inl rfl) (Or.inl ⟨rfl, e13⟩)⟩
  · -- a call
    have hK : K i = 15 := er2.symm.trans c
    refine sf_step pn (fun y1 s1 t1 h1 => sf_pass _ s1.2.1 (fun y2 s2 t2 h2 => sf_pass _ s2.2.1 (fun y3 s3 t3 h3 => ?_)))
    rw [k5 (RP_ss s1)] at h2
    rw [k5 (RP_ss (SS_tr s1 s2))] at h3
    have sx3 := SS_tr (SS_tr s1 s2) s3
    obtain ⟨e20, e21, e13, lt3, cx3, b3⟩ := kp sx3
    refine sf_E k (g := 0) _ _ (by omega) (by decide) (PreK_ss hpre sx3) (fun r4 y4 h4 hf4 => ?_)
    obtain ⟨r34, l4, c4, d4, rr4, ok4⟩ := h4
    obtain ⟨M4, f4, v4⟩ := FE_0 hf4
    rw [k5 (RP_ss sx3)] at f4
    have rx4 := RP_tr (RP_ss sx3) r34
    refine sf_pass _ r34.2.1 (fun y5 s5 t5 h5 => ?_)
    rw [k5 rx4] at h5
    have c5 := cr_ss s5
    have rx5 := RP_tr rx4 (RP_ss s5)
    have h21 : y5.1 0 21 = x.1 0 21 := by rw [s5.1.1 21 (by decide), l4, e21]
    refine sp_node _ _ _ _ _ (nodeV rx5 n0 (by omega)) (fun w hw => ri_i (hF _ _ (endO rx5 n0 k16 (by omega) pv hw (fun q => ?_)) ?_))
    · have q4 := s5.2.2.2.2 q
      obtain ⟨a1, a2, a3, a4⟩ := ok4 q4
      have q3 := r34.2.2.2.1 q4
      have q2 := s3.2.2.2.2 q3
      have q1 := s2.2.2.2.2 q2
      have st1 := t1 q1
      have st2 := t2 q2
      have st3 := t3 q3
      have st5 := t5 q
      have h20 : y5.1 0 20 = x.1 0 20 := by rw [s5.1.1 20 (by decide), a1, e20]
      exact ⟨h20, by omega, by omega, by rw [h21]; exact Int.le_refl _, by unfold LT; rw [h21]; exact hlt, Or.inr (Or.inr (Or.inr (Or.inr (Or.inr (Or.inr (Or.inr (Or.inr (Or.inr (Or.inl ⟨rfl, PN_v s1.2.1, vE_mono _ _ _ _ _ _ _ (by omega) (by omega) (Nat.le_refl _) (vE_RP (RP_ss s5) a4)⟩)))))))))⟩
    · have c9 := FX_qS (FX_qT h1) (FX_qS (FX_qP h2) (FX_qS (FX_qP h3) (FX_qS (FX_X f4) (FX_qS (FX_qP h5) (FX_qV (70, i, i + 1) (nE_nwo hw))))))
      refine ⟨_, FXs_eq (FXs_c 0 c9 (fun _ _ => (nE_lts hw).trans (by unfold lts; rw [h21]; rfl))) (fun i' hi' L => ?_), fun q => ?_⟩
      · obtain rfl := one hi'
        rw [← eK, pS_call hK]
        rfl
      · have f9' : w.1 0 9 = y5.1 0 9 := hw.1.1 9 (by decide)
        rw [f9'] at q
        have q4 := s5.2.2.2.2 q
        have q3 := r34.2.2.2.1 q4
        have q2 := s3.2.2.2.2 q3
        have q1 := s2.2.2.2.2 q2
        have a1 := i1 (t1 q1)
        obtain ⟨⟨n, ve⟩, -⟩ := v4 q4
        refine endF rx5 n0 (by omega) hw (by decide) (Or.inr (Or.inr (Or.inr (Or.inr (Or.inr (Or.inr (Or.inr (Or.inr (Or.inr (Or.inl ⟨rfl, n, M4, vV_RP (RP_ss s5) ve, ?_⟩))))))))))
        rw [a1, ← ei]
        rfl
  · -- a word and a name
    have hw7 : ((K i = 36 ∨ K i = 22 ∨ K i = 38 ∨ K i = 39 ∨ K i = 40) ∧ ¬ (K i = 33 ∨ K i = 25)) ∨ (K i = 33 ∨ K i = 25) := by
      rw [← eK, ← ei, ← er2] at hbs
      rw [← er2]
      have no : ∀ v : Int32, v ∈ [(26 : Int32), 1, 24, 41, 27, 20, 31, 19, 13, 14, 15] → ¬ r2 = v := fun v hv => c v hv
      unfold pbs at hbs
      rcases hbs with q | q | q | q | q | q | q | q | q | q | q | q | q | q | q | q | q | q
      all_goals first | exact absurd q (no _ (by decide)) | (rw [q]; decide)
    refine sf_step pn (fun y1 s1 t1 h1 => sf_passName s1.2.1 (fun y2 s2 t2 h2 => sf_pass _ s2.2.1 (fun y3 s3 t3 h3 => ?_)))
    rw [k5 (RP_ss s1)] at h2
    rw [k5 (RP_ss (SS_tr s1 s2))] at h3
    have sx3 := SS_tr (SS_tr s1 s2) s3
    obtain ⟨e20, e21, e13, lt3, cx3, b3⟩ := kp sx3
    have c1 := cr_ss s1
    have c2 := cr_ss s2
    have c3 := cr_ss s3
    refine sp_node _ _ _ _ _ (nodeV (RP_ss sx3) n0 (by omega)) (fun w hw => ri_i (hF _ _ (endO (RP_ss sx3) n0 k16 (by omega) pv hw (fun q => ?_)) ?_))
    · have q2 := s3.2.2.2.2 q
      have q1 := s2.2.2.2.2 q2
      have st1 := t1 q1
      have st2 := t2 q2
      have st3 := t3 q
      have := c1.2 q1 st1
      have := c2.2 q2 st2
      exact ⟨e20, by omega, by omega, by rw [e21]; exact Int.le_refl _, lt3, Or.inr (Or.inr (Or.inr (Or.inr (Or.inr (Or.inr (Or.inl ⟨rfl, PN_v s1.2.1⟩))))))⟩
    · obtain ⟨v, hv1, hv2⟩ : ∃ v, (((K i = 36 ∨ K i = 22 ∨ K i = 38 ∨ K i = 39 ∨ K i = 40) ∧ v = 66) ∨ ((K i = 33 ∨ K i = 25) ∧ v = 67)) ∧ ((¬ (K i = 33 ∨ K i = 25) ∧ v = 66) ∨ ((K i = 33 ∨ K i = 25) ∧ v = 67)) := by
        rcases hw7 with q | q
        · exact ⟨66, Or.inl ⟨q.1, rfl⟩, Or.inl ⟨q.2, rfl⟩⟩
        · exact ⟨67, Or.inr ⟨q, rfl⟩, Or.inr ⟨q, rfl⟩⟩
      have c9 := FX_qS (FX_qT h1) (FX_qS (FX_qP h2) (FX_qS (FX_qP h3) (FX_qV (v, i, i + 1) (nE_nwo hw))))
      refine ⟨_, FXs_eq (FXs_c 0 c9 (fun _ _ => (nE_lts hw).trans (SS_lts sx3))) (fun i' hi' L => ?_), fun q => ?_⟩
      · obtain rfl := one hi'
        rw [← eK, pS_word hv1]
        rfl
      · have f9' : w.1 0 9 = y3.1 0 9 := hw.1.1 9 (by decide)
        rw [f9'] at q
        have q2 := s3.2.2.2.2 q
        have q1 := s2.2.2.2.2 q2
        have a1 := i1 (t1 q1)
        refine endF (RP_ss sx3) n0 (by omega) hw (by decide) (Or.inr (Or.inr (Or.inr (Or.inr (Or.inr (Or.inr (Or.inl ⟨rfl, ?_, ?_⟩)))))))
        · rw [k5 (RP_ss sx3), ← ei]; exact er2
        · rw [a1, ← ei, er2]
          rcases hv2 with ⟨q, rfl⟩ | ⟨q, rfl⟩
          · exact Or.inl ⟨q, rfl⟩
          · exact Or.inr ⟨q, rfl⟩
end
section
theorem sf_readS : ∀ k : Nat, SfS k := by
  intro k
  induction k with
  | zero =>
    intro G D x F hD hpre hb hlt hbs hF
    obtain ⟨D, rfl⟩ : ∃ m, D = m + 20 := ⟨D - 20, by omega⟩
    obtain ⟨pn, n0, c0, k16, nst⟩ := id hpre
    obtain ⟨h16, -⟩ := nst hb
    refine sg_readS_0 (sp_deeper pn hb (by omega) (by omega) (fun y m py by0 => ⟨fun q => absurd rfl q, fun _ => ri_i (hF _ _ ?_ ⟨[], FXs_0 (nwo_b by0) (fun i _ L => rfl), fun q => by omega⟩)⟩) (fun y _ q _ => by omega))
    have e8 : y.1 0 8 = x.1 0 8 := m.1 8 (by decide)
    have e13 : y.1 0 13 = x.1 0 13 := m.1 13 (by decide)
    refine ⟨RP_9 m py (fun q => by omega), ?_, by decide, fun q => by omega⟩
    unfold cr at c0 ⊢
    rw [e8, e13]
    omega
  | succ k ih =>
    intro G D x F hD hpre hb hlt hbs hF
    obtain ⟨D, rfl⟩ : ∃ m, D = m + 24 := ⟨D - 24, by omega⟩
    obtain ⟨pn, n0, c0, k16, nst⟩ := id hpre
    obtain ⟨h16, -⟩ := nst hb
    refine sg_readS_0 (sf_deeper pn hb (by omega) (by omega) (fun y n16 m py by0 => by omega) (fun y m _ hy => ⟨fun _ => ?_, fun q => absurd q (by decide)⟩))
    have e8 : y.1 0 8 = x.1 0 8 := m.1 8 (by decide)
    have e9 : y.1 0 9 = x.1 0 9 := m.1 9 (by decide)
    have e13 : y.1 0 13 = x.1 0 13 := m.1 13 (by decide)
    have e21 : y.1 0 21 = x.1 0 21 := m.1 21 (by decide)
    have e5 : y.1 5 = x.1 5 := m.2.1 5 (by decide) (by decide)
    have py : PN y := ⟨by rw [e8]; exact pn.1, by rw [e8]; exact pn.2.1, by rw [e9]; exact pn.2.2.1, TX_md m (by decide) (by decide) (by decide) (by decide) pn.2.2.2⟩
    have cy : cr y = cr x := by unfold cr; rw [e8, e13]
    have rxy : RP x y := RP_9 (md_w m (by decide) (by decide)) py (fun q => by rw [← e9]; exact q)
    refine sf_readOneS k ih (by omega) ⟨py, by rw [e13]; exact n0, by omega, by omega, fun _ => ⟨by omega, by omega⟩⟩ (by rw [e9]; exact hb) (by unfold LT; rw [e21]; exact hlt) (by rw [e5, e8]; exact hbs) (fun r z hz hfz w ew => ri_i (hF _ _ ?_ ?_))
    · obtain ⟨rz, cz, rr, okz⟩ := hz
      have mw := md_f z 20 (z.1 0 20 - 1)
      rw [← ew] at mw
      have g8 : w.1 0 8 = z.1 0 8 := mw.1 8 (by decide)
      have g9 : w.1 0 9 = z.1 0 9 := mw.1 9 (by decide)
      have g13 : w.1 0 13 = z.1 0 13 := mw.1 13 (by decide)
      have g21 : w.1 0 21 = z.1 0 21 := mw.1 21 (by decide)
      have g20 : w.1 0 20 = z.1 0 20 - 1 := by rw [ew, si_get, if_pos ⟨rfl, rfl⟩]
      have pw : PN w := ⟨by rw [g8]; exact rz.2.1.1, by rw [g8]; exact rz.2.1.2.1, by rw [g9]; exact rz.2.1.2.2.1, TX_md mw (by decide) (by decide) (by decide) (by decide) rz.2.1.2.2.2⟩
      have rzw : RP z w := RP_9 (md_w mw (by decide) (by decide)) pw (fun q => by rw [← g9]; exact q)
      have cw : cr w = cr z := by unfold cr; rw [g8, g13]
      refine ⟨RP_tr rxy (RP_tr rz rzw), by omega, rr, fun q => ?_⟩
      rw [g9] at q
      obtain ⟨o1, o2, o3, o4, o5, o6, o7, o8⟩ := okz q
      rw [e21] at o4 o6
      rw [e8] at o2 o6
      rw [e13] at o6 o8
      rw [g8, g21]
      refine ⟨?_, o2, by omega, o4, by unfold LT; rw [g21]; exact o5, vS_RP (Int.le_refl _) rzw o6, ?_, o8⟩
      · rw [g20, o1, t_eq, t_sub (by rw [hy]; show _ ≤ _ - (1 : Int); omega) (by rw [hy]; show _ - (1 : Int) ≤ _; omega), hy]
        show _ - (1 : Int) = _
        omega
      · rw [rzw.2.2.2.2.2 20 (by decide) (by decide) _ (by rw [t_cl]; have := o6.1; omega)]
        exact o7
    · obtain ⟨rz, cz, rr, okz⟩ := hz
      obtain ⟨M, fz, vz⟩ := hfz
      have mw := md_f z 20 (z.1 0 20 - 1)
      rw [← ew] at mw
      have g8 : w.1 0 8 = z.1 0 8 := mw.1 8 (by decide)
      have g9 : w.1 0 9 = z.1 0 9 := mw.1 9 (by decide)
      have g21 : w.1 0 21 = z.1 0 21 := mw.1 21 (by decide)
      have pw : PN w := ⟨by rw [g8]; exact rz.2.1.1, by rw [g8]; exact rz.2.1.2.1, by rw [g9]; exact rz.2.1.2.2.1, TX_md mw (by decide) (by decide) (by decide) (by decide) rz.2.1.2.2.2⟩
      have rzw : RP z w := RP_9 (md_w mw (by decide) (by decide)) pw (fun q => by rw [← g9]; exact q)
      rw [e5] at fz
      rw [e13] at vz
      refine ⟨M, fun L => ?_, fun q => ?_⟩
      · have e := fz L
        have ny : nwo y = nwo x := nwo_e e8 e9
        have ly : lts y = lts x := by unfold lts; rw [e21]
        have nw : nwo w = nwo z := nwo_e g8 g9
        have lw : lts w = lts z := by unfold lts; rw [g21]
        rw [ny, ly] at e
        rw [nw, lw]
        exact e
      · rw [g9] at q
        exact wS_RP (Int.le_refl _) rzw (vz q)
end
section
/-! definitions: told 28 with arrays 30 to 35, cells 23 (36, 37), locks 24, threads 25 (38, 39), always 26 (40), finals 27 (41) -/
def tD (x x' : gd) (w a b c r t : Int32) : Prop := md [28] [30, 31, 32, 33, 34, 35] x x' ∧ x'.1 0 28 = x.1 0 28 + 1 ∧ (∀ j : Nat, x'.1 30 j = if j = (x.1 0 28).toNatClampNeg then w else x.1 30 j) ∧ (∀ j : Nat, x'.1 31 j = if j = (x.1 0 28).toNatClampNeg then a else x.1 31 j) ∧ (∀ j : Nat, x'.1 32 j = if j = (x.1 0 28).toNatClampNeg then b else x.1 32 j) ∧ (∀ j : Nat, x'.1 33 j = if j = (x.1 0 28).toNatClampNeg then c else x.1 33 j) ∧ (∀ j : Nat, x'.1 34 j = if j = (x.1 0 28).toNatClampNeg then vp_nar .boolean r else x.1 34 j) ∧ (∀ j : Nat, x'.1 35 j = if j = (x.1 0 28).toNatClampNeg then t else x.1 35 j)
section SPL
variable {G : mG} {d : Nat} {x : gd} {F : Int32 → gd → Prop} {Fv : gd → Prop}
theorem sp_tell (w a b c r t : Int32) (hn : vp_in (x.1 0 28) 40) (h : ∀ x', tD x x' w a b c r t → Fv x') : MT G d z_tell 0 [(0, vr 0), (1, vi w), (2, vi a), (3, vi b), (4, vi c), (5, vi r), (6, vi t)] [] x (rv Fv) := by
  obtain ⟨n, en⟩ : ∃ n, n = x.1 0 28 := ⟨_, rfl⟩
  refine sg_tell_0 _ _ _ _ _ _ ⟨hn, ?_⟩
  intro x2 e2
  have f2 : x2.1 0 28 = n := by rw [e2, si_cell (by decide), en]
  refine ⟨by rw [f2, en]; exact hn, ?_⟩
  intro x4 e4
  have f4 : x4.1 0 28 = n := by rw [e4, si_cell (by decide), f2]
  refine ⟨by rw [f4, en]; exact hn, ?_⟩
  intro x6 e6
  have f6 : x6.1 0 28 = n := by rw [e6, si_cell (by decide), f4]
  refine ⟨by rw [f6, en]; exact hn, ?_⟩
  intro x8 e8
  have f8 : x8.1 0 28 = n := by rw [e8, si_cell (by decide), f6]
  refine ⟨by rw [f8, en]; exact hn, ?_⟩
  intro x10 e10
  have f10 : x10.1 0 28 = n := by rw [e10, si_cell (by decide), f8]
  refine ⟨by rw [f10, en]; exact hn, ?_⟩
  intro x12 e12
  have f12 : x12.1 0 28 = n := by rw [e12, si_cell (by decide), f10]
  intro x13 e13
  rw [← en] at e2
  rw [f2] at e4
  rw [f4] at e6
  rw [f6] at e8
  rw [f8] at e10
  rw [f10] at e12
  rw [f12] at e13
  have f13 : x13.1 0 28 = n + 1 := by rw [e13, si_get, if_pos ⟨rfl, rfl⟩]
  have one : ∀ (c9 : Nat) (v9 : Int32) (z z' : gd), z' = si z c9 n.toNatClampNeg v9 → ∀ j : Nat, z'.1 c9 j = if j = n.toNatClampNeg then v9 else z.1 c9 j := by
    intro c9 v9 z z' e j
    rw [e, si_get]
    by_cases q : j = n.toNatClampNeg
    · rw [if_pos ⟨rfl, q⟩, if_pos q]
    · rw [if_neg (fun z => q z.2), if_neg q]
  have m : md [28] [30, 31, 32, 33, 34, 35] x x13 := by
    rw [e13]
    refine md_tr (L := []) (A := [30, 31, 32, 33, 34, 35]) ?_ (md_f x12 28 (n + 1)) rfl rfl
    rw [e12]
    refine md_tr (L := []) (A := [30, 31, 32, 33, 34]) ?_ (md_a x10 35 n.toNatClampNeg t (by decide)) rfl rfl
    rw [e10]
    refine md_tr (L := []) (A := [30, 31, 32, 33]) ?_ (md_a x8 34 n.toNatClampNeg (vp_nar .boolean r) (by decide)) rfl rfl
    rw [e8]
    refine md_tr (L := []) (A := [30, 31, 32]) ?_ (md_a x6 33 n.toNatClampNeg c (by decide)) rfl rfl
    rw [e6]
    refine md_tr (L := []) (A := [30, 31]) ?_ (md_a x4 32 n.toNatClampNeg b (by decide)) rfl rfl
    rw [e4]
    refine md_tr (L := []) (A := [30]) ?_ (md_a x2 31 n.toNatClampNeg a (by decide)) rfl rfl
    rw [e2]
    exact md_a x 30 n.toNatClampNeg w (by decide)
  refine rv_i (h x13 ⟨m, by rw [f13, en], ?_, ?_, ?_, ?_, ?_, ?_⟩)
  all_goals
    intro j
    rw [← en]
  · rw [e13, si_cell (by decide), e12, si_cell (by decide), e10, si_cell (by decide), e8, si_cell (by decide), e6, si_cell (by decide), e4, si_cell (by decide)]
    exact one 30 w x x2 e2 j
  · rw [e13, si_cell (by decide), e12, si_cell (by decide), e10, si_cell (by decide), e8, si_cell (by decide), e6, si_cell (by decide), one 31 a x2 x4 e4 j, e2, si_cell (by decide)]
  · rw [e13, si_cell (by decide), e12, si_cell (by decide), e10, si_cell (by decide), e8, si_cell (by decide), one 32 b x4 x6 e6 j, e4, si_cell (by decide), e2, si_cell (by decide)]
  · rw [e13, si_cell (by decide), e12, si_cell (by decide), e10, si_cell (by decide), one 33 c x6 x8 e8 j, e6, si_cell (by decide), e4, si_cell (by decide), e2, si_cell (by decide)]
  · rw [e13, si_cell (by decide), e12, si_cell (by decide), one 34 (vp_nar .boolean r) x8 x10 e10 j, e8, si_cell (by decide), e6, si_cell (by decide), e4, si_cell (by decide), e2, si_cell (by decide)]
  · rw [e13, si_cell (by decide), one 35 t x10 x12 e12 j, e10, si_cell (by decide), e8, si_cell (by decide), e6, si_cell (by decide), e4, si_cell (by decide), e2, si_cell (by decide)]
end SPL

def tot (S : Nat → Nat) : Nat → Nat
  | 0 => 0
  | n + 1 => tot S n + S n
/-- the counts -/
def GB (x : gd) : Prop := 0 ≤ (x.1 0 23).toInt ∧ (x.1 0 23).toInt ≤ 24 ∧ 0 ≤ (x.1 0 24).toInt ∧ (x.1 0 24).toInt ≤ 6 ∧ 0 ≤ (x.1 0 25).toInt ∧ (x.1 0 25).toInt ≤ 6 ∧ 0 ≤ (x.1 0 26).toInt ∧ (x.1 0 26).toInt ≤ 4 ∧ 0 ≤ (x.1 0 27).toInt ∧ (x.1 0 27).toInt ≤ 4 ∧ 0 ≤ (x.1 0 28).toInt ∧ (x.1 0 28).toInt ≤ (x.1 0 23).toInt + (x.1 0 24).toInt + (x.1 0 25).toInt
/-- a name that is told -/
def tE (x : gd) (j : Nat) : Prop := vp_in (x.1 30 j) 710 ∧ ((x.1 31 j = 0 ∧ 0 ≤ (x.1 32 j).toInt ∧ 1 ≤ (x.1 33 j).toInt ∧ (x.1 32 j).toInt + (x.1 33 j).toInt ≤ (x.1 0 23).toInt) ∨ (x.1 31 j = 1 ∧ 0 ≤ (x.1 32 j).toInt ∧ (x.1 32 j).toInt < (x.1 0 24).toInt) ∨ (x.1 31 j = 2 ∧ 0 ≤ (x.1 32 j).toInt ∧ (x.1 32 j).toInt < (x.1 0 25).toInt)) ∧ (x.1 34 j = 0 ∨ vp_in (x.1 35 j) 710)
/-- the trees: threads' blocks and orders, of at most n tokens in all -/
def PT (n : Int) (x : gd) : Prop := ∃ S A B : Nat → Nat, (∀ t : Nat, (t : Int) < (x.1 0 25).toInt → vB x 0 (vS x 0 17) (S t) 8 (x.1 39 t)) ∧ (∀ t : Nat, (t : Int) < (x.1 0 26).toInt → vE x (A t) (A t) 17 (x.1 40 t)) ∧ (∀ t : Nat, (t : Int) < (x.1 0 27).toInt → vE x (B t) (B t) 17 (x.1 41 t)) ∧ ((tot S (x.1 0 25).toNatClampNeg + tot A (x.1 0 26).toNatClampNeg + tot B (x.1 0 27).toNatClampNeg : Nat) : Int) ≤ n
def NN (x x' : gd) : Prop := (x.1 0 13).toInt ≤ (x'.1 0 13).toInt ∧ ∀ c : Nat, 15 ≤ c → c ≤ 20 → ∀ j : Nat, (j : Int) < (x.1 0 13).toInt → x'.1 c j = x.1 c j
theorem NN_RP {x x' : gd} (h : RP x x') : NN x x' := ⟨h.2.2.2.2.1, h.2.2.2.2.2⟩
theorem NN_NL {x x' : gd} (m l : Int) (h : NN x x') : NL m l x x' := ⟨⟨h.1, fun c h1 h2 j hj => h.2 c h1 (by omega) j hj⟩, fun j hj _ _ => h.2 20 (by decide) (by decide) j hj⟩
theorem NN_md {L A : List Nat} {x x' : gd} (h : md L A x x') (h13 : 13 ∉ L) (hA : ∀ c : Nat, 15 ≤ c → c ≤ 20 → c ∉ A) : NN x x' := ⟨by rw [h.1 13 h13]; exact Int.le_refl _, fun c h1 h2 j _ => by rw [h.2.1 c (by omega) (hA c h1 h2)]⟩
theorem PT_keep {n n' : Int} {x x' : gd} (h : NN x x') (hn : n ≤ n') (e25 : x'.1 0 25 = x.1 0 25) (e26 : x'.1 0 26 = x.1 0 26) (e27 : x'.1 0 27 = x.1 0 27) (e39 : x'.1 39 = x.1 39) (e40 : x'.1 40 = x.1 40) (e41 : x'.1 41 = x.1 41) (q : PT n x) : PT n' x' := by
  obtain ⟨S, A, B, q1, q2, q3, q4⟩ := q
  refine ⟨S, A, B, fun t ht => ?_, fun t ht => ?_, fun t ht => ?_, by rw [e25, e26, e27]; omega⟩
  · rw [e39]; rw [e25] at ht
    exact vB_keep (Int.le_refl _) (NN_NL 0 _ h) (fun _ _ _ he g => vS_keep (Int.le_refl _) (NN_NL 0 _ h) _ _ _ _ he g) (Int.le_refl _) (q1 t ht)
  · rw [e40]; rw [e26] at ht
    exact vE_NK (NN_NL 0 0 h).1 (q2 t ht)
  · rw [e41]; rw [e27] at ht
    exact vE_NK (NN_NL 0 0 h).1 (q3 t ht)
theorem tE_keep {x x' : gd} (e : ∀ c : Nat, 30 ≤ c → c ≤ 35 → ∀ j : Nat, (j : Int) < (x.1 0 28).toInt → x'.1 c j = x.1 c j) (h3 : (x.1 0 23).toInt ≤ (x'.1 0 23).toInt) (h4 : (x.1 0 24).toInt ≤ (x'.1 0 24).toInt) (h5 : (x.1 0 25).toInt ≤ (x'.1 0 25).toInt) {j : Nat} (hj : (j : Int) < (x.1 0 28).toInt) (q : tE x j) : tE x' j := by
  unfold tE at q ⊢
  rw [e 30 (by decide) (by decide) j hj, e 31 (by decide) (by decide) j hj, e 32 (by decide) (by decide) j hj, e 33 (by decide) (by decide) j hj, e 34 (by decide) (by decide) j hj, e 35 (by decide) (by decide) j hj]
  obtain ⟨q1, q2, q3⟩ := q
  refine ⟨q1, ?_, q3⟩
  rcases q2 with ⟨a, b, c, d⟩ | ⟨a, b, c⟩ | ⟨a, b, c⟩
  · exact Or.inl ⟨a, b, c, by omega⟩
  · exact Or.inr (Or.inl ⟨a, b, by omega⟩)
  · exact Or.inr (Or.inr ⟨a, b, by omega⟩)
/-- the program as it is read so far -/
def PG (x : gd) : Prop := 0 ≤ (x.1 0 13).toInt ∧ 0 ≤ cr x ∧ GB x ∧ (∀ j : Nat, (j : Int) < (x.1 0 28).toInt → tE x j) ∧ PT (x.1 0 8).toInt x
theorem PG_ss {x x' : gd} (h : SS x x') (q : PG x) : PG x' := by
  obtain ⟨q1, q2, q3, q4, q5⟩ := q
  have r := RP_ss h
  have c := (cr_ss h).1
  have e : ∀ k : Nat, k ∉ [8, 9, 10] → x'.1 0 k = x.1 0 k := h.1.1
  have a : ∀ k : Nat, k ≠ 0 → x'.1 k = x.1 k := fun k hk => h.1.2.1 k hk (by intro z; cases z)
  refine ⟨by rw [e 13 (by decide)]; exact q1, by omega, ?_, fun j hj => ?_, PT_keep (NN_RP r) h.2.2.1 (e _ (by decide)) (e _ (by decide)) (e _ (by decide)) (a _ (by decide)) (a _ (by decide)) (a _ (by decide)) q5⟩
  · unfold GB
    rw [e 23 (by decide), e 24 (by decide), e 25 (by decide), e 26 (by decide), e 27 (by decide), e 28 (by decide)]
    exact q3
  · rw [e 28 (by decide)] at hj
    exact tE_keep (fun c h1 _ j _ => by rw [a c (by omega)]) (by rw [e 23 (by decide)]; exact Int.le_refl _) (by rw [e 24 (by decide)]; exact Int.le_refl _) (by rw [e 25 (by decide)]; exact Int.le_refl _) hj (q4 j hj)
end
section
/-- what a definition leaves -/
def QD (x x' : gd) : Prop := md [8, 9, 10, 13, 20, 21, 23, 24, 25, 26, 27, 28] [15, 16, 17, 18, 19, 20, 30, 31, 32, 33, 34, 35, 36, 37, 38, 39, 40, 41] x x' ∧ PN x' ∧ ((x'.1 0 9).toInt = 0 → PG x' ∧ (x.1 0 8).toInt + 1 ≤ (x'.1 0 8).toInt)
theorem QD_bad {x x' : gd} (h : SS x x') (hb : ¬ (x'.1 0 9).toInt = 0) : QD x x' := ⟨md_w h.1 (by decide) (by decide), h.2.1, fun q => absurd q hb⟩
/-- what is told, is told: z before, w behind, y with nothing else of it changed -/
theorem tell_tE {z w y : gd} {l1 l2 l3 l4 l5 l6 : Int32} (h : tD z w l1 l2 l3 l4 l5 l6) (g : GB z) (hy : ∀ c : Nat, 30 ≤ c → c ≤ 35 → y.1 c = w.1 c) (h28 : y.1 0 28 = w.1 0 28) (h3 : (z.1 0 23).toInt ≤ (y.1 0 23).toInt) (h4 : (z.1 0 24).toInt ≤ (y.1 0 24).toInt) (h5 : (z.1 0 25).toInt ≤ (y.1 0 25).toInt) (q : ∀ j : Nat, (j : Int) < (z.1 0 28).toInt → tE z j) (n : vp_in l1 710 ∧ ((l2 = 0 ∧ 0 ≤ l3.toInt ∧ 1 ≤ l4.toInt ∧ l3.toInt + l4.toInt ≤ (y.1 0 23).toInt) ∨ (l2 = 1 ∧ 0 ≤ l3.toInt ∧ l3.toInt < (y.1 0 24).toInt) ∨ (l2 = 2 ∧ 0 ≤ l3.toInt ∧ l3.toInt < (y.1 0 25).toInt)) ∧ (vp_nar .boolean l5 = 0 ∨ vp_in l6 710)) : (y.1 0 28).toInt = (z.1 0 28).toInt + 1 ∧ ∀ j : Nat, (j : Int) < (y.1 0 28).toInt → tE y j := by
  obtain ⟨m, e, a0, a1, a2, a3, a4, a5⟩ := h
  obtain ⟨g1, g2, g3, g4, g5, g6, g7, g8, g9, g10, g11, g12⟩ := g
  have k1 : (1 : Int32).toInt = 1 := rfl
  have n28 : (y.1 0 28).toInt = (z.1 0 28).toInt + 1 := by rw [h28, e, t_add (by omega) (by omega), k1]
  refine ⟨n28, fun j hj => ?_⟩
  by_cases c : j = (z.1 0 28).toNatClampNeg
  · unfold tE
    rw [hy 30 (by decide) (by decide), hy 31 (by decide) (by decide), hy 32 (by decide) (by decide), hy 33 (by decide) (by decide), hy 34 (by decide) (by decide), hy 35 (by decide) (by decide), a0, a1, a2, a3, a4, a5, if_pos c, if_pos c, if_pos c, if_pos c, if_pos c, if_pos c]
    exact n
  · have hj2 : (j : Int) < (z.1 0 28).toInt := by
      have := t_cl (z.1 0 28)
      omega
    refine tE_keep (fun c' h1 h2 i hi => ?_) h3 h4 h5 hj2 (q j hj2)
    have hne : ¬ i = (z.1 0 28).toNatClampNeg := by rw [t_cl]; omega
    have hc : c' = 30 ∨ c' = 31 ∨ c' = 32 ∨ c' = 33 ∨ c' = 34 ∨ c' = 35 := by omega
    rw [hy c' h1 h2]
    rcases hc with rfl | rfl | rfl | rfl | rfl | rfl
    · rw [a0, if_neg hne]
    · rw [a1, if_neg hne]
    · rw [a2, if_neg hne]
    · rw [a3, if_neg hne]
    · rw [a4, if_neg hne]
    · rw [a5, if_neg hne]
theorem GB_v {x : gd} (g : GB x) : vp_in (x.1 0 28) 40 := by
  obtain ⟨g1, g2, g3, g4, g5, g6, g7, g8, g9, g10, g11, g12⟩ := g
  rw [vp_in_iff]; omega
end
section
/-! a definition: counts, what is told -/
def cn (x : gd) : gN := ((x.1 0 23).toNatClampNeg, (x.1 0 24).toNatClampNeg, (x.1 0 25).toNatClampNeg, (x.1 0 26).toNatClampNeg, (x.1 0 27).toNatClampNeg)
def tAd (x x' : gd) (w a b c r t : Int32) : Prop := x'.1 0 28 = x.1 0 28 + 1 ∧ (∀ j : Nat, x'.1 30 j = if j = (x.1 0 28).toNatClampNeg then w else x.1 30 j) ∧ (∀ j : Nat, x'.1 31 j = if j = (x.1 0 28).toNatClampNeg then a else x.1 31 j) ∧ (∀ j : Nat, x'.1 32 j = if j = (x.1 0 28).toNatClampNeg then b else x.1 32 j) ∧ (∀ j : Nat, x'.1 33 j = if j = (x.1 0 28).toNatClampNeg then c else x.1 33 j) ∧ (∀ j : Nat, x'.1 34 j = if j = (x.1 0 28).toNatClampNeg then vp_nar .boolean r else x.1 34 j) ∧ (∀ j : Nat, x'.1 35 j = if j = (x.1 0 28).toNatClampNeg then t else x.1 35 j)
theorem tAd_of {x z w y : gd} {l1 l2 l3 l4 l5 l6 : Int32} (h : tD z w l1 l2 l3 l4 l5 l6) (hz : ∀ c : Nat, 30 ≤ c → c ≤ 35 → z.1 c = x.1 c) (h28 : z.1 0 28 = x.1 0 28) (hy : ∀ c : Nat, 30 ≤ c → c ≤ 35 → y.1 c = w.1 c) (h28' : y.1 0 28 = w.1 0 28) : tAd x y l1 l2 l3 l4 l5 l6 := by
  obtain ⟨m, e, a0, a1, a2, a3, a4, a5⟩ := h
  refine ⟨by rw [h28', e, h28], fun j => ?_, fun j => ?_, fun j => ?_, fun j => ?_, fun j => ?_, fun j => ?_⟩
  · rw [hy 30 (by decide) (by decide), a0, h28, hz 30 (by decide) (by decide)]
  · rw [hy 31 (by decide) (by decide), a1, h28, hz 31 (by decide) (by decide)]
  · rw [hy 32 (by decide) (by decide), a2, h28, hz 32 (by decide) (by decide)]
  · rw [hy 33 (by decide) (by decide), a3, h28, hz 33 (by decide) (by decide)]
  · rw [hy 34 (by decide) (by decide), a4, h28, hz 34 (by decide) (by decide)]
  · rw [hy 35 (by decide) (by decide), a5, h28, hz 35 (by decide) (by decide)]
def cT1 (K : Nat → Int32) (n : gN) (i t : Nat) (L : gU) (j : Nat) : gD := (pt K 67 (j, L)).bind (fun q => some (n, q.1, q.2 ++ [(83, i, t)]))
def cT2 (K : Nat → Int32) (n : gN) (i t : Nat) (L : gU) (j : Nat) : gD := (pCv K (j, L)).bind (fun q => cT1 K n i t q.2 q.1)
section CV
variable {K : Nat → Int32} {n : gN} {i t j : Nat} {L : gU}
theorem cT2_no (h : ¬ K j = 50) : cT2 K n i t L j = cT1 K n i t (L ++ [(82, 0, 0)]) j := by
  unfold cT2
  have e : pCv K (j, L) = some (j, L ++ [(82, 0, 0)]) := if_neg h
  rw [e]; rfl
theorem cT2_plus (h : K j = 50) (h2 : ¬ K (j + 1) = 58) : cT2 K n i t L j = (ps1 j).bind (fun j => (psw K 2 j).bind (fun q => cT1 K n i t (L ++ [(80, j, 0)]) q)) := by
  unfold cT2 ps1
  by_cases c : j < 700
  · rw [if_pos c]
    have e : pCv K (j, L) = if K (j + 1) = 2 ∧ j + 1 < 700 then some (j + 2, L ++ [(80, j + 1, 0)]) else none := by
      unfold pCv
      rw [if_pos h, if_pos c, if_neg h2]
    rw [e, Option.bind_some, psw]
    by_cases d : K (j + 1) = 2 ∧ j + 1 < 700
    · rw [if_pos d, if_pos d]; rfl
    · rw [if_neg d, if_neg d]; rfl
  · rw [if_neg c]
    have e : pCv K (j, L) = none := by
      unfold pCv
      rw [if_pos h, if_neg c]
    rw [e]; rfl
theorem cT2_minus (h : K j = 50) (h2 : K (j + 1) = 58) : cT2 K n i t L j = (ps1 j).bind (fun j => (ps1 j).bind (fun j => (psw K 2 j).bind (fun q => cT1 K n i t (L ++ [(81, j, 0)]) q))) := by
  unfold cT2 ps1
  by_cases c : j < 700
  · rw [if_pos c]
    have e : pCv K (j, L) = if j + 1 < 700 ∧ K (j + 2) = 2 ∧ j + 2 < 700 then some (j + 3, L ++ [(81, j + 2, 0)]) else none := by
      unfold pCv
      rw [if_pos h, if_pos c, if_pos h2]
    rw [e, Option.bind_some]
    by_cases c1 : j + 1 < 700
    · rw [if_pos c1, Option.bind_some, psw]
      by_cases d : K (j + 1 + 1) = 2 ∧ j + 1 + 1 < 700
      · rw [if_pos d, if_pos (show j + 1 < 700 ∧ K (j + 2) = 2 ∧ j + 2 < 700 from ⟨c1, d⟩)]; rfl
      · rw [if_neg d, if_neg (fun z => d z.2)]; rfl
    · rw [if_neg c1, if_neg (fun z => c1 z.1)]; rfl
  · rw [if_neg c]
    have e : pCv K (j, L) = none := by
      unfold pCv
      rw [if_pos h, if_neg c]
    rw [e]; rfl
theorem cT1_map {x y : gd} (hy : nwo y = (nwo x).bind (psw K 67)) (L : gU) : (nwo x).bind (fun j => cT1 K n i t L j) = (nwo y).map (fun j => (n, j, L ++ [(83, i, t)])) := by
  rw [hy]
  cases nwo x with
  | none => rfl
  | some j =>
    show cT1 K n i t L j = (psw K 67 j).map _
    unfold cT1
    rw [pt_psw]
    cases psw K 67 j with
    | none => rfl
    | some q => rfl
/-- what stands behind a cell's name -/
def cT0 (K V : Nat → Int32) (n : gN) (i t : Nat) (L : gU) (j : Nat) : gD := if K j = 65 then (ps1 j).bind (fun w => if n.1 + prz K V w ≤ 24 then (psw K 2 w).bind (fun j => (psw K 66 j).bind (fun j => cT2 K (n.1 + prz K V w, n.2) i t (L ++ [(32, t, w)]) j)) else none) else cT2 K (n.1 + 1, n.2) i t (L ++ [(31, t, 0)]) j
theorem pCl_is {V : Nat → Int32} {i0 : Nat} : (pCl K V n.1 i (i0 + 1) L).bind (fun q => some ((q.1, n.2), q.2)) = (psw K 17 i0).bind (fun t => (psw K 1 t).bind (fun j => if n.1 < 24 then cT0 K V n i t L j else none)) := by
  unfold pCl
  have e0 : i0 + 1 - 1 = i0 := rfl
  rw [e0]
  by_cases a : K i0 = 17 ∧ i0 < 700
  · rw [psw, if_pos a, Option.bind_some]
    by_cases b : K (i0 + 1) = 1 ∧ i0 + 1 < 700
    · rw [psw, if_pos b, Option.bind_some]
      by_cases c : n.1 < 24
      · rw [if_pos (show (K i0 = 17 ∧ i0 < 700) ∧ (K (i0 + 1) = 1 ∧ i0 + 1 < 700) ∧ n.1 < 24 from ⟨a, b, c⟩), if_pos c]
        unfold cT0
        by_cases d : K (i0 + 1 + 1) = 65
        · rw [if_pos d, if_pos d]
          by_cases d1 : i0 + 1 + 1 < 700
          · rw [ps1, if_pos d1, Option.bind_some]
            by_cases d2 : n.1 + prz K V (i0 + 1 + 1 + 1) ≤ 24
            · rw [if_pos d2]
              by_cases d3 : K (i0 + 1 + 1 + 1) = 2 ∧ i0 + 1 + 1 + 1 < 700
              · rw [psw, if_pos d3, Option.bind_some]
                by_cases d4 : K (i0 + 1 + 1 + 1 + 1) = 66 ∧ i0 + 1 + 1 + 1 + 1 < 700
                · rw [psw, if_pos d4, Option.bind_some, if_pos (show i0 + 1 + 1 < 700 ∧ n.1 + prz K V (i0 + 1 + 2) ≤ 24 ∧ (K (i0 + 1 + 2) = 2 ∧ i0 + 1 + 2 < 700) ∧ K (i0 + 1 + 3) = 66 ∧ i0 + 1 + 3 < 700 from ⟨d1, d2, d3, d4⟩), Option.bind_assoc, Option.bind_assoc]
                  unfold cT2 cT1
                  congr 1
                · rw [psw, if_neg d4, if_neg (fun z => d4 z.2.2.2)]; rfl
              · rw [psw, if_neg d3, if_neg (fun z => d3 z.2.2.1)]; rfl
            · rw [if_neg d2, if_neg (fun z => d2 z.2.1)]; rfl
          · rw [ps1, if_neg d1, if_neg (fun z => d1 z.1)]; rfl
        · rw [if_neg d, if_neg d, Option.bind_assoc, Option.bind_assoc]
          unfold cT2 cT1
          congr 1
      · rw [if_neg c, if_neg (fun z => c z.2.2)]; rfl
    · rw [psw, if_neg b, if_neg (fun z => b z.2.1)]; rfl
  · rw [psw, if_neg a, if_neg (fun z => a z.1)]; rfl
end CV
end
section
/-! a definition: what it reads. eqD: what pD says from x on is what g says from z on -/
def eqD (x z : gd) (g : gU → Nat → gD) : Prop := ∀ L, (nwo x).bind (fun i => pD (x.1 5) (x.1 7) (cn x) i L) = (nwo z).bind (g L)
theorem eqD_cg {x z : gd} {g g' : gU → Nat → gD} (h : eqD x z g) (e : ∀ L j, nwo z = some j → g L j = g' L j) : eqD x z g' := by
  intro L
  rw [h L]
  cases c : nwo z with
  | none => rfl
  | some j => exact e L j c
theorem eqD_w {x z y : gd} {K : Nat → Int32} {w : Int32} {g : gU → Nat → gD} (h : eqD x z (fun L i => (psw K w i).bind (g L))) (e : nwo y = (nwo z).bind (psw K w)) : eqD x y g := by
  intro L
  rw [h L, e, Option.bind_assoc]
theorem eqD_s {x z y : gd} {g : gU → Nat → gD} (h : eqD x z (fun L i => (ps1 i).bind (g L))) (e : nwo y = (nwo z).bind ps1) : eqD x y g := by
  intro L
  rw [h L, e, Option.bind_assoc]
theorem eqD_1 {x z y : gd} {j : Nat} {g : gU → Nat → gD} (h : eqD x z (fun L i => (ps1 i).bind (g L))) (hz : nwo z = some j) (e : nwo y = ps1 j) : eqD x y g :=
  eqD_s h (by rw [hz, e]; rfl)
theorem eqD_x {x z y : gd} {g g' : gU → Nat → gD} (h : eqD x z g) (e : ∀ L j, nwo z = some j → g L j = none) (hy : nwo y = none) : eqD x y g' := by
  intro L
  rw [h L, hy]
  cases c : nwo z with
  | none => rfl
  | some j => exact e L j c
theorem eqD_m {x z : gd} {g : gU → Nat → gD} (h : eqD x z g) (hz : nwo z = none) {f : gU → Nat → gN × Nat × gU} (L : gU) : (nwo x).bind (fun i => pD (x.1 5) (x.1 7) (cn x) i L) = (nwo z).map (f L) := by
  rw [h L, hz]; rfl
/-- a cell's start value -/
def DCv (x : gd) (N : gU) (v : Int32) : Prop := (N = [(82, 0, 0)] ∧ v = 0) ∨ (∃ w, N = [(80, w, 0)] ∧ v = x.1 7 w) ∨ (∃ w, N = [(81, w, 0)] ∧ v = -(x.1 7 w))
/-- a cell, or a row with its whole -/
def DCm (x : gd) (l2 l3 l4 : Int32) (m : gU) : Prop := (l4 = -1 ∧ l3 = 1 ∧ m = [(31, l2.toNatClampNeg, 0)]) ∨ (¬ l4 = -1 ∧ vp_in l4 710 ∧ l3.toNatClampNeg = prz (x.1 5) (x.1 7) l4.toNatClampNeg ∧ m = [(32, l2.toNatClampNeg, l4.toNatClampNeg)])
/-- cells or a row were told -/
def DC (x x' : gd) (M : gU) : Prop := ∃ (l2 l3 l4 s0 v su : Int32) (i : Nat) (m N : gU), md [8, 9, 10, 23, 28] [30, 31, 32, 33, 34, 35, 36, 37] x x' ∧ tAd x x' l2 0 (x.1 0 23) l3 s0 l4 ∧ vp_in l2 710 ∧ 1 ≤ l3.toInt ∧ (x'.1 0 23).toInt = (x.1 0 23).toInt + l3.toInt ∧ (∀ j : Nat, x'.1 36 j = if (x.1 0 23).toNatClampNeg ≤ j ∧ j < (x'.1 0 23).toNatClampNeg then v else x.1 36 j) ∧ (∀ j : Nat, x'.1 37 j = if (x.1 0 23).toNatClampNeg ≤ j ∧ j < (x'.1 0 23).toNatClampNeg then vp_nar .boolean su else x.1 37 j) ∧ nwo x = some i ∧ (su = if x.1 5 i = 34 then 1 else 0) ∧ (s0 = if l4 = -1 then 0 else 1) ∧ DCv x N v ∧ DCm x l2 l3 l4 m ∧ M = m ++ (N ++ [(83, i, l2.toNatClampNeg)])
/-- a lock was told -/
def DLk (x x' : gd) (M : gU) : Prop := ∃ l2 : Int32, md [8, 9, 10, 24, 28] [30, 31, 32, 33, 34, 35] x x' ∧ tAd x x' l2 1 (x.1 0 24) 1 0 (-1) ∧ vp_in l2 710 ∧ (x'.1 0 24).toInt = (x.1 0 24).toInt + 1 ∧ M = [(33, l2.toNatClampNeg, 0)]
/-- a thread was told -/
def DT (x x' : gd) (M : gU) : Prop := ∃ (l2 r9 id : Int32) (N : gU), md [8, 9, 10, 13, 20, 21, 25, 28] [15, 16, 17, 18, 19, 20, 30, 31, 32, 33, 34, 35, 38, 39] x x' ∧ tAd x x' l2 2 (x.1 0 25) 1 0 (-1) ∧ vp_in l2 710 ∧ (x'.1 0 25).toInt = (x.1 0 25).toInt + 1 ∧ (id = 0 ∨ id = 1) ∧ (∀ j : Nat, x'.1 38 j = if j = (x.1 0 25).toNatClampNeg then vp_nar .boolean id else x.1 38 j) ∧ (∀ j : Nat, x'.1 39 j = if j = (x.1 0 25).toNatClampNeg then r9 else x.1 39 j) ∧ wB x' 0 (wSt x' 0 17) 0 r9 N ∧ M = [(34, l2.toNatClampNeg, id.toNatClampNeg)] ++ N
/-- an always was told -/
def DA (x x' : gd) (M : gU) : Prop := ∃ (n i : Nat) (e : Int32) (N : gU), md [8, 9, 10, 13, 20, 21, 26] [15, 16, 17, 18, 19, 20, 40] x x' ∧ (x'.1 0 26).toInt = (x.1 0 26).toInt + 1 ∧ (∀ j : Nat, x'.1 40 j = if j = (x.1 0 26).toNatClampNeg then e else x.1 40 j) ∧ vV x' true n e N ∧ M = [(35, i, 0)] ++ (N ++ [(54, 0, 0)])
/-- a finally was told -/
def DF (x x' : gd) (M : gU) : Prop := ∃ (n i : Nat) (e : Int32) (N : gU), md [8, 9, 10, 13, 20, 21, 27] [15, 16, 17, 18, 19, 20, 41] x x' ∧ (x'.1 0 27).toInt = (x.1 0 27).toInt + 1 ∧ (∀ j : Nat, x'.1 41 j = if j = (x.1 0 27).toNatClampNeg then e else x.1 41 j) ∧ vV x' true n e N ∧ M = [(36, i, 0)] ++ (N ++ [(54, 0, 0)])
/-- what a definition reads, and what it leaves by that -/
def FD (x x' : gd) : Prop := ∃ M, (∀ L, (nwo x).bind (fun i => pD (x.1 5) (x.1 7) (cn x) i L) = (nwo x').map (fun j => (cn x', j, L ++ M))) ∧ ((x'.1 0 9).toInt = 0 → NN x x' ∧ (DC x x' M ∨ DLk x x' M ∨ DT x x' M ∨ DA x x' M ∨ DF x x' M))
theorem FD_x {x x' : gd} {g : gU → Nat → gD} (h : eqD x x' g) (hb : ¬ (x'.1 0 9).toInt = 0) (h9 : 0 ≤ (x'.1 0 9).toInt) : FD x x' :=
  ⟨[], fun L => eqD_m h (nwo_b (by omega)) (f := fun L j => (cn x', j, L ++ [])) L, fun q => absurd q hb⟩
theorem cT2_7 {K : Nat → Int32} {n : gN} {i t j : Nat} {L : gU} (h : K j = 50) (hj : ¬ j < 700) : cT2 K n i t L j = none := by
  unfold cT2
  have e : pCv K (j, L) = none := by
    unfold pCv
    rw [if_pos h, if_neg hj]
  rw [e]; rfl
theorem sf_readCell {G : mG} {D : Nat} {x : gd} {Fv : gd → Prop} (pn : PN x) (pg : PG x) (hb : (x.1 0 9).toInt = 0) (hK : x.1 5 (x.1 0 8).toNatClampNeg = 34 ∨ x.1 5 (x.1 0 8).toNatClampNeg = 17) (h : ∀ x', QD x x' → FD x x' → Fv x') : MT G (D + 4) z_readCell 0 [(0, vr 0)] [] x (rv Fv) := by
  have k0 : (0 : Int32).toInt = 0 := rfl
  have k1 : (1 : Int32).toInt = 1 := rfl
  have k8 : (8 : Int32).toInt = 8 := rfl
  have k24 : (24 : Int32).toInt = 24 := rfl
  have gb := pg.2.2.1
  obtain ⟨i, ei⟩ : ∃ i, i = (x.1 0 8).toNatClampNeg := ⟨_, rfl⟩
  have ni : nwo x = some i := by rw [nwo_o hb, ei]
  rw [← ei] at hK
  obtain ⟨K, eK⟩ : ∃ K, K = x.1 5 := ⟨_, rfl⟩
  obtain ⟨V, eV⟩ : ∃ V, V = x.1 7 := ⟨_, rfl⟩
  obtain ⟨n, en⟩ : ∃ n, n = cn x := ⟨_, rfl⟩
  have n1 : n.1 = (x.1 0 23).toNatClampNeg := by rw [en]; rfl
  have K5 : ∀ {z : gd}, SS x z → z.1 5 = K := fun s => by rw [eK]; exact s.1.2.1 5 (by decide) (by decide)
  have V7 : ∀ {z : gd}, SS x z → z.1 7 = V := fun s => by rw [eV]; exact s.1.2.1 7 (by decide) (by decide)
  obtain ⟨CI, hCI⟩ : ∃ CI : gd → Int32 → Int32 → Int32 → gU → Prop, ∀ z l2 l3 l4 m, CI z l2 l3 l4 m ↔ (SS x z ∧ (l4 = -1 ∨ vp_in l4 710) ∧ ((z.1 0 9).toInt = 0 → ((x.1 0 8).toInt + 1 ≤ (z.1 0 8).toInt ∧ 1 ≤ l3.toInt ∧ (x.1 0 23).toInt + l3.toInt ≤ 24) ∧ DCm x l2 l3 l4 m)) := ⟨_, fun _ _ _ _ _ => Iff.rfl⟩
  have ciS : ∀ {z z' l2 l3 l4 m}, CI z l2 l3 l4 m → SS z z' → CI z' l2 l3 l4 m := by
    intro z z' l2 l3 l4 m a b
    obtain ⟨a1, a2, a3⟩ := (hCI _ _ _ _ _).mp a
    refine (hCI _ _ _ _ _).mpr ⟨SS_tr a1 b, a2, fun q => ?_⟩
    have a4 := a3 (b.2.2.2.2 q)
    have := b.2.2.1
    exact ⟨⟨by omega, a4.1.2⟩, a4.2⟩
  -- the cells themselves
  have p238 : ∀ (l1 l2 l3 l4 l5 s0 : Int32) (m N : gU) (z w : gd), CI z l2 l3 l4 m → (z.1 0 9).toInt = 0 → vp_in l2 710 → (vp_nar .boolean s0 = 0 ∨ vp_in l4 710) → (s0 = if l4 = -1 then 0 else 1) → (l1 = if x.1 5 i = 34 then 1 else 0) → DCv x N l5 → (∀ L, (nwo x).bind (fun i => pD (x.1 5) (x.1 7) (cn x) i L) = (nwo z).map (fun j => ((n.1 + l3.toNatClampNeg, n.2), j, L ++ (m ++ (N ++ [(83, i, l2.toNatClampNeg)]))))) → tD z w l2 0 (z.1 0 23) l3 s0 l4 → ∀ (k : Nat) (y : gd) (i' : Int32), md [23] [36, 37] w y → (y.1 0 23).toInt = (z.1 0 23).toInt + i'.toInt → 0 ≤ i'.toInt → i'.toInt + k = l3.toInt → (∀ j : Nat, y.1 36 j = if (x.1 0 23).toNatClampNeg ≤ j ∧ j < (y.1 0 23).toNatClampNeg then l5 else x.1 36 j) → (∀ j : Nat, y.1 37 j = if (x.1 0 23).toNatClampNeg ≤ j ∧ j < (y.1 0 23).toNatClampNeg then vp_nar .boolean l1 else x.1 37 j) → MT G (D + 4) z_readCell 238 [(0, vr 0), (1, vi l1), (3, vi l3), (5, vi l5), (6, vi i')] [] y (rv Fv) := by
    intro l1 l2 l3 l4 l5 s0 m N z w ci hb hl2 hs0 es0 el1 hv hE td k
    obtain ⟨sz, -, cz⟩ := (hCI _ _ _ _ _).mp ci
    obtain ⟨⟨z1, z2, z3⟩, hm⟩ := cz hb
    have pz := PG_ss sz pg
    have e23 : z.1 0 23 = x.1 0 23 := sz.1.1 23 (by decide)
    have gz := pz.2.2.1
    have gz1 := gz.1
    rw [← e23] at z3
    induction k with
    | zero =>
      intro y i' my hy i0 hi h36 h37
      refine sg_readCell_238 _ _ _ _ ⟨fun _ => rv_i (h _ ?_ ?_), fun c => absurd (t_le.mpr (by omega)) c⟩
      · have mw := td.1
        have mzy : md [23, 28] [30, 31, 32, 33, 34, 35, 36, 37] z y := md_tr mw my rfl rfl
        have e8 : y.1 0 8 = z.1 0 8 := mzy.1 8 (by decide)
        have e9 : y.1 0 9 = z.1 0 9 := mzy.1 9 (by decide)
        have e13 : y.1 0 13 = z.1 0 13 := mzy.1 13 (by decide)
        have e24 : y.1 0 24 = z.1 0 24 := mzy.1 24 (by decide)
        have e25 : y.1 0 25 = z.1 0 25 := mzy.1 25 (by decide)
        have e26 : y.1 0 26 = z.1 0 26 := mzy.1 26 (by decide)
        have e27 : y.1 0 27 = z.1 0 27 := mzy.1 27 (by decide)
        obtain ⟨n28, nT⟩ := tell_tE td gz (y := y) (fun c h1 h2 => my.2.1 c (by omega) (by intro q; simp only [List.mem_cons, List.not_mem_nil, or_false] at q; omega)) (my.1 28 (by decide)) (by omega) (by rw [e24]; exact Int.le_refl _) (by rw [e25]; exact Int.le_refl _) pz.2.2.2.1 ⟨hl2, Or.inl ⟨rfl, gz1, z2, by omega⟩, hs0⟩
        refine ⟨md_tr sz.1 mzy rfl rfl, ⟨by rw [e8]; exact sz.2.1.1, by rw [e8]; exact sz.2.1.2.1, by rw [e9]; exact sz.2.1.2.2.1, TX_md mzy (by decide) (by decide) (by decide) (by decide) sz.2.1.2.2.2⟩, fun _ => ⟨⟨by rw [e13]; exact pz.1, by unfold cr; rw [e8, e13]; exact pz.2.1, ?_, nT, ?_⟩, by rw [e8]; exact z1⟩⟩
        · obtain ⟨g1, g2, g3, g4, g5, g6, g7, g8, g9, g10, g11, g12⟩ := gz
          unfold GB
          rw [e24, e25, e26, e27]
          exact ⟨by omega, by omega, g3, g4, g5, g6, g7, g8, g9, g10, by omega, by omega⟩
        · exact PT_keep (NN_md mzy (by decide) (by intro c h1 h2 q; simp only [List.mem_cons, List.not_mem_nil, or_false] at q; omega)) (by rw [e8]; exact Int.le_refl _) e25 e26 e27 (mzy.2.1 39 (by decide) (by decide)) (mzy.2.1 40 (by decide) (by decide)) (mzy.2.1 41 (by decide) (by decide)) pz.2.2.2.2
      · have mw := td.1
        have mzy : md [23, 28] [30, 31, 32, 33, 34, 35, 36, 37] z y := md_tr mw my rfl rfl
        have mxy : md [8, 9, 10, 23, 28] [30, 31, 32, 33, 34, 35, 36, 37] x y := md_tr sz.1 mzy rfl rfl
        have ny : nwo y = nwo z := nwo_e (mzy.1 8 (by decide)) (mzy.1 9 (by decide))
        have ec : cn y = (n.1 + l3.toNatClampNeg, n.2) := by
          have a1 : (y.1 0 23).toNatClampNeg = n.1 + l3.toNatClampNeg := by
            rw [n1, t_cl, t_cl, t_cl]
            have : (z.1 0 23).toInt = (x.1 0 23).toInt := by rw [e23]
            omega
          have a2 : n.2 = (cn x).2 := by rw [en]
          rw [a2]
          show ((y.1 0 23).toNatClampNeg, _) = _
          rw [a1]
          unfold cn
          rw [mxy.1 24 (by decide), mxy.1 25 (by decide), mxy.1 26 (by decide), mxy.1 27 (by decide)]
        refine ⟨m ++ (N ++ [(83, i, l2.toNatClampNeg)]), fun L => by rw [hE L, ny, ec], fun _ => ⟨NN_md mxy (by decide) (by intro c h1 h2 q; simp only [List.mem_cons, List.not_mem_nil, or_false] at q; omega), Or.inl ⟨l2, l3, l4, s0, l5, l1, i, m, N, mxy, ?_, hl2, z2, by rw [← e23]; omega, h36, h37, ni, el1, es0, hv, hm, rfl⟩⟩⟩
        rw [e23] at td
        exact tAd_of td (fun c h1 h2 => sz.1.2.1 c (by omega) (by intro q; cases q)) (sz.1.1 28 (by decide)) (fun c h1 h2 => my.2.1 c (by omega) (by intro q; simp only [List.mem_cons, List.not_mem_nil, or_false] at q; omega)) (my.1 28 (by decide))
    | succ k ihn =>
      intro y i' my hy i0 hi h36 h37
      have hv : vp_in (y.1 0 23) 24 := by rw [vp_in_iff]; omega
      refine sg_readCell_238 _ _ _ _ ⟨fun c => ?_, fun _ => ⟨hv, fun y3 e3 => ?_⟩⟩
      · rw [t_le] at c; omega
      have m3 := md_a y 36 (y.1 0 23).toNatClampNeg l5 (by decide)
      rw [← e3] at m3
      have f3 : y3.1 0 23 = y.1 0 23 := m3.1 23 (by decide)
      refine ⟨by rw [f3]; exact hv, fun y5 e5 y6 e6 => ?_⟩
      have m5 := md_a y3 37 (y3.1 0 23).toNatClampNeg (vp_nar .boolean l1) (by decide)
      rw [← e5] at m5
      have f5 : y5.1 0 23 = y3.1 0 23 := m5.1 23 (by decide)
      have m6 := md_f y5 23 (y5.1 0 23 + 1)
      rw [← e6] at m6
      have f6 : (y6.1 0 23).toInt = (y.1 0 23).toInt + 1 := by
        rw [e6, si_get, if_pos ⟨rfl, rfl⟩, f5, f3, t_add (by omega) (by omega), k1]
      have fi : (i' + 1).toInt = i'.toInt + 1 := by rw [t_add (by omega) (by omega), k1]
      have m35 : md [] [36, 37] y y5 := md_tr m3 m5 rfl rfl
      have m56 : md [23] [36, 37] y y6 := md_tr m35 m6 rfl rfl
      have x23 : (z.1 0 23).toInt = (x.1 0 23).toInt := by rw [e23]
      have up : ∀ (a v : Int32) (j : Nat) (u : Int32), a = (if j = (y.1 0 23).toNatClampNeg then v else if (x.1 0 23).toNatClampNeg ≤ j ∧ j < (y.1 0 23).toNatClampNeg then v else u) → a = if (x.1 0 23).toNatClampNeg ≤ j ∧ j < (y6.1 0 23).toNatClampNeg then v else u := by
        intro a v j u e
        rw [e]
        have c1 := t_cl (y.1 0 23)
        have c2 := t_cl (x.1 0 23)
        have c3 := t_cl (y6.1 0 23)
        by_cases q1 : j = (y.1 0 23).toNatClampNeg
        · rw [if_pos q1, if_pos (by omega)]
        · rw [if_neg q1]
          by_cases q2 : (x.1 0 23).toNatClampNeg ≤ j ∧ j < (y.1 0 23).toNatClampNeg
          · rw [if_pos q2, if_pos (by omega)]
          · rw [if_neg q2, if_neg (by omega)]
      refine ihn y6 (i' + 1) (md_tr my m56 rfl rfl) (by omega) (by omega) (by omega) (fun j => ?_) (fun j => ?_)
      · refine up _ _ _ _ ?_
        rw [m6.2.1 36 (by decide) (by decide), m5.2.1 36 (by decide) (by decide), e3, si_get, h36]
        by_cases q : j = (y.1 0 23).toNatClampNeg
        · rw [if_pos ⟨rfl, q⟩, if_pos q]
        · rw [if_neg (fun z => q z.2), if_neg q]
      · refine up _ _ _ _ ?_
        rw [m6.2.1 37 (by decide) (by decide), e5, si_get, f3, m3.2.1 37 (by decide) (by decide), h37]
        by_cases q : j = (y.1 0 23).toNatClampNeg
        · rw [if_pos ⟨rfl, q⟩, if_pos q]
        · rw [if_neg (fun z => q z.2), if_neg q]
  have p197 : ∀ (l1 l2 l3 l4 l5 : Int32) (m N : gU) (z : gd), CI z l2 l3 l4 m → vp_in l2 710 → (l1 = if x.1 5 i = 34 then 1 else 0) → DCv x N l5 → eqD x z (fun L j => cT1 K (n.1 + l3.toNatClampNeg, n.2) i l2.toNatClampNeg (L ++ (m ++ N)) j) → MT G (D + 4) z_readCell 197 [(0, vr 0), (1, vi l1), (2, vi l2), (3, vi l3), (4, vi l4), (5, vi l5)] [] z (rv Fv) := by
    intro l1 l2 l3 l4 l5 m N z ci hl2 el1 hv hE
    have sz := ((hCI _ _ _ _ _).mp ci).1
    refine sg_readCell_197 _ _ _ _ _ (sf_pass _ sz.2.1 (fun y s t ey => ?_))
    rw [K5 sz] at ey
    have cy := ciS ci s
    obtain ⟨sy, hl4, oky⟩ := (hCI _ _ _ _ _).mp cy
    have b9 := sy.2.1.2.2.1
    have gy' := (PG_ss sy pg).2.2.1
    have hE2 : ∀ L, (nwo x).bind (fun i => pD (x.1 5) (x.1 7) (cn x) i L) = (nwo y).map (fun j => ((n.1 + l3.toNatClampNeg, n.2), j, L ++ (m ++ (N ++ [(83, i, l2.toNatClampNeg)])))) := by
      intro L
      rw [hE L, cT1_map ey (L ++ (m ++ N))]
      simp only [List.append_assoc]
    have tl : ∀ s0 : Int32, (vp_nar .boolean s0 = 0 ∨ vp_in l4 710) → (s0 = if l4 = -1 then 0 else 1) → (y.1 0 9).toInt = 0 → MT G (D + 4) z_readCell 230 [(0, vr 0), (1, vi l1), (3, vi l3), (4, vi l4), (5, vi l5)] [vi s0, vi l3, vi (y.1 0 23), vi 0, vi l2, vr 0] y (rv Fv) := by
      intro s0 hs0 es0 hb
      have ok := (oky hb).1
      refine sg_readCell_230 _ _ _ _ _ _ _ _ _ (sp_tell _ _ _ _ _ _ (GB_v gy') (fun w td => ?_))
      have w23 : w.1 0 23 = x.1 0 23 := by rw [td.1.1 23 (by decide)]; exact sy.1.1 23 (by decide)
      refine p238 l1 l2 l3 l4 l5 s0 m N y w cy hb hl2 hs0 es0 el1 hv hE2 td l3.toInt.toNat w 0 (md_w (md_rf w) (by decide) (by decide)) (by rw [td.1.1 23 (by decide), k0]; omega) (by decide) (by rw [k0]; omega) (fun j => ?_) (fun j => ?_)
      · rw [w23, if_neg (by omega), td.1.2.1 36 (by decide) (by decide)]
        exact congrFun (sy.1.2.1 36 (by decide) (by decide)) j
      · rw [w23, if_neg (by omega), td.1.2.1 37 (by decide) (by decide)]
        exact congrFun (sy.1.2.1 37 (by decide) (by decide)) j
    refine ⟨fun c => ⟨fun e => tl 0 (Or.inl rfl) (by rw [if_pos e]) ?_, fun e => tl 1 (Or.inr ?_) (by rw [if_neg e]) ?_⟩, fun c => rv_i (h _ (QD_bad sy ?_) ⟨[], fun L => ?_, fun q => ?_⟩)⟩
    · rw [t_le, k0] at c; omega
    · exact hl4.resolve_left e
    · rw [t_le, k0] at c; omega
    · rw [t_le, k0] at c; omega
    · rw [t_le, k0] at c
      rw [hE2 L, nwo_b (by omega)]; rfl
    · rw [t_le, k0] at c; omega
  have p141 : ∀ (l1 l2 l3 l4 : Int32) (m : gU) (z : gd), CI z l2 l3 l4 m → vp_in l2 710 → (l1 = if x.1 5 i = 34 then 1 else 0) → eqD x z (fun L j => cT2 K (n.1 + l3.toNatClampNeg, n.2) i l2.toNatClampNeg (L ++ m) j) → MT G (D + 4) z_readCell 141 [(0, vr 0), (1, vi l1), (2, vi l2), (3, vi l3), (4, vi l4)] [] z (rv Fv) := by
    intro l1 l2 l3 l4 m z ci hl2 el1 hE
    have sz := ((hCI _ _ _ _ _).mp ci).1
    refine sg_readCell_141 _ _ _ _ (sf_take _ sz.2.1 (fun hno => ⟨fun _ => p197 _ _ _ _ _ m [(82, 0, 0)] z ci hl2 el1 (Or.inl ⟨rfl, rfl⟩) (eqD_cg hE (fun L j hj => ?_)), fun q => absurd rfl q⟩) (fun y j hj hKj _ s t ey => ⟨fun q => absurd q (by decide), fun _ => ?_⟩))
    · have c := hno j hj
      rw [K5 sz] at c
      rw [cT2_no c, List.append_assoc]
    rw [K5 sz] at hKj
    have cy := ciS ci s
    have sy := SS_tr sz s
    refine sf_take _ s.2.1 (fun hno => ?_) (fun y2 j2 hj2 hK2 _ s2 t2 ey2 => ?_)
    · have hE2 : eqD x y (fun L w => (psw K 2 w).bind (fun q => cT1 K (n.1 + l3.toNatClampNeg, n.2) i l2.toNatClampNeg (L ++ (m ++ [(80, (y.1 0 8).toNatClampNeg, 0)])) q)) := by
        by_cases c7 : j < 700
        · have ny : nwo y = some (j + 1) := by rw [ey, ps1, if_pos c7]
          have c58 := hno (j + 1) ny
          rw [K5 sy] at c58
          have a : eqD x z (fun L w => (ps1 w).bind (fun j => (psw K 2 j).bind (fun q => cT1 K (n.1 + l3.toNatClampNeg, n.2) i l2.toNatClampNeg ((L ++ m) ++ [(80, j, 0)]) q))) := eqD_cg hE (fun L w hw => by
            rw [hj] at hw
            cases Option.some.inj hw
            exact cT2_plus hKj c58)
          refine eqD_cg (eqD_1 a hj ey) (fun L w hw => ?_)
          rw [(nwo_is hw).2, List.append_assoc]
        · exact eqD_x hE (fun L w hw => by
            rw [hj] at hw
            cases Option.some.inj hw
            exact cT2_7 hKj c7) (by rw [ey, ps1, if_neg c7])
      refine sf_pass _ s.2.1 (fun y3 s3 _ ey3 => ⟨fun _ => ⟨PN_v s.2.1, ?_⟩, fun q => absurd rfl q⟩)
      rw [K5 sy] at ey3
      exact p197 _ _ _ _ _ m _ y3 (ciS cy s3) hl2 el1 (Or.inr (Or.inl ⟨_, rfl, by rw [V7 (SS_tr sy s3), ← eV]⟩)) (eqD_w hE2 ey3)
    · rw [K5 sy] at hK2
      have sy2 := SS_tr sy s2
      have hE2 : eqD x y2 (fun L w => (psw K 2 w).bind (fun q => cT1 K (n.1 + l3.toNatClampNeg, n.2) i l2.toNatClampNeg (L ++ (m ++ [(81, (y2.1 0 8).toNatClampNeg, 0)])) q)) := by
        have c7 : j < 700 := by
          by_cases c7 : j < 700
          · exact c7
          · rw [ey, ps1, if_neg c7] at hj2; exact absurd hj2 (by simp)
        have ny : nwo y = some (j + 1) := by rw [ey, ps1, if_pos c7]
        have ej : j2 = j + 1 := by rw [ny] at hj2; exact (Option.some.inj hj2).symm
        subst ej
        have a : eqD x z (fun L w => (ps1 w).bind (fun j => (ps1 j).bind (fun j => (psw K 2 j).bind (fun q => cT1 K (n.1 + l3.toNatClampNeg, n.2) i l2.toNatClampNeg ((L ++ m) ++ [(81, j, 0)]) q)))) := eqD_cg hE (fun L w hw => by
          rw [hj] at hw
          cases Option.some.inj hw
          exact cT2_minus hKj hK2)
        refine eqD_cg (eqD_1 (eqD_1 a hj ey) hj2 ey2) (fun L w hw => ?_)
        rw [(nwo_is hw).2, List.append_assoc]
      refine sf_pass _ s2.2.1 (fun y3 s3 _ ey3 => ⟨fun q => absurd q (by decide), fun _ => ⟨PN_v s2.2.1, ?_⟩⟩)
      rw [K5 sy2] at ey3
      exact p197 _ _ _ _ _ m _ y3 (ciS (ciS cy s2) s3) hl2 el1 (Or.inr (Or.inr ⟨_, rfl, by rw [V7 (SS_tr sy2 s3), ← eV]⟩)) (eqD_w hE2 ey3)
  have p130 : ∀ (l1 l2 l3 l4 : Int32) (m : gU) (z : gd), CI z l2 l3 l4 m → vp_in l2 710 → (l1 = if x.1 5 i = 34 then 1 else 0) → eqD x z (fun L w => (psw K 2 w).bind (fun j => (psw K 66 j).bind (fun j => cT2 K (n.1 + l3.toNatClampNeg, n.2) i l2.toNatClampNeg (L ++ m) j))) → MT G (D + 4) z_readCell 130 [(0, vr 0), (1, vi l1), (2, vi l2), (3, vi l3), (4, vi l4)] [] z (rv Fv) := fun l1 l2 l3 l4 m z ci hl2 el1 hE => by
    have sz := ((hCI _ _ _ _ _).mp ci).1
    refine sg_readCell_130 _ _ _ _ (sf_pass _ sz.2.1 (fun y s _ ey => sf_pass _ s.2.1 (fun y2 s2 _ ey2 => ?_)))
    rw [K5 sz] at ey
    rw [K5 (SS_tr sz s)] at ey2
    exact p141 _ _ _ _ m y2 (ciS (ciS ci s) s2) hl2 el1 (eqD_w (eqD_w hE ey) ey2)
  have p105 : ∀ (l1 l2 l4 s0 : Int32) (z : gd), SS x z → ((z.1 0 9).toInt = 0 → (x.1 0 8).toInt + 1 ≤ (z.1 0 8).toInt) → vp_in l4 710 → 1 ≤ s0.toInt → s0.toInt ≤ 8 → vp_in l2 710 → l4 = z.1 0 8 → ((z.1 0 9).toInt = 0 → s0.toNatClampNeg = prz K V l4.toNatClampNeg) → (l1 = if x.1 5 i = 34 then 1 else 0) → eqD x z (fun L w => if n.1 + prz K V w ≤ 24 then (psw K 2 w).bind (fun j => (psw K 66 j).bind (fun j => cT2 K (n.1 + prz K V w, n.2) i l2.toNatClampNeg (L ++ [(32, l2.toNatClampNeg, w)]) j)) else none) → MT G (D + 4) z_readCell 105 [(0, vr 0), (1, vi l1), (2, vi l2), (4, vi l4)] [vi s0] z (rv Fv) := by
    intro l1 l2 l4 s0 z sz hz hl4 h1 h8 hl2 el4 es0 el1 hE
    have e23 : z.1 0 23 = x.1 0 23 := sz.1.1 23 (by decide)
    have gb1 := gb.1
    have gb2 := gb.2.1
    have ad : (z.1 0 23 + s0).toInt = (x.1 0 23).toInt + s0.toInt := by rw [e23, t_add (by omega) (by omega)]
    have nl4 : ¬ l4 = -1 := fun q => by
      have := vp_in_iff.mp hl4
      rw [q] at this
      exact absurd this.1 (by decide)
    have hm : (z.1 0 9).toInt = 0 → DCm x l2 s0 l4 [(32, l2.toNatClampNeg, l4.toNatClampNeg)] := fun q => Or.inr ⟨nl4, hl4, by rw [es0 q, eK, eV], rfl⟩
    have wl : ∀ w, nwo z = some w → (z.1 0 9).toInt = 0 ∧ w = l4.toNatClampNeg := fun w hw => ⟨(nwo_is hw).1, by rw [el4]; exact (nwo_is hw).2.symm⟩
    refine sg_readCell_105 _ _ _ _ ⟨fun c => p130 _ _ _ _ [(32, l2.toNatClampNeg, l4.toNatClampNeg)] z ((hCI _ _ _ _ _).mpr ⟨sz, Or.inr hl4, fun q => absurd (t_eq.mpr q) c⟩) hl2 el1 ?_, fun c => ⟨fun c2 => p130 _ _ _ _ [(32, l2.toNatClampNeg, l4.toNatClampNeg)] z ((hCI _ _ _ _ _).mpr ⟨sz, Or.inr hl4, fun q => ⟨⟨hz q, h1, ?_⟩, hm q⟩⟩) hl2 el1 ?_, fun c2 => sp_fault _ _ (by decide) hl2 sz.2.1 (fun y s hb _ _ => p130 _ _ _ _ [(32, l2.toNatClampNeg, l4.toNatClampNeg)] y ((hCI _ _ _ _ _).mpr ⟨SS_tr sz s, Or.inr hl4, fun q => by omega⟩) hl2 el1 ?_)⟩⟩
    · exact eqD_cg hE (fun L w hw => absurd (t_eq.mpr (wl w hw).1) c)
    · rw [t_le, ad, k24] at c2
      exact c2
    · refine eqD_cg hE (fun L w hw => ?_)
      obtain ⟨w0, rfl⟩ := wl w hw
      rw [t_le, ad, k24] at c2
      have e := es0 w0
      have u1 := t_cl s0
      have u2 := t_cl (x.1 0 23)
      rw [if_pos (by omega), ← e]
    · refine eqD_x hE (fun L w hw => ?_) (nwo_b hb)
      obtain ⟨w0, rfl⟩ := wl w hw
      rw [t_le, ad, k24] at c2
      have e := es0 w0
      have u1 := t_cl s0
      have u2 := t_cl (x.1 0 23)
      exact if_neg (by omega)
  have p40 : ∀ (l1 l2 : Int32) (z : gd), CI z l2 1 (-1) [(31, l2.toNatClampNeg, 0)] → vp_in l2 710 → (l1 = if x.1 5 i = 34 then 1 else 0) → eqD x z (fun L j => cT0 K V n i l2.toNatClampNeg L j) → MT G (D + 4) z_readCell 40 [(0, vr 0), (1, vi l1), (2, vi l2)] [] z (rv Fv) := by
    intro l1 l2 z ci hl2 el1 hE
    have sz := ((hCI _ _ _ _ _).mp ci).1
    refine sg_readCell_40 _ _ (sf_take _ sz.2.1 (fun hno => ⟨fun _ => p141 _ _ _ _ _ z ci hl2 el1 (eqD_cg hE (fun L j hj => ?_)), fun q => absurd rfl q⟩) (fun y j hj hKj _ s t ey => ⟨fun q => absurd q (by decide), fun _ => ?_⟩))
    · have c := hno j hj
      rw [K5 sz] at c
      unfold cT0
      rw [if_neg c]
      rfl
    rw [K5 sz] at hKj
    obtain ⟨sy, -, oky⟩ := (hCI _ _ _ _ _).mp (ciS ci s)
    have pv := PN_v sy.2.1
    have hE2 : eqD x y (fun L w => if n.1 + prz K V w ≤ 24 then (psw K 2 w).bind (fun j => (psw K 66 j).bind (fun j => cT2 K (n.1 + prz K V w, n.2) i l2.toNatClampNeg (L ++ [(32, l2.toNatClampNeg, w)]) j)) else none) := by
      refine eqD_1 (eqD_cg hE (fun L w hw => ?_)) hj ey
      rw [hj] at hw
      cases Option.some.inj hw
      unfold cT0
      rw [if_pos hKj]
    have one : ((y.1 0 9).toInt = 0 → ¬ (K (y.1 0 8).toNatClampNeg = 2 ∧ 1 ≤ V (y.1 0 8).toNatClampNeg ∧ V (y.1 0 8).toNatClampNeg ≤ 8)) → MT G (D + 4) z_readCell 105 [(0, vr 0), (1, vi l1), (2, vi l2), (4, vi (y.1 0 8))] [vi 1] y (rv Fv) := fun q => p105 _ _ _ _ y sy (fun q => (oky q).1.1) pv (by decide) (by decide) hl2 rfl (fun q0 => by unfold prz; rw [if_neg (q q0)]; rfl) el1 hE2
    refine ⟨fun c => one (fun q => absurd (t_eq.mpr q) c), fun _ => ⟨pv, fun c => one (fun _ q => c (by rw [K5 sy]; exact q.1)), fun c2 => ⟨pv, sp_in _ _ _ ⟨fun c => one (fun _ q => bi_eq.mp c (by rw [V7 sy]; exact q.2)), fun c => ⟨pv, ?_⟩⟩⟩⟩⟩
    have c3 := bi_ne.mp c
    rw [K5 sy] at c2
    obtain ⟨c1, c4⟩ := c3
    rw [V7 sy] at c1 c4
    have e := fun _ : (y.1 0 9).toInt = 0 => show (y.1 7 (y.1 0 8).toNatClampNeg).toNatClampNeg = prz K V (y.1 0 8).toNatClampNeg by
      unfold prz
      rw [if_pos ⟨c2, c1, c4⟩, V7 sy]
    rw [t_le, k1] at c1
    rw [t_le, k8] at c4
    exact p105 _ _ _ _ y sy (fun q => (oky q).1.1) pv (by rw [V7 sy]; exact c1) (by rw [V7 sy]; exact c4) hl2 rfl e el1 hE2
  -- the head
  have head : ∀ (r : Int32) (y : gd), SS x y → (r = if x.1 5 i = 34 then 1 else 0) → eqD x y (fun L i0 => (psw K 17 i0).bind (fun t => (psw K 1 t).bind (fun j => if n.1 < 24 then cT0 K V n i t L j else none))) → MT G (D + 3) z_pass 0 [(0, vr 0), (1, vi 17)] [] y (rv (fun x3 => MT G (D + 3) z_passName 0 [(0, vr 0)] [] x3 (ri (fun r5 x4 => ((¬ ((x4.1 0 9) = (0 : Int32)) → MT G (D + 4) z_readCell 40 [(0, vr 0), (1, vi r), (2, vi r5)] [] x4 (rv Fv)) ∧ ((x4.1 0 9) = (0 : Int32) → ((¬ ((x4.1 0 23) = (24 : Int32)) → MT G (D + 4) z_readCell 40 [(0, vr 0), (1, vi r), (2, vi r5)] [] x4 (rv Fv)) ∧ ((x4.1 0 23) = (24 : Int32) → MT G (D + 3) z_fault 0 [(0, vr 0), (1, vi 3), (2, vi r5)] [] x4 (rv (fun x8 => MT G (D + 4) z_readCell 40 [(0, vr 0), (1, vi r), (2, vi r5)] [] x8 (rv Fv))))))))))) := by
    intro r y sy er hE
    refine sf_pass _ sy.2.1 (fun y3 s3 t3 ey3 => sf_passName s3.2.1 (fun y4 s4 t4 ey4 => ?_))
    have sx3 := SS_tr sy s3
    have sx4 := SS_tr sx3 s4
    rw [K5 sy] at ey3
    rw [K5 sx3] at ey4
    have pv := PN_v s3.2.1
    have e23 : y4.1 0 23 = x.1 0 23 := sx4.1.1 23 (by decide)
    have gb1 := gb.1
    have gb2 := gb.2.1
    have hE4 : eqD x y4 (fun L j => if n.1 < 24 then cT0 K V n i (y3.1 0 8).toNatClampNeg L j else none) := by
      refine eqD_w (eqD_cg (eqD_w hE ey3) (fun L t ht => ?_)) ey4
      rw [(nwo_is ht).2]
    have u1 := t_cl (x.1 0 23)
    refine ⟨fun c => p40 _ _ y4 ((hCI _ _ _ _ _).mpr ⟨sx4, Or.inl rfl, fun q => absurd (t_eq.mpr q) c⟩) pv er (eqD_cg hE4 (fun L j hj => absurd (t_eq.mpr (nwo_is hj).1) c)), fun c => ⟨fun c2 => p40 _ _ y4 ((hCI _ _ _ _ _).mpr ⟨sx4, Or.inl rfl, fun q => ⟨?_, Or.inl ⟨rfl, rfl, rfl⟩⟩⟩) pv er (eqD_cg hE4 (fun L j hj => ?_)), fun c2 => sp_fault _ _ (by decide) pv sx4.2.1 (fun y5 s5 hb _ _ => p40 _ _ y5 ((hCI _ _ _ _ _).mpr ⟨SS_tr sx4 s5, Or.inl rfl, fun q => by omega⟩) pv er (eqD_x hE4 (fun L j hj => ?_) (nwo_b hb)))⟩⟩
    · have a4 := t4 q
      have a3 := t3 (s4.2.2.2.2 q)
      have a1 := sy.2.2.1
      rw [t_eq, e23, k24] at c2
      exact ⟨by omega, by decide, by rw [k1]; omega⟩
    · rw [t_eq, e23, k24] at c2
      exact if_pos (by omega)
    · rw [t_eq, e23, k24] at c2
      exact if_neg (by omega)
  have hx : eqD x x (fun L i => pD K V n i L) := fun L => by rw [eK, eV, en]
  refine sg_readCell_0 (sf_take _ pn (fun hno => head 0 x (SS_rf pn) ?_ ?_) (fun y j hj hKj _ s _ ey => head 1 y s ?_ ?_))
  · rw [if_neg (hno i ni)]
  · refine eqD_cg hx (fun L j hj => ?_)
    rw [ni] at hj
    cases Option.some.inj hj
    have c := hno i ni
    have c17 : K i = 17 := by rw [eK]; exact hK.resolve_left c
    rw [← eK] at c
    rw [← pCl_is]
    show pD K V n i L = _
    unfold pD
    rw [if_neg c, if_pos c17]
  · rw [ni] at hj
    cases Option.some.inj hj
    rw [if_pos hKj]
  · rw [ni] at hj
    cases Option.some.inj hj
    refine eqD_1 (eqD_cg hx (fun L j hj => ?_)) ni ey
    rw [ni] at hj
    cases Option.some.inj hj
    rw [← eK] at hKj
    show pD K V n i L = _
    unfold pD ps1
    rw [if_pos hKj]
    by_cases c : i < 700
    · rw [if_pos c, if_pos c, Option.bind_some, ← pCl_is]
    · rw [if_neg c, if_neg c]; rfl
end
section
theorem tot_up (S : Nat → Nat) (n s : Nat) : tot (fun t => if t = n then s else S t) (n + 1) = tot S n + s := by
  have a : ∀ k : Nat, k ≤ n → tot (fun t => if t = n then s else S t) k = tot S k := by
    intro k
    induction k with
    | zero => intro _; rfl
    | succ k ih =>
      intro h
      show tot (fun t => if t = n then s else S t) k + (if k = n then s else S k) = tot S k + S k
      rw [ih (by omega), if_neg (by omega)]
  show tot (fun t => if t = n then s else S t) n + (if n = n then s else S n) = _
  rw [a n (Nat.le_refl _), if_pos rfl]
theorem cl_up {a b : Int32} (h0 : 0 ≤ a.toInt) (h : b.toInt = a.toInt + 1) : b.toNatClampNeg = a.toNatClampNeg + 1 := by
  have := t_cl a
  have := t_cl b
  omega
theorem vB_NN {x y : gd} (h : NN x y) {s c : Nat} {e : Int32} (q : vB x 0 (vS x 0 17) s c e) : vB y 0 (vS y 0 17) s c e := vB_keep (Int.le_refl _) (NN_NL 0 _ h) (fun _ _ _ he g => vS_keep (Int.le_refl _) (NN_NL 0 _ h) _ _ _ _ he g) (Int.le_refl _) q
theorem PT_th {n n' : Int} {x y : gd} {e : Int32} {s : Nat} (q : PT n x) (h : NN x y) (h0 : 0 ≤ (x.1 0 25).toInt) (ef : (y.1 0 25).toInt = (x.1 0 25).toInt + 1) (ea : ∀ j : Nat, y.1 39 j = if j = (x.1 0 25).toNatClampNeg then e else x.1 39 j) (e26 : y.1 0 26 = x.1 0 26) (e40 : y.1 40 = x.1 40) (e27 : y.1 0 27 = x.1 0 27) (e41 : y.1 41 = x.1 41) (hv : vB x 0 (vS x 0 17) s 8 e) (hn : n + s ≤ n') : PT n' y := by
  obtain ⟨S, A, B, q1, q2, q3, q4⟩ := q
  have hc := cl_up h0 ef
  have hx := t_cl (x.1 0 25)
  refine ⟨(fun t => if t = (x.1 0 25).toNatClampNeg then s else S t), A, B, fun t ht => ?_, fun t ht => ?_, fun t ht => ?_, ?_⟩
  · rw [ea]
    by_cases c : t = (x.1 0 25).toNatClampNeg
    · rw [if_pos c]
      show vB y 0 (vS y 0 17) (if t = (x.1 0 25).toNatClampNeg then s else S t) 8 e
      rw [if_pos c]
      exact vB_NN h (hv)
    · rw [if_neg c]
      show vB y 0 (vS y 0 17) (if t = (x.1 0 25).toNatClampNeg then s else S t) 8 (x.1 39 t)
      rw [if_neg c]
      exact vB_NN h (q1 t (by omega))
  · rw [e40]; rw [e26] at ht
    exact vE_NK (NN_NL 0 0 h).1 (q2 t ht)
  · rw [e41]; rw [e27] at ht
    exact vE_NK (NN_NL 0 0 h).1 (q3 t ht)
  · rw [e26, e27, hc, tot_up]
    omega
theorem PT_al {n n' : Int} {x y : gd} {e : Int32} {s : Nat} (q : PT n x) (h : NN x y) (h0 : 0 ≤ (x.1 0 26).toInt) (ef : (y.1 0 26).toInt = (x.1 0 26).toInt + 1) (ea : ∀ j : Nat, y.1 40 j = if j = (x.1 0 26).toNatClampNeg then e else x.1 40 j) (e25 : y.1 0 25 = x.1 0 25) (e39 : y.1 39 = x.1 39) (e27 : y.1 0 27 = x.1 0 27) (e41 : y.1 41 = x.1 41) (hv : vE x s s 17 e) (hn : n + s ≤ n') : PT n' y := by
  obtain ⟨S, A, B, q1, q2, q3, q4⟩ := q
  have hc := cl_up h0 ef
  have hx := t_cl (x.1 0 26)
  refine ⟨S, (fun t => if t = (x.1 0 26).toNatClampNeg then s else A t), B, fun t ht => ?_, fun t ht => ?_, fun t ht => ?_, ?_⟩
  · rw [e39]; rw [e25] at ht
    exact vB_NN h (q1 t ht)
  · rw [ea]
    by_cases c : t = (x.1 0 26).toNatClampNeg
    · rw [if_pos c]
      show vE y (if t = (x.1 0 26).toNatClampNeg then s else A t) (if t = (x.1 0 26).toNatClampNeg then s else A t) 17 e
      rw [if_pos c]
      exact vE_NK (NN_NL 0 0 h).1 (hv)
    · rw [if_neg c]
      show vE y (if t = (x.1 0 26).toNatClampNeg then s else A t) (if t = (x.1 0 26).toNatClampNeg then s else A t) 17 (x.1 40 t)
      rw [if_neg c]
      exact vE_NK (NN_NL 0 0 h).1 (q2 t (by omega))
  · rw [e41]; rw [e27] at ht
    exact vE_NK (NN_NL 0 0 h).1 (q3 t ht)
  · rw [e25, e27, hc, tot_up]
    omega
theorem PT_fi {n n' : Int} {x y : gd} {e : Int32} {s : Nat} (q : PT n x) (h : NN x y) (h0 : 0 ≤ (x.1 0 27).toInt) (ef : (y.1 0 27).toInt = (x.1 0 27).toInt + 1) (ea : ∀ j : Nat, y.1 41 j = if j = (x.1 0 27).toNatClampNeg then e else x.1 41 j) (e25 : y.1 0 25 = x.1 0 25) (e39 : y.1 39 = x.1 39) (e26 : y.1 0 26 = x.1 0 26) (e40 : y.1 40 = x.1 40) (hv : vE x s s 17 e) (hn : n + s ≤ n') : PT n' y := by
  obtain ⟨S, A, B, q1, q2, q3, q4⟩ := q
  have hc := cl_up h0 ef
  have hx := t_cl (x.1 0 27)
  refine ⟨S, A, (fun t => if t = (x.1 0 27).toNatClampNeg then s else B t), fun t ht => ?_, fun t ht => ?_, fun t ht => ?_, ?_⟩
  · rw [e39]; rw [e25] at ht
    exact vB_NN h (q1 t ht)
  · rw [e40]; rw [e26] at ht
    exact vE_NK (NN_NL 0 0 h).1 (q2 t ht)
  · rw [ea]
    by_cases c : t = (x.1 0 27).toNatClampNeg
    · rw [if_pos c]
      show vE y (if t = (x.1 0 27).toNatClampNeg then s else B t) (if t = (x.1 0 27).toNatClampNeg then s else B t) 17 e
      rw [if_pos c]
      exact vE_NK (NN_NL 0 0 h).1 (hv)
    · rw [if_neg c]
      show vE y (if t = (x.1 0 27).toNatClampNeg then s else B t) (if t = (x.1 0 27).toNatClampNeg then s else B t) 17 (x.1 41 t)
      rw [if_neg c]
      exact vE_NK (NN_NL 0 0 h).1 (q3 t (by omega))
  · rw [e25, e26, hc, tot_up]
    omega
end
section

end
