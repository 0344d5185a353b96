/-! readOneS, readS: what they read -/
theorem psw_at {w : gd} {K : Nat → Int32} {v : Int32} {j' : Nat} (h : (nwo w).bind (psw K v) = some j') : ∃ j, nwo w = some j ∧ K j = v ∧ j < 700 ∧ j' = j + 1 := by
  obtain ⟨j, hj, h2⟩ := Option.bind_eq_some_iff.mp h
  unfold psw at h2
  split at h2
  · next c => exact ⟨j, hj, c.1, c.2, (Option.some.inj h2).symm⟩
  · exact absurd h2 (by simp)
theorem vRs_of {k : Nat} {x x' : gd} {r : Int32} (h : FRr k x r x') (h5 : x'.1 5 = x.1 5) (hb : (x'.1 0 9).toInt = 0) (h67 : x'.1 5 (x'.1 0 8).toNatClampNeg = 67) {tg : Option Nat} {M : gU} (v : vRr x' r tg M) : vRs x' r tg M := by
  refine ⟨v, fun e10 e3 => ?_⟩
  obtain ⟨u1, u2, u3⟩ := h.2 hb e10 e3
  rw [u3]
  exact ⟨by rw [h5]; exact u1, by rw [← u2]; exact h67⟩
theorem sf_readOneS (k : Nat) (ihS : SfS k) {G : mG} {D : Nat} {x : gd} {F : Int32 → gd → Prop} (hD : 4 * k + 23 ≤ D) (hpre : PreK k 0 x) (hb : (x.1 0 9).toInt = 0) (hlt : LT x) (hbs : pbs (x.1 5 (x.1 0 8).toNatClampNeg)) (hF : ∀ r x', QO k x r x' → FOs k x r x' → F r x') : MT G D z_readOneS 0 [(0, vr 0)] [] x (ri F) := by
  obtain ⟨D, rfl⟩ : ∃ m, D = m + 23 := ⟨D - 23, by omega⟩
  obtain ⟨pn, n0, c0, k16, nst⟩ := id hpre
  have pv := PN_v pn
  have k1 : (1 : Int32).toInt = 1 := rfl
  have k8 : (8 : Int32).toInt = 8 := rfl
  have p1 := pn.1
  have p2 := pn.2.1
  obtain ⟨i, ei⟩ : ∃ i, i = (x.1 0 8).toNatClampNeg := ⟨_, rfl⟩
  have hi : nwo x = some i := by rw [ei]; exact nwo_o hb
  obtain ⟨K, eK⟩ : ∃ K, K = x.1 5 := ⟨_, rfl⟩
  have one : ∀ {i'}, nwo x = some i' → i' = i := fun h => Option.some.inj (h.symm.trans hi)
  have i1 : ∀ {y : gd}, (y.1 0 8).toInt = (x.1 0 8).toInt + 1 → (y.1 0 8).toNatClampNeg = i + 1 := fun {y} h => by rw [ei, t_cl, t_cl]; omega
  -- what stepping keeps
  have kp : ∀ {y : gd}, SS x y → y.1 0 20 = x.1 0 20 ∧ y.1 0 21 = x.1 0 21 ∧ y.1 0 13 = x.1 0 13 ∧ LT y ∧ cr x ≤ cr y ∧ 0 ≤ (y.1 0 9).toInt := fun {y} s => ⟨s.1.1 20 (by decide), s.1.1 21 (by decide), s.1.1 13 (by decide), by unfold LT; rw [s.1.1 21 (by decide)]; exact hlt, (cr_ss s).1, s.2.1.2.2.1⟩
  have k5 : ∀ {y : gd}, RP x y → y.1 5 = K := fun {y} h => by rw [eK]; exact h.1.2.1 5 (by decide) (by decide)
  have nn : ∀ {y : gd}, (y.1 0 9).toInt = 0 → ∃ j, nwo y = some j ∧ j = (y.1 0 8).toNatClampNeg := fun {y} h => ⟨_, nwo_o h, rfl⟩
  refine sg_readOneS_0 (sp_here pn (fun r2 _ hr2 => ?_))
  have er2 : r2 = K i := by rw [eK, ei]; exact hr2 hb
  refine ⟨fun c => ?_, fun c => ?_, fun c => ?_, fun c => ?_, fun c => ?_, fun c => ?_, fun c => ?_, fun c => ?_, fun c => ?_, fun c => ?_⟩
  · -- a let
    have hK : K i = 26 := er2.symm.trans c
    refine sf_step pn (fun y1 s1 t1 h1 => sf_passName s1.2.1 (fun y2 s2 t2 h2 => ?_))
    rw [k5 (RP_ss s1)] at h2
    have sx2 := SS_tr s1 s2
    obtain ⟨e20, e21, e13, lt2, cx2, b2⟩ := kp sx2
    have p225 : ∀ z : gd, SS x z → ((z.1 0 9).toInt = 0 → (z.1 0 8).toInt = (x.1 0 8).toInt + 2 ∧ ¬ z.1 0 21 = 8) → nwo z = (nwo y2).bind (fun i => if lts x < 8 then some i else none) → MT G (D + 23) z_readOneS 225 [(0, vr 0), (1, vi (x.1 0 8)), (4, vi (y1.1 0 8))] [] z (ri F) := by
      intro z sz hz hnz
      obtain ⟨a20, a21, a13, ltz, cxz, bz⟩ := kp sz
      refine sg_readOneS_225 _ _ (fun z1 e1 => ?_)
      obtain ⟨r1, g1, f8, f9, f13, f20, f21⟩ := RP_21 sz.2.1 e1
      refine sf_pass _ r1.2.1 (fun z2 s2 t2 h2z => ?_)
      have rx1 := RP_tr (RP_ss sz) r1
      rw [k5 rx1] at h2z
      have c2 := cr_ss s2
      have h20 : z2.1 0 20 = x.1 0 20 := by rw [s2.1.1 20 (by decide), f20, a20]
      have h21 : z2.1 0 21 = z.1 0 21 + 1 := by rw [s2.1.1 21 (by decide), f21]
      have rx2 := RP_tr rx1 (RP_ss s2)
      refine sf_readR k (by omega) (PreK_rp hpre rx2 (by omega) (fun _ => ⟨h20, by omega⟩)) (fun r4 z3 h3 hf3 => ?_)
      obtain ⟨r3, l3, c3, d3, rr3, ok3⟩ := h3
      obtain ⟨M3, fr, vr3⟩ := hf3.1 none
      rw [k5 rx2] at fr
      have rx3 := RP_tr rx2 r3
      have bz2 := s2.2.1.2.2.1
      have low : -(3 * ((k : Int) + 1) + 1) ≤ cr z3 := by
        by_cases q : (z2.1 0 9).toInt = 0
        · have q1 := s2.2.2.2.2 q
          have := c2.2 q (t2 q)
          rw [f9] at q1
          have h8 := (hz q1).1
          have u13 : (z.1 0 13).toInt = (x.1 0 13).toInt := by rw [a13]
          have : cr z = cr x + 4 := by unfold cr; omega
          omega
        · have := d3 (by omega); omega
      have u21 : (z3.1 0 21).toInt = (x.1 0 21).toInt + 1 := by
        rw [l3, h21, a21, t_add (by rw [k1]; have := hlt.1; omega) (by rw [k1]; have := hlt.2; omega), k1]
      refine sp_node _ _ _ _ _ (nodeV rx3 n0 (by omega)) (fun w hw => ?_)
      have qo : QO k x (z3.1 0 13) w := endO rx3 n0 k16 low pv hw (fun q => by
        obtain ⟨o1, o2, o3, o4, o5⟩ := ok3 q
        have q1 := s2.2.2.2.2 o1
        have t2' := t2 o1
        have cc := c2.2 o1 t2'
        rw [f9] at q1
        obtain ⟨h8, h7⟩ := hz q1
        have u8 : (z1.1 0 8).toInt = (z.1 0 8).toInt := by rw [f8]
        have n8 : ¬ (x.1 0 21).toInt = 8 := fun e => h7 (by rw [t_eq, k8, a21]; exact e)
        have := hlt.1
        have := hlt.2
        exact ⟨by rw [o2, h20], by omega, by omega, by omega, ⟨by omega, by omega⟩, Or.inl ⟨rfl, PN_v s1.2.1, by omega, vR_mono (by omega) o5⟩⟩)
      refine sf_pass _ qo.1.2.1 (fun y s t hy => ri_i (hF _ _ (endP qo s t) ?_))
      rw [k5 qo.1] at hy
      have c9 := FX_qS (FX_qT h1) (FX_qS (FX_qP h2) (FX_qS (FX_qC (lts x < 8) hnz) (FX_qS (FX_qP (h2z.trans (by rw [nwo_e f8 f9]))) (FX_qS (FX_qN [(23, i + 1, 0)] rfl) (FX_qS (FX_to fr (nE_nwo hw)) (FX_qS (FX_qP hy) (FX_qV (22, i + 1, i) rfl)))))))
      have hl : lts y = lts x + 1 := by
        have e : y.1 0 21 = z3.1 0 21 := (s.1.1 21 (by decide)).trans (hw.1.1 21 (by decide))
        unfold lts
        rw [e, t_cl, t_cl, u21]
        have := hlt.1
        omega
      refine ⟨_, FXs_eq (FXs_c 1 c9 (fun _ _ => hl)) (fun i' hi' L => ?_), fun q => ?_⟩
      · obtain rfl := one hi'
        rw [← eK, pS_let hK]
      · have qw := s.2.2.2.2 q
        have f9' : w.1 0 9 = z3.1 0 9 := hw.1.1 9 (by decide)
        have f8' : w.1 0 8 = z3.1 0 8 := hw.1.1 8 (by decide)
        rw [f9'] at qw
        obtain ⟨j, hj, -⟩ := nn q
        rw [hy] at hj
        obtain ⟨j2, hj2, h67, -, -⟩ := psw_at hj
        have e2 := (nwo_is hj2).2
        rw [f8'] at e2
        rw [← e2] at h67
        have q2 := r3.2.2.2.1 qw
        have q1 := s2.2.2.2.2 q2
        rw [f9] at q1
        have y10 : (y1.1 0 9).toInt = 0 := by
          obtain ⟨jz, hjz, -⟩ := nn q1
          rw [hnz] at hjz
          obtain ⟨j5, hj5, -⟩ := Option.bind_eq_some_iff.mp hjz
          rw [h2] at hj5
          obtain ⟨j6, hj6, -⟩ := psw_at hj5
          exact (nwo_is hj6).1
        have a1 := i1 (t1 y10)
        refine wS_RP (Int.le_refl _) (RP_ss s) (endF rx3 n0 (by omega) hw (by decide) (Or.inl ⟨rfl, M3, vRs_of hf3 ((k5 rx3).trans (k5 rx2).symm) qw (by rw [k5 rx3]; exact h67) (vr3 qw), ?_⟩))
        rw [a1, ← ei]
        rfl
    have l8 : lts x < 8 ↔ ¬ (x.1 0 21).toInt = 8 := by
      have := hlt.1
      have := hlt.2
      unfold lts
      rw [t_cl]
      omega
    refine ⟨fun q => p225 y2 sx2 (fun q2 => absurd (by rw [t_eq]; exact q2) q) ?_, fun q0 => ⟨fun q8 => p225 y2 sx2 (fun q2 => ?_) ?_, fun q8 => sp_fault _ _ (by decide) (PN_v s1.2.1) sx2.2.1 (fun y9 s9 b9 _ _ => p225 y9 (SS_tr sx2 s9) (fun q2 => by omega) ?_)⟩⟩
    · have : nwo y2 = none := nwo_b (by have q' : ¬ (y2.1 0 9).toInt = 0 := fun e => q (t_eq.mpr e); omega)
      rw [this]; rfl
    · have := t2 q2
      have := t1 (s2.2.2.2.2 q2)
      exact ⟨by omega, q8⟩
    · have c8 : lts x < 8 := l8.mpr (fun e => q8 (by rw [t_eq, k8, e21]; exact e))
      cases nwo y2 with
      | none => rfl
      | some j => rw [Option.bind_some, if_pos c8]
    · have c8 : ¬ lts x < 8 := fun z => l8.mp z (by rw [← e21, q8]; exact k8)
      rw [nwo_b b9]
      cases nwo y2 with
      | none => rfl
      | some j => rw [Option.bind_some, if_neg c8]
  · -- a store
    have hK : K i = 1 := er2.symm.trans c
    refine sf_step pn (fun y1 s1 t1 h1 => ?_)
    obtain ⟨e20, e21, e13, lt1, cx1, b1⟩ := kp s1
    refine sf_take _ s1.2.1 (fun h65 => ⟨fun _ => ?_, fun q => absurd rfl q⟩) (fun y2 j hj h65 b1' s2 t2 h2 => ⟨fun q => absurd q (by decide), fun _ => ?_⟩)
    · refine sf_pass _ s1.2.1 (fun y2 s2 t2 h2 => ?_)
      rw [k5 (RP_ss s1)] at h2
      have sx2 := SS_tr s1 s2
      obtain ⟨f20, f21, f13, lt2, cx2, b2⟩ := kp sx2
      refine sf_readR k (by omega) (PreK_w (PreK_ss hpre sx2) (by decide)) (fun r3 y3 h3 hf3 => ?_)
      obtain ⟨r23, l3, c3, d3, rr3, ok3⟩ := h3
      obtain ⟨M3, fr, vr3⟩ := hf3.1 (some i)
      rw [k5 (RP_ss sx2)] at fr
      have rx3 := RP_tr (RP_ss sx2) r23
      have c1 := cr_ss s1
      have c2 := cr_ss s2
      have low : -(3 * ((k : Int) + 1) + 1) ≤ cr y3 := by
        by_cases q : (y2.1 0 9).toInt = 0
        · have := c2.2 q (t2 q); omega
        · have := d3 (by omega); omega
      refine sp_node _ _ _ _ _ (nodeV rx3 n0 (by omega)) (fun w hw => ?_)
      have qo : QO k x (y3.1 0 13) w := endO rx3 n0 k16 low pv hw (fun q => by
        obtain ⟨o1, o2, o3, o4, o5⟩ := ok3 q
        have q1 := s2.2.2.2.2 o1
        have t1' := t1 q1
        have t2' := t2 o1
        have := c2.2 o1 t2'
        have := c1.2 q1 t1'
        have u21 : (y3.1 0 21).toInt = (x.1 0 21).toInt := by rw [l3, f21]
        exact ⟨by rw [o2, f20], by omega, by omega, by omega, by unfold LT; rw [l3]; exact lt2, Or.inr (Or.inl ⟨rfl, pv, vR_mono (by omega) o5⟩)⟩)
      refine sg_readOneS_341 _ (sf_pass _ qo.1.2.1 (fun y s t hy => ri_i (hF _ _ (endP qo s t) ?_)))
      rw [k5 qo.1] at hy
      have c9 := FX_qS (FX_qT h1) (FX_qS (FX_qP h2) (FX_qS (FX_to fr (nE_nwo hw)) (FX_qS (FX_qP hy) (FX_qV (77, i, 0) rfl))))
      have hl : lts y = lts x := by
        have e : y.1 0 21 = y3.1 0 21 := (s.1.1 21 (by decide)).trans (hw.1.1 21 (by decide))
        unfold lts
        rw [e, l3, f21]
      refine ⟨_, FXs_eq (FXs_c 0 c9 (fun _ _ => hl)) (fun i' hi' L => ?_), fun q => ?_⟩
      · obtain rfl := one hi'
        rw [← eK]
        by_cases c7 : i' < 700
        · have n65 : ¬ K (i' + 1) = 65 := by
            rw [hi, Option.bind_some, ps1, if_pos c7] at h1
            have := h65 (i' + 1) h1
            rw [k5 (RP_ss s1)] at this
            exact this
          rw [pS_set hK n65]
          rfl
        · rw [pS_1 (by rw [hK]; decide) (by rw [hK]; decide) (by rw [hK]; decide)]
          unfold qS qT
          rw [ps1, if_neg c7]
          rfl
      · have qw := s.2.2.2.2 q
        have f9' : w.1 0 9 = y3.1 0 9 := hw.1.1 9 (by decide)
        have f8' : w.1 0 8 = y3.1 0 8 := hw.1.1 8 (by decide)
        rw [f9'] at qw
        obtain ⟨j, hj, -⟩ := nn q
        rw [hy] at hj
        obtain ⟨j2, hj2, h67, -, -⟩ := psw_at hj
        have e2 := (nwo_is hj2).2
        rw [f8'] at e2
        rw [← e2] at h67
        refine wS_RP (Int.le_refl _) (RP_ss s) (endF rx3 n0 (by omega) hw (by decide) (Or.inr (Or.inl ⟨rfl, rfl, M3, ?_, ?_⟩)))
        · rw [← ei]; exact vRs_of hf3 ((k5 rx3).trans (k5 (RP_ss sx2)).symm) qw (by rw [k5 rx3]; exact h67) (vr3 qw)
        · rw [← ei]; rfl
    · have sx2 := SS_tr s1 s2
      obtain ⟨f20, f21, f13, lt2, cx2, b2⟩ := kp sx2
      have c1 := cr_ss s1
      have c2 := cr_ss s2
      refine sf_E k (g := 0) _ _ (by omega) (by decide) (PreK_ss hpre sx2) (fun r3 y3 h3 hf3 => ?_)
      obtain ⟨r23, l3, c3, d3, rr3, ok3⟩ := h3
      obtain ⟨M3, f3, v3⟩ := FE_0 hf3
      rw [k5 (RP_ss sx2)] at f3
      have rx3 := RP_tr (RP_ss sx2) r23
      refine sf_pass _ r23.2.1 (fun y4 s4 t4 h4 => sf_pass _ s4.2.1 (fun y5 s5 t5 h5 => ?_))
      rw [k5 rx3] at h4
      rw [k5 (RP_tr rx3 (RP_ss s4))] at h5
      have c4 := cr_ss s4
      have c5 := cr_ss s5
      have s35 := SS_tr s4 s5
      have rx5 := RP_tr rx3 (RP_ss s35)
      have g20 : y5.1 0 20 = y3.1 0 20 := s35.1.1 20 (by decide)
      have g21 : y5.1 0 21 = x.1 0 21 := by rw [s35.1.1 21 (by decide), l3, f21]
      refine sf_E k (g := -200) _ _ (by omega) (by decide) (PreK_rp hpre rx5 (by omega) (fun q => by
        obtain ⟨a1, a2, a3, a4⟩ := ok3 (s35.2.2.2.2 q)
        exact ⟨by rw [g20, a1, f20], by omega⟩)) (fun r6 y6 h6 hf6 => ?_)
      obtain ⟨r56, l6, c6, d6, rr6, ok6⟩ := h6
      obtain ⟨M6, f6, v6⟩ := FE_0 hf6
      rw [k5 rx5] at f6
      have rx6 := RP_tr rx5 r56
      have low : -(3 * ((k : Int) + 1) + 1) ≤ cr y6 := by
        by_cases q : (y5.1 0 9).toInt = 0
        · obtain ⟨a1, a2, a3, a4⟩ := ok3 (s35.2.2.2.2 q)
          omega
        · rw [d6 (by have := s5.2.1.2.2.1; omega)]
          omega
      refine sp_node _ _ _ _ _ (nodeV rx6 n0 (by omega)) (fun w hw => ?_)
      have qo : QO k x (y6.1 0 13) w := endO rx6 n0 k16 low pv hw (fun q => by
        obtain ⟨o1, o2, o3, o4⟩ := ok6 q
        have q5 := r56.2.2.2.1 q
        have q4 := s5.2.2.2.2 q5
        have q3 := s4.2.2.2.2 q4
        obtain ⟨a1, a2, a3, a4⟩ := ok3 q3
        have t5' := t5 q5
        have t4' := t4 q4
        have q2 := r23.2.2.2.1 q3
        have t2' := t2 q2
        have t1' := t1 b1'
        have u21 : (y6.1 0 21).toInt = (x.1 0 21).toInt := by rw [l6, g21]
        exact ⟨by rw [o1, g20, a1, f20], by omega, by omega, by omega, by unfold LT; rw [l6, g21]; exact hlt, Or.inr (Or.inr (Or.inl ⟨rfl, pv, ((y3.1 0 8).toInt - (y2.1 0 8).toInt).toNat, ((y6.1 0 8).toInt - (y5.1 0 8).toInt).toNat, by omega, vE_RP (RP_tr (RP_ss s35) r56) a4, o4⟩))⟩)
      refine sg_readOneS_341 _ (sf_pass _ qo.1.2.1 (fun y s t hy => ri_i (hF _ _ (endP qo s t) ?_)))
      rw [k5 qo.1] at hy
      have h2' : nwo y2 = (nwo y1).bind ps1 := by rw [hj]; exact h2
      have c9 := FX_qS (FX_qN (y := x) [(7, i, 0)] rfl) (FX_qS (FX_qT h1) (FX_qS (FX_qT h2') (FX_qS (FX_X f3) (FX_qS (FX_qP h4) (FX_qS (FX_qP h5) (FX_qS (FX_to (FX_X f6) (nE_nwo hw)) (FX_qS (FX_qP hy) (FX_qV (78, i, 0) rfl))))))))
      have hl : lts y = lts x := by
        have e : y.1 0 21 = y6.1 0 21 := (s.1.1 21 (by decide)).trans (hw.1.1 21 (by decide))
        unfold lts
        rw [e, l6, g21]
      refine ⟨_, FXs_eq (FXs_c 0 c9 (fun _ _ => hl)) (fun i' hi' L => ?_), fun q => ?_⟩
      · obtain rfl := one hi'
        have ej : j = i' + 1 := by
          rw [hi, Option.bind_some] at h1
          exact (ps1_is (h1.symm.trans hj)).1
        rw [k5 (RP_ss s1), ej] at h65
        rw [← eK, pS_put hK h65]
        rfl
      · have qw := s.2.2.2.2 q
        have f9' : w.1 0 9 = y6.1 0 9 := hw.1.1 9 (by decide)
        rw [f9'] at qw
        have q5 := r56.2.2.2.1 qw
        have q3 := s35.2.2.2.2 q5
        obtain ⟨⟨n3, w3⟩, -⟩ := v3 q3
        obtain ⟨⟨n6, w6⟩, -⟩ := v6 qw
        refine wS_RP (Int.le_refl _) (RP_ss s) (endF rx6 n0 (by omega) hw (by decide) (Or.inr (Or.inr (Or.inl ⟨rfl, rfl, n3, n6, M3, M6, vV_RP (RP_tr (RP_ss s35) r56) w3, w6, ?_⟩))))
        rw [← ei]; rfl
  · -- an if
    have hK : K i = 24 := er2.symm.trans c
    exact sf_readIf k ihS (by omega) hpre hb hlt (by rw [← eK, ← ei]; exact hK) (fun r y h hf => ri_i (hF _ _ h hf))
  · -- a while
    have hK : K i = 41 := er2.symm.trans c
    refine sf_step pn (fun y1 s1 t1 h1 => ?_)
    obtain ⟨e20, e21, e13, lt1, cx1, b1⟩ := kp s1
    have c1 := cr_ss s1
    refine sf_E k (g := 0) _ _ (by omega) (by decide) (PreK_ss hpre s1) (fun r3 y2 h2 hf2 => ?_)
    obtain ⟨r12, l2, c2, d2, rr2, ok2⟩ := h2
    obtain ⟨M2, f2, v2⟩ := FE_0 hf2
    rw [k5 (RP_ss s1)] at f2
    have rx2 := RP_tr (RP_ss s1) r12
    have lt2 : LT y2 := by unfold LT; rw [l2]; exact lt1
    have pre2 : PreK k (-700) y2 := PreK_rp hpre rx2 (by omega) (fun q => by
      obtain ⟨a1, a2, a3, a4⟩ := ok2 q
      exact ⟨by rw [a1, e20], by omega⟩)
    refine sf_readBlock k ihS (by omega) pre2 (fun _ => lt2) (fun r5 y4 h4 hf4 => ?_)
    obtain ⟨r4, c4, d4, rr4, ok4⟩ := h4
    obtain ⟨M4, f4, v4⟩ := hf4 1
    rw [k5 rx2] at f4
    have rx4 := RP_tr rx2 r4
    have b2 := pre2.1.2.2.1
    have low4 : -(3 * ((k : Int) + 1) + 1) ≤ cr y4 := by
      by_cases q : (y2.1 0 9).toInt = 0
      · exact c4 q
      · have := d4 (by omega); omega
    refine sp_node _ _ _ _ _ (nodeV rx4 n0 (by omega)) (fun w hw => ri_i (hF _ _ (endO rx4 n0 k16 low4 pv hw (fun q => ?_)) ?_))
    · obtain ⟨o1, o2, o3, o4, o5, o6⟩ := ok4 q
      have q2 := r4.2.2.2.1 q
      obtain ⟨a1, a2, a3, a4⟩ := ok2 q2
      have q1 := r12.2.2.2.1 q2
      have st := t1 q1
      have cs := c1.2 q1 st
      have h21 : y2.1 0 21 = x.1 0 21 := by rw [l2, e21]
      rw [h21] at o4 o6
      have o9 := vB_keep rx2.2.2.2.2.1 (l := r5.toInt) ⟨NK_rfl y4, fun _ _ _ _ => rfl⟩ (fun _ _ _ _ g => vS_low rx2.2.2.2.2.1 g) (Int.le_refl _) o6
      exact ⟨by rw [o1, a1, e20], by omega, by omega, o4, o5, Or.inr (Or.inr (Or.inr (Or.inr (Or.inl ⟨rfl, ((y2.1 0 8).toInt - (y1.1 0 8).toInt).toNat, ((y4.1 0 8).toInt - (y2.1 0 8).toInt).toNat, by omega, vE_RP r4 a4, o9, o9.1.2⟩))))⟩
    · have c9 := FX_qS (FX_qT h1) (FX_qS (FX_X f2) (FX_qV (61, i, 0) rfl))
      have hl : lts y2 = lts x := by unfold lts; rw [l2, e21]
      refine ⟨_, FXs_eq (FXs_to (FXs_seq (FXs_c 0 c9 (fun _ _ => hl)) f4) (nE_nwo hw) (nE_lts hw)) (fun i' hi' L => ?_), fun q => ?_⟩
      · obtain rfl := one hi'
        rw [← eK, pS_while hK]
        rfl
      · have f9' : w.1 0 9 = y4.1 0 9 := hw.1.1 9 (by decide)
        rw [f9'] at q
        have q2 := r4.2.2.2.1 q
        obtain ⟨⟨n, ve⟩, -⟩ := v2 q2
        have wb := wB_low rx2.2.2.2.2.1 (v4 q)
        refine endF rx4 n0 (by omega) hw (by decide) (Or.inr (Or.inr (Or.inr (Or.inr (Or.inl ⟨rfl, n, M2, M4, vV_RP r4 ve, wb, wb.1.2, ?_⟩)))))
        rw [← ei]
        simp only [List.append_assoc, List.nil_append]
  · -- a lock
    have hK : K i = 27 := er2.symm.trans c
    refine sf_step pn (fun y1 s1 t1 h1 => sf_passName s1.2.1 (fun y2 s2 t2 h2 => ?_))
    rw [k5 (RP_ss s1)] at h2
    have sx2 := SS_tr s1 s2
    obtain ⟨e20, e21, e13, lt2, cx2, b2⟩ := kp sx2
    have c1 := cr_ss s1
    have c2 := cr_ss s2
    refine sf_readBlock k ihS (by omega) (PreK_w (PreK_ss hpre sx2) (by decide)) (fun _ => lt2) (fun r5 y4 h4 hf4 => ?_)
    obtain ⟨r4, c4, d4, rr4, ok4⟩ := h4
    obtain ⟨M4, f4, v4⟩ := hf4 2
    rw [k5 (RP_ss sx2)] at f4
    have rx4 := RP_tr (RP_ss sx2) r4
    have low4 : -(3 * ((k : Int) + 1) + 1) ≤ cr y4 := by
      by_cases q : (y2.1 0 9).toInt = 0
      · exact c4 q
      · have := d4 (by omega); omega
    refine sp_node _ _ _ _ _ (nodeV rx4 n0 (by omega)) (fun w hw => ri_i (hF _ _ (endO rx4 n0 k16 low4 pv hw (fun q => ?_)) ?_))
    · obtain ⟨o1, o2, o3, o4, o5, o6⟩ := ok4 q
      have q2 := r4.2.2.2.1 q
      have q1 := s2.2.2.2.2 q2
      have st1 := t1 q1
      have st2 := t2 q2
      rw [e21] at o4 o6
      rw [e13] at o6
      exact ⟨by rw [o1, e20], by omega, by omega, o4, o5, Or.inr (Or.inr (Or.inr (Or.inr (Or.inr (Or.inl ⟨rfl, PN_v s1.2.1, vB_mono (by omega) (Nat.le_refl _) o6, o6.1.2⟩)))))⟩
    · have c9 := FX_qS (FX_qT h1) (FX_qS (FX_qP h2) (FX_qV (65, i, i + 1) rfl))
      refine ⟨_, FXs_eq (FXs_to (FXs_seq (FXs_c 0 c9 (fun _ _ => SS_lts sx2)) f4) (nE_nwo hw) (nE_lts hw)) (fun i' hi' L => ?_), fun q => ?_⟩
      · obtain rfl := one hi'
        rw [← eK, pS_lock hK]
        rfl
      · have f9' : w.1 0 9 = y4.1 0 9 := hw.1.1 9 (by decide)
        rw [f9'] at q
        have q2 := r4.2.2.2.1 q
        have q1 := s2.2.2.2.2 q2
        have a1 := i1 (t1 q1)
        have wb := wB_low (RP_ss sx2).2.2.2.2.1 (v4 q)
        refine endF rx4 n0 (by omega) hw (by decide) (Or.inr (Or.inr (Or.inr (Or.inr (Or.inr (Or.inl ⟨rfl, M4, wb, wb.1.2, ?_⟩))))))
        rw [a1, ← ei]
        rfl
  · -- fence, pause
    refine sf_step pn (fun y1 s1 t1 h1 => sf_pass _ s1.2.1 (fun y2 s2 t2 h2 => ?_))
    rw [k5 (RP_ss s1)] at h2
    have sx2 := SS_tr s1 s2
    obtain ⟨e20, e21, e13, lt2, cx2, b2⟩ := kp sx2
    have c1 := cr_ss s1
    have c2 := cr_ss s2
    refine sp_node _ _ _ _ _ (nodeV (RP_ss sx2) n0 (by omega)) (fun w hw => ri_i (hF _ _ (endO (RP_ss sx2) n0 k16 (by omega) pv hw (fun q => ?_)) ?_))
    · have q1 := s2.2.2.2.2 q
      have st1 := t1 q1
      have st2 := t2 q
      have := c2.2 q st2
      have := c1.2 q1 st1
      exact ⟨e20, by omega, by omega, by rw [e21]; exact Int.le_refl _, lt2, Or.inr (Or.inr (Or.inr (Or.inr (Or.inr (Or.inr (Or.inr (Or.inl rfl)))))))⟩
    · have c9 := FX_qS (FX_qT h1) (FX_qS (FX_qP h2) (FX_qV (68, i, 0) (nE_nwo hw)))
      refine ⟨_, FXs_eq (FXs_c 0 c9 (fun _ _ => (nE_lts hw).trans (SS_lts sx2))) (fun i' hi' L => ?_), fun q => ?_⟩
      · obtain rfl := one hi'
        rw [← eK, pS_one (by rw [← er2]; exact c.elim Or.inl (fun q => Or.inr (Or.inl q)))]
        rfl
      · refine endF (RP_ss sx2) n0 (by omega) hw (by decide) (Or.inr (Or.inr (Or.inr (Or.inr (Or.inr (Or.inr (Or.inr (Or.inl ⟨rfl, ⟨?_, c⟩, ?_⟩))))))))
        · rw [k5 (RP_ss sx2), ← ei]; exact er2
        · rw [← ei]; rfl
  · refine sf_step pn (fun y1 s1 t1 h1 => sf_pass _ s1.2.1 (fun y2 s2 t2 h2 => ?_))
    rw [k5 (RP_ss s1)] at h2
    have sx2 := SS_tr s1 s2
    obtain ⟨e20, e21, e13, lt2, cx2, b2⟩ := kp sx2
    have c1 := cr_ss s1
    have c2 := cr_ss s2
    refine sp_node _ _ _ _ _ (nodeV (RP_ss sx2) n0 (by omega)) (fun w hw => ri_i (hF _ _ (endO (RP_ss sx2) n0 k16 (by omega) pv hw (fun q => ?_)) ?_))
    · have q1 := s2.2.2.2.2 q
      have st1 := t1 q1
      have st2 := t2 q
      have := c2.2 q st2
      have := c1.2 q1 st1
      exact ⟨e20, by omega, by omega, by rw [e21]; exact Int.le_refl _, lt2, Or.inr (Or.inr (Or.inr (Or.inr (Or.inr (Or.inr (Or.inr (Or.inr (Or.inr (Or.inr rfl)))))))))⟩
    · have c9 := FX_qS (FX_qT h1) (FX_qS (FX_qP h2) (FX_qV (68, i, 0) (nE_nwo hw)))
      refine ⟨_, FXs_eq (FXs_c 0 c9 (fun _ _ => (nE_lts hw).trans (SS_lts sx2))) (fun i' hi' L => ?_), fun q => ?_⟩
      · obtain rfl := one hi'
        rw [← eK, pS_one (by rw [← er2]; exact Or.inr (Or.inr c))]
        rfl
      · refine endF (RP_ss sx2) n0 (by omega) hw (by decide) (Or.inr (Or.inr (Or.inr (Or.inr (Or.inr (Or.inr (Or.inr (Or.inr (Or.inr (Or.inr ⟨rfl, ?_, ?_⟩))))))))))
        · rw [k5 (RP_ss sx2), ← ei, ← er2]; exact c
        · rw [← ei]; rfl
  · -- assert, back
    refine sf_step pn (fun y1 s1 t1 h1 => ?_)
    obtain ⟨e20, e21, e13, lt1, cx1, b1⟩ := kp s1
    have c1 := cr_ss s1
    refine sf_E k (g := 0) _ _ (by omega) (by decide) (PreK_ss hpre s1) (fun r3 y2 h2 hf2 => ?_)
    obtain ⟨r12, l2, c2, d2, rr2, ok2⟩ := h2
    obtain ⟨M2, f2, v2⟩ := FE_0 hf2
    rw [k5 (RP_ss s1)] at f2
    have rx2 := RP_tr (RP_ss s1) r12
    refine sf_pass _ r12.2.1 (fun y3 s3 t3 h3 => ?_)
    rw [k5 rx2] at h3
    have c3 := cr_ss s3
    have rx3 := RP_tr rx2 (RP_ss s3)
    have h21 : y3.1 0 21 = x.1 0 21 := by rw [s3.1.1 21 (by decide), l2, e21]
    have p488 : ∀ w : Int32, (w = 28 ∨ w = 30) → ((w = 28 ∧ K i = 13) ∨ (w = 30 ∧ K i = 14)) → MT G (D + 23) z_readOneS 488 [(0, vr 0), (1, vi (x.1 0 8)), (9, vi r3)] [vi w, vr 0] y3 (ri F) := by
      intro w0 hw0 hw1
      refine sg_readOneS_488 _ _ _ (sp_node _ _ _ _ _ (nodeV rx3 n0 (by omega)) (fun w hw => ri_i (hF _ _ (endO rx3 n0 k16 (by omega) pv hw (fun q => ?_)) ?_)))
      · have q2 := s3.2.2.2.2 q
        obtain ⟨a1, a2, a3, a4⟩ := ok2 q2
        have q1 := r12.2.2.2.1 q2
        have st1 := t1 q1
        have st3 := t3 q
        have := c1.2 q1 st1
        have h20 : y3.1 0 20 = x.1 0 20 := by rw [s3.1.1 20 (by decide), a1, e20]
        exact ⟨h20, by omega, by omega, by rw [h21]; exact Int.le_refl _, by unfold LT; rw [h21]; exact hlt, Or.inr (Or.inr (Or.inr (Or.inr (Or.inr (Or.inr (Or.inr (Or.inr (Or.inl ⟨hw0, vE_mono _ _ _ _ _ _ _ (by omega) (by omega) (Nat.le_refl _) (vE_RP (RP_ss s3) a4)⟩))))))))⟩
      · have c9 := FX_qS (FX_qT h1) (FX_qS (FX_X f2) (FX_qS (FX_qP h3) (FX_qV (69, i, 0) (nE_nwo hw))))
        refine ⟨_, FXs_eq (FXs_c 0 c9 (fun _ _ => (nE_lts hw).trans (by unfold lts; rw [h21]; rfl))) (fun i' hi' L => ?_), fun q => ?_⟩
        · obtain rfl := one hi'
          rw [← eK, pS_sum (hw1.imp (fun z => z.2) (fun z => z.2))]
          rfl
        · have f9' : w.1 0 9 = y3.1 0 9 := hw.1.1 9 (by decide)
          rw [f9'] at q
          obtain ⟨⟨n, ve⟩, -⟩ := v2 (s3.2.2.2.2 q)
          refine endF rx3 n0 (by omega) hw (by rcases hw0 with e | e <;> rw [e] <;> decide) (Or.inr (Or.inr (Or.inr (Or.inr (Or.inr (Or.inr (Or.inr (Or.inr (Or.inl ⟨hw0, ?_, n, M2, vV_RP (RP_ss s3) ve, ?_⟩)))))))))
          · rw [k5 rx3, ← ei]; exact hw1
          · rw [← ei]; rfl
    rw [er2]
    rw [er2] at c
    exact ⟨fun n13 => p488 _ (Or.inr rfl) (Or.inr ⟨rfl, c.resolve_left n13⟩), fun e13 => p488 _ (Or.inl rfl) (Or.inl ⟨rfl, e13⟩)⟩
  · -- a call
    have hK : K i = 15 := er2.symm.trans c
    refine sf_step pn (fun y1 s1 t1 h1 => sf_pass _ s1.2.1 (fun y2 s2 t2 h2 => sf_pass _ s2.2.1 (fun y3 s3 t3 h3 => ?_)))
    rw [k5 (RP_ss s1)] at h2
    rw [k5 (RP_ss (SS_tr s1 s2))] at h3
    have sx3 := SS_tr (SS_tr s1 s2) s3
    obtain ⟨e20, e21, e13, lt3, cx3, b3⟩ := kp sx3
    refine sf_E k (g := 0) _ _ (by omega) (by decide) (PreK_ss hpre sx3) (fun r4 y4 h4 hf4 => ?_)
    obtain ⟨r34, l4, c4, d4, rr4, ok4⟩ := h4
    obtain ⟨M4, f4, v4⟩ := FE_0 hf4
    rw [k5 (RP_ss sx3)] at f4
    have rx4 := RP_tr (RP_ss sx3) r34
    refine sf_pass _ r34.2.1 (fun y5 s5 t5 h5 => ?_)
    rw [k5 rx4] at h5
    have c5 := cr_ss s5
    have rx5 := RP_tr rx4 (RP_ss s5)
    have h21 : y5.1 0 21 = x.1 0 21 := by rw [s5.1.1 21 (by decide), l4, e21]
    refine sp_node _ _ _ _ _ (nodeV rx5 n0 (by omega)) (fun w hw => ri_i (hF _ _ (endO rx5 n0 k16 (by omega) pv hw (fun q => ?_)) ?_))
    · have q4 := s5.2.2.2.2 q
      obtain ⟨a1, a2, a3, a4⟩ := ok4 q4
      have q3 := r34.2.2.2.1 q4
      have q2 := s3.2.2.2.2 q3
      have q1 := s2.2.2.2.2 q2
      have st1 := t1 q1
      have st2 := t2 q2
      have st3 := t3 q3
      have st5 := t5 q
      have h20 : y5.1 0 20 = x.1 0 20 := by rw [s5.1.1 20 (by decide), a1, e20]
      exact ⟨h20, by omega, by omega, by rw [h21]; exact Int.le_refl _, by unfold LT; rw [h21]; exact hlt, Or.inr (Or.inr (Or.inr (Or.inr (Or.inr (Or.inr (Or.inr (Or.inr (Or.inr (Or.inl ⟨rfl, PN_v s1.2.1, vE_mono _ _ _ _ _ _ _ (by omega) (by omega) (Nat.le_refl _) (vE_RP (RP_ss s5) a4)⟩)))))))))⟩
    · have c9 := FX_qS (FX_qT h1) (FX_qS (FX_qP h2) (FX_qS (FX_qP h3) (FX_qS (FX_X f4) (FX_qS (FX_qP h5) (FX_qV (70, i, i + 1) (nE_nwo hw))))))
      refine ⟨_, FXs_eq (FXs_c 0 c9 (fun _ _ => (nE_lts hw).trans (by unfold lts; rw [h21]; rfl))) (fun i' hi' L => ?_), fun q => ?_⟩
      · obtain rfl := one hi'
        rw [← eK, pS_call hK]
        rfl
      · have f9' : w.1 0 9 = y5.1 0 9 := hw.1.1 9 (by decide)
        rw [f9'] at q
        have q4 := s5.2.2.2.2 q
        have q3 := r34.2.2.2.1 q4
        have q2 := s3.2.2.2.2 q3
        have q1 := s2.2.2.2.2 q2
        have a1 := i1 (t1 q1)
        obtain ⟨⟨n, ve⟩, -⟩ := v4 q4
        refine endF rx5 n0 (by omega) hw (by decide) (Or.inr (Or.inr (Or.inr (Or.inr (Or.inr (Or.inr (Or.inr (Or.inr (Or.inr (Or.inl ⟨rfl, n, M4, vV_RP (RP_ss s5) ve, ?_⟩))))))))))
        rw [a1, ← ei]
        rfl
  · -- a word and a name
    have hw7 : ((K i = 36 ∨ K i = 22 ∨ K i = 38 ∨ K i = 39 ∨ K i = 40) ∧ ¬ (K i = 33 ∨ K i = 25)) ∨ (K i = 33 ∨ K i = 25) := by
      rw [← eK, ← ei, ← er2] at hbs
      rw [← er2]
      have no : ∀ v : Int32, v ∈ [(26 : Int32), 1, 24, 41, 27, 20, 31, 19, 13, 14, 15] → ¬ r2 = v := fun v hv => c v hv
      unfold pbs at hbs
      rcases hbs with q | q | q | q | q | q | q | q | q | q | q | q | q | q | q | q | q | q
      all_goals first | exact absurd q (no _ (by decide)) | (rw [q]; decide)
    refine sf_step pn (fun y1 s1 t1 h1 => sf_passName s1.2.1 (fun y2 s2 t2 h2 => sf_pass _ s2.2.1 (fun y3 s3 t3 h3 => ?_)))
    rw [k5 (RP_ss s1)] at h2
    rw [k5 (RP_ss (SS_tr s1 s2))] at h3
    have sx3 := SS_tr (SS_tr s1 s2) s3
    obtain ⟨e20, e21, e13, lt3, cx3, b3⟩ := kp sx3
    have c1 := cr_ss s1
    have c2 := cr_ss s2
    have c3 := cr_ss s3
    refine sp_node _ _ _ _ _ (nodeV (RP_ss sx3) n0 (by omega)) (fun w hw => ri_i (hF _ _ (endO (RP_ss sx3) n0 k16 (by omega) pv hw (fun q => ?_)) ?_))
    · have q2 := s3.2.2.2.2 q
      have q1 := s2.2.2.2.2 q2
      have st1 := t1 q1
      have st2 := t2 q2
      have st3 := t3 q
      have := c1.2 q1 st1
      have := c2.2 q2 st2
      exact ⟨e20, by omega, by omega, by rw [e21]; exact Int.le_refl _, lt3, Or.inr (Or.inr (Or.inr (Or.inr (Or.inr (Or.inr (Or.inl ⟨rfl, PN_v s1.2.1⟩))))))⟩
    · obtain ⟨v, hv1, hv2⟩ : ∃ v, (((K i = 36 ∨ K i = 22 ∨ K i = 38 ∨ K i = 39 ∨ K i = 40) ∧ v = 66) ∨ ((K i = 33 ∨ K i = 25) ∧ v = 67)) ∧ ((¬ (K i = 33 ∨ K i = 25) ∧ v = 66) ∨ ((K i = 33 ∨ K i = 25) ∧ v = 67)) := by
        rcases hw7 with q | q
        · exact ⟨66, Or.inl ⟨q.1, rfl⟩, Or.inl ⟨q.2, rfl⟩⟩
        · exact ⟨67, Or.inr ⟨q, rfl⟩, Or.inr ⟨q, rfl⟩⟩
      have c9 := FX_qS (FX_qT h1) (FX_qS (FX_qP h2) (FX_qS (FX_qP h3) (FX_qV (v, i, i + 1) (nE_nwo hw))))
      refine ⟨_, FXs_eq (FXs_c 0 c9 (fun _ _ => (nE_lts hw).trans (SS_lts sx3))) (fun i' hi' L => ?_), fun q => ?_⟩
      · obtain rfl := one hi'
        rw [← eK, pS_word hv1]
        rfl
      · have f9' : w.1 0 9 = y3.1 0 9 := hw.1.1 9 (by decide)
        rw [f9'] at q
        have q2 := s3.2.2.2.2 q
        have q1 := s2.2.2.2.2 q2
        have a1 := i1 (t1 q1)
        refine endF (RP_ss sx3) n0 (by omega) hw (by decide) (Or.inr (Or.inr (Or.inr (Or.inr (Or.inr (Or.inr (Or.inl ⟨rfl, ?_, ?_⟩)))))))
        · rw [k5 (RP_ss sx3), ← ei]; exact er2
        · rw [a1, ← ei, er2]
          rcases hv2 with ⟨q, rfl⟩ | ⟨q, rfl⟩
          · exact Or.inl ⟨q, rfl⟩
          · exact Or.inr ⟨q, rfl⟩
