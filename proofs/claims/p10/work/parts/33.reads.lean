theorem RP_21 {z y : gd} {v : Int32} (hp : PN z) (e : y = si z 0 21 v) : RP z y ∧ cr y = cr z ∧ y.1 0 8 = z.1 0 8 ∧ y.1 0 9 = z.1 0 9 ∧ y.1 0 13 = z.1 0 13 ∧ y.1 0 20 = z.1 0 20 ∧ y.1 0 21 = v := by
  have m := md_f z 21 v
  rw [← e] at m
  have c8 : y.1 0 8 = z.1 0 8 := m.1 8 (by decide)
  have c9 : y.1 0 9 = z.1 0 9 := m.1 9 (by decide)
  have c13 : y.1 0 13 = z.1 0 13 := m.1 13 (by decide)
  refine ⟨⟨md_w m (by decide) (by decide), ⟨by rw [c8]; exact hp.1, by rw [c8]; exact hp.2.1, by rw [c9]; exact hp.2.2.1, TX_md m (by decide) (by decide) (by decide) (by decide) hp.2.2.2⟩, by rw [c8]; exact Int.le_refl _, fun q => by rw [← c9]; exact q, by rw [c13]; exact Int.le_refl _, fun c h1 h2 j hj => ?_⟩, by unfold cr; rw [c8, c13], c8, c9, c13, m.1 20 (by decide), by rw [e, si_get, if_pos ⟨rfl, rfl⟩]⟩
  rw [m.2.1 c (by omega) (by intro q; cases q)]
theorem sp_readOneS (k : Nat) (ihS : SpS k) {G : mG} {D : Nat} {x : gd} {F : Int32 → gd → Prop} (hD : 4 * k + 23 ≤ D) (hpre : PreK k 0 x) (hb : (x.1 0 9).toInt = 0) (hlt : LT x) (hF : ∀ r x', QO k x r x' → F r x') : MT G D z_readOneS 0 [(0, vr 0)] [] x (ri F) := by
  obtain ⟨D, rfl⟩ : ∃ m, D = m + 23 := ⟨D - 23, by omega⟩
  obtain ⟨pn, n0, c0, k16, nst⟩ := id hpre
  have pv := PN_v pn
  have k1 : (1 : Int32).toInt = 1 := rfl
  have k8 : (8 : Int32).toInt = 8 := rfl
  -- what stepping keeps
  have kp : ∀ {y : gd}, SS x y → y.1 0 20 = x.1 0 20 ∧ y.1 0 21 = x.1 0 21 ∧ y.1 0 13 = x.1 0 13 ∧ LT y ∧ cr x ≤ cr y ∧ 0 ≤ (y.1 0 9).toInt := fun {y} s => ⟨s.1.1 20 (by decide), s.1.1 21 (by decide), s.1.1 13 (by decide), by unfold LT; rw [s.1.1 21 (by decide)]; exact hlt, (cr_ss s).1, s.2.1.2.2.1⟩
  have p341 : ∀ (z : gd) (r : Int32), QO k x r z → MT G (D + 23) z_readOneS 341 [(0, vr 0), (3, vi r)] [] z (ri F) := fun z r h => sg_readOneS_341 _ (sp_pass _ h.1.2.1 (fun y s t => ri_i (hF _ _ (endP h s t))))
  refine sg_readOneS_0 (sp_here pn (fun r2 _ _ => ⟨fun _ => ?_, fun _ => ?_, fun _ => ?_, fun _ => ?_, fun _ => ?_, fun _ => ?_, fun _ => ?_, fun _ => ?_, fun _ => ?_, fun _ => ?_⟩))
  · -- a let
    refine sp_step pn (fun y1 s1 t1 => sp_passName s1.2.1 (fun y2 s2 t2 => ?_))
    have sx2 := SS_tr s1 s2
    obtain ⟨e20, e21, e13, lt2, cx2, b2⟩ := kp sx2
    have p225 : ∀ z : gd, SS x z → ((z.1 0 9).toInt = 0 → (z.1 0 8).toInt = (x.1 0 8).toInt + 2 ∧ ¬ z.1 0 21 = 8) → MT G (D + 23) z_readOneS 225 [(0, vr 0), (1, vi (x.1 0 8)), (4, vi (y1.1 0 8))] [] z (ri F) := by
      intro z sz hz
      obtain ⟨a20, a21, a13, ltz, cxz, bz⟩ := kp sz
      refine sg_readOneS_225 _ _ (fun z1 e1 => ?_)
      obtain ⟨r1, g1, f8, f9, f13, f20, f21⟩ := RP_21 sz.2.1 e1
      refine sp_pass _ r1.2.1 (fun z2 s2 t2 => ?_)
      have c2 := cr_ss s2
      have h20 : z2.1 0 20 = x.1 0 20 := by rw [s2.1.1 20 (by decide), f20, a20]
      have h21 : z2.1 0 21 = z.1 0 21 + 1 := by rw [s2.1.1 21 (by decide), f21]
      have rx1 := RP_tr (RP_ss sz) r1
      have rx2 := RP_tr rx1 (RP_ss s2)
      refine sp_readR k (by omega) (PreK_rp hpre rx2 (by omega) (fun _ => ⟨h20, by omega⟩)) (fun r4 z3 h3 => ?_)
      obtain ⟨r3, l3, c3, d3, rr3, ok3⟩ := h3
      have rx3 := RP_tr rx2 r3
      have bz2 := s2.2.1.2.2.1
      have low : -(3 * ((k : Int) + 1) + 1) ≤ cr z3 := by
        by_cases q : (z2.1 0 9).toInt = 0
        · have q1 := s2.2.2.2.2 q
          have := c2.2 q (t2 q)
          rw [f9] at q1
          have h8 := (hz q1).1
          have u13 : (z.1 0 13).toInt = (x.1 0 13).toInt := by rw [a13]
          have : cr z = cr x + 4 := by unfold cr; omega
          omega
        · have := d3 (by omega); omega
      refine sp_node _ _ _ _ _ (nodeV rx3 n0 (by omega)) (fun w hw => ?_)
      have qo : QO k x (z3.1 0 13) w := endO rx3 n0 k16 low pv hw (fun q => by
        obtain ⟨o1, o2, o3, o4, o5⟩ := ok3 q
        have q1 := s2.2.2.2.2 o1
        have t2' := t2 o1
        have cc := c2.2 o1 t2'
        rw [f9] at q1
        obtain ⟨h8, h7⟩ := hz q1
        have u8 : (z1.1 0 8).toInt = (z.1 0 8).toInt := by rw [f8]
        have u21 : (z3.1 0 21).toInt = (x.1 0 21).toInt + 1 := by
          rw [l3, h21, a21, t_add (by rw [k1]; have := hlt.1; omega) (by rw [k1]; have := hlt.2; omega), k1]
        have n8 : ¬ (x.1 0 21).toInt = 8 := fun e => h7 (by rw [t_eq, k8, a21]; exact e)
        have := hlt.1
        have := hlt.2
        exact ⟨by rw [o2, h20], by omega, by omega, by omega, ⟨by omega, by omega⟩, Or.inl ⟨rfl, PN_v s1.2.1, by omega, vR_mono (by omega) o5⟩⟩)
      exact sp_pass _ qo.1.2.1 (fun y s t => ri_i (hF _ _ (endP qo s t)))
    refine ⟨fun q => p225 y2 sx2 (fun q2 => absurd (by rw [t_eq]; exact q2) q), fun _ => ⟨fun q8 => p225 y2 sx2 (fun q2 => ?_), fun _ => sp_fault _ _ (by decide) (PN_v s1.2.1) sx2.2.1 (fun y9 s9 b9 _ _ => p225 y9 (SS_tr sx2 s9) (fun q2 => by omega))⟩⟩
    have := t2 q2
    have := t1 (s2.2.2.2.2 q2)
    exact ⟨by omega, q8⟩
  · -- a store
    refine sp_step pn (fun y1 s1 t1 => ?_)
    obtain ⟨e20, e21, e13, lt1, cx1, b1⟩ := kp s1
    refine sp_take _ s1.2.1 ⟨fun _ => ?_, fun q => absurd rfl q⟩ (fun y2 b1' s2 t2 => ⟨fun q => absurd q (by decide), fun _ => ?_⟩)
    · refine sp_pass _ s1.2.1 (fun y2 s2 t2 => ?_)
      have sx2 := SS_tr s1 s2
      obtain ⟨f20, f21, f13, lt2, cx2, b2⟩ := kp sx2
      refine sp_readR k (by omega) (PreK_w (PreK_ss hpre sx2) (by decide)) (fun r3 y3 h3 => ?_)
      obtain ⟨r23, l3, c3, d3, rr3, ok3⟩ := h3
      have rx3 := RP_tr (RP_ss sx2) r23
      have c1 := cr_ss s1
      have c2 := cr_ss s2
      have low : -(3 * ((k : Int) + 1) + 1) ≤ cr y3 := by
        by_cases q : (y2.1 0 9).toInt = 0
        · have := c2.2 q (t2 q); omega
        · have := d3 (by omega); omega
      refine sp_node _ _ _ _ _ (nodeV rx3 n0 (by omega)) (fun w hw => p341 _ _ (endO rx3 n0 k16 low pv hw (fun q => ?_)))
      obtain ⟨o1, o2, o3, o4, o5⟩ := ok3 q
      have q1 := s2.2.2.2.2 o1
      have t1' := t1 q1
      have t2' := t2 o1
      have := c2.2 o1 t2'
      have := c1.2 q1 t1'
      have u21 : (y3.1 0 21).toInt = (x.1 0 21).toInt := by rw [l3, f21]
      exact ⟨by rw [o2, f20], by omega, by omega, by omega, by unfold LT; rw [l3]; exact lt2, Or.inr (Or.inl ⟨rfl, pv, vR_mono (by omega) o5⟩)⟩
    · have sx2 := SS_tr s1 s2
      obtain ⟨f20, f21, f13, lt2, cx2, b2⟩ := kp sx2
      have c1 := cr_ss s1
      have c2 := cr_ss s2
      refine sp_E k (g := 0) _ _ (by omega) (PreK_ss hpre sx2) (fun r3 y3 h3 => ?_)
      obtain ⟨r23, l3, c3, d3, rr3, ok3⟩ := h3
      refine sp_pass _ r23.2.1 (fun y4 s4 t4 => sp_pass _ s4.2.1 (fun y5 s5 t5 => ?_))
      have c4 := cr_ss s4
      have c5 := cr_ss s5
      have s35 := SS_tr s4 s5
      have rx3 := RP_tr (RP_ss sx2) r23
      have rx5 := RP_tr rx3 (RP_ss s35)
      have g20 : y5.1 0 20 = y3.1 0 20 := s35.1.1 20 (by decide)
      have g21 : y5.1 0 21 = x.1 0 21 := by rw [s35.1.1 21 (by decide), l3, f21]
      refine sp_E k (g := -200) _ _ (by omega) (PreK_rp hpre rx5 (by omega) (fun q => by
        obtain ⟨a1, a2, a3, a4⟩ := ok3 (s35.2.2.2.2 q)
        exact ⟨by rw [g20, a1, f20], by omega⟩)) (fun r6 y6 h6 => ?_)
      obtain ⟨r56, l6, c6, d6, rr6, ok6⟩ := h6
      have rx6 := RP_tr rx5 r56
      have low : -(3 * ((k : Int) + 1) + 1) ≤ cr y6 := by
        by_cases q : (y5.1 0 9).toInt = 0
        · obtain ⟨a1, a2, a3, a4⟩ := ok3 (s35.2.2.2.2 q)
          omega
        · rw [d6 (by have := s5.2.1.2.2.1; omega)]
          omega
      refine sp_node _ _ _ _ _ (nodeV rx6 n0 (by omega)) (fun w hw => p341 _ _ (endO rx6 n0 k16 low pv hw (fun q => ?_)))
      obtain ⟨o1, o2, o3, o4⟩ := ok6 q
      have q5 := r56.2.2.2.1 q
      have q4 := s5.2.2.2.2 q5
      have q3 := s4.2.2.2.2 q4
      obtain ⟨a1, a2, a3, a4⟩ := ok3 q3
      have t5' := t5 q5
      have t4' := t4 q4
      have q2 := r23.2.2.2.1 q3
      have t2' := t2 q2
      have t1' := t1 b1'
      have u21 : (y6.1 0 21).toInt = (x.1 0 21).toInt := by rw [l6, g21]
      exact ⟨by rw [o1, g20, a1, f20], by omega, by omega, by omega, by unfold LT; rw [l6, g21]; exact hlt, Or.inr (Or.inr (Or.inl ⟨rfl, pv, ((y3.1 0 8).toInt - (y2.1 0 8).toInt).toNat, ((y6.1 0 8).toInt - (y5.1 0 8).toInt).toNat, by omega, vE_RP (RP_tr (RP_ss s35) r56) a4, o4⟩))⟩
  · -- an if
    exact sp_readIf k ihS (by omega) hpre hb hlt (fun r y h => ri_i (hF _ _ h))
  · -- a while
    refine sp_step pn (fun y1 s1 t1 => ?_)
    obtain ⟨e20, e21, e13, lt1, cx1, b1⟩ := kp s1
    have c1 := cr_ss s1
    refine sp_E k (g := 0) _ _ (by omega) (PreK_ss hpre s1) (fun r3 y2 h2 => ?_)
    obtain ⟨r12, l2, c2, d2, rr2, ok2⟩ := h2
    have rx2 := RP_tr (RP_ss s1) r12
    have lt2 : LT y2 := by unfold LT; rw [l2]; exact lt1
    have pre2 : PreK k (-700) y2 := PreK_rp hpre rx2 (by omega) (fun q => by
      obtain ⟨a1, a2, a3, a4⟩ := ok2 q
      exact ⟨by rw [a1, e20], by omega⟩)
    refine sp_readBlock k ihS (by omega) pre2 (fun _ => lt2) (fun r5 y4 h4 => ?_)
    obtain ⟨r4, c4, d4, rr4, ok4⟩ := h4
    have rx4 := RP_tr rx2 r4
    have b2 := pre2.1.2.2.1
    have low4 : -(3 * ((k : Int) + 1) + 1) ≤ cr y4 := by
      by_cases q : (y2.1 0 9).toInt = 0
      · exact c4 q
      · have := d4 (by omega); omega
    refine sp_node _ _ _ _ _ (nodeV rx4 n0 (by omega)) (fun w hw => ri_i (hF _ _ (endO rx4 n0 k16 low4 pv hw (fun q => ?_))))
    obtain ⟨o1, o2, o3, o4, o5, o6⟩ := ok4 q
    have q2 := r4.2.2.2.1 q
    obtain ⟨a1, a2, a3, a4⟩ := ok2 q2
    have q1 := r12.2.2.2.1 q2
    have st := t1 q1
    have cs := c1.2 q1 st
    have h21 : y2.1 0 21 = x.1 0 21 := by rw [l2, e21]
    rw [h21] at o4 o6
    have o9 := vB_keep rx2.2.2.2.2.1 (l := r5.toInt) ⟨NK_rfl y4, fun _ _ _ _ => rfl⟩ (fun _ _ _ _ g => vS_low rx2.2.2.2.2.1 g) (Int.le_refl _) o6
    exact ⟨by rw [o1, a1, e20], by omega, by omega, o4, o5, Or.inr (Or.inr (Or.inr (Or.inr (Or.inl ⟨rfl, ((y2.1 0 8).toInt - (y1.1 0 8).toInt).toNat, ((y4.1 0 8).toInt - (y2.1 0 8).toInt).toNat, by omega, vE_RP r4 a4, o9, o9.1.2⟩))))⟩
  · -- a lock
    refine sp_step pn (fun y1 s1 t1 => sp_passName s1.2.1 (fun y2 s2 t2 => ?_))
    have sx2 := SS_tr s1 s2
    obtain ⟨e20, e21, e13, lt2, cx2, b2⟩ := kp sx2
    have c1 := cr_ss s1
    have c2 := cr_ss s2
    refine sp_readBlock k ihS (by omega) (PreK_w (PreK_ss hpre sx2) (by decide)) (fun _ => lt2) (fun r5 y4 h4 => ?_)
    obtain ⟨r4, c4, d4, rr4, ok4⟩ := h4
    have rx4 := RP_tr (RP_ss sx2) r4
    have low4 : -(3 * ((k : Int) + 1) + 1) ≤ cr y4 := by
      by_cases q : (y2.1 0 9).toInt = 0
      · exact c4 q
      · have := d4 (by omega); omega
    refine sp_node _ _ _ _ _ (nodeV rx4 n0 (by omega)) (fun w hw => ri_i (hF _ _ (endO rx4 n0 k16 low4 pv hw (fun q => ?_))))
    obtain ⟨o1, o2, o3, o4, o5, o6⟩ := ok4 q
    have q2 := r4.2.2.2.1 q
    have q1 := s2.2.2.2.2 q2
    have st1 := t1 q1
    have st2 := t2 q2
    rw [e21] at o4 o6
    rw [e13] at o6
    exact ⟨by rw [o1, e20], by omega, by omega, o4, o5, Or.inr (Or.inr (Or.inr (Or.inr (Or.inr (Or.inl ⟨rfl, PN_v s1.2.1, vB_mono (by omega) (Nat.le_refl _) o6, o6.1.2⟩)))))⟩
  · -- yield and its like
    refine sp_step pn (fun y1 s1 t1 => sp_pass _ s1.2.1 (fun y2 s2 t2 => ?_))
    have sx2 := SS_tr s1 s2
    obtain ⟨e20, e21, e13, lt2, cx2, b2⟩ := kp sx2
    have c1 := cr_ss s1
    have c2 := cr_ss s2
    refine sp_node _ _ _ _ _ (nodeV (RP_ss sx2) n0 (by omega)) (fun w hw => ri_i (hF _ _ (endO (RP_ss sx2) n0 k16 (by omega) pv hw (fun q => ?_))))
    have q1 := s2.2.2.2.2 q
    have st1 := t1 q1
    have st2 := t2 q
    have := c2.2 q st2
    have := c1.2 q1 st1
    exact ⟨e20, by omega, by omega, by rw [e21]; exact Int.le_refl _, lt2, Or.inr (Or.inr (Or.inr (Or.inr (Or.inr (Or.inr (Or.inr (Or.inl rfl)))))))⟩
  · refine sp_step pn (fun y1 s1 t1 => sp_pass _ s1.2.1 (fun y2 s2 t2 => ?_))
    have sx2 := SS_tr s1 s2
    obtain ⟨e20, e21, e13, lt2, cx2, b2⟩ := kp sx2
    have c1 := cr_ss s1
    have c2 := cr_ss s2
    refine sp_node _ _ _ _ _ (nodeV (RP_ss sx2) n0 (by omega)) (fun w hw => ri_i (hF _ _ (endO (RP_ss sx2) n0 k16 (by omega) pv hw (fun q => ?_))))
    have q1 := s2.2.2.2.2 q
    have st1 := t1 q1
    have st2 := t2 q
    have := c2.2 q st2
    have := c1.2 q1 st1
    exact ⟨e20, by omega, by omega, by rw [e21]; exact Int.le_refl _, lt2, Or.inr (Or.inr (Or.inr (Or.inr (Or.inr (Or.inr (Or.inr (Or.inr (Or.inr (Or.inr rfl)))))))))⟩
  · -- assert, assume
    refine sp_step pn (fun y1 s1 t1 => ?_)
    obtain ⟨e20, e21, e13, lt1, cx1, b1⟩ := kp s1
    have c1 := cr_ss s1
    refine sp_E k (g := 0) _ _ (by omega) (PreK_ss hpre s1) (fun r3 y2 h2 => ?_)
    obtain ⟨r12, l2, c2, d2, rr2, ok2⟩ := h2
    refine sp_pass _ r12.2.1 (fun y3 s3 t3 => ?_)
    have c3 := cr_ss s3
    have rx3 := RP_tr (RP_tr (RP_ss s1) r12) (RP_ss s3)
    have p488 : ∀ w : Int32, (w = 28 ∨ w = 30) → MT G (D + 23) z_readOneS 488 [(0, vr 0), (1, vi (x.1 0 8)), (9, vi r3)] [vi w, vr 0] y3 (ri F) := by
      intro w0 hw0
      refine sg_readOneS_488 _ _ _ (sp_node _ _ _ _ _ (nodeV rx3 n0 (by omega)) (fun w hw => ri_i (hF _ _ (endO rx3 n0 k16 (by omega) pv hw (fun q => ?_)))))
      have q2 := s3.2.2.2.2 q
      obtain ⟨a1, a2, a3, a4⟩ := ok2 q2
      have q1 := r12.2.2.2.1 q2
      have st1 := t1 q1
      have st3 := t3 q
      have := c1.2 q1 st1
      have h20 : y3.1 0 20 = x.1 0 20 := by rw [s3.1.1 20 (by decide), a1, e20]
      have h21 : y3.1 0 21 = x.1 0 21 := by rw [s3.1.1 21 (by decide), l2, e21]
      exact ⟨h20, by omega, by omega, by rw [h21]; exact Int.le_refl _, by unfold LT; rw [h21]; exact hlt, Or.inr (Or.inr (Or.inr (Or.inr (Or.inr (Or.inr (Or.inr (Or.inr (Or.inl ⟨hw0, vE_mono _ _ _ _ _ _ _ (by omega) (by omega) (Nat.le_refl _) (vE_RP (RP_ss s3) a4)⟩))))))))⟩
    exact ⟨fun _ => p488 _ (Or.inr rfl), fun _ => p488 _ (Or.inl rfl)⟩
  · -- an answer
    refine sp_step pn (fun y1 s1 t1 => sp_pass _ s1.2.1 (fun y2 s2 t2 => sp_pass _ s2.2.1 (fun y3 s3 t3 => ?_)))
    have sx3 := SS_tr (SS_tr s1 s2) s3
    obtain ⟨e20, e21, e13, lt3, cx3, b3⟩ := kp sx3
    refine sp_E k (g := 0) _ _ (by omega) (PreK_ss hpre sx3) (fun r4 y4 h4 => ?_)
    obtain ⟨r34, l4, c4, d4, rr4, ok4⟩ := h4
    refine sp_pass _ r34.2.1 (fun y5 s5 t5 => ?_)
    have c5 := cr_ss s5
    have rx5 := RP_tr (RP_tr (RP_ss sx3) r34) (RP_ss s5)
    refine sp_node _ _ _ _ _ (nodeV rx5 n0 (by omega)) (fun w hw => ri_i (hF _ _ (endO rx5 n0 k16 (by omega) pv hw (fun q => ?_))))
    have q4 := s5.2.2.2.2 q
    obtain ⟨a1, a2, a3, a4⟩ := ok4 q4
    have q3 := r34.2.2.2.1 q4
    have q2 := s3.2.2.2.2 q3
    have q1 := s2.2.2.2.2 q2
    have st1 := t1 q1
    have st2 := t2 q2
    have st3 := t3 q3
    have st5 := t5 q
    have h20 : y5.1 0 20 = x.1 0 20 := by rw [s5.1.1 20 (by decide), a1, e20]
    have h21 : y5.1 0 21 = x.1 0 21 := by rw [s5.1.1 21 (by decide), l4, e21]
    exact ⟨h20, by omega, by omega, by rw [h21]; exact Int.le_refl _, by unfold LT; rw [h21]; exact hlt, Or.inr (Or.inr (Or.inr (Or.inr (Or.inr (Or.inr (Or.inr (Or.inr (Or.inr (Or.inl ⟨rfl, PN_v s1.2.1, vE_mono _ _ _ _ _ _ _ (by omega) (by omega) (Nat.le_refl _) (vE_RP (RP_ss s5) a4)⟩)))))))))⟩
  · -- a word and a name
    refine sp_step pn (fun y1 s1 t1 => sp_passName s1.2.1 (fun y2 s2 t2 => sp_pass _ s2.2.1 (fun y3 s3 t3 => ?_)))
    have sx3 := SS_tr (SS_tr s1 s2) s3
    obtain ⟨e20, e21, e13, lt3, cx3, b3⟩ := kp sx3
    have c1 := cr_ss s1
    have c2 := cr_ss s2
    have c3 := cr_ss s3
    refine sp_node _ _ _ _ _ (nodeV (RP_ss sx3) n0 (by omega)) (fun w hw => ri_i (hF _ _ (endO (RP_ss sx3) n0 k16 (by omega) pv hw (fun q => ?_))))
    have q2 := s3.2.2.2.2 q
    have q1 := s2.2.2.2.2 q2
    have st1 := t1 q1
    have st2 := t2 q2
    have st3 := t3 q
    have := c1.2 q1 st1
    have := c2.2 q2 st2
    exact ⟨e20, by omega, by omega, by rw [e21]; exact Int.le_refl _, lt3, Or.inr (Or.inr (Or.inr (Or.inr (Or.inr (Or.inr (Or.inl ⟨rfl, PN_v s1.2.1⟩))))))⟩
theorem sp_readS : ∀ k : Nat, SpS k := by
  intro k
  induction k with
  | zero =>
    intro G D x F hD hpre hb hlt hF
    obtain ⟨D, rfl⟩ : ∃ m, D = m + 20 := ⟨D - 20, by omega⟩
    obtain ⟨pn, n0, c0, k16, nst⟩ := id hpre
    obtain ⟨h16, -⟩ := nst hb
    refine sg_readS_0 (sp_deeper pn hb (by omega) (by omega) (fun y m py by0 => ⟨fun q => absurd rfl q, fun _ => ri_i (hF _ _ ?_)⟩) (fun y _ q _ => by omega))
    have e8 : y.1 0 8 = x.1 0 8 := m.1 8 (by decide)
    have e13 : y.1 0 13 = x.1 0 13 := m.1 13 (by decide)
    refine ⟨RP_9 m py (fun q => by omega), ?_, by decide, fun q => by omega⟩
    unfold cr at c0 ⊢
    rw [e8, e13]
    omega
  | succ k ih =>
    intro G D x F hD hpre hb hlt hF
    obtain ⟨D, rfl⟩ : ∃ m, D = m + 24 := ⟨D - 24, by omega⟩
    obtain ⟨pn, n0, c0, k16, nst⟩ := id hpre
    obtain ⟨h16, -⟩ := nst hb
    refine sg_readS_0 (sp_deeper pn hb (by omega) (by omega) (fun y m py by0 => ⟨fun q => absurd rfl q, fun _ => ri_i (hF _ _ ?_)⟩) (fun y m _ hy => ⟨fun _ => ?_, fun q => absurd q (by decide)⟩))
    · have e8 : y.1 0 8 = x.1 0 8 := m.1 8 (by decide)
      have e13 : y.1 0 13 = x.1 0 13 := m.1 13 (by decide)
      refine ⟨RP_9 m py (fun q => by omega), ?_, by decide, fun q => by omega⟩
      unfold cr at c0 ⊢
      rw [e8, e13]
      omega
    · have e8 : y.1 0 8 = x.1 0 8 := m.1 8 (by decide)
      have e9 : y.1 0 9 = x.1 0 9 := m.1 9 (by decide)
      have e13 : y.1 0 13 = x.1 0 13 := m.1 13 (by decide)
      have e21 : y.1 0 21 = x.1 0 21 := m.1 21 (by decide)
      have py : PN y := ⟨by rw [e8]; exact pn.1, by rw [e8]; exact pn.2.1, by rw [e9]; exact pn.2.2.1, TX_md m (by decide) (by decide) (by decide) (by decide) pn.2.2.2⟩
      have cy : cr y = cr x := by unfold cr; rw [e8, e13]
      have rxy : RP x y := RP_9 (md_w m (by decide) (by decide)) py (fun q => by rw [← e9]; exact q)
      refine sp_readOneS k ih (by omega) ⟨py, by rw [e13]; exact n0, by omega, by omega, fun _ => ⟨by omega, by omega⟩⟩ (by rw [e9]; exact hb) (by unfold LT; rw [e21]; exact hlt) (fun r z hz w ew => ri_i (hF _ _ ?_))
      obtain ⟨rz, cz, rr, okz⟩ := hz
      have mw := md_f z 20 (z.1 0 20 - 1)
      rw [← ew] at mw
      have g8 : w.1 0 8 = z.1 0 8 := mw.1 8 (by decide)
      have g9 : w.1 0 9 = z.1 0 9 := mw.1 9 (by decide)
      have g13 : w.1 0 13 = z.1 0 13 := mw.1 13 (by decide)
      have g21 : w.1 0 21 = z.1 0 21 := mw.1 21 (by decide)
      have g20 : w.1 0 20 = z.1 0 20 - 1 := by rw [ew, si_get, if_pos ⟨rfl, rfl⟩]
      have pw : PN w := ⟨by rw [g8]; exact rz.2.1.1, by rw [g8]; exact rz.2.1.2.1, by rw [g9]; exact rz.2.1.2.2.1, TX_md mw (by decide) (by decide) (by decide) (by decide) rz.2.1.2.2.2⟩
      have rzw : RP z w := RP_9 (md_w mw (by decide) (by decide)) pw (fun q => by rw [← g9]; exact q)
      have cw : cr w = cr z := by unfold cr; rw [g8, g13]
      refine ⟨RP_tr rxy (RP_tr rz rzw), by omega, rr, fun q => ?_⟩
      rw [g9] at q
      obtain ⟨o1, o2, o3, o4, o5, o6, o7, o8⟩ := okz q
      rw [e21] at o4 o6
      rw [e8] at o2 o6
      rw [e13] at o6 o8
      rw [g8, g21]
      refine ⟨?_, o2, by omega, o4, by unfold LT; rw [g21]; exact o5, vS_RP (Int.le_refl _) rzw o6, ?_, o8⟩
      · rw [g20, o1, t_eq, t_sub (by rw [hy]; show _ ≤ _ - (1 : Int); omega) (by rw [hy]; show _ - (1 : Int) ≤ _; omega), hy]
        show _ - (1 : Int) = _
        omega
      · rw [rzw.2.2.2.2.2 20 (by decide) (by decide) _ (by rw [t_cl]; have := o6.1; omega)]
        exact o7
