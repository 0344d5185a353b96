/-! the class: locals, blocks -/
section KBL
variable {G : kG} {q : kP} {d : Nat} {x x0 y z : gd} {F : Int32 → gd → Prop} {Fv : gd → Prop} {X : String → gd → Prop} {P : Option gv → gd → Prop} {M : Int} {E : Nat → Prop}
/-- known locals, lets and most locals change -/
theorem BB_kn (hB : BB x0 x M E) {M' : Int} (hM : M ≤ M') (f : fm (fun c k => (c = 100 ∧ (k = 7 ∨ k = 9)) ∨ c = 109 ∨ (c = 60 ∧ k = 13)) x z) (hK : KN z) (h1 : (x.1 100 9).toInt ≤ (z.1 100 9).toInt) (h2 : (z.1 100 9).toInt ≤ (z.1 100 7).toInt ∧ (z.1 100 7).toInt ≤ 8) (h3 : 0 ≤ (z.1 60 13).toInt ∧ (z.1 60 13).toInt ≤ 8) (h4 : (z.1 100 9).toInt ≤ (z.1 60 13).toInt) : BB x0 z M' E := by
  obtain ⟨hS, hF, ⟨r1, r2, r3, ⟨r4, r6⟩, r7⟩, hC, r5, r0, hI⟩ := hB
  have e4 : nx z = nx x := by unfold nx; rw [f 100 4 (by omega)]
  have es : ssm z = ssm x := by unfold ssm; rw [f 80 9 (by omega)]
  have eo : om z = om x := by unfold om; rw [f 100 13 (by omega)]
  have z5 : z.1 100 5 = x.1 100 5 := f _ _ (by omega)
  have la : La x z := ⟨fun c k q1 q2 => f c k (by omega), by omega, fun j _ => f 42 j (by omega)⟩
  refine ⟨?_, ?_, ⟨fun c => ⟨hK, ?_⟩, NM_fm r2 (fun c k q1 q2 q3 q4 => f c k (by omega)) (f _ _ (by omega)) (f _ _ (by omega)), ?_, ⟨by omega, fun i hi => SA_La la (f _ _ (by omega)) (f _ _ (by omega)) (f _ _ (by omega)) (f _ _ (by omega)) hM (r6 i (by omega))⟩, ?_⟩, fun i hi he => ?_, by rw [z5]; exact r5, fm_tr r0 (fm_w f (fun c k q => by unfold sR; omega)), TR_eq hI id (f _ _ (by omega)) (fun k => f _ _ (by omega))⟩
  · obtain ⟨⟨hT, b1, b2, b3⟩, ⟨u1, u2⟩, hp, hP⟩ := hS
    unfold SU SV US RB mt
    rw [f 20 7 (by omega), f 60 3 (by omega), e4]
    refine ⟨⟨kT_fm hT la.1, b1, b2, b3⟩, ⟨fun j h1 h2 => ?_, fun j h1 h2 => ?_⟩, hp, fun i hi => La_PQ la (f _ _ (by omega)) (f _ _ (by omega)) (hP i hi)⟩
    · rw [f 42 j (by omega)]; exact u1 j h1 h2
    · rw [f 42 j (by omega)] at h2; rw [f 42 _ (by omega)]; exact u2 j h1 h2
  · unfold FR at hF ⊢
    rw [f 100 4 (by omega), f 42 _ (by omega)]; exact hF
  · obtain ⟨k1, o1, o2, o3, o4⟩ := r1 r5
    unfold OPs
    rw [eo]
    refine ⟨o1, fun k hk => ?_, fun j k hj hk => ?_, h2⟩
    · have := o2 k hk
      unfold OP1 sop ssm at this ⊢
      rw [f 111 k (by omega), f 112 k (by omega), f 113 k (by omega), f 80 9 (by omega)]
      refine ⟨this.1, fun c => ?_, this.2.2.1, by omega⟩
      obtain ⟨p1, s, p2, p3, p4⟩ := this.2.1 c
      exact ⟨p1, s, p2, p3, by rw [f 81 s (by omega)]; exact p4⟩
    · rw [f 113 j (by omega), f 113 k (by omega)]; exact o3 j k hj hk
  · unfold CD at r3 ⊢
    rw [f 60 6 (by omega), f 60 9 (by omega), f 60 10 (by omega), f 60 14 (by omega), f 60 16 (by omega), z5, f 40 8 (by omega), f 40 10 (by omega)]
    exact ⟨r3.1, r3.2.1, r3.2.2.1, r3.2.2.2.1, r3.2.2.2.2.1, h3, fun _ => h4⟩
  · unfold TS at r7 ⊢
    rw [f 60 10 (by omega), z5, es]
    refine ⟨fun t ht => ?_, fun c => absurd c r5⟩
    rw [f 72 t (by omega)]; exact r7.1 t ht
  · exact SC_eq (fun j => f _ _ (by omega)) (f _ _ (by omega)) (f _ _ (by omega)) (f _ _ (by omega)) z5 (fun j => f _ _ (by omega)) (hC i (by omega) he)
theorem BB_k (hB : BB x0 x M E) : KN x ∧ OPs x ∧ CD x := ⟨(hB.2.2.1.1 hB.2.2.2.2.1).1, (hB.2.2.1.1 hB.2.2.2.2.1).2, hB.2.2.1.2.2.1⟩
theorem kb_newLocal (hq : kV q) (hx : RX x0 X) (hB : BB x0 x M E) (h1 : 1 ≤ om x) (hs : ¬ x.1 23 (x.1 100 4).toNatClampNeg = 0) (h : ∀ t y, BB x0 y M E → nx y = nx x + 3 → om y = om x → ssm y = ssm x → tk y t → y.1 100 9 = x.1 100 9 → (y.1 100 9).toInt + 1 ≤ (y.1 100 7).toInt → y.1 60 13 = x.1 60 13 → F t y) : KE G q (d + 8) zk_X7_newLocal 0 [(0, vr 100)] [] x (ri F) X := by
  have k8 : (8 : Int32).toInt = 8 := rfl
  have p26 : ∀ y, BB x0 y M E → GS x y → nx y = nx x + 1 → (y.1 23 (y.1 100 4).toNatClampNeg = 2 → (y.1 100 7).toInt < 8) → KE G q (d + 8) zk_X7_newLocal 26 [(0, vr 100)] [] y (ri F) X := by
    intro y hBy gy ny hl8
    refine kg_X7_newLocal_26 hq (kb_needFor hq hx hBy 2 0 (by decide) (by decide) (fun cw z hBz nz gz eu ht => ?_))
    intro w ew
    have fw : fm (fun c k => c = 100 ∧ k = 7) z w := by rw [ew]; exact fm_si (fm_rf _ _) ⟨rfl, rfl⟩
    have w7 : w.1 100 7 = z.1 100 7 + 1 := by rw [ew]; (simp only [si_get, sfl_get, Nat.reduceEqDiff, eq_self, and_false, false_and, and_true, true_and, if_true, if_false, reduceIte, reduceCtorEq])
    have gz7 : z.1 100 7 = y.1 100 7 := GS_at gz _ _ (by unfold sSum; omega)
    have hl := hl8 cw
    obtain ⟨kz, oz, cz⟩ := BB_k hBz
    have l0 := oz.2.2.2.1
    have kk0 := kz.1.1
    have t7 : (w.1 100 7).toInt = (z.1 100 7).toInt + 1 := by
      rw [w7, t_add (by show _ ≤ _ + (1 : Int); omega) (by show _ + (1 : Int) ≤ _; rw [gz7]; omega)]; rfl
    have w9 : w.1 100 9 = z.1 100 9 := fw _ _ (by omega)
    have hKw : KN w := KN_fm kz w9 (fw _ _ (by omega)) (fun k => fw _ _ (by omega))
    have hBw : BB x0 w M E := BB_kn hBz (Int.le_refl _) (fm_w fw (fun c k q => Or.inl ⟨q.1, Or.inl q.2⟩)) hKw (by rw [w9]; exact Int.le_refl _) (by rw [w9, t7]; rw [gz7] at l0 ⊢; omega) (by rw [fw 60 13 (by omega)]; exact cz.2.2.2.2.2.1) (by rw [w9, fw 60 13 (by omega)]; exact cz.2.2.2.2.2.2 hBz.2.2.2.2.1)
    have omw : om w = om x := by rw [← GS_om gy, ← GS_om gz]; unfold om; rw [fw 100 13 (by omega)]
    have o18 := (BB_om hBw).1
    have e13 : (w.1 100 13 - 1).toInt = om w - 1 := t_sub (by show _ ≤ _ - (1 : Int); unfold om at *; omega) (by show _ - (1 : Int) ≤ _; unfold om at *; omega)
    have nw : nx w = nx z := by unfold nx; rw [fw 100 4 (by omega)]
    have htw : tk w (y.1 100 4) := by unfold tk at ht ⊢; rw [fw 20 7 (by omega)]; exact ht
    obtain ⟨-, ow, -⟩ := BB_k hBw
    have hop := ow.2.1 ((w.1 100 13 - 1).toNatClampNeg) (by rw [t_cl, e13]; omega)
    refine ⟨by rw [vp_in_iff, e13]; omega, kp_knownFrom hq hBw.1.1.1 hKw _ _ hop.2.2.1 htw (fun r hr => ?_)⟩
    have fin : ∀ v, BB x0 v M E → fm (fun c k => c = 42) w v → KE G q (d + 8) zk_X7_newLocal 73 [(0, vr 100), (1, vi (y.1 100 4))] [] v (ri F) X := by
      intro v hBv fv
      refine kg_X7_newLocal_73 hq _ (kb_need hq hx hBv 10 (by decide) (fun _ u hBu nu gu => ri_i (h _ u hBu ?_ ?_ ?_ ?_ ?_ ?_ ?_)))
      · have : nx v = nx w := by unfold nx; rw [fv 100 4 (by omega)]
        omega
      · rw [GS_om gu, ← omw]; unfold om; rw [fv 100 13 (by omega)]
      · rw [GS_sm gu]
        have : ssm v = ssm w := by unfold ssm; rw [fv 80 9 (by omega)]
        rw [this, ← GS_sm gy, ← GS_sm gz]; unfold ssm; rw [fw 80 9 (by omega)]
      · unfold tk at htw ⊢
        rw [GS_at gu 20 7 (by unfold sSum; omega), fv 20 7 (by omega)]; exact htw
      · rw [GS_at gu 100 9 (by unfold sSum; omega), fv 100 9 (by omega), w9, GS_at gz 100 9 (by unfold sSum; omega), GS_at gy 100 9 (by unfold sSum; omega)]
      · rw [GS_at gu 100 9 (by unfold sSum; omega), GS_at gu 100 7 (by unfold sSum; omega), fv 100 9 (by omega), fv 100 7 (by omega), t7, w9]; omega
      · rw [GS_at gu 60 13 (by unfold sSum; omega), fv 60 13 (by omega), fw 60 13 (by omega), GS_at gz 60 13 (by unfold sSum; omega), GS_at gy 60 13 (by unfold sSum; omega)]
    have eN := BB_N hBy
    refine ⟨fun _ => fin w hBw (fm_rf _ _), fun _ => ⟨(kT_at hBw.1.1.1 htw).1, fun v ev => fin v ?_ (by rw [ev]; exact fm_si (fm_rf _ _) rfl)⟩⟩
    refine BB_use hBw (t := (y.1 100 4).toNatClampNeg) (by omega) (by rw [fw 42 _ (by omega)]; exact eu) ?_ (by rw [ev]; exact fm_si (fm_rf _ _) (Or.inr (Or.inr ⟨rfl, rfl⟩)))
    have : v.1 42 (y.1 100 4).toNatClampNeg = 2 := by rw [ev]; (simp only [si_get, sfl_get, Nat.reduceEqDiff, eq_self, and_false, false_and, and_true, true_and, if_true, if_false, reduceIte, reduceCtorEq])
    rw [this]; decide
  refine kg_X7_newLocal_0 hq (kb_pass hq hx hB hs (fun y hBy ny gy => kp_sort hq hBy.1.1 ⟨fun c => p26 y hBy gy ny (fun q => absurd q c), fun c => ⟨fun c2 => p26 y hBy gy ny (fun _ => by rw [t_lt, k8] at c2; exact c2), fun _ => kb_refuse hq hx hBy _⟩⟩))
theorem kb_makeKnown (hq : kV q) (hB : BB x0 x M E) (t : Int32) (ht : tk x t) (h1 : (x.1 100 9).toInt + 1 ≤ (x.1 100 7).toInt) (hM : M ≤ (x.1 60 13).toInt ∨ M ≤ (x.1 100 9).toInt + 1) (h : ∀ y, BB x0 y (y.1 60 13).toInt E → nx y = nx x → om y = om x → ssm y = ssm x → Fv y) : KT G q (d + 1) zk_X7_makeKnown 0 [(0, vr 100), (1, vi t)] [] x (rv Fv) := by
  have k8 : (8 : Int32).toInt = 8 := rfl
  obtain ⟨kx, ox, cx⟩ := BB_k hB
  have l8 := ox.2.2.2.2
  have k0 := kx.1.1
  have m0 := cx.2.2.2.2.2.1
  refine kg_X7_makeKnown_0 hq _ ⟨fun c => ?_, fun c => ⟨by rw [vp_in_iff]; omega, fun x3 e3 x4 e4 => ?_⟩⟩
  · exfalso; rw [t_le, k8] at c; omega
  refine kg_X7_makeKnown_29 hq (fun r hr r1 r2 z ez => rv_i ?_)
  have x39 : x3.1 100 9 = x.1 100 9 := by rw [e3]; (simp only [si_get, sfl_get, Nat.reduceEqDiff, eq_self, and_false, false_and, and_true, true_and, if_true, if_false, reduceIte, reduceCtorEq])
  have x49 : x4.1 100 9 = x.1 100 9 + 1 := by rw [e4, x39]; (simp only [si_get, sfl_get, Nat.reduceEqDiff, eq_self, and_false, false_and, and_true, true_and, if_true, if_false, reduceIte, reduceCtorEq])
  have t49 : (x4.1 100 9).toInt = (x.1 100 9).toInt + 1 := by rw [x49, t_add (by show _ ≤ _ + (1 : Int); omega) (by show _ + (1 : Int) ≤ _; omega)]; rfl
  have x413 : x4.1 60 13 = x.1 60 13 := by rw [e4, e3]; (simp only [si_get, sfl_get, Nat.reduceEqDiff, eq_self, and_false, false_and, and_true, true_and, if_true, if_false, reduceIte, reduceCtorEq])
  rw [x413] at hr r1
  have f : fm (fun c k => (c = 100 ∧ (k = 7 ∨ k = 9)) ∨ c = 109 ∨ (c = 60 ∧ k = 13)) x z := by
    rw [ez, e4, e3]; exact fm_si (fm_si (fm_si (fm_rf _ _) (Or.inr (Or.inl rfl))) (Or.inl ⟨rfl, Or.inr rfl⟩)) (Or.inr (Or.inr ⟨rfl, rfl⟩))
  have z9 : z.1 100 9 = x4.1 100 9 := by rw [ez]; (simp only [si_get, sfl_get, Nat.reduceEqDiff, eq_self, and_false, false_and, and_true, true_and, if_true, if_false, reduceIte, reduceCtorEq])
  have z7 : z.1 100 7 = x.1 100 7 := by rw [ez, e4, e3]; (simp only [si_get, sfl_get, Nat.reduceEqDiff, eq_self, and_false, false_and, and_true, true_and, if_true, if_false, reduceIte, reduceCtorEq])
  have z13 : z.1 60 13 = r := by rw [ez]; (simp only [si_get, sfl_get, Nat.reduceEqDiff, eq_self, and_false, false_and, and_true, true_and, if_true, if_false, reduceIte, reduceCtorEq])
  have eN : (((x.1 100 9).toNatClampNeg : Nat) : Int) = (x.1 100 9).toInt := by rw [t_cl]; omega
  have hKz : KN z := by
    unfold KN tk at kx ⊢
    rw [z9, t49, f 20 7 (by omega)]
    refine ⟨by omega, fun i hi => ?_⟩
    by_cases hi2 : i = (x.1 100 9).toNatClampNeg
    · have : z.1 109 i = t := by rw [hi2, ez, e4, e3]; (simp only [si_get, sfl_get, Nat.reduceEqDiff, eq_self, and_false, false_and, and_true, true_and, if_true, if_false, reduceIte, reduceCtorEq])
      rw [this]; exact ht
    · have : z.1 109 i = x.1 109 i := by
        rw [ez, e4, e3, si_get, if_neg (by omega), si_get, if_neg (by omega), si_get, if_neg (fun q => hi2 q.2)]
      rw [this]; exact kx.2 i (by omega)
  refine h z (BB_kn hB (M' := (z.1 60 13).toInt) (by rw [z13]; omega) f hKz (by rw [z9, t49]; omega) (by rw [z9, t49, z7]; omega) (by rw [z13]; omega) (by rw [z9, z13]; omega)) ?_ ?_ ?_
  · unfold nx; rw [f 100 4 (by omega)]
  · unfold om; rw [f 100 13 (by omega)]
  · unfold ssm; rw [f 80 9 (by omega)]
theorem kb_setTarget (hq : kV q) (hx : RX x0 X) (hB : BB x0 x M E) (hM : (x.1 100 9).toInt ≤ M) (h : ∀ t y, BB x0 y M E → nx y = nx x + 2 → om y = om x → ssm y = ssm x → vp_in t 702 → ((y.1 43 t.toNatClampNeg = -1 ∧ PLc y t) ∨ (¬ y.1 43 t.toNatClampNeg = -1 ∧ 0 ≤ (y.1 43 t.toNatClampNeg).toInt ∧ (y.1 43 t.toNatClampNeg).toInt < M)) → y.1 60 13 = x.1 60 13 → F t y) : KE G q (d + 8) zk_X7_setTarget 0 [(0, vr 100)] [] x (ri F) X := by
  refine kg_X7_setTarget_0 hq (kb_needFor hq hx hB 2 0 (by decide) (by decide) (fun cw y hBy ny gy eu ht => ?_))
  obtain ⟨ky, oy, cy⟩ := BB_k hBy
  have vt := (kT_at hBy.1.1.1 ht).1
  have k0 : (0 : Int32).toInt = 0 := rfl
  have y9 : y.1 100 9 = x.1 100 9 := GS_at gy _ _ (by unfold sSum; omega)
  have eN := BB_N hB
  refine kp_knownFrom hq hBy.1.1.1 ky _ _ (by decide) ht (fun r hr => ⟨vt, fun z ez => ?_⟩)
  have z43 : z.1 43 (x.1 100 4).toNatClampNeg = r := by rw [ez]; (simp only [si_get, sfl_get, Nat.reduceEqDiff, eq_self, and_false, false_and, and_true, true_and, if_true, if_false, reduceIte, reduceCtorEq])
  have fz : fm (fun c k => c = 43) y z := by rw [ez]; exact fm_si (fm_rf _ _) rfl
  have fin : ∀ v, BB x0 v M E → fm (fun c k => c = 42 ∨ c = 43) y v → ((v.1 43 (x.1 100 4).toNatClampNeg = -1 ∧ PLc v (x.1 100 4)) ∨ (¬ v.1 43 (x.1 100 4).toNatClampNeg = -1 ∧ 0 ≤ (v.1 43 (x.1 100 4).toNatClampNeg).toInt ∧ (v.1 43 (x.1 100 4).toNatClampNeg).toInt < M)) → KE G q (d + 8) zk_X7_setTarget 46 [(0, vr 100), (1, vi (x.1 100 4))] [] v (ri F) X := by
    intro v hBv fv hv
    refine kg_X7_setTarget_46 hq _ (kb_need hq hx hBv 10 (by decide) (fun _ u hBu nu gu => ri_i (h _ u hBu ?_ ?_ ?_ vt ?_ (by rw [GS_at gu 60 13 (by unfold sSum; omega), fv 60 13 (by omega), GS_at gy 60 13 (by unfold sSum; omega)]))))
    · have : nx v = nx y := by unfold nx; rw [fv 100 4 (by omega)]
      omega
    · rw [GS_om gu, ← GS_om gy]; unfold om; rw [fv 100 13 (by omega)]
    · rw [GS_sm gu, ← GS_sm gy]; unfold ssm; rw [fv 80 9 (by omega)]
    · rw [GS_at gu 43 _ (by unfold sSum; omega)]
      exact hv.imp (fun e => ⟨e.1, PLc_La gu.1 e.2⟩) id
  have hBz : BB x0 z M E := BB_use hBy (t := (x.1 100 4).toNatClampNeg) (by omega) eu (by rw [fz 42 _ (by omega), eu]; decide) (fm_w fz (fun c k q => Or.inl q))
  refine ⟨vt, fun c => fin z hBz (fm_w fz (fun c k q => Or.inr q)) (Or.inr ?_), fun c => ⟨vt, fun v ev => ?_⟩⟩
  · rw [z43] at c ⊢
    rcases hr with e | ⟨e1, e2⟩
    · exact absurd e c
    · rw [k0] at e1
      rw [y9] at e2
      exact ⟨c, e1, by omega⟩
  · have fv : fm (fun c k => c = 43 ∨ (86 ≤ c ∧ c ≤ 89) ∨ (c = 42 ∧ k = (x.1 100 4).toNatClampNeg)) y v := by rw [ev]; exact fm_si (fm_w fz (fun c k q => Or.inl q)) (Or.inr (Or.inr ⟨rfl, rfl⟩))
    have u6 : v.1 42 (x.1 100 4).toNatClampNeg = 6 := by rw [ev]; (simp only [si_get, sfl_get, Nat.reduceEqDiff, eq_self, and_false, false_and, and_true, true_and, if_true, if_false, reduceIte, reduceCtorEq])
    refine fin v (BB_use hBy (t := (x.1 100 4).toNatClampNeg) (by omega) eu (by rw [u6]; decide) fv) (by rw [ev]; exact fm_si (fm_w fz (fun c k q => Or.inr q)) (Or.inl rfl)) (Or.inl ⟨?_, (x.1 100 4).toNatClampNeg, eN.symm, ?_, Or.inl u6⟩)
    · rw [ev, si_cell (by decide)]; exact c
    · have : nx v = nx y := by unfold nx; rw [fv 100 4 (by omega)]
      omega
theorem kb_rowStatement (hq : kV q) (hx : RX x0 X) (hB : BB x0 x M E0) (ho : om x ≤ 17) (ha : 2 * ssm x ≤ nx x + 1) (l : Int32) (h : ∀ y, BB x0 y M E0 → nx x + 2 ≤ nx y → om y = om x → ssm y = ssm x + 1 → y.1 60 13 = x.1 60 13 → Fv y) : KE G q (d + 10) zk_X7_rowStatement 0 [(0, vr 100), (1, vi l)] [] x (rv Fv) X := by
  refine kg_X7_rowStatement_0 hq _ (kb_needFor hq hx hB 2 7 (by decide) (by decide) (fun cw y hBy ny gy eu ht => kb_need hq hx hBy 25 (by decide) (fun _ y3 hB3 n3 g3 => ?_)))
  have o3 : om y3 = om x := by rw [GS_om g3, GS_om gy]
  obtain ⟨p1, p2⟩ := BB_om hB3
  refine kb_sum hq hx hB3 _ (by rw [p2 (by omega)]; omega) (by rw [p2 (by omega)]; omega) (fun r5 y4 hB4 n4 g4 => kb_need hq hx hB4 26 (by decide) (fun _ y6 hB6 n6 g6 => kb_need hq hx hB6 10 (by decide) (fun _ y7 hB7 n7 g7 => ?_)))
  have o7 : om y7 = om x := by rw [GS_om g7, GS_om g6, GS_om g4, o3]
  obtain ⟨p3, p4⟩ := BB_om hB7
  refine kb_sum hq hx hB7 _ (by rw [p4 (by omega)]; omega) (by rw [p4 (by omega)]; omega) (fun r9 y8 hB8 n8 g8 => ?_)
  have gg : GS y y8 := GS_tr (GS_tr (GS_tr (GS_tr g3 g4) g6) g7) g8
  have s8 : ssm y8 = ssm x := by rw [GS_sm gg, GS_sm gy]
  obtain ⟨a1, a2, a3, a4, a5⟩ := BB_400 hB8 (by omega)
  refine kp_add hq _ _ _ a1 a2 (fun w hA vin => ⟨vin, fun z1 e1 => ⟨vin, fun z2 e2 => ⟨vin, fun z ez => rv_i ?_⟩⟩⟩)
  obtain ⟨f1, f2, f3, f4, f5⟩ := hA
  have fz : fm (fun c k => (81 ≤ c ∧ c ≤ 89 ∧ k = (y8.1 80 9).toNatClampNeg) ∨ (c = 80 ∧ k = 9)) y8 z := by
    rw [ez, e2, e1]
    exact fm_si (fm_si (fm_si f1 (Or.inl ⟨by omega, by omega, rfl⟩)) (Or.inl ⟨by omega, by omega, rfl⟩)) (Or.inl ⟨by omega, by omega, rfl⟩)
  have es : ssm z = ssm y8 + 1 := by
    have : z.1 80 9 = w.1 80 9 := by rw [ez, e2, e1]; (simp only [si_get, sfl_get, Nat.reduceEqDiff, eq_self, and_false, false_and, and_true, true_and, if_true, if_false, reduceIte, reduceCtorEq])
    unfold ssm at *; rw [this]; exact f2
  have z81 : z.1 81 (y8.1 80 9).toNatClampNeg = 1 := by rw [ez, e2, e1]; (simp only [si_get, sfl_get, Nat.reduceEqDiff, eq_self, and_false, false_and, and_true, true_and, if_true, if_false, reduceIte, reduceCtorEq]); exact f3
  have z83 : z.1 83 (y8.1 80 9).toNatClampNeg = y8.1 100 9 := by rw [ez, e2, e1]; (simp only [si_get, sfl_get, Nat.reduceEqDiff, eq_self, and_false, false_and, and_true, true_and, if_true, if_false, reduceIte, reduceCtorEq]); exact f4
  have z85 : z.1 85 (y8.1 80 9).toNatClampNeg = x.1 100 4 := by rw [ez, e2, e1]; (simp only [si_get, sfl_get, Nat.reduceEqDiff, eq_self, and_false, false_and, and_true, true_and, if_true, if_false, reduceIte, reduceCtorEq])
  have e9 : nx z = nx y8 := by unfold nx; rw [fz 100 4 (by omega)]
  have e13 : om z = om y8 := by unfold om; rw [fz 100 13 (by omega)]
  have eN := BB_N hB
  have k1 : (1 : Int32).toInt = 1 := rfl
  have hSA : SA z M (y8.1 80 9).toNatClampNeg := by
    unfold SA sop stg
    rw [z81, z83, z85, k1]
    refine ⟨by omega, ⟨a4, a5⟩, fun _ => ⟨(x.1 100 4).toNatClampNeg, eN.symm, by omega, fun _ => Or.inr (Or.inl ?_), fun c1 => by omega, fun c1 => by omega⟩, fun c => by omega⟩
    rw [fz 42 _ (by omega), gg.1.2.2 _ (by omega)]; exact eu
  have hBz := BB_add hB8 (n := (y8.1 80 9).toNatClampNeg) (by omega) fz es hSA
  refine h z (BB_E hBz (fun e => e.elim id (fun e => by omega)) (fun i hi he hne => ?_)) (by omega) (by rw [e13, GS_om g8, o7]) (by omega) (by rw [fz 60 13 (by omega), GS_at gg 60 13 (by unfold sSum; omega), GS_at gy 60 13 (by unfold sSum; omega)])
  rcases he with he | he
  · exact absurd he hne
  · rw [he]
    refine SC_no ?_ ?_ <;> (unfold sop; rw [z81]; decide)
end KBL
