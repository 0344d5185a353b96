/-! the class: definitions, all is read -/
def OTb (x0 x : gd) : Prop := SU x ∧ FR x ∧ RI0 x (x.1 60 13).toInt ∧ SCs x E0 ∧ x.1 100 5 = 0 ∧ fm sR x0 x
section KDF
variable {G : kG} {q : kP} {d : Nat} {x x0 y z : gd} {F : Int32 → gd → Prop} {Fv : gd → Prop} {X : String → gd → Prop} {P : Option gv → gd → Prop}
theorem OT_b (h : OT x0 x) : OTb x0 x := ⟨h.1, h.2.1, h.2.2.1, h.2.2.2.1, h.2.2.2.2.1, h.2.2.2.2.2.1⟩
theorem OT_of (h : OTb x0 x) (a : 2 * ssm x ≤ nx x) : OT x0 x := ⟨h.1, h.2.1, h.2.2.1, h.2.2.2.1, h.2.2.2.2.1, h.2.2.2.2.2, a⟩
theorem OTb_on (hB : OTb x0 x) (hS : SU y) (hF : FR y) (g : GS x y) : OTb x0 y := ⟨hS, hF, by rw [g.2 60 13 (by unfold sSum; omega)]; exact RI0_La hB.2.2.1 g.1 g.2, SCs_La hB.2.2.2.1 g.2, by rw [g.2 100 5 (by unfold sSum; omega)]; exact hB.2.2.2.2.1, fm_tr hB.2.2.2.2.2 (fm_w g.2 (fun c k q => sSum_R q))⟩
theorem ko_pass (hq : kV q) (hx : RX x0 X) (hB : OTb x0 x) (hs : ¬ x.1 23 (x.1 100 4).toNatClampNeg = 0) (h : ∀ y, OTb x0 y → nx y = nx x + 1 → GS x y → Fv y) : KE G q (d + 7) zk_X7_pass 0 [(0, vr 100)] [] x (rv Fv) X :=
  kp_pass hq hB.2.2.2.2.2 hx hB.1 hs (FR_12 hB.2.1) (fun y f n S fr la _ => by
    have g : GS x y := ⟨la, fm_w f (fun c k q => by unfold sSum; omega)⟩
    refine h y (OTb_on hB ?_ fr g) n g
    unfold SU
    rw [f 60 3 (by omega)]; exact S)
theorem ko_need (hq : kV q) (hx : RX x0 X) (hB : OTb x0 x) (w : Int32) (hw : ¬ w = 0) (h : x.1 23 (x.1 100 4).toNatClampNeg = w → ∀ y, OTb x0 y → nx y = nx x + 1 → GS x y → Fv y) : KE G q (d + 7) zk_X7_need 0 [(0, vr 100), (1, vi w)] [] x (rv Fv) X :=
  kp_need hq hB.2.2.2.2.2 hx hB.1 w hw hB.2.1 (fun cw y f n S fr la _ => by
    have g : GS x y := ⟨la, fm_w f (fun c k q => by unfold sSum; omega)⟩
    refine h cw y (OTb_on hB ?_ fr g) n g
    unfold SU
    rw [f 60 3 (by omega)]; exact S)
theorem ko_needFor (hq : kV q) (hx : RX x0 X) (hB : OTb x0 x) (w u : Int32) (hw : ¬ w = 0) (hu : ¬ u = 12) (h : x.1 23 (x.1 100 4).toNatClampNeg = w → ∀ y, OTb x0 y → nx y = nx x + 1 → GS x y → tk y (x.1 100 4) → F (x.1 100 4) y) : KE G q (d + 7) zk_X7_needFor 0 [(0, vr 100), (1, vi w), (2, vi u)] [] x (ri F) X :=
  kp_needFor hq hB.2.2.2.2.2 hx hB.1 w u hw (fun q => absurd q hu) (fun cw y f eu n S fr la _ ht => by
    have g : GS x y := ⟨la, fm_w f (fun c k q => by unfold sSum; omega)⟩
    refine h cw y (OTb_on hB ?_ fr g) n g ht
    unfold SU
    rw [f 60 3 (by omega)]; exact S)
theorem ko_sum (hq : kV q) (hx : RX x0 X) (hB : OTb x0 x) (D : Int32) (hD : 1 ≤ D.toInt) (hD2 : D.toInt ≤ 18) (h : ∀ r y, OTb x0 y → nx x < nx y → GS x y → F r y) : KE G q (d + 9) zk_X7_sum 0 [(0, vr 100), (1, vi D)] [] x (ri F) X :=
  kp_sum hq hB.2.2.2.2.2 hx hB.1 hB.2.1 (fun c => absurd hB.2.2.2.2.1 c) D hD hD2 (fun r y S fr la f n => h r y (OTb_on hB S fr ⟨la, f⟩) n ⟨la, f⟩)
theorem ko_refuse (hq : kV q) (hx : RX x0 X) (hB : OTb x0 x) (n : Int32) (hn : ¬ n = 0 := by decide) : KE G q (d + 6) zk_X7_refuse 0 [(0, vr 100), (1, vi n)] [] x P X := kp_refuse hq n (RB_at hB.1.1) hB.2.2.2.2.2 hx hn
/-- what is told changes -/
theorem OTb_nm (hB : OTb x0 x) (f : fm (fun c k => (40 ≤ c ∧ c < 60 ∧ c ≠ 42) ∨ (c = 60 ∧ k ≠ 3 ∧ k ≠ 13) ∨ (64 ≤ c ∧ c < 80)) x z) (hN : NM z) (hC : CD z) (hT : TS z) : OTb x0 z := by
  obtain ⟨hS, hF, ⟨r1, r2, r3, ⟨r4, r6⟩, r7⟩, hC9, r5, r0⟩ := hB
  have e4 : nx z = nx x := by unfold nx; rw [f 100 4 (by omega)]
  have es : ssm z = ssm x := by unfold ssm; rw [f 80 9 (by omega)]
  have z5 : z.1 100 5 = x.1 100 5 := f _ _ (by omega)
  have la : La x z := ⟨fun c k q1 q2 => f c k (by omega), by omega, fun j _ => f 42 j (by omega)⟩
  refine ⟨?_, ?_, ⟨fun c => absurd (by rw [z5]; exact r5) c, hN, hC, ⟨by omega, fun i hi => ?_⟩, hT⟩, fun i hi he => ?_, by rw [z5]; exact r5, fm_tr r0 (fm_w f (fun c k q => by unfold sR; omega))⟩
  · obtain ⟨⟨hT, b1, b2, b3⟩, ⟨u1, u2⟩, hp, hP⟩ := hS
    unfold SU SV US RB mt
    rw [f 20 7 (by omega), f 60 3 (by omega), e4]
    refine ⟨⟨kT_fm hT la.1, b1, b2, b3⟩, ⟨fun j h1 h2 => ?_, fun j h1 h2 => ?_⟩, hp, fun i hi => La_PQ la (f _ _ (by omega)) (f _ _ (by omega)) (hP i hi)⟩
    · rw [f 42 j (by omega)]; exact u1 j h1 h2
    · rw [f 42 j (by omega)] at h2; rw [f 42 _ (by omega)]; exact u2 j h1 h2
  · unfold FR at hF ⊢
    rw [f 100 4 (by omega), f 42 _ (by omega)]; exact hF
  · rw [f 60 13 (by omega)]
    exact SA_La la (f _ _ (by omega)) (f _ _ (by omega)) (f _ _ (by omega)) (f _ _ (by omega)) (Int.le_refl _) (r6 i (by omega))
  · exact SC_eq (fun j => f _ _ (by omega)) (f _ _ (by omega)) (f _ _ (by omega)) (f _ _ (by omega)) z5 (fun j => f _ _ (by omega)) (hC9 i (by omega) he)
theorem kp_rowAhead (hq : kV q) (hR : RB x) (h : ∀ r : Int32, 0 ≤ r.toInt → r.toInt ≤ 8 → (0 < r.toInt → x.1 23 ((x.1 100 4).toNatClampNeg + 1) = 25) → F r x) : KT G q (d + 1) zk_X7_rowAhead 0 [(0, vr 100)] [] x (ri F) := by
  have k2 : (2 : Int32).toInt = 2 := rfl
  have k700 : (700 : Int32).toInt = 700 := rfl
  have b1 := hR.2.1
  have b2 := hR.2.2.1
  have e2 : (x.1 100 4 + 2).toInt = nx x + 2 := by rw [t_add (by rw [k2]; unfold nx at *; omega) (by rw [k2]; unfold nx at *; omega), k2]
  refine kg_X7_rowAhead_0 hq (kp_sortBehind hq hR ⟨fun c => ⟨fun _ => ri_i (h _ (by decide) (by decide) (fun _ => c)), fun c7 => ?_⟩, fun _ => ri_i (h _ (by decide) (by decide) (fun q => absurd q (by decide)))⟩)
  rw [t_lt, k700, e2] at c7
  have v : vp_in (x.1 100 4 + 2) 702 := by rw [vp_in_iff]; omega
  exact ⟨v, fun _ => ⟨v, kp_isRowSize hq _ (fun r hr => ⟨fun _ => ri_i (h _ (by decide) (by decide) (fun _ => c)), fun c0 => ⟨v, ri_i (h _ (by have := (hr c0).1; omega) (hr c0).2 (fun _ => c))⟩⟩)⟩, fun _ => ri_i (h _ (by decide) (by decide) (fun _ => c))⟩
theorem ko_startValue (hq : kV q) (hx : RX x0 X) (hB : OTb x0 x) (h : ∀ r y, OTb x0 y → nx x ≤ nx y → GS x y → F r y) : KE G q (d + 8) zk_X7_startValue 0 [(0, vr 100)] [] x (ri F) X := by
  have p38 : ∀ (s : Int32) (y : gd), OTb x0 y → GS x y → KE G q (d + 8) zk_X7_startValue 38 [(0, vr 100), (1, vi s)] [] y (ri F) X := fun s y hBy gy => kg_X7_startValue_38 hq _ (ko_needFor hq hx hBy 3 0 (by decide) (by decide) (fun cw z hBz nz gz ht => by
    have ln := gy.1.2.1
    exact ⟨fun _ => ⟨RB_at hBy.1.1, ri_i (h _ z hBz (by omega) (GS_tr gy gz))⟩, fun _ => ⟨RB_at hBy.1.1, ri_i (h _ z hBz (by omega) (GS_tr gy gz))⟩⟩))
  have p29 : ∀ (s : Int32) (y : gd), OTb x0 y → GS x y → (¬ s = 0 → y.1 23 (y.1 100 4).toNatClampNeg = 18) → KE G q (d + 8) zk_X7_startValue 29 [(0, vr 100)] [vi s] y (ri F) X := fun s y hBy gy hs => kg_X7_startValue_29 hq _ ⟨fun _ => p38 _ y hBy gy, fun c => ko_pass hq hx hBy (by rw [hs c]; decide) (fun z hBz nz gz => p38 _ z hBz (GS_tr gy gz))⟩
  exact kg_X7_startValue_0 hq (kp_sort hq hB.1.1 ⟨fun c => ko_pass hq hx hB (by rw [c]; decide) (fun y hBy ny gy => kp_sort hq hBy.1.1 ⟨fun _ => p29 _ y hBy gy (fun q => absurd rfl q), fun c2 => p29 _ y hBy gy (fun _ => c2)⟩), fun _ => ri_i (h _ x hB (Int.le_refl _) GS_rf)⟩)
theorem kp_tellCell (hq : kV q) (t f9 r : Int32) (hc : 0 ≤ (x.1 40 6).toInt ∧ (x.1 40 6).toInt ≤ 24) (h : ∀ y, fm (fun c k => (c = 40 ∧ k = 6) ∨ (44 ≤ c ∧ c ≤ 46)) x y → ((x.1 40 6).toInt ≤ (y.1 40 6).toInt ∧ (y.1 40 6).toInt ≤ 24) → (∀ i : Nat, (i : Int) < (y.1 40 6).toInt → ((i : Int) < (x.1 40 6).toInt ∧ y.1 44 i = x.1 44 i ∧ y.1 45 i = x.1 45 i ∧ y.1 46 i = x.1 46 i) ∨ (y.1 44 i = t ∧ y.1 45 i = f9 ∧ y.1 46 i = r)) → Fv y) : KT G q d zk_X6_tellCell 0 [(0, vr 40), (1, vi t), (2, vi f9), (3, vi r)] [] x (rv Fv) := by
  have k24 : (24 : Int32).toInt = 24 := rfl
  refine kg_X6_tellCell_0 hq _ _ _ ⟨fun c => rv_i (h x (fm_rf _ _) ⟨Int.le_refl _, hc.2⟩ (fun i hi => Or.inl ⟨hi, rfl, rfl, rfl⟩)), fun c => ?_⟩
  rw [t_le, k24] at c
  have v : vp_in (x.1 40 6) 24 := by rw [vp_in_iff]; omega
  refine ⟨v, fun x3 e3 => ?_⟩
  have q3 : x3.1 40 6 = x.1 40 6 := by rw [e3]; (simp only [si_get, sfl_get, Nat.reduceEqDiff, eq_self, and_false, false_and, and_true, true_and, if_true, if_false, reduceIte, reduceCtorEq])
  refine ⟨by rw [q3]; exact v, fun x5 e5 => ?_⟩
  rw [q3] at e5
  have q5 : x5.1 40 6 = x.1 40 6 := by rw [e5, ← q3]; (simp only [si_get, sfl_get, Nat.reduceEqDiff, eq_self, and_false, false_and, and_true, true_and, if_true, if_false, reduceIte, reduceCtorEq])
  refine ⟨by rw [q5]; exact v, fun x7 e7 z ez => rv_i ?_⟩
  rw [q5] at e7
  have q7 : x7.1 40 6 = x.1 40 6 := by rw [e7, ← q5]; (simp only [si_get, sfl_get, Nat.reduceEqDiff, eq_self, and_false, false_and, and_true, true_and, if_true, if_false, reduceIte, reduceCtorEq])
  rw [q7] at ez
  have z6 : (z.1 40 6).toInt = (x.1 40 6).toInt + 1 := by
    have : z.1 40 6 = x.1 40 6 + 1 := by rw [ez]; (simp only [si_get, sfl_get, Nat.reduceEqDiff, eq_self, and_false, false_and, and_true, true_and, if_true, if_false, reduceIte, reduceCtorEq])
    rw [this, t_add (by show _ ≤ _ + (1 : Int); omega) (by show _ + (1 : Int) ≤ _; omega)]; rfl
  have eN : (((x.1 40 6).toNatClampNeg : Nat) : Int) = (x.1 40 6).toInt := by rw [t_cl]; omega
  refine h z ?_ (by omega) (fun i hi => ?_)
  · rw [ez, e7, e5, e3]; exact fm_si (fm_si (fm_si (fm_si (fm_rf _ _) (Or.inr (by omega))) (Or.inr (by omega))) (Or.inr (by omega))) (Or.inl ⟨rfl, rfl⟩)
  · by_cases hi2 : i = (x.1 40 6).toNatClampNeg
    · subst hi2
      refine Or.inr ⟨?_, ?_, ?_⟩ <;> (rw [ez, e7, e5, e3]; (simp only [si_get, sfl_get, Nat.reduceEqDiff, eq_self, and_false, false_and, and_true, true_and, if_true, if_false, reduceIte, reduceCtorEq]))
    · refine Or.inl ⟨by omega, ?_, ?_, ?_⟩ <;> (rw [ez, e7, e5, e3, si_get, if_neg (by omega), si_get, if_neg (fun q => hi2 q.2), si_get, if_neg (fun q => hi2 q.2), si_get, if_neg (fun q => hi2 q.2)])
theorem kp_addCells (hq : kV q) (m v b : Int32) (h0 : 0 ≤ (x.1 60 6).toInt) (hm : 0 ≤ m.toInt) (h1 : (x.1 60 6).toInt + m.toInt ≤ 24) (h : ∀ y, fm (fun c k => (c = 60 ∧ k = 6) ∨ c = 68 ∨ c = 69) x y → (y.1 60 6).toInt = (x.1 60 6).toInt + m.toInt → Fv y) : KT G q d zk_X0_addCells 0 [(0, vr 60), (1, vi m), (2, vi v), (3, vi b)] [] x (rv Fv) := by
  have k24 : (24 : Int32).toInt = 24 := rfl
  have k0 : (0 : Int32).toInt = 0 := rfl
  have loop : ∀ (n : Nat) (i : Int32) (y : gd), fm (fun c k => (c = 60 ∧ k = 6) ∨ c = 68 ∨ c = 69) x y → 0 ≤ i.toInt → i.toInt ≤ m.toInt → (y.1 60 6).toInt = (x.1 60 6).toInt + i.toInt → m.toInt - i.toInt ≤ n → KT G q d zk_X0_addCells 3 [(0, vr 60), (1, vi m), (2, vi v), (3, vi b), (4, vi i)] [] y (rv Fv) := by
    intro n
    induction n with
    | zero =>
      intro i y fy i0 i1 ey hn
      refine kg_X0_addCells_3 hq _ _ _ _ ⟨fun _ => rv_i (h y fy (by omega)), fun c => ?_⟩
      exfalso; rw [t_le] at c; omega
    | succ n ih =>
      intro i y fy i0 i1 ey hn
      refine kg_X0_addCells_3 hq _ _ _ _ ⟨fun c => rv_i (h y fy (by rw [t_le] at c; omega)), fun c => ⟨fun c2 => ?_, fun c2 => ?_⟩⟩
      · exfalso; rw [t_le] at c; rw [t_le, k24] at c2; omega
      rw [t_le] at c
      have vi9 : vp_in (y.1 60 6) 24 := by rw [vp_in_iff]; omega
      refine ⟨vi9, fun x4 e4 => ?_⟩
      have q4 : x4.1 60 6 = y.1 60 6 := by rw [e4]; (simp only [si_get, sfl_get, Nat.reduceEqDiff, eq_self, and_false, false_and, and_true, true_and, if_true, if_false, reduceIte, reduceCtorEq])
      refine ⟨by rw [q4]; exact vi9, fun x6 e6 x7 e7 => ?_⟩
      have q6 : x6.1 60 6 = y.1 60 6 := by rw [e6, ← q4]; (simp only [si_get, sfl_get, Nat.reduceEqDiff, eq_self, and_false, false_and, and_true, true_and, if_true, if_false, reduceIte, reduceCtorEq])
      have q7 : x7.1 60 6 = y.1 60 6 + 1 := by rw [e7, q6]; (simp only [si_get, sfl_get, Nat.reduceEqDiff, eq_self, and_false, false_and, and_true, true_and, if_true, if_false, reduceIte, reduceCtorEq])
      have t7 : (x7.1 60 6).toInt = (y.1 60 6).toInt + 1 := by rw [q7, t_add (by show _ ≤ _ + (1 : Int); omega) (by show _ + (1 : Int) ≤ _; omega)]; rfl
      have ei : (i + 1).toInt = i.toInt + 1 := t_add (by show _ ≤ _ + (1 : Int); omega) (by show _ + (1 : Int) ≤ _; omega)
      refine ih (i + 1) x7 ?_ (by omega) (by omega) (by omega) (by omega)
      rw [e7, e6, e4]; exact fm_si (fm_si (fm_si fy (Or.inr (Or.inl rfl))) (Or.inr (Or.inr rfl))) (Or.inl ⟨rfl, rfl⟩)
  exact kg_X0_addCells_0 hq _ _ _ (loop m.toInt.toNat _ x (fm_rf _ _) (by decide) (by rw [k0]; exact hm) (by rw [k0]; omega) (by rw [k0]; omega))
theorem ko_cellDefinition (hq : kV q) (hx : RX x0 X) (hI : OT x0 x) (hs : ¬ x.1 23 (x.1 100 4).toNatClampNeg = 0) (h : ∀ y, OT x0 y → nx x < nx y → Fv y) : KE G q (d + 9) zk_X7_cellDefinition 0 [(0, vr 100)] [] x (rv Fv) X := by
  have k24 : (24 : Int32).toInt = 24 := rfl
  have k0 : (0 : Int32).toInt = 0 := rfl
  have k1 : (1 : Int32).toInt = 1 := rfl
  have hB := OT_b hI
  have acc := hI.2.2.2.2.2.2
  have p109 : ∀ (su row many t : Int32) (y : gd), OTb x0 y → GS x y → nx x < nx y → tk y t → 0 ≤ row.toInt → row.toInt ≤ 8 → 1 ≤ many.toInt → row.toInt ≤ many.toInt → (y.1 60 6).toInt + many.toInt ≤ 24 → KE G q (d + 9) zk_X7_cellDefinition 109 [(0, vr 100), (1, vi su), (2, vi row), (3, vi many), (4, vi t)] [] y (rv Fv) X := by
    intro su row many t y hBy gy ny ht r0 r8 m1 rm hc
    refine kg_X7_cellDefinition_109 hq _ _ _ _ (ko_startValue hq hx hBy (fun v z hBz nz gz => ko_need hq hx hBz 27 (by decide) (fun _ w hBw nw gw => ?_)))
    have gg := GS_tr gz gw
    have hNw := hBw.2.2.1.2.1
    have hCw := hBw.2.2.1.2.2.1
    have w6 : w.1 60 6 = y.1 60 6 := GS_at gg _ _ (by unfold sSum; omega)
    refine kp_tellCell hq _ _ _ hNw.1 (fun u fu cu hu => kp_addCells hq _ _ _ ?_ (by omega) ?_ (fun v9 fv ev => rv_i (h v9 (OT_of (OTb_nm hBw ?_ ?_ ?_ ?_) ?_) ?_)))
    · rw [fu 60 6 (by omega), w6]; have := hCw.1.1; rw [w6] at this; exact this
    · rw [fu 60 6 (by omega), w6]; exact hc
    · exact fm_tr (fm_w fu (fun c k q => by omega)) (fm_w fv (fun c k q => by omega))
    · rw [fu 60 6 (by omega)] at ev
      have tkk : ∀ a, tk w a → tk v9 a := fun a ha => by unfold tk at ha ⊢; rw [fv 20 7 (by omega), fu 20 7 (by omega)]; exact ha
      have htw : tk w t := by unfold tk at ht ⊢; rw [GS_at gg 20 7 (by unfold sSum; omega)]; exact ht
      unfold NM
      rw [fv 40 6 (by omega), fv 40 8 (by omega), fu 40 8 (by omega), fv 40 10 (by omega), fu 40 10 (by omega)]
      refine ⟨⟨by have := hNw.1.1; omega, cu.2⟩, hNw.2.1, hNw.2.2.1, fun i hi => ?_, fun i hi => ?_, fun i hi => ?_⟩
      · rw [fv 44 i (by omega), fv 45 i (by omega), fv 46 i (by omega)]
        rcases hu i hi with ⟨g1, g2, g3, g4⟩ | ⟨g2, g3, g4⟩
        · rw [g2, g3, g4]
          obtain ⟨p1, p2, p3, p4, p5, p6⟩ := hNw.2.2.2.1 i g1
          exact ⟨tkk _ p1, p2, p3, p4, by omega, by omega⟩
        · rw [g2, g3, g4]
          have := hCw.1.1
          exact ⟨tkk _ htw, this, r0, r8, by omega, by omega⟩
      · rw [fv 48 i (by omega), fu 48 i (by omega)]; exact tkk _ (hNw.2.2.2.2.1 i hi)
      · rw [fv 50 i (by omega), fu 50 i (by omega)]; exact tkk _ (hNw.2.2.2.2.2 i hi)
    · have z5 : v9.1 100 5 = w.1 100 5 := by rw [fv 100 5 (by omega), fu 100 5 (by omega)]
      have g : ∀ k, k ≠ 6 → v9.1 60 k = w.1 60 k := fun k hk => by rw [fv 60 k (by omega), fu 60 k (by omega)]
      unfold CD at hCw ⊢
      rw [g 9 (by omega), g 10 (by omega), g 14 (by omega), g 16 (by omega), g 13 (by omega), fv 40 8 (by omega), fu 40 8 (by omega), fv 40 10 (by omega), fu 40 10 (by omega)]
      rw [fu 60 6 (by omega), w6] at ev
      refine ⟨by have := hCw.1.1; rw [w6] at this; omega, hCw.2.1, hCw.2.2.1, hCw.2.2.2.1, hCw.2.2.2.2.1, hCw.2.2.2.2.2.1, fun c => absurd (by rw [z5]; exact hBw.2.2.2.2.1) c⟩
    · have hTw := hBw.2.2.1.2.2.2.2
      unfold TS ssm at hTw ⊢
      rw [fv 60 10 (by omega), fu 60 10 (by omega), fv 80 9 (by omega), fu 80 9 (by omega), fv 100 5 (by omega), fu 100 5 (by omega), fv 81 _ (by omega), fu 81 _ (by omega)]
      refine ⟨fun i hi => ?_, hTw.2⟩
      rw [fv 72 i (by omega), fu 72 i (by omega)]; exact hTw.1 i hi
    · have e1 : ssm v9 = ssm w := by unfold ssm; rw [fv 80 9 (by omega), fu 80 9 (by omega)]
      have e2 : nx v9 = nx w := by unfold nx; rw [fv 100 4 (by omega), fu 100 4 (by omega)]
      rw [e1, e2, GS_sm gw, GS_sm gz, GS_sm gy]
      omega
    · have e2 : nx v9 = nx w := by unfold nx; rw [fv 100 4 (by omega), fu 100 4 (by omega)]
      omega
  have p79 : ∀ (su row many : Int32) (y : gd), OTb x0 y → GS x y → 0 ≤ row.toInt → row.toInt ≤ 8 → 1 ≤ many.toInt → row.toInt ≤ many.toInt → (0 < row.toInt → y.1 23 ((y.1 100 4).toNatClampNeg + 1) = 25) → (y.1 23 (y.1 100 4).toNatClampNeg = 2 → (y.1 60 6).toInt + many.toInt ≤ 24) → KE G q (d + 9) zk_X7_cellDefinition 79 [(0, vr 100), (1, vi su), (2, vi row), (3, vi many)] [] y (rv Fv) X := by
    intro su row many y hBy gy r0 r8 m1 rm hr hc
    have ln := gy.1.2.1
    refine kg_X7_cellDefinition_79 hq _ _ _ (ko_needFor hq hx hBy 2 1 (by decide) (by decide) (fun cw z hBz nz gz ht => ⟨fun _ => p109 su row many _ z hBz (GS_tr gy gz) (by omega) ht r0 r8 m1 rm ?_, fun c => ?_⟩))
    · rw [GS_at gz 60 6 (by unfold sSum; omega)]; exact hc cw
    · rw [t_le, k0] at c
      have N1 : (z.1 100 4).toNatClampNeg = (y.1 100 4).toNatClampNeg + 1 := by
        have b1 := hBy.1.1.2.1
        have b2 := hBz.1.1.2.1
        rw [t_cl, t_cl]; unfold nx at *; omega
      refine ko_pass hq hx hBz (by rw [N1, GS_at gz 23 _ (by unfold sSum; omega), hr (by omega)]; decide) (fun w hBw nw gw => ko_needFor hq hx hBw 3 11 (by decide) (by decide) (fun _ v hBv nv gv _ => ko_need hq hx hBv 26 (by decide) (fun _ u hBu nu gu => ?_)))
      have gg := GS_tr (GS_tr gw gv) gu
      refine p109 su row many _ u hBu (GS_tr (GS_tr gy gz) gg) (by omega) ?_ r0 r8 m1 rm ?_
      · unfold tk at ht ⊢; rw [GS_at gg 20 7 (by unfold sSum; omega)]; exact ht
      · rw [GS_at gg 60 6 (by unfold sSum; omega), GS_at gz 60 6 (by unfold sSum; omega)]; exact hc cw
  have p45 : ∀ (su row : Int32) (y : gd), OTb x0 y → GS x y → 0 ≤ row.toInt → row.toInt ≤ 8 → (0 < row.toInt → y.1 23 ((y.1 100 4).toNatClampNeg + 1) = 25) → KE G q (d + 9) zk_X7_cellDefinition 45 [(0, vr 100), (1, vi su)] [vi row] y (rv Fv) X := by
    intro su row y hBy gy r0 r8 hr
    refine kg_X7_cellDefinition_45 hq _ _ (fun m hm m1 m2 => kp_sort hq hBy.1.1 ⟨fun c => p79 su row m y hBy gy r0 r8 (by rw [k1] at m2; exact m2) m1 hr (fun q => absurd q c), fun _ => ⟨fun c => p79 su row m y hBy gy r0 r8 (by rw [k1] at m2; exact m2) m1 hr (fun _ => ?_), fun _ => ko_refuse hq hx hBy _⟩⟩)
    have c6 := hBy.2.2.1.2.2.1.1
    rw [k1] at hm
    rw [t_le, k24, t_add (by omega) (by omega)] at c
    exact c
  have p23 : ∀ (su : Int32) (y : gd), OTb x0 y → GS x y → KE G q (d + 9) zk_X7_cellDefinition 23 [(0, vr 100), (1, vi su)] [] y (rv Fv) X := fun su y hBy gy => kg_X7_cellDefinition_23 hq _ (ko_need hq hx hBy 47 (by decide) (fun _ z hBz nz gz => kp_sort hq hBz.1.1 ⟨fun _ => p45 su 0 z hBz (GS_tr gy gz) (by decide) (by decide) (fun q => absurd q (by decide)), fun _ => kp_rowAhead hq hBz.1.1 (fun r r0 r8 hr => p45 su r z hBz (GS_tr gy gz) r0 r8 hr)⟩))
  have p14 : ∀ s : Int32, KE G q (d + 9) zk_X7_cellDefinition 14 [(0, vr 100)] [vi s] x (rv Fv) X := fun s => kg_X7_cellDefinition_14 hq _ ⟨fun _ => p23 _ x hB GS_rf, fun _ => ko_pass hq hx hB hs (fun y hBy ny gy => p23 _ y hBy gy)⟩
  exact kg_X7_cellDefinition_0 hq (kp_sort hq hB.1.1 ⟨fun _ => p14 _, fun _ => p14 _⟩)
end KDF
