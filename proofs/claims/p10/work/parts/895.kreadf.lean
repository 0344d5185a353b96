/-! the class: the reader's small steps, and when they refuse -/
section KRDF
variable {G : kG} {q : kP} {d : Nat} {x x0 y z : gd} {F : Int32 → gd → Prop} {Fv : gd → Prop} {X : String → gd → Prop} {P : Option gv → gd → Prop} {m : Int}
theorem kf_pass (hq : kV q) (h0 : fm sR x0 x) (hx : 700 ≤ nx x → RX x0 X) (hS : SV x m) (hs : ¬ x.1 23 (x.1 100 4).toNatClampNeg = 0) (hu : ¬ x.1 42 (x.1 100 4).toNatClampNeg = 12) (h : nx x < 700 → ∀ y, fm (fun c k => c = 100 ∧ k = 4) x y → nx y = nx x + 1 → SV y m → FR y → La x y → fm sR x0 y → Fv y) : KE G q (d + 7) zk_X7_pass 0 [(0, vr 100)] [] x (rv Fv) X := by
  refine kg_X7_pass_0 hq ⟨fun c y ey => rv_i ?_, fun c => kp_refuse hq _ (RB_at hS.1) h0 (hx (by rw [t_lt] at c; have : (700 : Int32).toInt = 700 := rfl; unfold nx; omega))⟩
  obtain ⟨e1, e2, e3⟩ := nx_si hS.1 ey
  obtain ⟨g1, g2, g3⟩ := SV_adv hS hs (by rw [t_lt] at c; exact c) (u := x.1 42 (x.1 100 4).toNatClampNeg) (fun q => absurd q hu) e2 e3 e1
  exact h (by rw [t_lt] at c; exact c) y (by rw [ey]; exact fm_si (fm_rf _ _) ⟨rfl, rfl⟩) e1 g1 g2 g3 (by rw [ey]; exact fm_si h0 (by unfold sR; omega))
theorem kf_need (hq : kV q) (h0 : fm sR x0 x) (w : Int32) (hx : (¬ x.1 23 (x.1 100 4).toNatClampNeg = w ∨ 700 ≤ nx x) → RX x0 X) (hS : SV x m) (hw : ¬ w = 0) (hu : FR x) (h : x.1 23 (x.1 100 4).toNatClampNeg = w → nx x < 700 → ∀ y, fm (fun c k => c = 100 ∧ k = 4) x y → nx y = nx x + 1 → SV y m → FR y → La x y → fm sR x0 y → Fv y) : KE G q (d + 7) zk_X7_need 0 [(0, vr 100), (1, vi w)] [] x (rv Fv) X := by
  have k7 : (700 : Int32).toInt = 700 := rfl
  have g32 : RX x0 X → ∀ s : Int32, ¬ s = 0 → KE G q (d + 7) zk_X7_need 32 [(0, vr 100)] [vi s, vr 100] x (rv Fv) X := fun hx s hs9 => kg_X7_need_32 hq _ (kp_refuse hq _ (RB_at hS.1) h0 hx hs9)
  have g18 : RX x0 X → KE G q (d + 7) zk_X7_need 18 [(0, vr 100), (1, vi w)] [] x (rv Fv) X := fun hx => kg_X7_need_18 hq _ (kp_sort hq hS.1 ⟨fun _ => g32 hx _ (by decide), fun _ => g32 hx _ (by decide)⟩)
  refine kg_X7_need_0 hq _ (kp_sort hq hS.1 ⟨fun c => g18 (hx (Or.inl c)), fun cw => ⟨fun c y ey => rv_i ?_, fun c => g18 (hx (Or.inr (by rw [t_lt, k7] at c; unfold nx; omega)))⟩⟩)
  obtain ⟨e1, e2, e3⟩ := nx_si hS.1 ey
  unfold FR at hu
  obtain ⟨g1, g2, g3⟩ := SV_adv hS (by rw [cw]; exact hw) (by rw [t_lt] at c; exact c) (u := x.1 42 (x.1 100 4).toNatClampNeg) (fun q => absurd q (by rw [hu]; decide)) e2 e3 e1
  exact h cw (by rw [t_lt] at c; exact c) y (by rw [ey]; exact fm_si (fm_rf _ _) ⟨rfl, rfl⟩) e1 g1 g2 g3 (by rw [ey]; exact fm_si h0 (by unfold sR; omega))
theorem kf_needFor (hq : kV q) (h0 : fm sR x0 x) (w u : Int32) (hx : (¬ x.1 23 (x.1 100 4).toNatClampNeg = w ∨ 700 ≤ nx x) → RX x0 X) (hS : SV x m) (hw : ¬ w = 0) (hu : u = 12 → 2 ≤ (x.1 100 4).toNatClampNeg ∧ x.1 42 ((x.1 100 4).toNatClampNeg - 2) = 7) (h : x.1 23 (x.1 100 4).toNatClampNeg = w → nx x < 700 → ∀ y, fm (fun c k => (c = 42 ∧ k = (x.1 100 4).toNatClampNeg) ∨ (c = 100 ∧ k = 4)) x y → y.1 42 (x.1 100 4).toNatClampNeg = u → nx y = nx x + 1 → SV y m → FR y → La x y → fm sR x0 y → tk y (x.1 100 4) → F (x.1 100 4) y) : KE G q (d + 7) zk_X7_needFor 0 [(0, vr 100), (1, vi w), (2, vi u)] [] x (ri F) X := by
  have g35 : x.1 23 (x.1 100 4).toNatClampNeg = w → (x.1 100 4).toInt < 700 → KE G q (d + 7) zk_X7_needFor 35 [(0, vr 100), (2, vi u)] [] x (ri F) X := by
    intro cw c
    refine kg_X7_needFor_35 hq _ ⟨RB_at hS.1, fun x2 e2 y ey => ?_⟩
    have f4 : x2.1 100 4 = x.1 100 4 := by rw [e2]; (simp only [si_get, sfl_get, Nat.reduceEqDiff, eq_self, and_false, false_and, and_true, true_and, if_true, if_false, reduceIte, reduceCtorEq])
    rw [f4] at ey
    have y4 : y.1 100 4 = x.1 100 4 + 1 := by rw [ey]; (simp only [si_get, sfl_get, Nat.reduceEqDiff, eq_self, and_false, false_and, and_true, true_and, if_true, if_false, reduceIte, reduceCtorEq])
    have yN : nx y = nx x + 1 := by unfold nx; rw [y4]; exact (nx_1 hS.1).1
    have er : y.1 100 4 - 1 = x.1 100 4 := by rw [y4]; exact Int32.add_sub_cancel _ _
    have ff : fm (fun c k => (c = 42 ∧ k = (x.1 100 4).toNatClampNeg) ∨ (c = 100 ∧ k = 4)) x y := by rw [ey, e2]; exact fm_si (fm_si (fm_rf _ _) (Or.inl ⟨rfl, rfl⟩)) (Or.inr ⟨rfl, rfl⟩)
    have eu : y.1 42 (x.1 100 4).toNatClampNeg = u := by rw [ey, e2]; (simp only [si_get, sfl_get, Nat.reduceEqDiff, eq_self, and_false, false_and, and_true, true_and, if_true, if_false, reduceIte, reduceCtorEq])
    have hlt := RB_lt hS.1 (by rw [cw]; exact hw)
    obtain ⟨g1, g2, g3⟩ := SV_adv hS (by rw [cw]; exact hw) c hu ff eu yN
    rw [er]
    refine ri_i (h cw c y ff eu yN g1 g2 g3 (by rw [ey, e2]; exact fm_si (fm_si h0 (by unfold sR; omega)) (by unfold sR; omega)) ⟨hS.1.2.1, ?_⟩)
    rw [ff 20 7 (by omega)]; exact hlt
  have g18 : (¬ x.1 23 (x.1 100 4).toNatClampNeg = w ∨ ¬ (x.1 100 4).toInt < 700) → KE G q (d + 7) zk_X7_needFor 18 [(0, vr 100), (1, vi w), (2, vi u)] [] x (ri F) X := by
    intro ho
    have k7 : (700 : Int32).toInt = 700 := rfl
    have hx := hx (ho.imp id (fun z => by unfold nx; omega))
    have g32 : ∀ s : Int32, ¬ s = 0 → KE G q (d + 7) zk_X7_needFor 32 [(0, vr 100), (2, vi u)] [vi s, vr 100] x (ri F) X := fun s hs9 => kg_X7_needFor_32 hq _ _ (kp_refuse hq _ (RB_at hS.1) h0 hx hs9)
    exact kg_X7_needFor_18 hq _ _ (kp_sort hq hS.1 ⟨fun _ => g32 _ (by decide), fun _ => g32 _ (by decide)⟩)
  exact kg_X7_needFor_0 hq _ _ (kp_sort hq hS.1 ⟨fun c => g18 (Or.inl c), fun cw => ⟨fun c => g35 cw (by rw [t_lt] at c; exact c), fun c => g18 (Or.inr (by rw [t_lt] at c; exact c))⟩⟩)
end KRDF
