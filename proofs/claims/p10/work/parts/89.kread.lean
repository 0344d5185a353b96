/-! the class: the reader's small steps -/
/-- where reading is, how many tokens there are -/
abbrev nx (x : gd) : Int := (x.1 100 4).toInt
abbrev mt (x : gd) : Int := (x.1 20 7).toInt
def RB (x : gd) : Prop := kT x ∧ 0 ≤ nx x ∧ nx x ≤ 700 ∧ nx x ≤ mt x
/-- a use that is a fault -/
def BU (x : gd) : Prop := ∃ j : Nat, (j : Int) < nx x ∧ (x.1 42 j = 3 ∨ x.1 42 j = 8 ∨ x.1 42 j = 9 ∨ x.1 42 j = 10)
def US (x : gd) : Prop := (∀ j : Nat, nx x < j → j < 702 → x.1 42 j = 0) ∧ ∀ j : Nat, (j : Int) < nx x → x.1 42 j = 12 → 2 ≤ j ∧ x.1 42 (j - 2) = 7
/-- a part of a sum -/
def PQ (x : gd) (i : Nat) : Prop := (x.1 62 i = 2 → (0 ≤ (x.1 63 i).toInt ∧ (x.1 63 i).toInt < 24) ∨ BU x) ∧ (x.1 62 i = 6 → ∃ t : Nat, (x.1 63 i).toInt = t ∧ (t : Int) < nx x ∧ (x.1 42 t = 6 ∨ (x.1 42 t = 7 ∧ (t : Int) + 2 < nx x ∧ x.1 42 (t + 2) = 12 ∧ x.1 23 (t + 2) = 3)))
def SV (x : gd) (m : Int) : Prop := RB x ∧ US x ∧ (0 ≤ (x.1 60 3).toInt ∧ (x.1 60 3).toInt ≤ 800) ∧ ∀ i : Nat, (i : Int) < m → PQ x i
/-- later in reading -/
def La (x y : gd) : Prop := (∀ c k, 20 ≤ c → c < 40 → y.1 c k = x.1 c k) ∧ nx x ≤ nx y ∧ ∀ j : Nat, (j : Int) < nx x → y.1 42 j = x.1 42 j
/-- what reading changes -/
def sR (c k : Nat) : Prop := 40 ≤ c ∧ c < 120
def RX (x0 : gd) (X : String → gd → Prop) : Prop := ∀ y, fm sR x0 y → vp_in (y.1 100 4) 702 → ¬ y.1 100 6 = 0 → X iSE y
def FR (x : gd) : Prop := x.1 42 (x.1 100 4).toNatClampNeg = 0
section KRD
variable {G : kG} {q : kP} {d : Nat} {x x0 y z : gd} {F : Int32 → gd → Prop} {Fv : gd → Prop} {X : String → gd → Prop} {P : Option gv → gd → Prop} {m : Int}
theorem La_rf : La x x := ⟨fun _ _ _ _ => rfl, Int.le_refl _, fun _ _ => rfl⟩
theorem La_tr (a : La x y) (b : La y z) : La x z := ⟨fun c k h1 h2 => (b.1 c k h1 h2).trans (a.1 c k h1 h2), Int.le_trans a.2.1 b.2.1, fun j hj => (b.2.2 j (Int.lt_of_lt_of_le hj a.2.1)).trans (a.2.2 j hj)⟩
theorem La_BU (a : La x y) (h : BU x) : BU y := by
  obtain ⟨j, h1, h2⟩ := h
  exact ⟨j, Int.lt_of_lt_of_le h1 a.2.1, by rw [a.2.2 j h1]; exact h2⟩
theorem La_PQ (a : La x y) {i : Nat} (e1 : y.1 62 i = x.1 62 i) (e2 : y.1 63 i = x.1 63 i) (h : PQ x i) : PQ y i := by
  unfold PQ at h ⊢
  rw [e1, e2]
  refine ⟨fun c => (h.1 c).imp id (La_BU a), fun c => ?_⟩
  obtain ⟨t, h1, h2, h3⟩ := h.2 c
  have := a.2.1
  refine ⟨t, h1, by omega, ?_⟩
  rw [a.2.2 t h2]
  rcases h3 with h3 | ⟨h3, h4, h5, h6⟩
  · exact Or.inl h3
  · refine Or.inr ⟨h3, by omega, ?_, ?_⟩
    · rw [a.2.2 _ (by omega)]; exact h5
    · rw [a.1 23 _ (by omega) (by omega)]; exact h6
theorem kT_fm (h : kT x) (f : ∀ c k, 20 ≤ c → c < 40 → y.1 c k = x.1 c k) : kT y := by
  obtain ⟨q1, n2, q2, q3, q4, q5⟩ := h
  refine ⟨by unfold kL; rw [f 20 1 (by omega) (by omega)]; exact q1, n2, by rw [f 20 7 (by omega) (by omega)]; exact q2, q3, fun k hk => ?_, by rw [f 23 _ (by omega) (by omega)]; exact q5⟩
  rw [f 24 k (by omega) (by omega), f 26 k (by omega) (by omega), f 23 k (by omega) (by omega), f 27 k (by omega) (by omega)]
  exact q4 k hk
theorem RB_at (h : RB x) : vp_in (x.1 100 4) 702 := by rw [vp_in_iff]; have := h.2.1; have := h.2.2.1; unfold nx at *; omega
theorem RB_lt (h : RB x) (hs : ¬ x.1 23 (x.1 100 4).toNatClampNeg = 0) : nx x < mt x := by
  obtain ⟨⟨-, n, e1, e2, e3, e4⟩, h1, h2, h3⟩ := h
  unfold nx mt at *
  refine Int.lt_iff_le_and_ne.mpr ⟨h3, fun q => hs ?_⟩
  have : (x.1 100 4).toNatClampNeg = n := by rw [t_cl, q, e1]; rfl
  rw [this]; exact e4
/-- on to the next token; the one that is passed has the use u -/
theorem SV_adv (h : SV x m) (hs : ¬ x.1 23 (x.1 100 4).toNatClampNeg = 0) (h7 : nx x < 700) {u : Int32} (hu : u = 12 → 2 ≤ (x.1 100 4).toNatClampNeg ∧ x.1 42 ((x.1 100 4).toNatClampNeg - 2) = 7) (f : fm (fun c k => (c = 42 ∧ k = (x.1 100 4).toNatClampNeg) ∨ (c = 100 ∧ k = 4)) x y) (e1 : y.1 42 (x.1 100 4).toNatClampNeg = u) (e2 : nx y = nx x + 1) : SV y m ∧ FR y ∧ La x y := by
  have hlt := RB_lt h.1 hs
  obtain ⟨⟨hT, b1, b2, b3⟩, ⟨u1, u2⟩, hp, hP⟩ := h
  have eN : ((x.1 100 4).toNatClampNeg : Int) = nx x := by rw [t_cl]; unfold nx at *; omega
  have la : La x y := ⟨fun c k q1 q2 => f c k (by omega), by omega, fun j hj => f 42 j (by omega)⟩
  have e7 : mt y = mt x := by unfold mt; rw [f 20 7 (by omega)]
  refine ⟨⟨⟨kT_fm hT la.1, by omega, by omega, by omega⟩, ⟨fun j h1 h2 => ?_, fun j h1 h2 => ?_⟩, ?_, fun i hi => La_PQ la (f _ _ (by omega)) (f _ _ (by omega)) (hP i hi)⟩, ?_, la⟩
  · rw [f 42 j (by omega)]; exact u1 j (by omega) h2
  · by_cases hj : j = (x.1 100 4).toNatClampNeg
    · rw [hj, e1] at h2
      obtain ⟨g1, g2⟩ := hu h2
      rw [hj, f 42 _ (by omega)]
      exact ⟨g1, g2⟩
    · rw [f 42 j (by omega)] at h2
      obtain ⟨g1, g2⟩ := u2 j (by omega) h2
      rw [f 42 _ (by omega)]
      exact ⟨g1, g2⟩
  · rw [f 60 3 (by omega)]; exact hp
  · unfold FR
    have : (y.1 100 4).toNatClampNeg = (x.1 100 4).toNatClampNeg + 1 := by
      have : ((y.1 100 4).toNatClampNeg : Int) = nx y := by rw [t_cl]; unfold nx at *; omega
      omega
    rw [this, f 42 _ (by omega)]
    exact u1 _ (by omega) (by omega)
theorem kp_refuse (hq : kV q) (n : Int32) (h1 : vp_in (x.1 100 4) 702) (h0 : fm sR x0 x) (hx : RX x0 X) (hn : ¬ n = 0 := by decide) : KE G q (d + 6) zk_X7_refuse 0 [(0, vr 100), (1, vi n)] [] x P X := by
  have g : ∀ v : Int32, ¬ v = 0 → KE G q (d + 6) zk_X7_refuse 22 [] [vi v, vr 100] x P X := fun v hv => kg_X7_refuse_22 hq _ (fun z ez => by
    refine hx z ?_ ?_ (by rw [ez, si_get, if_pos ⟨rfl, rfl⟩]; exact hv)
    · rw [ez]; exact fm_si h0 (by unfold sR; omega)
    · have : z.1 100 4 = x.1 100 4 := by rw [ez]; (simp only [si_get, sfl_get, Nat.reduceEqDiff, eq_self, and_false, false_and, and_true, true_and, if_true, if_false, reduceIte, reduceCtorEq])
      rw [this]; exact h1)
  exact kg_X7_refuse_0 hq _ ⟨h1, fun _ => g _ hn, fun _ => g _ (by decide)⟩
theorem kp_sort (hq : kV q) (h1 : RB x) (h : F (x.1 23 (x.1 100 4).toNatClampNeg) x) : KT G q d zk_X7_sort 0 [(0, vr 100)] [] x (ri F) := kg_X7_sort_0 hq ⟨RB_at h1, ri_i h⟩
theorem nx_1 (h : RB x) : (x.1 100 4 + 1).toInt = nx x + 1 ∧ (x.1 100 4 + 1).toNatClampNeg = (x.1 100 4).toNatClampNeg + 1 := by
  have h1 := h.2.1
  have h2 := h.2.2.1
  have e : (x.1 100 4 + 1).toInt = nx x + 1 := t_add (by show _ ≤ _ + (1 : Int); unfold nx at *; omega) (by show _ + (1 : Int) ≤ _; unfold nx at *; omega)
  exact ⟨e, by rw [t_cl, e, t_cl]; unfold nx at *; omega⟩
theorem kp_sortBehind (hq : kV q) (h1 : RB x) (h : F (x.1 23 ((x.1 100 4).toNatClampNeg + 1)) x) : KT G q d zk_X7_sortBehind 0 [(0, vr 100)] [] x (ri F) := by
  obtain ⟨e1, e2⟩ := nx_1 h1
  refine kg_X7_sortBehind_0 hq ⟨?_, ?_⟩
  · rw [vp_in_iff]; have := h1.2.1; have := h1.2.2.1; omega
  · rw [e2]; exact ri_i h
theorem nx_si (h : RB x) (ey : y = si x 100 4 (x.1 100 4 + 1)) : nx y = nx x + 1 ∧ fm (fun c k => (c = 42 ∧ k = (x.1 100 4).toNatClampNeg) ∨ (c = 100 ∧ k = 4)) x y ∧ y.1 42 (x.1 100 4).toNatClampNeg = x.1 42 (x.1 100 4).toNatClampNeg := by
  refine ⟨?_, ?_, ?_⟩
  · have : y.1 100 4 = x.1 100 4 + 1 := by rw [ey]; (simp only [si_get, sfl_get, Nat.reduceEqDiff, eq_self, and_false, false_and, and_true, true_and, if_true, if_false, reduceIte, reduceCtorEq])
    unfold nx
    rw [this]; exact (nx_1 h).1
  · rw [ey]; exact fm_si (fm_rf _ _) (Or.inr ⟨rfl, rfl⟩)
  · rw [ey]; (simp only [si_get, sfl_get, Nat.reduceEqDiff, eq_self, and_false, false_and, and_true, true_and, if_true, if_false, reduceIte, reduceCtorEq])
theorem kp_pass (hq : kV q) (h0 : fm sR x0 x) (hx : RX x0 X) (hS : SV x m) (hs : ¬ x.1 23 (x.1 100 4).toNatClampNeg = 0) (hu : ¬ x.1 42 (x.1 100 4).toNatClampNeg = 12) (h : ∀ y, fm (fun c k => c = 100 ∧ k = 4) x y → nx y = nx x + 1 → SV y m → FR y → La x y → fm sR x0 y → Fv y) : KE G q (d + 7) zk_X7_pass 0 [(0, vr 100)] [] x (rv Fv) X := by
  refine kg_X7_pass_0 hq ⟨fun c y ey => rv_i ?_, fun c => kp_refuse hq _ (RB_at hS.1) h0 hx⟩
  obtain ⟨e1, e2, e3⟩ := nx_si hS.1 ey
  obtain ⟨g1, g2, g3⟩ := SV_adv hS hs (by rw [t_lt] at c; exact c) (u := x.1 42 (x.1 100 4).toNatClampNeg) (fun q => absurd q hu) e2 e3 e1
  exact h y (by rw [ey]; exact fm_si (fm_rf _ _) ⟨rfl, rfl⟩) e1 g1 g2 g3 (by rw [ey]; exact fm_si h0 (by unfold sR; omega))
theorem kp_need (hq : kV q) (h0 : fm sR x0 x) (hx : RX x0 X) (hS : SV x m) (w : Int32) (hw : ¬ w = 0) (hu : FR x) (h : x.1 23 (x.1 100 4).toNatClampNeg = w → ∀ y, fm (fun c k => c = 100 ∧ k = 4) x y → nx y = nx x + 1 → SV y m → FR y → La x y → fm sR x0 y → Fv y) : KE G q (d + 7) zk_X7_need 0 [(0, vr 100), (1, vi w)] [] x (rv Fv) X := by
  have g32 : ∀ s : Int32, ¬ s = 0 → KE G q (d + 7) zk_X7_need 32 [(0, vr 100)] [vi s, vr 100] x (rv Fv) X := fun s hs9 => kg_X7_need_32 hq _ (kp_refuse hq _ (RB_at hS.1) h0 hx hs9)
  have g18 : KE G q (d + 7) zk_X7_need 18 [(0, vr 100), (1, vi w)] [] x (rv Fv) X := kg_X7_need_18 hq _ (kp_sort hq hS.1 ⟨fun _ => g32 _ (by decide), fun _ => g32 _ (by decide)⟩)
  refine kg_X7_need_0 hq _ (kp_sort hq hS.1 ⟨fun _ => g18, fun cw => ⟨fun c y ey => rv_i ?_, fun c => g18⟩⟩)
  obtain ⟨e1, e2, e3⟩ := nx_si hS.1 ey
  unfold FR at hu
  obtain ⟨g1, g2, g3⟩ := SV_adv hS (by rw [cw]; exact hw) (by rw [t_lt] at c; exact c) (u := x.1 42 (x.1 100 4).toNatClampNeg) (fun q => absurd q (by rw [hu]; decide)) e2 e3 e1
  exact h cw y (by rw [ey]; exact fm_si (fm_rf _ _) ⟨rfl, rfl⟩) e1 g1 g2 g3 (by rw [ey]; exact fm_si h0 (by unfold sR; omega))
theorem kp_needFor (hq : kV q) (h0 : fm sR x0 x) (hx : RX x0 X) (hS : SV x m) (w u : Int32) (hw : ¬ w = 0) (hu : u = 12 → 2 ≤ (x.1 100 4).toNatClampNeg ∧ x.1 42 ((x.1 100 4).toNatClampNeg - 2) = 7) (h : x.1 23 (x.1 100 4).toNatClampNeg = w → ∀ y, fm (fun c k => (c = 42 ∧ k = (x.1 100 4).toNatClampNeg) ∨ (c = 100 ∧ k = 4)) x y → y.1 42 (x.1 100 4).toNatClampNeg = u → nx y = nx x + 1 → SV y m → FR y → La x y → fm sR x0 y → tk y (x.1 100 4) → F (x.1 100 4) y) : KE G q (d + 7) zk_X7_needFor 0 [(0, vr 100), (1, vi w), (2, vi u)] [] x (ri F) X := by
  have g35 : x.1 23 (x.1 100 4).toNatClampNeg = w → (x.1 100 4).toInt < 700 → KE G q (d + 7) zk_X7_needFor 35 [(0, vr 100), (2, vi u)] [] x (ri F) X := by
    intro cw c
    refine kg_X7_needFor_35 hq _ ⟨RB_at hS.1, fun x2 e2 y ey => ?_⟩
    have f4 : x2.1 100 4 = x.1 100 4 := by rw [e2]; (simp only [si_get, sfl_get, Nat.reduceEqDiff, eq_self, and_false, false_and, and_true, true_and, if_true, if_false, reduceIte, reduceCtorEq])
    rw [f4] at ey
    have y4 : y.1 100 4 = x.1 100 4 + 1 := by rw [ey]; (simp only [si_get, sfl_get, Nat.reduceEqDiff, eq_self, and_false, false_and, and_true, true_and, if_true, if_false, reduceIte, reduceCtorEq])
    have yN : nx y = nx x + 1 := by unfold nx; rw [y4]; exact (nx_1 hS.1).1
    have er : y.1 100 4 - 1 = x.1 100 4 := by rw [y4]; exact Int32.add_sub_cancel _ _
    have ff : fm (fun c k => (c = 42 ∧ k = (x.1 100 4).toNatClampNeg) ∨ (c = 100 ∧ k = 4)) x y := by rw [ey, e2]; exact fm_si (fm_si (fm_rf _ _) (Or.inl ⟨rfl, rfl⟩)) (Or.inr ⟨rfl, rfl⟩)
    have eu : y.1 42 (x.1 100 4).toNatClampNeg = u := by rw [ey, e2]; (simp only [si_get, sfl_get, Nat.reduceEqDiff, eq_self, and_false, false_and, and_true, true_and, if_true, if_false, reduceIte, reduceCtorEq])
    have hlt := RB_lt hS.1 (by rw [cw]; exact hw)
    obtain ⟨g1, g2, g3⟩ := SV_adv hS (by rw [cw]; exact hw) c hu ff eu yN
    rw [er]
    refine ri_i (h cw y ff eu yN g1 g2 g3 (by rw [ey, e2]; exact fm_si (fm_si h0 (by unfold sR; omega)) (by unfold sR; omega)) ⟨hS.1.2.1, ?_⟩)
    rw [ff 20 7 (by omega)]; exact hlt
  have g18 : (¬ x.1 23 (x.1 100 4).toNatClampNeg = w ∨ ¬ (x.1 100 4).toInt < 700) → KE G q (d + 7) zk_X7_needFor 18 [(0, vr 100), (1, vi w), (2, vi u)] [] x (ri F) X := by
    intro _
    have g32 : ∀ s : Int32, ¬ s = 0 → KE G q (d + 7) zk_X7_needFor 32 [(0, vr 100), (2, vi u)] [vi s, vr 100] x (ri F) X := fun s hs9 => kg_X7_needFor_32 hq _ _ (kp_refuse hq _ (RB_at hS.1) h0 hx hs9)
    exact kg_X7_needFor_18 hq _ _ (kp_sort hq hS.1 ⟨fun _ => g32 _ (by decide), fun _ => g32 _ (by decide)⟩)
  exact kg_X7_needFor_0 hq _ _ (kp_sort hq hS.1 ⟨fun c => g18 (Or.inl c), fun cw => ⟨fun c => g35 cw (by rw [t_lt] at c; exact c), fun c => g18 (Or.inr (by rw [t_lt] at c; exact c))⟩⟩)
/-- a part more -/
def AP (x y : gd) (p a : Int32) : Prop := fm (fun c k => (c = 60 ∧ k = 3) ∨ c = 62 ∨ c = 63) x y ∧ (0 ≤ (y.1 60 3).toInt ∧ (y.1 60 3).toInt ≤ 800) ∧ (x.1 60 3).toInt ≤ (y.1 60 3).toInt ∧ (∀ i : Nat, (i : Int) < (x.1 60 3).toInt → y.1 62 i = x.1 62 i ∧ y.1 63 i = x.1 63 i) ∧ ∀ i : Nat, (i : Int) < (y.1 60 3).toInt → (i : Int) < (x.1 60 3).toInt ∨ (y.1 62 i = p ∧ y.1 63 i = a)
theorem kp_addPart (hq : kV q) (p a : Int32) (hp : 0 ≤ (x.1 60 3).toInt ∧ (x.1 60 3).toInt ≤ 800) (h : ∀ y, AP x y p a → Fv y) : KT G q d zk_X0_addPart 0 [(0, vr 60), (1, vi p), (2, vi a)] [] x (rv Fv) := by
  refine kg_X0_addPart_0 hq _ _ ⟨fun c => rv_i (h x ⟨fm_rf _ _, hp, Int.le_refl _, fun _ _ => ⟨rfl, rfl⟩, fun i hi => Or.inl hi⟩), fun c => ?_⟩
  have k8 : (800 : Int32).toInt = 800 := rfl
  rw [t_le, k8] at c
  have vin : vp_in (x.1 60 3) 800 := by rw [vp_in_iff]; omega
  refine ⟨vin, fun x3 e3 => ?_⟩
  have f3 : x3.1 60 3 = x.1 60 3 := by rw [e3]; (simp only [si_get, sfl_get, Nat.reduceEqDiff, eq_self, and_false, false_and, and_true, true_and, if_true, if_false, reduceIte, reduceCtorEq])
  refine ⟨by rw [f3]; exact vin, fun x5 e5 y ey => rv_i (h y ?_)⟩
  rw [f3] at e5
  have f5 : x5.1 60 3 = x.1 60 3 := by rw [e5, ← f3]; (simp only [si_get, sfl_get, Nat.reduceEqDiff, eq_self, and_false, false_and, and_true, true_and, if_true, if_false, reduceIte, reduceCtorEq])
  rw [f5] at ey
  have fy : y.1 60 3 = x.1 60 3 + 1 := by rw [ey]; (simp only [si_get, sfl_get, Nat.reduceEqDiff, eq_self, and_false, false_and, and_true, true_and, if_true, if_false, reduceIte, reduceCtorEq])
  have ty : (y.1 60 3).toInt = (x.1 60 3).toInt + 1 := by rw [fy, t_add (by show _ ≤ _ + (1 : Int); omega) (by show _ + (1 : Int) ≤ _; omega)]; rfl
  have eN : ((x.1 60 3).toNatClampNeg : Int) = (x.1 60 3).toInt := by rw [t_cl]; omega
  refine ⟨?_, by omega, by omega, fun i hi => ⟨?_, ?_⟩, fun i hi => ?_⟩
  · rw [ey, e5, e3]; exact fm_si (fm_si (fm_si (fm_rf _ _) (Or.inr (Or.inl rfl))) (Or.inr (Or.inr rfl))) (Or.inl ⟨rfl, rfl⟩)
  · rw [ey, e5, e3, si_get, if_neg (by omega), si_get, if_neg (by omega), si_get, if_neg (by omega)]
  · rw [ey, e5, e3, si_get, if_neg (by omega), si_get, if_neg (by omega), si_get, if_neg (by omega)]
  · by_cases hi2 : (i : Int) < (x.1 60 3).toInt
    · exact Or.inl hi2
    · have : i = (x.1 60 3).toNatClampNeg := by omega
      subst this
      refine Or.inr ⟨?_, ?_⟩
      · rw [ey, e5, e3]; (simp only [si_get, sfl_get, Nat.reduceEqDiff, eq_self, and_false, false_and, and_true, true_and, if_true, if_false, reduceIte, reduceCtorEq])
      · rw [ey, e5, e3]; (simp only [si_get, sfl_get, Nat.reduceEqDiff, eq_self, and_false, false_and, and_true, true_and, if_true, if_false, reduceIte, reduceCtorEq])
theorem AP_La {p a : Int32} (h : AP x y p a) : La x y := ⟨fun c k q1 q2 => h.1 c k (by omega), by unfold nx; rw [h.1 100 4 (by omega)]; exact Int.le_refl _, fun j _ => h.1 42 j (by omega)⟩
theorem AP_SV {p a : Int32} (hm : m ≤ (x.1 60 3).toInt) (hS : SV x m) (h : AP x y p a) : SV y m := by
  have la := AP_La h
  obtain ⟨⟨hT, b1, b2, b3⟩, ⟨u1, u2⟩, hp, hP⟩ := hS
  have e4 : y.1 100 4 = x.1 100 4 := h.1 _ _ (by omega)
  have e7 : y.1 20 7 = x.1 20 7 := h.1 _ _ (by omega)
  refine ⟨⟨kT_fm hT la.1, by unfold nx; rw [e4]; exact b1, by unfold nx; rw [e4]; exact b2, by unfold nx mt; rw [e4, e7]; exact b3⟩, ⟨fun j h1 h2 => ?_, fun j h1 h2 => ?_⟩, h.2.1, fun i hi => La_PQ la (h.2.2.2.1 i (by omega)).1 (h.2.2.2.1 i (by omega)).2 (hP i hi)⟩
  · rw [h.1 42 j (by omega)]; exact u1 j (by unfold nx at h1; rw [e4] at h1; exact h1) h2
  · rw [h.1 42 j (by omega)] at h2
    rw [h.1 42 _ (by omega)]
    exact u2 j (by unfold nx at h1; rw [e4] at h1; exact h1) h2
/-- all parts are well -/
abbrev SU (x : gd) : Prop := SV x (x.1 60 3).toInt
theorem AP_SU {p a : Int32} (hS : SU x) (h : AP x y p a) (hp2 : p = 2 → (0 ≤ a.toInt ∧ a.toInt < 24) ∨ BU y) (hp6 : ¬ p = 6) : SU y := by
  obtain ⟨g1, g2, g3, g4⟩ := AP_SV (Int.le_refl _) hS h
  refine ⟨g1, g2, g3, fun i hi => ?_⟩
  rcases h.2.2.2.2 i hi with e | ⟨e1, e2⟩
  · exact g4 i e
  · unfold PQ
    rw [e1, e2]
    exact ⟨hp2, fun c => absurd c hp6⟩
/-- locals that are known -/
def KN (x : gd) : Prop := (0 ≤ (x.1 100 9).toInt ∧ (x.1 100 9).toInt ≤ 8) ∧ ∀ i : Nat, (i : Int) < (x.1 100 9).toInt → tk x (x.1 109 i)
theorem kp_knownFrom (hq : kV q) (hT : kT x) (hK : KN x) (f t : Int32) (hf : 0 ≤ f.toInt) (ht : tk x t) (h : ∀ r : Int32, (r = -1 ∨ (f.toInt ≤ r.toInt ∧ r.toInt < (x.1 100 9).toInt)) → F r x) : KT G q (d + 1) zk_X7_knownFrom 0 [(0, vr 100), (1, vi f), (2, vi t)] [] x (ri F) := by
  obtain ⟨⟨k0, k8⟩, hk⟩ := hK
  have loop : ∀ (n : Nat) (i : Int32), -1 ≤ i.toInt → i.toInt < (x.1 100 9).toInt → i.toInt + 1 ≤ n → KT G q (d + 1) zk_X7_knownFrom 7 [(0, vr 100), (1, vi f), (2, vi t), (3, vi i)] [] x (ri F) := by
    intro n
    induction n with
    | zero =>
      intro i i0 i1 hn
      refine kg_X7_knownFrom_7 hq _ _ _ ⟨fun _ => ri_i (h _ (Or.inl rfl)), fun c => ?_⟩
      exfalso; rw [t_lt] at c; omega
    | succ n ih =>
      intro i i0 i1 hn
      refine kg_X7_knownFrom_7 hq _ _ _ ⟨fun _ => ri_i (h _ (Or.inl rfl)), fun c => ?_⟩
      rw [t_lt] at c
      have e1 : (i + (-1)).toInt = i.toInt - 1 := by rw [t_add (by rw [tm1]; omega) (by rw [tm1]; omega), tm1]; rfl
      exact ⟨by rw [vp_in_iff]; omega, kp_sameName hq hT _ _ (hk _ (by rw [t_cl]; omega)) ht (fun r _ => ⟨fun _ => ih _ (by omega) (by omega) (by omega), fun _ => ri_i (h _ (Or.inr ⟨by omega, i1⟩))⟩)⟩
  have e1 : (x.1 100 9 - 1).toInt = (x.1 100 9).toInt - 1 := t_sub (by show _ ≤ _ - (1 : Int); omega) (by show _ - (1 : Int) ≤ _; omega)
  exact kg_X7_knownFrom_0 hq _ _ (loop 8 _ (by omega) (by omega) (by omega))
end KRD
