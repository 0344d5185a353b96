/-! the class: sums are read -/
def zc (x : gd) : Nat → Nat
  | 0 => 0
  | n + 1 => zc x n + (if x.1 116 n = 0 then 1 else 0)
/-- operators that are held -/
def HI (x : gd) : Prop := (0 ≤ (x.1 100 17).toInt ∧ (x.1 100 17).toInt ≤ 18) ∧ (∀ i : Nat, (i : Int) < (x.1 100 17).toInt → (¬ x.1 115 i = 2 ∧ ¬ x.1 115 i = 6) ∧ 0 ≤ (x.1 116 i).toInt ∧ (i : Int) + 1 ≤ (x.1 117 i).toInt ∧ (x.1 117 i).toInt ≤ 18) ∧ ∀ i j : Nat, i ≤ j → (j : Int) < (x.1 100 17).toInt → (x.1 117 i).toInt ≤ (x.1 117 j).toInt
def hz (x : gd) : Nat := zc x (x.1 100 17).toNatClampNeg
def DL (x : gd) : Prop := ∀ i : Nat, (i : Int) < (x.1 100 17).toInt → (x.1 117 i).toInt ≤ 16
def sSum (c k : Nat) : Prop := c = 42 ∨ (c = 60 ∧ k = 3) ∨ c = 62 ∨ c = 63 ∨ (c = 100 ∧ (k = 4 ∨ k = 17)) ∨ (115 ≤ c ∧ c ≤ 117)
def SM (x y : gd) : Prop := SU y ∧ HI y ∧ La x y ∧ fm sSum x y
section KSU
variable {G : kG} {q : kP} {d : Nat} {x x0 y z : gd} {F : Int32 → gd → Prop} {Fv : gd → Prop} {X : String → gd → Prop} {P : Option gv → gd → Prop} {m : Int}
theorem zc_eq : ∀ n : Nat, (∀ i, i < n → z.1 116 i = y.1 116 i) → zc z n = zc y n := by
  intro n
  induction n with
  | zero => intro _; rfl
  | succ n ih =>
    intro h
    show zc z n + (if z.1 116 n = 0 then 1 else 0) = zc y n + (if y.1 116 n = 0 then 1 else 0)
    rw [ih (fun i hi => h i (by omega)), h n (by omega)]
theorem HI_eq (h : HI y) (e : z.1 100 17 = y.1 100 17) (f : ∀ c k, 115 ≤ c → c ≤ 117 → z.1 c k = y.1 c k) : HI z ∧ hz z = hz y := by
  refine ⟨?_, ?_⟩
  · unfold HI at h ⊢
    rw [e]
    refine ⟨h.1, fun i hi => ?_, fun i j h1 h2 => ?_⟩
    · rw [f 115 i (by omega) (by omega), f 116 i (by omega) (by omega), f 117 i (by omega) (by omega)]; exact h.2.1 i hi
    · rw [f 117 i (by omega) (by omega), f 117 j (by omega) (by omega)]; exact h.2.2 i j h1 h2
  · unfold hz
    rw [e]
    exact zc_eq _ (fun i _ => f 116 i (by omega) (by omega))
theorem sSum_R {c k : Nat} (h : sSum c k) : sR c k := by unfold sSum at h; unfold sR; omega
def dh (x : gd) : Int32 := if x.1 100 17 ≤ 0 then 0 else x.1 117 (x.1 100 17 - 1).toNatClampNeg
theorem dh_is (hH : HI x) : (x.1 100 17).toInt ≤ (dh x).toInt ∧ 0 ≤ (dh x).toInt ∧ (dh x).toInt ≤ 18 ∧ (∀ i : Nat, (i : Int) < (x.1 100 17).toInt → (x.1 117 i).toInt ≤ (dh x).toInt) := by
  obtain ⟨⟨a0, a1⟩, a2, a3⟩ := hH
  have k0 : (0 : Int32).toInt = 0 := rfl
  unfold dh
  by_cases c : x.1 100 17 ≤ 0
  · rw [if_pos c, k0]
    rw [t_le, k0] at c
    exact ⟨by omega, by omega, by omega, fun i hi => by omega⟩
  · rw [if_neg c]
    rw [t_le, k0] at c
    have e1 : (x.1 100 17 - 1).toInt = (x.1 100 17).toInt - 1 := t_sub (by show _ ≤ _ - (1 : Int); omega) (by show _ - (1 : Int) ≤ _; omega)
    have e2 : ((x.1 100 17 - 1).toNatClampNeg : Int) = (x.1 100 17).toInt - 1 := by rw [t_cl, e1]; omega
    have g := a2 _ (show (((x.1 100 17 - 1).toNatClampNeg : Nat) : Int) < _ by omega)
    exact ⟨by omega, by omega, by omega, fun i hi => a3 _ _ (by omega) (by omega)⟩
theorem kp_depthHere (hq : kV q) (hH : HI x) (h : F (dh x) x) : KT G q d zk_X7_depthHere 0 [(0, vr 100)] [] x (ri F) := by
  obtain ⟨⟨a0, a1⟩, a2, a3⟩ := hH
  have k0 : (0 : Int32).toInt = 0 := rfl
  unfold dh at h
  refine kg_X7_depthHere_0 hq ⟨fun c => ri_i ?_, fun c => ⟨?_, ri_i ?_⟩⟩
  · rw [if_pos c] at h; exact h
  · rw [t_le, k0] at c
    have e1 : (x.1 100 17 - 1).toInt = (x.1 100 17).toInt - 1 := t_sub (by show _ ≤ _ - (1 : Int); omega) (by show _ - (1 : Int) ≤ _; omega)
    rw [vp_in_iff]; omega
  · rw [if_neg c] at h; exact h
theorem kp_hold (hq : kV q) (p s t : Int32) (hH : HI x) (hp : ¬ p = 2 ∧ ¬ p = 6) (hs : 0 ≤ s.toInt) (h1 : (x.1 100 17).toInt + 1 ≤ t.toInt) (h2 : t.toInt ≤ 18) (h3 : ∀ i : Nat, (i : Int) < (x.1 100 17).toInt → (x.1 117 i).toInt ≤ t.toInt) (h : ∀ y, fm (fun c k => (c = 100 ∧ k = 17) ∨ (115 ≤ c ∧ c ≤ 117)) x y → HI y → hz y = hz x + (if s = 0 then 1 else 0) → Fv y) : KT G q d zk_X7_hold 0 [(0, vr 100), (1, vi p), (2, vi s), (3, vi t)] [] x (rv Fv) := by
  obtain ⟨⟨a0, a1⟩, a2, a3⟩ := hH
  have k20 : (20 : Int32).toInt = 20 := rfl
  have eN : ((x.1 100 17).toNatClampNeg : Int) = (x.1 100 17).toInt := by rw [t_cl]; omega
  have vin : vp_in (x.1 100 17) 20 := by rw [vp_in_iff]; omega
  refine kg_X7_hold_0 hq _ _ _ ⟨fun c => ?_, fun c => ⟨vin, fun x3 e3 => ?_⟩⟩
  · exfalso; rw [t_le, k20] at c; omega
  have f3 : x3.1 100 17 = x.1 100 17 := by rw [e3]; (simp only [si_get, sfl_get, Nat.reduceEqDiff, eq_self, and_false, false_and, and_true, true_and, if_true, if_false, reduceIte, reduceCtorEq])
  refine ⟨by rw [f3]; exact vin, fun x5 e5 => ?_⟩
  rw [f3] at e5
  have f5 : x5.1 100 17 = x.1 100 17 := by rw [e5, ← f3]; (simp only [si_get, sfl_get, Nat.reduceEqDiff, eq_self, and_false, false_and, and_true, true_and, if_true, if_false, reduceIte, reduceCtorEq])
  refine ⟨by rw [f5]; exact vin, fun x7 e7 y ey => rv_i (h y ?_ ?_ ?_)⟩
  · rw [ey, e7, e5, e3]
    exact fm_si (fm_si (fm_si (fm_si (fm_rf _ _) (Or.inr (by omega))) (Or.inr (by omega))) (Or.inr (by omega))) (Or.inl ⟨rfl, rfl⟩)
  all_goals
    rw [f5] at e7
    have f7 : x7.1 100 17 = x.1 100 17 := by rw [e7, ← f5]; (simp only [si_get, sfl_get, Nat.reduceEqDiff, eq_self, and_false, false_and, and_true, true_and, if_true, if_false, reduceIte, reduceCtorEq])
    rw [f7] at ey
    have fy : y.1 100 17 = x.1 100 17 + 1 := by rw [ey]; (simp only [si_get, sfl_get, Nat.reduceEqDiff, eq_self, and_false, false_and, and_true, true_and, if_true, if_false, reduceIte, reduceCtorEq])
    have ty : (y.1 100 17).toInt = (x.1 100 17).toInt + 1 := by rw [fy, t_add (by show _ ≤ _ + (1 : Int); omega) (by show _ + (1 : Int) ≤ _; omega)]; rfl
    have g : ∀ c k, 115 ≤ c → c ≤ 117 → k ≠ (x.1 100 17).toNatClampNeg → y.1 c k = x.1 c k := by
      intro c k c1 c2 hk
      rw [ey, e7, e5, e3, si_get, if_neg (by omega), si_get, if_neg (fun q => hk q.2), si_get, if_neg (fun q => hk q.2), si_get, if_neg (fun q => hk q.2)]
    have g5 : y.1 115 (x.1 100 17).toNatClampNeg = p := by rw [ey, e7, e5, e3]; (simp only [si_get, sfl_get, Nat.reduceEqDiff, eq_self, and_false, false_and, and_true, true_and, if_true, if_false, reduceIte, reduceCtorEq])
    have g6 : y.1 116 (x.1 100 17).toNatClampNeg = s := by rw [ey, e7, e5, e3]; (simp only [si_get, sfl_get, Nat.reduceEqDiff, eq_self, and_false, false_and, and_true, true_and, if_true, if_false, reduceIte, reduceCtorEq])
    have g7 : y.1 117 (x.1 100 17).toNatClampNeg = t := by rw [ey, e7, e5, e3]; (simp only [si_get, sfl_get, Nat.reduceEqDiff, eq_self, and_false, false_and, and_true, true_and, if_true, if_false, reduceIte, reduceCtorEq])
  · refine ⟨by omega, fun i hi => ?_, fun i j hij hj => ?_⟩
    · by_cases hi2 : i = (x.1 100 17).toNatClampNeg
      · subst hi2
        rw [g5, g6, g7]
        exact ⟨hp, hs, by omega, h2⟩
      · rw [g 115 i (by omega) (by omega) hi2, g 116 i (by omega) (by omega) hi2, g 117 i (by omega) (by omega) hi2]
        exact a2 i (by omega)
    · by_cases hj2 : j = (x.1 100 17).toNatClampNeg
      · by_cases hi2 : i = (x.1 100 17).toNatClampNeg
        · rw [hi2, hj2]; exact Int.le_refl _
        · rw [hj2, g7, g 117 i (by omega) (by omega) hi2]; exact h3 i (by omega)
      · rw [g 117 i (by omega) (by omega) (by omega), g 117 j (by omega) (by omega) hj2]; exact a3 i j hij (by omega)
  · unfold hz
    have : (y.1 100 17).toNatClampNeg = (x.1 100 17).toNatClampNeg + 1 := by
      have : ((y.1 100 17).toNatClampNeg : Int) = (y.1 100 17).toInt := by rw [t_cl]; omega
      omega
    rw [this]
    show zc y _ + (if y.1 116 _ = 0 then 1 else 0) = _
    rw [g6, zc_eq (z := y) (y := x) _ (fun i hi => g 116 i (by omega) (by omega) (by omega))]
theorem kp_release (hq : kV q) (s : Int32) (hs : 1 ≤ s.toInt) (hS : SU x) (hH : HI x) (h : ∀ y, fm (fun c k => (c = 100 ∧ k = 17) ∨ (c = 60 ∧ k = 3) ∨ c = 62 ∨ c = 63) x y → SU y → HI y → hz y = hz x → (y.1 100 17).toInt ≤ (x.1 100 17).toInt → ((y.1 100 17).toInt = 0 ∨ (y.1 116 ((y.1 100 17).toInt.toNat - 1)).toInt < s.toInt) → Fv y) : KT G q (d + 1) zk_X7_release 0 [(0, vr 100), (1, vi s)] [] x (rv Fv) := by
  have k0 : (0 : Int32).toInt = 0 := rfl
  have k20 : (20 : Int32).toInt = 20 := rfl
  have loop : ∀ (n : Nat) (k : Int32) (y : gd), fm (fun c k => (c = 100 ∧ k = 17) ∨ (c = 60 ∧ k = 3) ∨ c = 62 ∨ c = 63) x y → SU y → HI y → hz y = hz x → (y.1 100 17).toInt ≤ (x.1 100 17).toInt → (y.1 100 17).toInt ≤ n → 0 ≤ k.toInt → k.toInt + (y.1 100 17).toInt ≤ 18 → KT G q (d + 1) zk_X7_release 2 [(0, vr 100), (1, vi s), (2, vi k)] [] y (rv Fv) := by
    intro n
    induction n with
    | zero =>
      intro k y hf hSy hHy hzy hle hn k0' kk
      have a0 := hHy.1.1
      refine kg_X7_release_2 hq _ _ ⟨fun c => ?_, fun c => ⟨fun c2 => rv_i (h y hf hSy hHy hzy hle (Or.inl (by omega))), fun c2 => ?_⟩⟩
      · exfalso; rw [t_le, k20] at c; omega
      · exfalso; rw [t_le, k0] at c2; omega
    | succ n ih =>
      intro k y hf hSy hHy hzy hle hn k0' kk
      obtain ⟨⟨a0, a1⟩, a2, a3⟩ := id hHy
      refine kg_X7_release_2 hq _ _ ⟨fun c => ?_, fun c => ⟨fun c2 => rv_i (h y hf hSy hHy hzy hle (Or.inl ?_)), fun c2 => ?_⟩⟩
      · exfalso; rw [t_le, k20] at c; omega
      · rw [t_le, k0] at c2; omega
      rw [t_le, k0] at c2
      have e1 : (y.1 100 17 - 1).toInt = (y.1 100 17).toInt - 1 := t_sub (by show _ ≤ _ - (1 : Int); omega) (by show _ - (1 : Int) ≤ _; omega)
      have e2 : (y.1 100 17 - 1).toNatClampNeg = (y.1 100 17).toInt.toNat - 1 := by rw [t_cl, e1]; omega
      refine ⟨by rw [vp_in_iff]; omega, fun c3 => rv_i (h y hf hSy hHy hzy hle (Or.inr ?_)), fun c3 x5 e5 => ?_⟩
      · rw [t_lt, e2] at c3; exact c3
      rw [t_lt, e2] at c3
      have f5 : x5.1 100 17 = y.1 100 17 - 1 := by rw [e5]; (simp only [si_get, sfl_get, Nat.reduceEqDiff, eq_self, and_false, false_and, and_true, true_and, if_true, if_false, reduceIte, reduceCtorEq])
      have i5 : (x5.1 100 17).toInt = (y.1 100 17).toInt - 1 := by rw [f5]; exact e1
      have m5 : fm (fun c k => c = 100 ∧ k = 17) y x5 := by rw [e5]; exact fm_si (fm_rf _ _) ⟨rfl, rfl⟩
      have la5 : La y x5 := ⟨fun c k q1 q2 => m5 c k (by omega), by unfold nx; rw [m5 100 4 (by omega)]; exact Int.le_refl _, fun j _ => m5 42 j (by omega)⟩
      have H5 : HI x5 := by
        refine ⟨by omega, fun i hi => ?_, fun i j hij hj => ?_⟩
        · rw [m5 115 i (by omega), m5 116 i (by omega), m5 117 i (by omega)]; exact a2 i (by omega)
        · rw [m5 117 i (by omega), m5 117 j (by omega)]; exact a3 i j hij (by omega)
      have S5 : SU x5 := by
        obtain ⟨⟨hT, b1, b2, b3⟩, ⟨u1, u2⟩, hp, hP⟩ := hSy
        have q4 : x5.1 100 4 = y.1 100 4 := m5 _ _ (by omega)
        have q7 : x5.1 20 7 = y.1 20 7 := m5 _ _ (by omega)
        have q3 : x5.1 60 3 = y.1 60 3 := m5 _ _ (by omega)
        unfold SU SV US RB nx mt
        rw [q4, q7, q3]
        refine ⟨⟨kT_fm hT la5.1, b1, b2, b3⟩, ⟨fun j h1 h2 => ?_, fun j h1 h2 => ?_⟩, hp, fun i hi => La_PQ la5 (m5 _ _ (by omega)) (m5 _ _ (by omega)) (hP i hi)⟩
        · rw [m5 42 j (by omega)]; exact u1 j h1 h2
        · rw [m5 42 j (by omega)] at h2; rw [m5 42 _ (by omega)]; exact u2 j h1 h2
      have z5 : hz x5 = hz y := by
        unfold hz
        have n5 : (y.1 100 17).toNatClampNeg = (x5.1 100 17).toNatClampNeg + 1 := by rw [t_cl, t_cl]; omega
        have n6 : (x5.1 100 17).toNatClampNeg = (y.1 100 17).toInt.toNat - 1 := by rw [t_cl]; omega
        rw [n5]
        show _ = zc y _ + (if y.1 116 _ = 0 then 1 else 0)
        rw [n6, if_neg (fun q => by rw [q] at c3; rw [k0] at c3; omega), zc_eq (z := x5) (y := y) _ (fun i _ => m5 116 i (by omega))]
        rfl
      have v5 : vp_in (x5.1 100 17) 20 := by rw [vp_in_iff]; omega
      have e6 : (k + 1).toInt = k.toInt + 1 := t_add (by show _ ≤ _ + (1 : Int); omega) (by show _ + (1 : Int) ≤ _; omega)
      have h5 := a2 ((y.1 100 17).toInt.toNat - 1) (by omega)
      have n6 : (x5.1 100 17).toNatClampNeg = (y.1 100 17).toInt.toNat - 1 := by rw [t_cl]; omega
      refine ⟨v5, kp_addPart hq _ _ S5.2.2.1 (fun z hz9 => ?_)⟩
      rw [n6, m5 115 _ (by omega)] at hz9
      have S6 : SU z := AP_SU S5 hz9 (fun c => absurd c h5.1.1) h5.1.2
      obtain ⟨H6, z6⟩ := HI_eq (z := z) H5 (hz9.1 _ _ (by omega)) (fun c k q1 q2 => hz9.1 c k (by omega))
      have w6 : z.1 100 17 = x5.1 100 17 := hz9.1 _ _ (by omega)
      refine ih _ z (fm_tr (fm_tr hf (fm_w m5 (fun c k q => Or.inl q))) (fm_w hz9.1 (fun c k q => by omega))) S6 H6 (by rw [z6, z5, hzy]) ?_ ?_ ?_ ?_ <;> (try rw [w6]) <;> omega
  exact kg_X7_release_0 hq _ (loop 18 _ x (fm_rf _ _) hS hH rfl (Int.le_refl _) hH.1.2 (by decide) (by rw [k0]; have := hH.1.2; omega))
theorem kp_beginsSum (hq : kV q) (s : Int32) (h : ∀ r : Int32, (¬ r = 0 → s = 3 ∨ s = 2 ∨ s = 21 ∨ s = 59 ∨ s = 18 ∨ s = 62) → F r x) : KT G q d zk_X7_beginsSum 0 [(0, vr 100), (1, vi s)] [] x (ri F) := by
  refine kg_X7_beginsSum_0 hq _ ⟨fun c => ri_i (h _ (fun _ => Or.inl c)), fun _ => ⟨fun c => ri_i (h _ (fun _ => Or.inr (Or.inl c))), fun _ => ⟨fun c => ri_i (h _ (fun _ => Or.inr (Or.inr (Or.inl c)))), fun _ => ⟨fun c => ri_i (h _ (fun _ => Or.inr (Or.inr (Or.inr (Or.inl c))))), fun _ => ⟨fun c => ri_i (h _ (fun _ => Or.inr (Or.inr (Or.inr (Or.inr (Or.inl c)))))), fun _ => ⟨fun _ => ri_i (h _ (fun q => absurd rfl q)), fun c => ⟨fun _ => ri_i (h _ (fun q => absurd rfl q)), fun _ => ri_i (h _ (fun _ => Or.inr (Or.inr (Or.inr (Or.inr (Or.inr c))))))⟩⟩⟩⟩⟩⟩⟩
theorem SM_rf (hS : SU x) (hH : HI x) : SM x x := ⟨hS, hH, La_rf, fm_rf _ _⟩
theorem SM_tr (a : SM x y) (b : SM y z) : SM x z := ⟨b.1, b.2.1, La_tr a.2.2.1 b.2.2.1, fm_tr a.2.2.2 b.2.2.2⟩
theorem SM_hold (a : SM x y) (f : fm (fun c k => (c = 100 ∧ k = 17) ∨ (115 ≤ c ∧ c ≤ 117)) y z) (hH : HI z) : SM x z ∧ (FR y → FR z) ∧ z.1 100 4 = y.1 100 4 := by
  have q4 : z.1 100 4 = y.1 100 4 := f _ _ (by omega)
  have la : La y z := ⟨fun c k q1 q2 => f c k (by omega), by unfold nx; rw [q4]; exact Int.le_refl _, fun j _ => f 42 j (by omega)⟩
  have S : SU z := by
    obtain ⟨⟨hT, b1, b2, b3⟩, ⟨u1, u2⟩, hp, hP⟩ := a.1
    have q7 : z.1 20 7 = y.1 20 7 := f _ _ (by omega)
    have q3 : z.1 60 3 = y.1 60 3 := f _ _ (by omega)
    unfold SU SV US RB nx mt
    rw [q4, q7, q3]
    refine ⟨⟨kT_fm hT la.1, b1, b2, b3⟩, ⟨fun j h1 h2 => ?_, fun j h1 h2 => ?_⟩, hp, fun i hi => La_PQ la (f _ _ (by omega)) (f _ _ (by omega)) (hP i hi)⟩
    · rw [f 42 j (by omega)]; exact u1 j h1 h2
    · rw [f 42 j (by omega)] at h2; rw [f 42 _ (by omega)]; exact u2 j h1 h2
  refine ⟨SM_tr a ⟨S, hH, la, fm_w f (fun c k q => by unfold sSum; omega)⟩, fun hF => ?_, q4⟩
  unfold FR at hF ⊢
  rw [q4, f 42 _ (by omega)]; exact hF
theorem SM_pass (a : SM x y) (f : fm (fun c k => c = 100 ∧ k = 4) y z) (hS : SV z (y.1 60 3).toInt) (hl : La y z) : SM x z ∧ hz z = hz y := by
  obtain ⟨g1, g2⟩ := HI_eq (z := z) a.2.1 (f _ _ (by omega)) (fun c k q1 q2 => f c k (by omega))
  refine ⟨SM_tr a ⟨?_, g1, hl, fm_w f (fun c k q => by unfold sSum; omega)⟩, g2⟩
  unfold SU
  rw [f 60 3 (by omega)]; exact hS
theorem FR_12 (h : FR x) : ¬ x.1 42 (x.1 100 4).toNatClampNeg = 12 := by unfold FR at h; rw [h]; decide
theorem kp_openOperand (hq : kV q) (h0 : fm sR x0 x) (hx : RX x0 X) (hS : SU x) (hH : HI x) (hf : FR x) (h : ∀ r y, SM x y → FR y → 0 ≤ r.toInt → r.toInt ≤ 701 → (hz y : Int) = hz x + r.toInt → DL y → (y.1 23 (y.1 100 4).toNatClampNeg = 2 ∨ y.1 23 (y.1 100 4).toNatClampNeg = 3 ∨ y.1 23 (y.1 100 4).toNatClampNeg = 62) → F r y) : KE G q (d + 8) zk_X7_openOperand 0 [(0, vr 100)] [] x (ri F) X := by
  have k700 : (700 : Int32).toInt = 700 := rfl
  have k16 : (16 : Int32).toInt = 16 := rfl
  have k1 : (1 : Int32).toInt = 1 := rfl
  have k0 : (0 : Int32).toInt = 0 := rfl
  have hn0 := hS.1.2.1
  have loop : ∀ (n : Nat) (o k : Int32) (y : gd), SM x y → FR y → 0 ≤ o.toInt → o.toInt ≤ k.toInt → (hz y : Int) = hz x + o.toInt → 0 ≤ k.toInt → nx y = nx x + k.toInt → 700 - nx y < n → KE G q (d + 8) zk_X7_openOperand 4 [(0, vr 100), (1, vi o), (2, vi k)] [] y (ri F) X := by
    intro n
    induction n with
    | zero =>
      intro o k y hM hF o0 o1 hzy kp hk hn
      have b2 := hM.1.1.2.2.1
      omega
    | succ n ih =>
      intro o k y hM hF o0 o1 hzy kp hk hn
      have b2 := hM.1.1.2.2.1
      have h0y : fm sR x0 y := fm_tr h0 (fm_w hM.2.2.2 (fun c k q => sSum_R q))
      have rs : ∀ {P : Option gv → gd → Prop} {v : Int32} (hv9 : ¬ v = 0 := by decide), KE G q (d + 7) zk_X7_refuse 0 [(0, vr 100), (1, vi v)] [] y P X := fun hv9 => kp_refuse hq _ (RB_at hM.1.1) h0y hx hv9
      have ek : (k + 1).toInt = k.toInt + 1 := t_add (by rw [k1]; omega) (by rw [k1]; omega)
      have p133 : ∀ (o2 : Int32) (z : gd), SM x z → FR z → z.1 100 4 = y.1 100 4 → ¬ y.1 23 (y.1 100 4).toNatClampNeg = 0 → 0 ≤ o2.toInt → o2.toInt ≤ k.toInt + 1 → (hz z : Int) = hz x + o2.toInt → KE G q (d + 8) zk_X7_openOperand 133 [(0, vr 100), (1, vi o2), (2, vi k)] [] z (ri F) X := by
        intro o2 z hMz hFz e4 hs q1 q2 q3
        have hs2 : ¬ z.1 23 (z.1 100 4).toNatClampNeg = 0 := by
          rw [e4, hMz.2.2.2 23 _ (by unfold sSum; omega), ← hM.2.2.2 23 _ (by unfold sSum; omega)]; exact hs
        refine kg_X7_openOperand_133 hq _ _ (kp_pass hq (fm_tr h0 (fm_w hMz.2.2.2 (fun c k q => sSum_R q))) hx hMz.1 hs2 (FR_12 hFz) (fun w f e1 S fr la _ => ?_))
        obtain ⟨g1, g2⟩ := SM_pass hMz f S la
        have n1 : nx z = nx y := by unfold nx; rw [e4]
        exact ih o2 (k + 1) w g1 fr q1 (by omega) (by rw [g2]; exact q3) (by omega) (by omega) (by omega)
      have dd := dh_is hM.2.1
      have p33 : ∀ s : Int32, (s = 0 ∧ ¬ y.1 23 (y.1 100 4).toNatClampNeg = 59 ∧ ¬ y.1 23 (y.1 100 4).toNatClampNeg = 18 ∨ s = 1) → KE G q (d + 8) zk_X7_openOperand 33 [(0, vr 100), (1, vi o), (2, vi k), (3, vi (y.1 23 (y.1 100 4).toNatClampNeg))] [vi s] y (ri F) X := by
        intro s hs02
        have hs01 : s = 0 ∨ s = 1 := hs02.imp (fun q => q.1) id
        refine kg_X7_openOperand_33 hq _ _ _ _ (kp_beginsSum hq _ (fun r hr => ⟨fun c => ?_, fun _ => rs⟩))
        have hsort : ¬ y.1 23 (y.1 100 4).toNatClampNeg = 0 := by
          rcases hr c with e | e | e | e | e | e <;> rw [e] <;> decide
        have p73 : ((dh y).toInt + s.toInt ≤ 16) → KE G q (d + 8) zk_X7_openOperand 73 [(0, vr 100), (1, vi o), (2, vi k), (3, vi (y.1 23 (y.1 100 4).toNatClampNeg)), (4, vi s)] [] y (ri F) X := by
          intro hd
          have hs0 : 0 ≤ s.toInt := by rcases hs01 with rfl | rfl <;> decide
          have e1 : (dh y + 1).toInt = (dh y).toInt + 1 := t_add (by rw [k1]; omega) (by rw [k1]; omega)
          have p104 : ∀ v : Int32, (¬ v = 2 ∧ ¬ v = 6) → KE G q (d + 8) zk_X7_openOperand 104 [(0, vr 100), (1, vi o), (2, vi k)] [vi v, vr 100] y (ri F) X := by
            intro v hv
            refine kg_X7_openOperand_104 hq _ _ _ (kp_depthHere hq hM.2.1 (kp_hold hq _ _ _ hM.2.1 hv (by decide) (by omega) (by omega) (fun i hi => ?_) (fun z fz Hz zz => ?_)))
            · have := dd.2.2.2 i hi; omega
            · obtain ⟨g1, g2, g3⟩ := SM_hold hM fz Hz
              exact p133 o z g1 (g2 hF) g3 hsort o0 (by omega) (by rw [zz, if_neg (by decide)]; exact hzy)
          have p87 : KE G q (d + 8) zk_X7_openOperand 87 [(0, vr 100), (1, vi o), (2, vi k), (3, vi (y.1 23 (y.1 100 4).toNatClampNeg)), (4, vi s)] [] y (ri F) X := by
            refine kg_X7_openOperand_87 hq _ _ _ _ ⟨fun _ => kp_depthHere hq hM.2.1 (kp_hold hq _ _ _ hM.2.1 (by decide) (by decide) (by omega) (by omega) (fun i hi => ?_) (fun z fz Hz zz => ?_)), fun _ => ⟨fun _ => p104 _ (by decide), fun _ => p104 _ (by decide)⟩⟩
            · have := dd.2.2.2 i hi; omega
            · obtain ⟨g1, g2, g3⟩ := SM_hold hM fz Hz
              have eo : (o + 1).toInt = o.toInt + 1 := t_add (by rw [k1]; omega) (by rw [k1]; omega)
              refine p133 (o + 1) z g1 (g2 hF) g3 hsort (by omega) (by omega) ?_
              rw [zz, if_pos rfl, eo]
              push_cast
              omega
          refine kg_X7_openOperand_73 hq _ _ _ _ ⟨fun _ => p87, fun cs => ⟨fun _ => p87, fun c21 => ri_i (h o y hM hF o0 (by omega) hzy (fun i hi => ?_) ?_)⟩⟩
          · have := dd.2.2.2 i hi
            omega
          · rcases hs02 with ⟨-, n59, n18⟩ | e1
            · rcases hr c with e | e | e | e | e | e
              · exact Or.inr (Or.inl e)
              · exact Or.inl e
              · exact absurd e c21
              · exact absurd e n59
              · exact absurd e n18
              · exact Or.inr (Or.inr e)
            · rw [e1] at cs; exact absurd cs (by decide)
        have p62 : ∀ v : Int32, v = s → KE G q (d + 8) zk_X7_openOperand 62 [(0, vr 100), (1, vi o), (2, vi k), (3, vi (y.1 23 (y.1 100 4).toNatClampNeg)), (4, vi s)] [vi v, vi (dh y)] y (ri F) X := by
          rintro v rfl
          refine kg_X7_openOperand_62 hq _ _ _ _ _ _ ⟨fun c2 => p73 ?_, fun _ => rs⟩
          have : v.toInt ≤ 1 ∧ 0 ≤ v.toInt := by rcases hs01 with rfl | rfl <;> decide
          rw [t_le, t_add (by omega) (by omega), k16] at c2
          exact c2
        refine kg_X7_openOperand_48 hq _ _ _ _ (kp_depthHere hq hM.2.1 ⟨fun c3 => p62 _ c3.symm, fun c3 => p62 _ ?_⟩)
        rcases hs01 with e | e
        · exact absurd e c3
        · exact e.symm
      refine kg_X7_openOperand_4 hq _ _ ⟨fun c => ?_, fun c => kp_sort hq hM.1.1 ⟨fun _ => p33 _ (Or.inr rfl), fun n59 => ⟨fun n18 => p33 _ (Or.inl ⟨rfl, n59, n18⟩), fun _ => p33 _ (Or.inr rfl)⟩⟩⟩
      exfalso; rw [t_lt, k700] at c; omega
  exact kg_X7_openOperand_0 hq (loop 701 _ _ x (SM_rf hS hH) hf (by decide) (by decide) (by rw [k0]; omega) (by decide) (by rw [k0]; omega) (by omega))
/-- what an operand leaves -/
theorem kp_readOperand (hq : kV q) (h0 : fm sR x0 x) (hx : RX x0 X) (hS : SU x) (hH : HI x) (hf : FR x) (hK : x.1 23 (x.1 100 4).toNatClampNeg = 3 ∨ x.1 23 (x.1 100 4).toNatClampNeg = 62 ∨ KN x) (hs : ¬ x.1 23 (x.1 100 4).toNatClampNeg = 0) (h : ∀ y, SM x y → FR y → hz y = hz x → y.1 100 17 = x.1 100 17 → (∀ k, y.1 117 k = x.1 117 k) → nx y = nx x + 1 → Fv y) : KE G q (d + 8) zk_X7_readOperand 0 [(0, vr 100)] [] x (rv Fv) X := by
  have hlt := RB_lt hS.1 hs
  have htk : tk x (x.1 100 4) := ⟨hS.1.2.1, hlt⟩
  have fin : ∀ (z w : gd), (∃ u : Int32, ¬ u = 12 ∧ fm (fun c k => c = 42 ∧ k = (x.1 100 4).toNatClampNeg) x z ∧ z.1 42 (x.1 100 4).toNatClampNeg = u) → SU z → ∀ p a : Int32, AP z w p a → ((p = 2 → (0 ≤ a.toInt ∧ a.toInt < 24) ∨ z.1 42 (x.1 100 4).toNatClampNeg = 3) ∧ ¬ p = 6) → KE G q (d + 8) zk_X7_readOperand 93 [(0, vr 100)] [] w (rv Fv) X := by
    rintro z w ⟨u, hu12, fz, eu⟩ hSz p a hA ⟨hp2, hp6⟩
    have e4 : w.1 100 4 = x.1 100 4 := by rw [hA.1 _ _ (by omega), fz _ _ (by omega)]
    have Sw : SV w (z.1 60 3).toInt := AP_SV (Int.le_refl _) hSz hA
    have us : w.1 42 (w.1 100 4).toNatClampNeg = u := by rw [e4, hA.1 42 _ (by omega)]; exact eu
    have f0 : fm sSum x w := fm_tr (fm_w fz (fun c k q => by unfold sSum; omega)) (fm_w hA.1 (fun c k q => by unfold sSum; omega))
    refine kg_X7_readOperand_93 hq (kp_pass hq (fm_tr h0 (fm_w f0 (fun c k q => sSum_R q))) hx Sw (by rw [e4, f0 23 _ (by unfold sSum; omega)]; exact hs) (by rw [us]; exact hu12) (fun y f n1 S fr la _ => ?_))
    have fx : fm sSum x y := fm_tr f0 (fm_w f (fun c k q => by unfold sSum; omega))
    have e5 : nx w = nx x := by unfold nx; rw [e4]
    have SUy : SU y := by
      refine ⟨S.1, S.2.1, S.2.2.1, fun i hi => ?_⟩
      rw [f 60 3 (by omega)] at hi
      rcases hA.2.2.2.2 i hi with e | ⟨e1, e2⟩
      · exact S.2.2.2 i e
      · unfold PQ
        rw [f 62 i (by omega), f 63 i (by omega), e1, e2]
        refine ⟨fun c => ?_, fun c => absurd c hp6⟩
        rcases hp2 c with g | g
        · exact Or.inl g
        · refine Or.inr ⟨(x.1 100 4).toNatClampNeg, ?_, Or.inl ?_⟩
          · have b1 := hS.1.2.1
            rw [n1, e5, t_cl]; unfold nx at *; omega
          · rw [f 42 _ (by omega), hA.1 42 _ (by omega)]; exact g
    obtain ⟨g1, g2⟩ := HI_eq (z := y) hH (by rw [f _ _ (by omega), hA.1 _ _ (by omega), fz _ _ (by omega)]) (fun c k q1 q2 => by rw [f _ _ (by omega), hA.1 _ _ (by omega), fz _ _ (by omega)])
    have laxy : La x y := ⟨fun c k q1 q2 => fx c k (by unfold sSum; omega), by omega, fun j hj => by rw [f 42 j (by omega), hA.1 42 j (by omega), fz 42 j (by rw [t_cl]; have b1 := hS.1.2.1; unfold nx at *; omega)]⟩
    exact rv_i (h y ⟨SUy, g1, laxy, fx⟩ fr g2 (by rw [f _ _ (by omega), hA.1 _ _ (by omega), fz _ _ (by omega)]) (fun k => by rw [f _ _ (by omega), hA.1 _ _ (by omega), fz _ _ (by omega)]) (by omega))
  have base : ∃ u : Int32, ¬ u = 12 ∧ fm (fun c k => c = 42 ∧ k = (x.1 100 4).toNatClampNeg) x x ∧ x.1 42 (x.1 100 4).toNatClampNeg = u := ⟨_, FR_12 hf, fm_rf _ _, rfl⟩
  have p83 : ∀ l s : Int32, (l = -1 ∧ s = 3 ∨ (0 ≤ l.toInt ∧ l.toInt < 24) ∧ s = 0) → KE G q (d + 8) zk_X7_readOperand 83 [(0, vr 100), (1, vi l)] [vi s, vi (x.1 100 4), vr 42] x (rv Fv) X := by
    intro l s hls
    refine kg_X7_readOperand_83 hq _ _ _ ⟨RB_at hS.1, fun z ez => ?_⟩
    have fz : fm (fun c k => c = 42 ∧ k = (x.1 100 4).toNatClampNeg) x z := by rw [ez]; exact fm_si (fm_rf _ _) ⟨rfl, rfl⟩
    have eu : z.1 42 (x.1 100 4).toNatClampNeg = s := by rw [ez]; (simp only [si_get, sfl_get, Nat.reduceEqDiff, eq_self, and_false, false_and, and_true, true_and, if_true, if_false, reduceIte, reduceCtorEq])
    have e4 : z.1 100 4 = x.1 100 4 := fz _ _ (by omega)
    have e7 : z.1 20 7 = x.1 20 7 := fz _ _ (by omega)
    have b1 := hS.1.2.1
    have eN : ((x.1 100 4).toNatClampNeg : Int) = nx x := by rw [t_cl]; unfold nx at *; omega
    have la : La x z := ⟨fun c k q1 q2 => fz c k (by omega), by unfold nx; rw [e4]; exact Int.le_refl _, fun j hj => fz 42 j (by omega)⟩
    have Sz : SU z := by
      obtain ⟨⟨hT, b1, b2, b3⟩, ⟨u1, u2⟩, hp, hP⟩ := hS
      unfold SU SV US RB mt
      have q3 : z.1 60 3 = x.1 60 3 := fz _ _ (by omega)
      have nn : nx z = nx x := by unfold nx; rw [e4]
      rw [e7, q3, nn]
      refine ⟨⟨kT_fm hT la.1, b1, b2, b3⟩, ⟨fun j h1 h2 => ?_, fun j h1 h2 => ?_⟩, hp, fun i hi => La_PQ la (fz _ _ (by omega)) (fz _ _ (by omega)) (hP i hi)⟩
      · rw [fz 42 j (by omega)]; exact u1 j h1 h2
      · rw [fz 42 j (by omega)] at h2; rw [fz 42 _ (by omega)]; exact u2 j h1 h2
    refine kp_addPart hq _ _ Sz.2.2.1 (fun w hA => fin z w ⟨s, ?_, fz, eu⟩ Sz 2 l hA ⟨fun _ => ?_, by decide⟩)
    · rcases hls with ⟨-, rfl⟩ | ⟨-, rfl⟩ <;> decide
    · rcases hls with ⟨-, e⟩ | ⟨e, -⟩
      · exact Or.inr (by rw [eu, e])
      · exact Or.inl e
  have k0 : (0 : Int32).toInt = 0 := rfl
  have p0 : KN x → KT G q (d + 7) zk_X7_knownFrom 0 [(0, vr 100), (1, vi 0), (2, vi (x.1 100 4))] [] x (ri (fun r8 x7 => ((¬ (r8 = (-1 : Int32)) → KE G q (d + 8) zk_X7_readOperand 83 [(0, vr 100), (1, vi r8)] [vi 0, vi (x7.1 100 4), vr 42] x7 (rv Fv) X) ∧ (r8 = (-1 : Int32) → KE G q (d + 8) zk_X7_readOperand 83 [(0, vr 100), (1, vi r8)] [vi 3, vi (x7.1 100 4), vr 42] x7 (rv Fv) X)))) := by
    intro hK
    have k8 := hK.1.2
    refine kp_knownFrom hq hS.1.1 hK _ _ (by decide) htk (fun r hr => ⟨fun c => p83 _ _ (Or.inr ⟨?_, rfl⟩), fun c => p83 _ _ (Or.inl ⟨c, rfl⟩)⟩)
    rcases hr with e | ⟨e1, e2⟩
    · exact absurd e c
    · rw [k0] at e1; omega
  refine kg_X7_readOperand_0 hq (kp_sort hq hS.1 ⟨fun c3 => kp_sort hq hS.1 ⟨fun c62 => p0 ?_, fun _ => kp_addPart hq _ _ hS.2.2.1 (fun w hA => fin x w base hS 3 0 hA ⟨fun c => absurd c (by decide), by decide⟩)⟩, fun _ => ⟨RB_at hS.1, kp_addPart hq _ _ hS.2.2.1 (fun w hA => fin x w base hS 1 _ hA ⟨fun c => absurd c (by decide), by decide⟩)⟩⟩)
  rcases hK with e | e | e
  · exact absurd e c3
  · exact absurd e c62
  · exact e
theorem kp_claimedCell (hq : kV q) (h0 : fm sR x0 x) (hx : RX x0 X) (hS : SU x) (hH : HI x) (hs : x.1 23 (x.1 100 4).toNatClampNeg = 2) (h : ∀ y, SM x y → FR y → hz y = hz x → y.1 100 17 = x.1 100 17 → (∀ k, y.1 117 k = x.1 117 k) → nx x < nx y → Fv y) : KE G q (d + 8) zk_X7_claimedCell 0 [(0, vr 100)] [] x (rv Fv) X := by
  have b1 := hS.1.2.1
  have eN : ((x.1 100 4).toNatClampNeg : Int) = nx x := by rw [t_cl]; unfold nx at *; omega
  have fin : ∀ (w y : gd), AP x w 6 (x.1 100 4) → SV y (x.1 60 3).toInt → fm (fun c k => c = 42 ∨ (c = 100 ∧ k = 4)) w y → La x y → FR y → nx x < nx y → (y.1 42 (x.1 100 4).toNatClampNeg = 6 ∨ (y.1 42 (x.1 100 4).toNatClampNeg = 7 ∧ nx x + 2 < nx y ∧ y.1 42 ((x.1 100 4).toNatClampNeg + 2) = 12 ∧ y.1 23 ((x.1 100 4).toNatClampNeg + 2) = 3)) → Fv y := by
    intro w y hA Sy fy la fr hn hp
    have fx : fm sSum x y := fm_tr (fm_w hA.1 (fun c k q => by unfold sSum; omega)) (fm_w fy (fun c k q => by unfold sSum; omega))
    have SUy : SU y := by
      refine ⟨Sy.1, Sy.2.1, Sy.2.2.1, fun i hi => ?_⟩
      rw [fy 60 3 (by omega)] at hi
      rcases hA.2.2.2.2 i hi with e | ⟨e1, e2⟩
      · exact Sy.2.2.2 i e
      · unfold PQ
        rw [fy 62 i (by omega), fy 63 i (by omega), e1, e2]
        refine ⟨fun c => absurd c (by decide), fun _ => ⟨(x.1 100 4).toNatClampNeg, eN.symm, by omega, ?_⟩⟩
        rcases hp with g | ⟨g1, g2, g3, g4⟩
        · exact Or.inl g
        · exact Or.inr ⟨g1, by omega, g3, g4⟩
    obtain ⟨g1, g2⟩ := HI_eq (z := y) hH (by rw [fy _ _ (by omega), hA.1 _ _ (by omega)]) (fun c k q1 q2 => by rw [fy _ _ (by omega), hA.1 _ _ (by omega)])
    exact h y ⟨SUy, g1, la, fx⟩ fr g2 (by rw [fy _ _ (by omega), hA.1 _ _ (by omega)]) (fun k => by rw [fy _ _ (by omega), hA.1 _ _ (by omega)]) hn
  have p50 : ∀ (l s : Int32) (w : gd), AP x w 6 (x.1 100 4) → (l = 0 ∧ s = 6 ∨ ¬ l = 0 ∧ s = 7 ∧ x.1 23 ((x.1 100 4).toNatClampNeg + 1) = 25) → KE G q (d + 8) zk_X7_claimedCell 50 [(0, vr 100), (1, vi l)] [vi s, vi (w.1 100 4), vr 42] w (rv Fv) X := by
    intro l s w hA hls
    have w4 : w.1 100 4 = x.1 100 4 := hA.1 _ _ (by omega)
    rw [w4]
    refine kg_X7_claimedCell_50 hq _ _ _ ⟨RB_at hS.1, fun x2 e2 => ?_⟩
    have f2 : fm (fun c k => c = 42 ∧ k = (x.1 100 4).toNatClampNeg) w x2 := by rw [e2]; exact fm_si (fm_rf _ _) ⟨rfl, rfl⟩
    have u2 : x2.1 42 (x.1 100 4).toNatClampNeg = s := by rw [e2]; (simp only [si_get, sfl_get, Nat.reduceEqDiff, eq_self, and_false, false_and, and_true, true_and, if_true, if_false, reduceIte, reduceCtorEq])
    have q4 : x2.1 100 4 = x.1 100 4 := by rw [f2 _ _ (by omega)]; exact w4
    have Sw : SV w (x.1 60 3).toInt := AP_SV (Int.le_refl _) hS hA
    have nw : nx w = nx x := by unfold nx; rw [w4]
    have la2 : La w x2 := ⟨fun c k q1 q2 => f2 c k (by omega), by unfold nx; rw [f2 100 4 (by omega)]; exact Int.le_refl _, fun j hj => f2 42 j (by omega)⟩
    have S2 : SV x2 (x.1 60 3).toInt := by
      obtain ⟨⟨hT, b1, b2, b3⟩, ⟨u1, u2⟩, hp, hP⟩ := Sw
      have nn : nx x2 = nx w := by unfold nx; rw [f2 100 4 (by omega)]
      unfold SV US RB mt
      rw [f2 20 7 (by omega), f2 60 3 (by omega), nn]
      refine ⟨⟨kT_fm hT la2.1, b1, b2, b3⟩, ⟨fun j h1 h2 => ?_, fun j h1 h2 => ?_⟩, hp, fun i hi => La_PQ la2 (f2 _ _ (by omega)) (f2 _ _ (by omega)) (hP i hi)⟩
      · rw [f2 42 j (by omega)]; exact u1 j h1 h2
      · rw [f2 42 j (by omega)] at h2; rw [f2 42 _ (by omega)]; exact u2 j h1 h2
    have t2 : ∀ k, x2.1 23 k = x.1 23 k := fun k => by rw [f2 _ _ (by omega), hA.1 _ _ (by omega)]
    have fx2 : fm sSum x x2 := fm_tr (fm_w hA.1 (fun c k q => by unfold sSum; omega)) (fm_w f2 (fun c k q => by unfold sSum; omega))
    have n2 : nx x2 = nx x := by unfold nx; rw [q4]
    refine kp_pass hq (fm_tr h0 (fm_w fx2 (fun c k q => sSum_R q))) hx S2 (by rw [q4, t2, hs]; decide) ?_ (fun y3 f3 n3 S3 r3 l3 z3 => ?_)
    · rw [q4, u2]
      rcases hls with ⟨-, rfl⟩ | ⟨-, rfl, -⟩ <;> decide
    have La3 : La x y3 := La_tr (La_tr (AP_La hA) la2) l3
    have u3 : y3.1 42 (x.1 100 4).toNatClampNeg = s := by rw [f3 _ _ (by omega)]; exact u2
    refine ⟨fun c => rv_i (fin w y3 hA S3 (fm_tr (fm_w f2 (fun c k q => Or.inl q.1)) (fm_w f3 (fun c k q => Or.inr q))) La3 r3 (by omega) (Or.inl ?_)), fun c => ?_⟩
    · rcases hls with ⟨-, e⟩ | ⟨e, -, -⟩
      · rw [u3, e]
      · exact absurd c e
    rcases hls with ⟨e, -⟩ | ⟨-, es, e25⟩
    · exact absurd e c
    have N3 : (y3.1 100 4).toNatClampNeg = (x.1 100 4).toNatClampNeg + 1 := by
      have : ((y3.1 100 4).toNatClampNeg : Int) = nx y3 := by rw [t_cl]; unfold nx at *; omega
      omega
    refine kp_pass hq z3 hx S3 (by rw [N3, f3 _ _ (by omega), t2, e25]; decide) (FR_12 r3) (fun y5 f5 n5 S5 r5 l5 z5 => ?_)
    have N5 : (y5.1 100 4).toNatClampNeg = (x.1 100 4).toNatClampNeg + 2 := by
      have : ((y5.1 100 4).toNatClampNeg : Int) = nx y5 := by rw [t_cl]; unfold nx at *; omega
      omega
    refine kp_needFor hq z5 hx S5 3 12 (by decide) (fun _ => ⟨by omega, ?_⟩) (fun cw y6 f6 u6 n6 S6 r6 l6 z6 _ => ?_)
    · rw [N5, Nat.add_sub_cancel, f5 _ _ (by omega), u3, es]
    refine kp_need hq z6 hx S6 26 (by decide) r6 (fun _ y8 f8 n8 S8 r8 l8 z8 => rv_i (fin w y8 hA S8 ?_ (La_tr (La_tr (La_tr La3 l5) l6) l8) r8 (by omega) (Or.inr ⟨?_, by omega, ?_, ?_⟩)))
    · exact fm_tr (fm_tr (fm_tr (fm_tr (fm_w f2 (fun c k q => Or.inl q.1)) (fm_w f3 (fun c k q => Or.inr q))) (fm_w f5 (fun c k q => Or.inr q))) (fm_w f6 (fun c k q => by omega))) (fm_w f8 (fun c k q => Or.inr q))
    · rw [f8 _ _ (by omega), f6 _ _ (by omega), f5 _ _ (by omega), u3, es]
    · rw [← N5, f8 _ _ (by omega)]; exact u6
    · rw [← N5, f8 _ _ (by omega), f6 _ _ (by omega)]; exact cw
  have p14 : ∀ s : Int32, (s = 0 ∨ s = 1 ∧ x.1 23 ((x.1 100 4).toNatClampNeg + 1) = 25) → KE G q (d + 8) zk_X7_claimedCell 14 [(0, vr 100)] [vi s] x (rv Fv) X := by
    intro s hs1
    refine kg_X7_claimedCell_14 hq _ (kp_addPart hq _ _ hS.2.2.1 (fun w hA => ⟨fun c => p50 _ _ w hA (Or.inl ⟨c, rfl⟩), fun c => p50 _ _ w hA (Or.inr ⟨c, rfl, ?_⟩)⟩))
    rcases hs1 with e | ⟨-, e⟩
    · exact absurd e c
    · exact e
  exact kg_X7_claimedCell_0 hq (kp_sortBehind hq hS.1 ⟨fun _ => p14 _ (Or.inl rfl), fun c => p14 _ (Or.inr ⟨rfl, c⟩)⟩)
theorem kp_strengthOf (hq : kV q) (s : Int32) (h : ∀ r : Int32, (¬ r = 0 → (1 ≤ r.toInt ∧ r.toInt ≤ 5) ∧ ¬ s = 2 ∧ ¬ s = 6 ∧ ¬ s = 0) → F r x) : KT G q d zk_X7_strengthOf 0 [(0, vi s)] [] x (ri F) := by
  refine kg_X7_strengthOf_0 hq _ ⟨fun c => ri_i (h _ (fun _ => ⟨by decide, ?_⟩)), fun c => ri_i (h _ (fun _ => ⟨by decide, ?_⟩)), fun c => ri_i (h _ (fun _ => ⟨by decide, ?_⟩)), fun c => ri_i (h _ (fun _ => ⟨by decide, ?_⟩)), fun c => ri_i (h _ (fun _ => ⟨by decide, ?_⟩)), fun _ => ri_i (h _ (fun q => absurd rfl q))⟩
  · rw [c]; decide
  · rw [c]; decide
  · rcases c with e | e | e | e | e | e <;> rw [e] <;> decide
  · rcases c with e | e <;> rw [e] <;> decide
  · rcases c with e | e | e <;> rw [e] <;> decide
theorem zc_le : ∀ n : Nat, zc x n ≤ n := by
  intro n
  induction n with
  | zero => exact Nat.le_refl _
  | succ n ih =>
    show zc x n + (if x.1 116 n = 0 then 1 else 0) ≤ n + 1
    split <;> omega
theorem SM_rel (a : SM x y) (f : fm (fun c k => (c = 100 ∧ k = 17) ∨ (c = 60 ∧ k = 3) ∨ c = 62 ∨ c = 63) y z) (hS : SU z) (hH : HI z) : SM x z ∧ (FR y → FR z) ∧ z.1 100 4 = y.1 100 4 := by
  have q4 : z.1 100 4 = y.1 100 4 := f _ _ (by omega)
  refine ⟨SM_tr a ⟨hS, hH, ⟨fun c k q1 q2 => f c k (by omega), by unfold nx; rw [q4]; exact Int.le_refl _, fun j _ => f 42 j (by omega)⟩, fm_w f (fun c k q => by unfold sSum; omega)⟩, fun hF => ?_, q4⟩
  unfold FR at hF ⊢
  rw [q4, f 42 _ (by omega)]; exact hF
theorem KN_fm (h : KN x) (e : y.1 100 9 = x.1 100 9) (e7 : y.1 20 7 = x.1 20 7) (f : ∀ k, y.1 109 k = x.1 109 k) : KN y := by
  unfold KN tk at h ⊢
  rw [e, e7]
  exact ⟨h.1, fun i hi => by rw [f i]; exact h.2 i hi⟩
theorem kp_sum (hq : kV q) (h0 : fm sR x0 x) (hx : RX x0 X) (hS : SU x) (hf : FR x) (hK : ¬ x.1 100 5 = 0 → KN x) (D : Int32) (hD : 1 ≤ D.toInt) (hD2 : D.toInt ≤ 18) (h : ∀ r y, SU y → FR y → La x y → fm sSum x y → nx x < nx y → F r y) : KE G q (d + 9) zk_X7_sum 0 [(0, vr 100), (1, vi D)] [] x (ri F) X := by
  have k700 : (700 : Int32).toInt = 700 := rfl
  have k1 : (1 : Int32).toInt = 1 := rfl
  have k0 : (0 : Int32).toInt = 0 := rfl
  have hn0 := hS.1.2.1
  have h0y : ∀ {y : gd}, SM x y → fm sR x0 y := fun hM => fm_tr h0 (fm_w hM.2.2.2 (fun c k q => sSum_R q))
  have p162 : ∀ (l2 : Int32) (y : gd), SM x y → FR y → nx x < nx y → KE G q (d + 9) zk_X7_sum 162 [(0, vr 100), (2, vi l2)] [] y (ri F) X := by
    intro l2 y hM hF hn
    refine kg_X7_sum_162 hq _ (kp_release hq _ (by decide) hM.1 hM.2.1 (fun z fz Sz Hz _ _ _ => kp_addPart hq _ _ Sz.2.2.1 (fun w hA => ri_i ?_)))
    obtain ⟨g1, g2, g3⟩ := SM_rel hM fz Sz Hz
    have Sw : SU w := AP_SU Sz hA (fun c => absurd c (by decide)) (by decide)
    have w4 : w.1 100 4 = z.1 100 4 := hA.1 _ _ (by omega)
    refine h l2 w Sw ?_ (La_tr g1.2.2.1 (AP_La hA)) (fm_tr g1.2.2.2 (fm_w hA.1 (fun c k q => by unfold sSum; omega))) ?_
    · have := g2 hF
      unfold FR at this ⊢
      rw [w4, hA.1 42 _ (by omega)]; exact this
    · unfold nx at hn ⊢
      rw [w4, g3]; exact hn
  have p153 : ∀ (l2 p : Int32) (y : gd), SM x y → FR y → nx x < nx y → KE G q (d + 9) zk_X7_sum 153 [(0, vr 100), (2, vi l2), (3, vi p)] [] y (ri F) X := fun l2 p y hM hF hn => kg_X7_sum_153 hq _ _ ⟨fun _ => p162 l2 y hM hF hn, fun _ => kp_refuse hq _ (RB_at hM.1.1) (h0y hM) hx⟩
  have loop : ∀ (n : Nat) (l2 p k : Int32) (y : gd), SM x y → FR y → 0 ≤ p.toInt → (hz y : Int) = p.toInt + 1 → 0 ≤ k.toInt → nx x + k.toInt ≤ nx y → 700 - nx y < n → KE G q (d + 9) zk_X7_sum 25 [(0, vr 100), (2, vi l2), (3, vi p), (4, vi k)] [] y (ri F) X := by
    intro n
    induction n with
    | zero =>
      intro l2 p k y hM hF p0 hzy kp hk hn
      have b2 := hM.1.1.2.2.1
      omega
    | succ n ih =>
      intro l2 p k y hM hF p0 hzy kp hk hn
      have b2 := hM.1.1.2.2.1
      have p104 : ∀ (p : Int32) (z : gd), SM x z → FR z → 0 ≤ p.toInt → (hz z : Int) = p.toInt + 1 → DL z → nx y < nx z → KE G q (d + 9) zk_X7_sum 104 [(0, vr 100), (2, vi l2), (3, vi p), (4, vi k)] [] z (ri F) X := by
        intro p z hMz hFz p0 hzz hDz hnz
        refine kg_X7_sum_104 hq _ _ _ (kp_sort hq hMz.1.1 (kp_strengthOf hq _ (fun r hr => ⟨fun c => ?_, fun _ => p153 _ _ z hMz hFz (by omega)⟩)))
        obtain ⟨⟨r1, r5⟩, s2, s6, s0⟩ := hr c
        refine kp_release hq _ r1 hMz.1 hMz.2.1 (fun w fw Sw Hw zw hle _ => ?_)
        obtain ⟨g1, g2, g3⟩ := SM_rel hMz fw Sw Hw
        have t23 : ∀ j, w.1 23 j = z.1 23 j := fun j => fw _ _ (by omega)
        refine kp_sort hq Sw.1 (kp_depthHere hq Hw ?_)
        rw [g3, t23]
        have dd := dh_is Hw
        have hDw : (dh w).toInt ≤ 16 := by
          unfold dh
          split
          · decide
          · rename_i c9
            have a0 := Hw.1.1
            have a1 := Hw.1.2
            rw [t_le, k0] at c9
            have e1 : (w.1 100 17 - 1).toInt = (w.1 100 17).toInt - 1 := t_sub (by rw [k1]; omega) (by rw [k1]; omega)
            rw [fw 117 _ (by omega)]
            refine hDz _ ?_
            rw [t_cl, e1]; omega
        have e1 : (dh w + 1).toInt = (dh w).toInt + 1 := t_add (by rw [k1]; omega) (by rw [k1]; omega)
        refine kp_hold hq _ _ _ Hw ⟨s2, s6⟩ (by omega) (by omega) (by omega) (fun i hi => ?_) (fun v fv Hv zv => ?_)
        · have := dd.2.2.2 i hi; omega
        obtain ⟨j1, j2, j3⟩ := SM_hold g1 fv Hv
        have v23 : ¬ v.1 23 (v.1 100 4).toNatClampNeg = 0 := by rw [j3, g3, fv _ _ (by omega), t23]; exact s0
        refine kp_pass hq (h0y j1) hx j1.1 v23 (FR_12 (j2 (g2 hFz))) (fun t ft nt St rt lt _ => ?_)
        obtain ⟨m1, m2⟩ := SM_pass j1 ft St lt
        have nv : nx v = nx z := by unfold nx; rw [j3, g3]
        have ek : (k + 1).toInt = k.toInt + 1 := t_add (by rw [k1]; omega) (by rw [k1]; omega)
        exact ih _ p (k + 1) t m1 rt p0 (by rw [m2, zv, if_neg c, zw]; exact hzz) (by omega) (by omega) (by omega)
      have p66 : ∀ (j : Nat) (p : Int32) (z : gd), SM x z → FR z → 0 ≤ p.toInt → p.toInt ≤ j → (hz z : Int) = p.toInt + 1 → DL z → nx y < nx z → KE G q (d + 9) zk_X7_sum 66 [(0, vr 100), (2, vi l2), (3, vi p), (4, vi k)] [] z (ri F) X := by
        intro j
        induction j with
        | zero =>
          intro p z hMz hFz p0 pj hzz hDz hnz
          refine kg_X7_sum_66 hq _ _ _ ⟨fun _ => p104 p z hMz hFz p0 hzz hDz hnz, fun c => ?_⟩
          exfalso; rw [t_le, k0] at c; omega
        | succ j ihj =>
          intro p z hMz hFz p0 pj hzz hDz hnz
          refine kg_X7_sum_66 hq _ _ _ ⟨fun _ => p104 p z hMz hFz p0 hzz hDz hnz, fun c => kp_sort hq hMz.1.1 ⟨fun _ => p104 p z hMz hFz p0 hzz hDz hnz, fun c2 => ?_⟩⟩
          rw [t_le, k0] at c
          refine kp_pass hq (h0y hMz) hx hMz.1 (by rw [c2]; decide) (FR_12 hFz) (fun t ft nt St rt lt _ => ?_)
          obtain ⟨m1, m2⟩ := SM_pass hMz ft St lt
          refine kp_release hq _ (by decide) m1.1 m1.2.1 (fun w fw Sw Hw zw hle htop => ?_)
          intro v ev
          obtain ⟨g1, g2, g3⟩ := SM_rel m1 fw Sw Hw
          obtain ⟨⟨a0, a1⟩, a2, a3⟩ := id Hw
          have hw1 : 1 ≤ (w.1 100 17).toInt := by
            have : hz w ≤ (w.1 100 17).toNatClampNeg := zc_le _
            rw [t_cl] at this
            rw [zw, m2] at this
            omega
          have e1 : (w.1 100 17 - 1).toInt = (w.1 100 17).toInt - 1 := t_sub (by rw [k1]; omega) (by rw [k1]; omega)
          have v17 : v.1 100 17 = w.1 100 17 - 1 := by rw [ev]; (simp only [si_get, sfl_get, Nat.reduceEqDiff, eq_self, and_false, false_and, and_true, true_and, if_true, if_false, reduceIte, reduceCtorEq])
          have fv : fm (fun c k => (c = 100 ∧ k = 17) ∨ (115 ≤ c ∧ c ≤ 117)) w v := by rw [ev]; exact fm_si (fm_rf _ _) (Or.inl ⟨rfl, rfl⟩)
          have fv2 : fm (fun c k => c = 100 ∧ k = 17) w v := by rw [ev]; exact fm_si (fm_rf _ _) ⟨rfl, rfl⟩
          have Hv : HI v := by
            unfold HI
            rw [v17, e1]
            refine ⟨by omega, fun i hi => ?_, fun i j hij hj => ?_⟩
            · rw [fv2 115 i (by omega), fv2 116 i (by omega), fv2 117 i (by omega)]; exact a2 i (by omega)
            · rw [fv2 117 i (by omega), fv2 117 j (by omega)]; exact a3 i j hij (by omega)
          have zv : hz v + 1 = hz w := by
            unfold hz
            have n5 : (w.1 100 17).toNatClampNeg = (v.1 100 17).toNatClampNeg + 1 := by rw [v17, t_cl, t_cl, e1]; omega
            have n6 : (v.1 100 17).toNatClampNeg = (w.1 100 17).toInt.toNat - 1 := by rw [v17, t_cl, e1]; omega
            rw [n5]
            show _ = zc w _ + (if w.1 116 _ = 0 then 1 else 0)
            have hs0 : w.1 116 (v.1 100 17).toNatClampNeg = 0 := by
              have g9 := (a2 _ (show (((v.1 100 17).toNatClampNeg : Nat) : Int) < _ by omega)).2.1
              rcases htop with e | e
              · omega
              · rw [← n6, k1] at e
                rw [t_eq, k0]; omega
            rw [if_pos hs0, zc_eq (z := v) (y := w) _ (fun i _ => fv2 116 i (by omega))]
          obtain ⟨j1, j2, j3⟩ := SM_hold g1 fv Hv
          have rp := t_rg p
          have ep : (p + (-1)).toInt = p.toInt - 1 := by rw [t_add (by rw [tm1]; omega) (by rw [tm1]; omega), tm1]; rfl
          clear rp
          have nv : nx v = nx t := by unfold nx; rw [j3, g3]
          obtain ⟨p2, ep2⟩ : ∃ p2, p2 = p + (-1) := ⟨_, rfl⟩
          rw [← ep2] at ep ⊢
          have b1 : 0 ≤ p2.toInt := by rw [ep]; omega
          have b2 : p2.toInt ≤ (j : Int) := by rw [ep]; omega
          refine ihj p2 v j1 (j2 (g2 rt)) b1 b2 ?_ ?_ (by omega)
          · rw [ep]; rw [zw, m2] at zv; omega
          · intro i hi
            rw [v17, e1] at hi
            rw [fv2 117 i (by omega), fw 117 i (by omega), ft 117 i (by omega)]
            refine hDz i ?_
            rw [ft 100 17 (by omega)] at hle
            omega
      refine kg_X7_sum_25 hq _ _ _ ⟨fun c => ?_, fun c => kp_openOperand hq (h0y hM) hx hM.1 hM.2.1 hF (fun r z hMz hFz r0 r7 hzz hDz hsz => kp_sort hq hMz.1.1 ?_)⟩
      · exfalso; rw [t_lt, k700] at c; omega
      have hMxz := SM_tr hM hMz
      have hzle : hz y ≤ 18 := by
        have : hz y ≤ (y.1 100 17).toNatClampNeg := zc_le _
        have a1 := hM.2.1.1.2
        rw [t_cl] at this; omega
      have epr : (p + r).toInt = p.toInt + r.toInt := t_add (by omega) (by omega)
      have hKz : ¬ z.1 100 5 = 0 → KN z := fun q9 => KN_fm (hK (by rw [← hMxz.2.2.2 100 5 (by unfold sSum; omega)]; exact q9)) (hMxz.2.2.2 _ _ (by unfold sSum; omega)) (hMxz.2.2.2 _ _ (by unfold sSum; omega)) (fun k => hMxz.2.2.2 _ _ (by unfold sSum; omega))
      have aft : ∀ w, SM z w → FR w → hz w = hz z → w.1 100 17 = z.1 100 17 → (∀ k, w.1 117 k = z.1 117 k) → nx z < nx w → KE G q (d + 9) zk_X7_sum 66 [(0, vr 100), (2, vi l2), (3, vi (p + r)), (4, vi k)] [] w (ri F) X := by
        intro w hMw hFw zw w17 w117 nw
        have lz := hMz.2.2.1.2.1
        refine p66 (p + r).toInt.toNat (p + r) w (SM_tr hMxz hMw) hFw (by omega) (by omega) (by rw [zw, epr]; omega) (fun i hi => ?_) (by omega)
        rw [w117]
        rw [w17] at hi
        exact hDz i hi
      have hs0 : ¬ z.1 23 (z.1 100 4).toNatClampNeg = 0 := by rcases hsz with e | e | e <;> rw [e] <;> decide
      have p62 : (¬ z.1 23 (z.1 100 4).toNatClampNeg = 2 ∨ ¬ z.1 100 5 = 0) → KE G q (d + 9) zk_X7_sum 62 [(0, vr 100), (2, vi l2), (3, vi (p + r)), (4, vi k)] [] z (ri F) X := fun ho => kg_X7_sum_62 hq _ _ _ (kp_readOperand hq (h0y hMxz) hx hMz.1 hMz.2.1 hFz (by
        rcases hsz with e | e | e
        · rcases ho with g | g
          · exact absurd e g
          · exact Or.inr (Or.inr (hKz g))
        · exact Or.inl e
        · exact Or.inr (Or.inl e)) hs0 (fun w hMw hFw zw w17 w117 nw => aft w hMw hFw zw w17 w117 (by omega)))
      exact ⟨fun c2 => p62 (Or.inl c2), fun c2 => ⟨fun c5 => p62 (Or.inr c5), fun _ => kp_claimedCell hq (h0y hMxz) hx hMz.1 hMz.2.1 c2 (fun w hMw hFw zw w17 w117 nw => aft w hMw hFw zw w17 w117 nw)⟩⟩
  refine kg_X7_sum_0 hq _ (fun x1 e1 => ?_)
  have f1 : fm (fun c k => c = 100 ∧ k = 17) x x1 := by rw [e1]; exact fm_si (fm_rf _ _) ⟨rfl, rfl⟩
  have q17 : x1.1 100 17 = 0 := by rw [e1]; (simp only [si_get, sfl_get, Nat.reduceEqDiff, eq_self, and_false, false_and, and_true, true_and, if_true, if_false, reduceIte, reduceCtorEq])
  have H1 : HI x1 := by
    unfold HI
    rw [q17, k0]
    exact ⟨by omega, fun i hi => by omega, fun i j hij hj => by omega⟩
  have S1 : SU x1 := by
    obtain ⟨⟨hT, b1, b2, b3⟩, ⟨u1, u2⟩, hp, hP⟩ := hS
    have nn : nx x1 = nx x := by unfold nx; rw [f1 100 4 (by omega)]
    have la : La x x1 := ⟨fun c k q1 q2 => f1 c k (by omega), by omega, fun j _ => f1 42 j (by omega)⟩
    unfold SU SV US RB mt
    rw [f1 20 7 (by omega), f1 60 3 (by omega), nn]
    refine ⟨⟨kT_fm hT la.1, b1, b2, b3⟩, ⟨fun j h1 h2 => ?_, fun j h1 h2 => ?_⟩, hp, fun i hi => La_PQ la (f1 _ _ (by omega)) (f1 _ _ (by omega)) (hP i hi)⟩
    · rw [f1 42 j (by omega)]; exact u1 j h1 h2
    · rw [f1 42 j (by omega)] at h2; rw [f1 42 _ (by omega)]; exact u2 j h1 h2
  have M1 : SM x x1 := ⟨S1, H1, ⟨fun c k q1 q2 => f1 c k (by omega), by unfold nx; rw [f1 100 4 (by omega)]; exact Int.le_refl _, fun j _ => f1 42 j (by omega)⟩, fm_w f1 (fun c k q => by unfold sSum; omega)⟩
  have F1 : FR x1 := by unfold FR at hf ⊢; rw [f1 100 4 (by omega), f1 42 _ (by omega)]; exact hf
  have z1 : hz x1 = 0 := by unfold hz; rw [q17]; rfl
  refine kp_hold hq _ _ _ H1 (by decide) (by decide) (by rw [q17, k0]; omega) hD2 (fun i hi => by rw [q17, k0] at hi; omega) (fun x2 f2 H2 z2 => ?_)
  obtain ⟨g1, g2, g3⟩ := SM_hold M1 f2 H2
  have n2 : nx x2 = nx x := by unfold nx; rw [g3, f1 100 4 (by omega)]
  exact loop 701 _ _ _ x2 g1 (g2 F1) (by decide) (by rw [z2, z1, if_pos rfl, k0]; rfl) (by decide) (by rw [k0]; omega) (by omega)
end KSU
