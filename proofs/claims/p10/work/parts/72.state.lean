/-! what stays true between calls -/
theorem TK_mi {L A : List Nat} {x x' : gd} (h : mi L A x x') (h6 : 6 ∉ A) (h8 : 8 ∉ A) (h7 : 7 ∉ A) (q : TK x) : TK x' := by
  intro j hj
  rw [h.2 6 (by decide) h6, h.2 8 (by decide) h8, h.2 7 (by decide) h7]
  exact q j hj
theorem G0_mi {L A : List Nat} {x x' : gd} (h : mi L A x x') (hL : [2, 10, 42].all (fun k => !L.elem k) = true) (hA : [6, 7, 8, 118].all (fun k => !A.elem k) = true) (q : G0 x) : G0 x' := by
  have f := fun k hk => h.1 k (all_no hL k hk)
  unfold G0
  rw [f 2 (by decide), f 10 (by decide), f 42 (by decide)]
  exact ⟨q.1, q.2.1, TK_mi h (all_no hA 6 (by decide)) (all_no hA 8 (by decide)) (all_no hA 7 (by decide)) q.2.2.1, q.2.2.2.1, q.2.2.2.2.1, fun t ht => by rw [h.2 118 (by decide) (all_no hA 118 (by decide))]; exact q.2.2.2.2.2 t ht⟩
theorem CP_mi {L A : List Nat} {x x' : gd} (h : mi L A x x') (hL : [23, 24, 25, 26, 27, 28, 49, 52].all (fun k => !L.elem k) = true) (hA : [51, 52, 54, 55, 56, 57, 58, 59, 60, 61, 64, 65, 66].all (fun k => !A.elem k) = true) (q : CP x) : CP x' := by
  have f := fun k hk => h.1 k (all_no hL k hk)
  have g := fun k (h0 : k ≠ 0) hk => h.2 k h0 (all_no hA k hk)
  have f23 := f 23 (by decide)
  have f24 := f 24 (by decide)
  have f25 := f 25 (by decide)
  have f26 := f 26 (by decide)
  have f27 := f 27 (by decide)
  have f28 := f 28 (by decide)
  have f49 := f 49 (by decide)
  have f52 := f 52 (by decide)
  have g51 := g 51 (by decide) (by decide)
  have g52 := g 52 (by decide) (by decide)
  obtain ⟨q1, q2, q3, q4⟩ := q
  have wk : ∀ r, wo x 0 r → wo x' 0 r := fun r z => wo_keep (by rw [f49]; omega) (fun j _ => by rw [g51, g52]; exact ⟨rfl, rfl⟩) z
  have ok : ∀ r, oW x r → oW x' r := fun r z => ⟨z.1, cW_keep (by rw [f49]; omega) (fun j _ => by rw [g51, g52]; exact ⟨rfl, rfl⟩) z.2⟩
  refine ⟨?_, ?_, fun k hk => ?_, fun k hk => ?_⟩
  · unfold GB
    rw [f23, f24, f25, f26, f27, f28]
    exact q1
  · obtain ⟨j1, j2, j3, j4, j5, j6⟩ := q2
    refine ⟨by rw [f52]; exact j1, by rw [f52]; exact j2, by rw [f49]; exact j3, by rw [f49]; exact j4, fun j hj => ?_, fun j hj => ?_⟩
    · rw [f52] at hj
      obtain ⟨⟨a1, a2, a3, a4⟩, b, c9⟩ := j5 j hj
      unfold sC sO gO
      rw [g 54 (by decide) (by decide), g 55 (by decide) (by decide), g 56 (by decide) (by decide), g 57 (by decide) (by decide), g 58 (by decide) (by decide), g 59 (by decide) (by decide), g 60 (by decide) (by decide), g 61 (by decide) (by decide), f25, f52]
      exact ⟨⟨wk _ a1, wk _ a2, wk _ a3, a4⟩, b, c9⟩
    · rw [f25] at hj
      rw [g 64 (by decide) (by decide), f52]
      exact j6 j hj
  · rw [f26] at hk
    rw [g 65 (by decide) (by decide)]
    exact ok _ (q3 k hk)
  · rw [f27] at hk
    rw [g 66 (by decide) (by decide)]
    exact ok _ (q4 k hk)
/-- the run: the states that its choices went through -/
def Hist (z : gd) : Prop := ∃ (a : Nat → gd) (n : Nat), (n : Int) = (z.1 0 94).toInt ∧ (∀ k : Nat, k ≤ n → AV (a k)) ∧ (∀ k : Nat, k < n → 0 ≤ (z.1 96 k).toInt ∧ (z.1 96 k).toInt < ((a k).1 0 84).toInt ∧ Lk (a k) (z.1 96 k).toNatClampNeg (a (k + 1))) ∧ eqS (Sm (a n)) (a n) z ∧ St z (z.1 0 68) (a 0) ∧ wy01 z ∧ HA z
/-- a way as an int -/
def w32 (w : Nat) : Int32 := if w = 0 then 0 else 1
theorem w32_01 (w : Nat) : w32 w = 0 ∨ w32 w = 1 := by
  unfold w32
  by_cases h : w = 0
  · rw [if_pos h]; exact Or.inl rfl
  · rw [if_neg h]; exact Or.inr rfl
/-- a state that was tried: how it was come to. parent 130, byChoice 131, far 132 -/
def TN (z : gd) (w : Nat) (A : Nat → gd) (s : Nat) : Prop := AV (A s) ∧ 0 ≤ (z.1 132 (3000 * w + s)).toInt ∧ (s = 0 → (z.1 132 (3000 * w + s)).toInt = 0) ∧ (0 < s → ∃ p : Nat, p < s ∧ (z.1 130 (3000 * w + s)).toInt = p ∧ (z.1 132 (3000 * w + s)).toInt = (z.1 132 (3000 * w + p)).toInt + 1 ∧ 0 ≤ (z.1 131 (3000 * w + s)).toInt ∧ (z.1 131 (3000 * w + s)).toInt < ((A p).1 0 84).toInt ∧ Lk (A p) (z.1 131 (3000 * w + s)).toNatClampNeg (A s))
/-- a trying: many 120, outcomes 123, findings 126 -/
def TY (z : gd) (w : Nat) : Prop := ∃ A : Nat → gd, St z (w32 w) (A 0) ∧ 0 ≤ (z.1 120 w).toInt ∧ (z.1 120 w).toInt ≤ 3000 ∧ 0 ≤ (z.1 123 w).toInt ∧ (z.1 123 w).toInt ≤ 3000 ∧ (∀ s : Nat, (s : Int) < (z.1 120 w).toInt → TN z w A s) ∧ ∀ f : Nat, f < 11 → z.1 126 (11 * w + f) = -1 ∨ (0 ≤ (z.1 126 (11 * w + f)).toInt ∧ (z.1 126 (11 * w + f)).toInt < (z.1 120 w).toInt)
def MI (z : gd) : Prop := G0 z ∧ (¬ z.1 0 66 = 0 → CP z) ∧ (¬ z.1 0 67 = 0 → ¬ z.1 0 66 = 0 ∧ Hist z) ∧ ∀ w : Nat, w < 2 → ¬ z.1 119 w = 0 → ¬ z.1 0 66 = 0 ∧ TY z w
theorem St_pr {x y : gd} {w : Int32} {a0 : gd} (h : prE x y) (q : St x w a0) : St y w a0 := fun G D z Fv hD p hF => q G D z Fv hD (prE_tr h p) hF
theorem HA_mi {L A : List Nat} {x y : gd} (m : mi L A x y) (hL : [94, 96].all (fun k => !L.elem k) = true) (hA : [98, 99, 100, 103, 106, 107].all (fun k => !A.elem k) = true) (q : HA x) : HA y := by
  have f := fun k hk => m.1 k (all_no hL k hk)
  obtain ⟨a1, a2, a3, a4, a5⟩ := q
  have f94 := f 94 (by decide)
  have f96 := f 96 (by decide)
  refine ⟨by rw [f96]; exact a1, by rw [f96, f94]; exact a2, by rw [f94]; exact a3, fun j hj => aA_mi m (List.all_eq_true.mpr (fun k hk => List.all_eq_true.mp hA k (by simp at hk ⊢; omega))) (a4 j (by rw [f96] at hj; exact hj)), ?_⟩
  rw [f96]
  exact aB_mi m (List.all_eq_true.mpr (fun k hk => List.all_eq_true.mp hA k (by simp at hk ⊢; omega))) (Int.le_refl _) a5
theorem Hist_mi {L A : List Nat} {z z' : gd} (m : mi L A z z') (hL : [23, 24, 25, 26, 27, 68, 84, 94, 96].all (fun k => !L.elem k) = true) (hA : [36, 37, 38, 51, 52, 54, 55, 56, 57, 58, 59, 60, 61, 62, 64, 65, 66, 70, 71, 72, 73, 74, 75, 76, 77, 78, 79, 80, 81, 82, 86, 87, 88, 96, 98, 99, 100, 103, 106, 107].all (fun k => !A.elem k) = true) (q : Hist z) : Hist z' := by
  have L2 : ∀ M : List Nat, M.all ([23, 24, 25, 26, 27, 68, 84, 94, 96].elem ·) = true → M.all (fun k => !L.elem k) = true := fun M hM => List.all_eq_true.mpr (fun k hk => List.all_eq_true.mp hL k (List.elem_iff.mp (List.all_eq_true.mp hM k hk)))
  have A2 : ∀ M : List Nat, M.all ([36, 37, 38, 51, 52, 54, 55, 56, 57, 58, 59, 60, 61, 62, 64, 65, 66, 70, 71, 72, 73, 74, 75, 76, 77, 78, 79, 80, 81, 82, 86, 87, 88, 96, 98, 99, 100, 103, 106, 107].elem ·) = true → M.all (fun k => !A.elem k) = true := fun M hM => List.all_eq_true.mpr (fun k hk => List.all_eq_true.mp hA k (List.elem_iff.mp (List.all_eq_true.mp hM k hk)))
  have f := fun k hk => m.1 k (all_no hL k hk)
  obtain ⟨a, n, q1, q2, q3, q4, q5, q6, q7⟩ := q
  have g96 : z'.1 96 = z.1 96 := m.2 96 (by decide) (all_no hA 96 (by decide))
  refine ⟨a, n, by rw [f 94 (by decide)]; exact q1, q2, by rw [g96]; exact q3, eqS_mi q4 m (L2 _ rfl) (A2 _ rfl) (ssub_rf _), ?_, by unfold wy01; rw [f 68 (by decide)]; exact q6, HA_mi m (L2 _ rfl) (A2 _ rfl) q7⟩
  rw [f 68 (by decide)]
  exact St_pr (prE_mi (prE_rf z) m (L2 _ rfl) (A2 _ rfl)) q5
theorem TY_mi {L A : List Nat} {z z' : gd} {w : Nat} (m : mi L A z z') (hL : [23, 24, 25, 26, 27].all (fun k => !L.elem k) = true) (hA : [36, 37, 38, 51, 52, 54, 55, 56, 57, 58, 59, 60, 61, 62, 64, 65, 66, 120, 123, 126, 130, 131, 132].all (fun k => !A.elem k) = true) (q : TY z w) : TY z' w := by
  have A2 : ∀ M : List Nat, M.all ([36, 37, 38, 51, 52, 54, 55, 56, 57, 58, 59, 60, 61, 62, 64, 65, 66, 120, 123, 126, 130, 131, 132].elem ·) = true → M.all (fun k => !A.elem k) = true := fun M hM => List.all_eq_true.mpr (fun k hk => List.all_eq_true.mp hA k (List.elem_iff.mp (List.all_eq_true.mp hM k hk)))
  have g := fun k (h0 : k ≠ 0) hk => m.2 k h0 (all_no hA k hk)
  obtain ⟨A9, q1, q2, q3, q4, q5, q6, q7⟩ := q
  refine ⟨A9, St_pr (prE_mi (prE_rf z) m hL (A2 _ rfl)) q1, ?_⟩
  unfold TN at q6 ⊢
  rw [g 120 (by decide) (by decide), g 123 (by decide) (by decide), g 126 (by decide) (by decide), g 130 (by decide) (by decide), g 131 (by decide) (by decide), g 132 (by decide) (by decide)]
  exact ⟨q2, q3, q4, q5, q6, q7⟩
/-- fields and arrays of which the state between calls speaks -/
abbrev stL : List Nat := [2, 10, 23, 24, 25, 26, 27, 28, 42, 49, 52, 66, 67, 68, 84, 94, 96]
abbrev stA : List Nat := [2, 6, 7, 8, 36, 37, 38, 51, 52, 54, 55, 56, 57, 58, 59, 60, 61, 62, 64, 65, 66, 70, 71, 72, 73, 74, 75, 76, 77, 78, 79, 80, 81, 82, 86, 87, 88, 96, 98, 99, 100, 103, 106, 107, 118, 119, 120, 123, 126, 130, 131, 132]
theorem all_sub {M N L : List Nat} (h : N.all (fun k => !L.elem k) = true) (s : M.all (N.elem ·) = true) : M.all (fun k => !L.elem k) = true := List.all_eq_true.mpr (fun k hk => List.all_eq_true.mp h k (List.elem_iff.mp (List.all_eq_true.mp s k hk)))
theorem MI_mi {L A : List Nat} {z z' : gd} (m : mi L A z z') (hL : stL.all (fun k => !L.elem k) = true) (hA : stA.all (fun k => !A.elem k) = true) (q : MI z) : MI z' := by
  have f := fun k hk => m.1 k (all_no hL k hk)
  obtain ⟨q1, q2, q3, q4⟩ := q
  have g119 : z'.1 119 = z.1 119 := m.2 119 (by decide) (all_no hA 119 (by decide))
  refine ⟨G0_mi m (all_sub hL rfl) (all_sub hA rfl) q1, fun h => CP_mi m (all_sub hL rfl) (all_sub hA rfl) (q2 (by rw [f 66 (by decide)] at h; exact h)), fun h => ?_, fun w hw h => ?_⟩
  · rw [f 67 (by decide)] at h
    rw [f 66 (by decide)]
    exact ⟨(q3 h).1, Hist_mi m (all_sub hL rfl) (all_sub hA rfl) (q3 h).2⟩
  · rw [g119] at h
    rw [f 66 (by decide)]
    exact ⟨(q4 w hw h).1, TY_mi m (all_sub hL rfl) (all_sub hA rfl) (q4 w hw h).2⟩
/-- what a call leaves: the state, and the text's length -/
abbrev mfL : List Nat := [23, 24, 25, 26, 27, 49, 52, 66]
abbrev mfA : List Nat := [2, 36, 37, 38, 51, 52, 54, 55, 56, 57, 58, 59, 60, 61, 62, 64, 65, 66]
theorem mfA_0 : ∀ c ∈ mfA, c ≠ 0 := by decide
def MFr (z z' : gd) : Prop := (∀ k ∈ mfL, z'.1 0 k = z.1 0 k) ∧ ∀ c ∈ mfA, z'.1 c = z.1 c
def PM (z z' : gd) : Prop := MI z' ∧ z'.1 0 2 = z.1 0 2 ∧ MFr z z'
theorem PM_0 {z y u : gd} (m : mi [0] [] z y) (p : PM y u) : PM z u := ⟨p.1, by rw [p.2.1, m.1 2 (by decide)], fun k hk => by
  rw [p.2.2.1 k hk]
  refine m.1 k (fun z => ?_)
  rw [List.mem_singleton.mp z] at hk
  exact absurd hk (by decide), fun c hc => (p.2.2.2 c hc).trans (m.2 c (mfA_0 c hc) (fun q => nomatch q))⟩
theorem PM_mi {L A : List Nat} {z z' : gd} (m : mi L A z z') (hL : stL.all (fun k => !L.elem k) = true) (hA : stA.all (fun k => !A.elem k) = true) (q : MI z) : PM z z' := ⟨MI_mi m hL hA q, m.1 2 (all_no hL 2 (by decide)), fun k hk => m.1 k (all_no (M := mfL) (all_sub hL rfl) k hk), fun c hc => m.2 c (mfA_0 c hc) (all_no (M := mfA) (all_sub hA rfl) c hc)⟩
theorem MI_wG {x z : gd} (h : wG x z) : MI z := ⟨h.1, fun q => absurd h.2.1 q, fun q => absurd h.2.2.1 q, fun w hw q => by
  have e : w = 0 ∨ w = 1 := by omega
  rcases e with e | e
  · rw [e] at q; exact absurd h.2.2.2.1 q
  · rw [e] at q; exact absurd h.2.2.2.2.1 q⟩
theorem MI_cG {x z : gd} (h : cG x z) : MI z ∧ z.1 0 2 = x.1 0 2 := ⟨⟨h.1, h.2.2.1, fun q => absurd h.2.2.2.1 q, fun w hw q => by
  have e : w = 0 ∨ w = 1 := by omega
  rcases e with e | e
  · rw [e] at q; exact absurd h.2.2.2.2.1 q
  · rw [e] at q; exact absurd h.2.2.2.2.2 q⟩, h.2.1⟩
