/-! the code of expressions: work 51, workA 52, works 49; o: 0 in a thread's own work -/
def c1 (o w a : Int32) (n n1 : Nat) : Prop := ((w = 1 ∨ w = 3 ∨ (w = 2 ∧ o = 0 ∧ 0 ≤ a.toInt ∧ a.toInt < 8) ∨ (w = 4 ∧ 0 ≤ a.toInt ∧ a.toInt < 24)) ∧ n < 60 ∧ n1 = n + 1) ∨ (w = 5 ∧ 1 ≤ n ∧ n1 = n) ∨ (w = 6 ∧ 2 ≤ n ∧ n1 + 1 = n)
def cS (x : gd) (o : Int32) : Nat → Nat → Nat → Nat → Prop
  | 0, _, n, n' => n = n'
  | k + 1, w, n, n' => ∃ n1, c1 o (x.1 51 w) (x.1 52 w) n n1 ∧ cS x o k (w + 1) n1 n'
theorem cS_app {x : gd} {o : Int32} : ∀ (k l w n n1 n2 : Nat), cS x o k w n n1 → cS x o l (w + k) n1 n2 → cS x o (k + l) w n n2 := by
  intro k
  induction k with
  | zero =>
    intro l w n n1 n2 h g
    rw [Nat.zero_add]
    have h : n = n1 := h
    rw [h]
    exact g
  | succ k ih =>
    intro l w n n1 n2 h g
    obtain ⟨m, h1, h2⟩ := h
    rw [show k + 1 + l = k + l + 1 by omega]
    exact ⟨m, h1, ih l (w + 1) m n1 n2 h2 (by rw [show w + 1 + k = w + (k + 1) by omega]; exact g)⟩
theorem cS_keep {x x' : gd} {o : Int32} : ∀ (k w n n' : Nat), (∀ j : Nat, w ≤ j → j < w + k → x'.1 51 j = x.1 51 j ∧ x'.1 52 j = x.1 52 j) → cS x o k w n n' → cS x' o k w n n' := by
  intro k
  induction k with
  | zero => intro w n n' _ h; exact h
  | succ k ih =>
    intro w n n' hk h
    obtain ⟨m, h1, h2⟩ := h
    have q := hk w (by omega) (by omega)
    exact ⟨m, by rw [q.1, q.2]; exact h1, ih (w + 1) m n' (fun j a b => hk j (by omega) (by omega)) h2⟩
/-- what laying an expression leaves -/
def LE (o : Int32) (s h : Nat) (x x' : gd) : Prop := md [41, 42, 49] [51, 52] x x' ∧ WB x' ∧ (∀ j : Nat, (j : Int) < (x.1 0 49).toInt → x'.1 51 j = x.1 51 j ∧ x'.1 52 j = x.1 52 j) ∧ ∃ k : Nat, k ≤ s ∧ (x'.1 0 49).toInt = (x.1 0 49).toInt + k ∧ ∀ p : Nat, p + h ≤ 60 → cS x' o k (x.1 0 49).toNatClampNeg p (p + 1)
theorem all_no {M L : List Nat} (h : M.all (fun k => !L.elem k) = true) : ∀ k ∈ M, k ∉ L := by
  intro k hk m
  have q := List.all_eq_true.mp h k hk
  rw [List.elem_iff.mpr m] at q
  exact absurd q (by decide)
theorem LB_md {L A : List Nat} {x x' : gd} (h : md L A x x') (hL : [23, 24, 25, 26, 27, 28].all (fun k => !L.elem k) = true) (hA : [6, 7, 8, 30, 31, 32, 33, 34, 35].all (fun k => !A.elem k) = true) (q : LB x) : LB x' := by
  have f := fun k hk => h.1 k (all_no hL k hk)
  have g := fun k (h0 : k ≠ 0) hk => h.2.1 k h0 (all_no hA k hk)
  have f23 := f 23 (by decide)
  have f24 := f 24 (by decide)
  have f25 := f 25 (by decide)
  have f26 := f 26 (by decide)
  have f27 := f 27 (by decide)
  have f28 := f 28 (by decide)
  refine ⟨TK_md h (all_no hA 6 (by decide)) (all_no hA 8 (by decide)) (all_no hA 7 (by decide)) q.1, ?_, ?_⟩
  · unfold GB
    rw [f23, f24, f25, f26, f27, f28]
    exact q.2.1
  · intro j hj
    rw [f28] at hj
    have r := q.2.2 j hj
    unfold tE
    rw [f23, f24, f25, g 30 (by decide) (by decide), g 31 (by decide) (by decide), g 32 (by decide) (by decide), g 33 (by decide) (by decide), g 34 (by decide) (by decide), g 35 (by decide) (by decide)]
    exact r
theorem KB_md {L A : List Nat} {x x' : gd} (h : md L A x x') (h43 : 43 ∉ L) (h45 : 45 ∉ A) (h46 : 46 ∉ A) (q : KB x) : KB x' := by
  unfold KB
  rw [h.1 43 h43, h.2.1 45 (by decide) h45, h.2.1 46 (by decide) h46]
  exact q
theorem LE_LB {o : Int32} {s h : Nat} {x x' : gd} (q : LE o s h x x') (l : LB x) : LB x' := LB_md q.1 rfl rfl l
theorem LE_NN {o : Int32} {s h : Nat} {x x' : gd} (q : LE o s h x x') : NN x x' := NN_md q.1 (by decide) (fun c h1 h2 m => by
  rcases List.mem_cons.mp m with m | m
  · omega
  · have := List.mem_singleton.mp m; omega)
/-- one push laid, behind what was said to be wrong -/
theorem LE_push {o w a : Int32} {s h : Nat} {x y z : gd} (m : md [41, 42] [] x y) (wb : WB y) (l : lD y z w a) (h0 : 0 ≤ (x.1 0 49).toInt) (hw : (x.1 0 49).toInt ≤ 5999) (s1 : 1 ≤ s) (h1 : 1 ≤ h) (q : w = 1 ∨ w = 3 ∨ (w = 2 ∧ o = 0 ∧ 0 ≤ a.toInt ∧ a.toInt < 8) ∨ (w = 4 ∧ 0 ≤ a.toInt ∧ a.toInt < 24)) : LE o s h x z := by
  obtain ⟨l1, l2, l3, l4⟩ := l
  have e : y.1 0 49 = x.1 0 49 := m.1 49 (by decide)
  have k1 : (1 : Int32).toInt = 1 := rfl
  have e51 : y.1 51 = x.1 51 := m.2.1 51 (by decide) (by decide)
  have e52 : y.1 52 = x.1 52 := m.2.1 52 (by decide) (by decide)
  refine ⟨md_tr m l1 rfl rfl, ?_, fun j hj => ?_, 1, s1, ?_, fun p hp => ?_⟩
  · unfold WB
    rw [l1.1 41 (by decide), l1.1 42 (by decide)]
    exact wb
  · have ne : ¬ j = (y.1 0 49).toNatClampNeg := by rw [e, t_cl]; omega
    rw [l3, l4, if_neg ne, if_neg ne, e51, e52]
    exact ⟨rfl, rfl⟩
  · rw [l2, e, t_add (by omega) (by omega), k1]; rfl
  · refine ⟨p + 1, Or.inl ⟨?_, by omega, rfl⟩, rfl⟩
    rw [l3, l4, e, if_pos rfl, if_pos rfl]
    exact q
