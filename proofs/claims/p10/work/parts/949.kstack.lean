/-! the class: the open statements as the grammar's stack u of kinds, and where blocks' locals begin (B; an else-if's place is no block) -/
def SKs (x : gd) : Nat → List Nat → List Nat → Prop
  | 0, u, B => u = [] ∧ B = []
  | n + 1, u, B => ∃ z u', u = z :: u' ∧ (x.1 111 n).toInt = (z : Nat) ∧ ((z = 5 ∧ SKs x n u' B) ∨ (¬ z = 5 ∧ ∃ b B', B = b :: B' ∧ (x.1 113 n).toNatClampNeg = b ∧ SKs x n u' B'))
theorem SKs_eq {x y : gd} : ∀ {n : Nat} {u B : List Nat}, (∀ k, k < n → y.1 111 k = x.1 111 k ∧ y.1 113 k = x.1 113 k) → SKs x n u B → SKs y n u B := by
  intro n
  induction n with
  | zero => intro u B _ h; exact h
  | succ n ih =>
    intro u B g h
    obtain ⟨z, u', h1, h2, h3⟩ := h
    obtain ⟨e1, e2⟩ := g n (Nat.lt_succ_self _)
    have g' : ∀ k, k < n → y.1 111 k = x.1 111 k ∧ y.1 113 k = x.1 113 k := fun k hk => g k (Nat.lt_succ_of_lt hk)
    refine ⟨z, u', h1, by rw [e1]; exact h2, ?_⟩
    rcases h3 with ⟨a, b⟩ | ⟨a, b, B', c1, c2, c3⟩
    · exact Or.inl ⟨a, ih g' b⟩
    · exact Or.inr ⟨a, b, B', c1, by rw [e2]; exact c2, ih g' c3⟩
theorem SKs_len {x : gd} : ∀ {n : Nat} {u B : List Nat}, SKs x n u B → u.length = n := by
  intro n
  induction n with
  | zero => intro u B h; rw [h.1]; rfl
  | succ n ih =>
    intro u B h
    obtain ⟨z, u', h1, h2, h3⟩ := h
    rw [h1, List.length_cons]
    rcases h3 with ⟨a, b⟩ | ⟨a, b, B', c1, c2, c3⟩
    · rw [ih b]
    · rw [ih c3]
/-- the innermost block -/
theorem SKs_top {x : gd} {n : Nat} {u B : List Nat} (h : SKs x (n + 1) u B) (h5 : ¬ x.1 111 n = 5) : ∃ z u' B', u = z :: u' ∧ (x.1 111 n).toInt = (z : Nat) ∧ ¬ z = 5 ∧ (x.1 113 n).toNatClampNeg = B.headD 0 ∧ B = B.headD 0 :: B' ∧ SKs x n u' B' := by
  obtain ⟨z, u', h1, h2, h3⟩ := h
  have k5 : (5 : Int32).toInt = 5 := rfl
  rcases h3 with ⟨a, b⟩ | ⟨a, b, B', c1, c2, c3⟩
  · exfalso
    apply h5
    rw [t_eq, k5]
    omega
  · exact ⟨z, u', B', h1, h2, a, by rw [c1]; exact c2, by rw [c1]; rfl, c3⟩
/-- fewer locals are known -/
theorem KV_drop {K : Nat → Int32} {e : Nat} {x y : gd} {E : gV} {B : List Nat} {c : Nat} (h : KV' K e x E) {m : Nat} (hm : m ≤ E.1.length) (e9 : (y.1 100 9).toInt = m) (e109 : ∀ k, y.1 109 k = x.1 109 k) : KV' K e y (E.1.drop (E.1.length - m), B, c) := by
  obtain ⟨h1, h2⟩ := h
  have el : (E.1.drop (E.1.length - m)).length = m := by rw [List.length_drop]; omega
  show (y.1 100 9).toInt = ((E.1.drop (E.1.length - m)).length : Nat) ∧ ∀ (p : Nat) (k : Nat × Nat), (E.1.drop (E.1.length - m))[p]? = some k → (y.1 109 ((E.1.drop (E.1.length - m)).length - 1 - p)).toNatClampNeg = k.1 ∧ K k.1 = 1 ∧ k.1 ≤ e
  rw [el]
  refine ⟨e9, fun p k hp => ?_⟩
  rw [List.getElem?_drop] at hp
  obtain ⟨hl, -⟩ := List.getElem?_eq_some_iff.mp hp
  have := h2 _ k hp
  have ei : E.1.length - 1 - (E.1.length - m + p) = m - 1 - p := by omega
  rw [ei] at this
  rw [e109]
  exact this
