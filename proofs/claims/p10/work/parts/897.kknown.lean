/-! the locals that are known, on the class's side -/
section KSO
variable {G : kG} {q : kP} {d : Nat} {x : gd} {F : Int32 → gd → Prop} {K V : Nat → Int32} {sN : Nat → Nat → Bool} {e : Nat}
/-- the locals that are known, told last first -/
def KV' (K : Nat → Int32) (e : Nat) (x : gd) (E : gV) : Prop := (x.1 100 9).toInt = E.1.length ∧ ∀ p k, E.1[p]? = some k → (x.1 109 (E.1.length - 1 - p)).toNatClampNeg = k.1 ∧ K k.1 = 1 ∧ k.1 ≤ e
theorem KV_fm {y : gd} {E : gV} (h : KV' K e x E) (f9 : y.1 100 9 = x.1 100 9) (f : ∀ k, y.1 109 k = x.1 109 k) : KV' K e y E := by
  unfold KV' at h ⊢
  rw [f9]
  exact ⟨h.1, fun p k hp => by rw [f]; exact h.2 p k hp⟩
theorem kfi_at : ∀ {l : gK} {p : Nat} {k : Nat × Nat} {t : Nat}, (∀ p' k', p' < p → l[p']? = some k' → ¬ sN k'.1 t = true) → l[p]? = some k → sN k.1 t = true → kfi sN l t = some (l.length - 1 - p) := by
  intro l
  induction l with
  | nil => intro p k t _ h; exact absurd h (by simp)
  | cons a l ih =>
    intro p k t no hk hs
    cases p with
    | zero =>
      have e1 : a = k := Option.some.inj hk
      show (if sN a.1 t = true then some l.length else kfi sN l t) = _
      rw [e1, if_pos hs]
      rfl
    | succ p =>
      have na := no 0 a (by omega) rfl
      show (if sN a.1 t = true then some l.length else kfi sN l t) = _
      have r := ih (p := p) (k := k) (t := t) (fun p' k' hp' hk' => no (p' + 1) k' (Nat.succ_lt_succ hp') hk') hk hs
      rw [if_neg na, r, List.length_cons]
      congr 1
      omega
theorem kfi_none : ∀ {l : gK} {t : Nat}, (∀ (p : Nat) (k : Nat × Nat), l[p]? = some k → ¬ sN k.1 t = true) → kfi sN l t = none := by
  intro l
  induction l with
  | nil => intro t _; rfl
  | cons a l ih =>
    intro t no
    show (if sN a.1 t = true then some l.length else kfi sN l t) = _
    rw [if_neg (no 0 a rfl), ih (fun p k hk => no (p + 1) k hk)]
theorem take_ex {l : gK} {m : Nat} {P : Nat × Nat → Prop} : (∃ k ∈ l.take m, P k) ↔ ∃ p k, p < m ∧ l[p]? = some k ∧ P k := by
  constructor
  · rintro ⟨k, hk, hp⟩
    obtain ⟨i, hi, e⟩ := List.getElem_of_mem hk
    rw [List.length_take] at hi
    refine ⟨i, k, by omega, ?_, hp⟩
    rw [List.getElem_take] at e
    rw [List.getElem?_eq_getElem (by omega), e]
  · rintro ⟨i, k, hi, hk, hp⟩
    refine ⟨k, List.mem_of_getElem? (i := i) ?_, hp⟩
    rw [List.getElem?_take, if_pos hi]
    exact hk
end KSO
