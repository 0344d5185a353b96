/-! the grammar on the tokens' kinds (by the model's numbers); what is used is told as a list (use, token, token). The sums: pE with what may still be nested, how strong an operator must be, where, what was told. -/
abbrev gU := List (Nat × Nat × Nat)
abbrev gOp := Option (Nat × gU)
def pst (k : Int32) : Nat := if k = 30 then 1 else if k = 12 then 2 else if 51 ≤ k ∧ k ≤ 56 then 3 else if k = 57 ∨ k = 58 then 4 else if k = 59 ∨ k = 60 ∨ k = 28 then 5 else 0
abbrev pbg (o : Bool) (k : Int32) : Prop := k = 2 ∨ (k = 32 ∧ o = false) ∨ k = 1 ∨ k = 61 ∨ k = 29 ∨ k = 58
/-- one token is passed: it is the wanted one, and not one too many -/
def pt (K : Nat → Int32) (w : Int32) (q : Nat × gU) : gOp := if K q.1 = w ∧ q.1 < 700 then some (q.1 + 1, q.2) else none
def pW (rE : Nat → Nat → gU → gOp) (K : Nat → Int32) (th : Nat) : Nat → Nat → gU → gOp
  | 0, _, _ => none
  | f + 1, j, L => if th < pst (K j) then (if j < 700 then (rE (pst (K j)) (j + 1) L).bind (fun q => pW rE K th f q.1 (q.2 ++ [(51, j, 0)])) else none) else some (j, L)
def pO (rE : Nat → Nat → gU → gOp) (K : Nat → Int32) (o : Bool) (i : Nat) (L : gU) : gOp :=
  if 700 ≤ i then none
  else if K i = 2 then some (i + 1, L ++ [(52, i, 0)])
  else if K i = 32 then some (i + 1, L ++ [(53, i, 0)])
  else if K i = 61 then (rE 0 (i + 1) L).bind (pt K 62)
  else if K i = 1 then (if o = true then (if K (i + 1) = 65 then (if i + 1 < 700 ∧ (K (i + 2) = 2 ∧ i + 2 < 700) ∧ K (i + 3) = 66 ∧ i + 3 < 700 then some (i + 4, L ++ [(7, i, 0), (12, i + 2, i)]) else none) else some (i + 1, L ++ [(6, i, 0)])) else some (i + 1, L ++ [(3, i, 0)]))
  else none
def pE (K : Nat → Int32) (o : Bool) : Nat → Nat → Nat → gU → gOp
  | 0, _, _, _ => none
  | f + 1, th, i, L => if pbg o (K i) then (if K i = 29 ∨ K i = 58 then (if i < 700 then (pE K o f 5 (i + 1) L).bind (fun q => some (q.1, q.2 ++ [(50, i, 0)])) else none) else pO (pE K o f) K o i L).bind (fun q => pW (pE K o f) K th 701 q.1 q.2) else none
theorem pt_is {K : Nat → Int32} {w : Int32} {j : Nat} {L : gU} {q : Nat × gU} (h : pt K w (j, L) = some q) : K j = w ∧ j < 700 ∧ q = (j + 1, L) := by
  unfold pt at h
  split at h
  · next c => exact ⟨c.1, c.2, (Option.some.inj h).symm⟩
  · exact absurd h (by simp)
abbrev pgo (rE : Nat → Nat → gU → gOp) : Prop := ∀ s i L q, rE s i L = some q → i < q.1 ∧ q.1 ≤ 700
theorem pW_lt {rE : Nat → Nat → gU → gOp} {K : Nat → Int32} {th : Nat} (hr : pgo rE) : ∀ (f j : Nat) (L : gU) (q : Nat × gU), j ≤ 700 → pW rE K th f j L = some q → j ≤ q.1 ∧ q.1 ≤ 700 := by
  intro f
  induction f with
  | zero => intro j L q _ h; exact absurd h (by simp [pW])
  | succ f ih =>
    intro j L q hj h
    rw [pW] at h
    split at h
    · split at h
      · obtain ⟨z, hz, h2⟩ := Option.bind_eq_some_iff.mp h
        have a := hr _ _ _ _ hz
        have b := ih _ _ _ a.2 h2
        omega
      · exact absurd h (by simp)
    · cases Option.some.inj h; exact ⟨Nat.le_refl _, hj⟩
theorem pW_fuel {rE : Nat → Nat → gU → gOp} {K : Nat → Int32} {th : Nat} (hr : pgo rE) : ∀ (f g j : Nat) (L : gU), j ≤ 700 → 701 ≤ f + j → 701 ≤ g + j → pW rE K th f j L = pW rE K th g j L := by
  intro f
  induction f with
  | zero => intro g j L hj h1 h2; omega
  | succ f ih =>
    intro g j L hj h1 h2
    obtain ⟨g, rfl⟩ : ∃ m, g = m + 1 := ⟨g - 1, by omega⟩
    rw [pW, pW]
    split
    · split
      · cases hz : rE (pst (K j)) (j + 1) L with
        | none => rfl
        | some z =>
          have a := hr _ _ _ _ hz
          exact ih g z.1 (z.2 ++ [(51, j, 0)]) a.2 (by omega) (by omega)
      · rfl
    · rfl
theorem pO_lt {rE : Nat → Nat → gU → gOp} {K : Nat → Int32} {o : Bool} (hr : pgo rE) {i : Nat} {L : gU} {q : Nat × gU} (h : pO rE K o i L = some q) : i < q.1 ∧ q.1 ≤ 700 := by
  unfold pO at h
  split at h
  · exact absurd h (by simp)
  · next c =>
    split at h
    · cases Option.some.inj h; exact ⟨by show i < i + 1; omega, by show i + 1 ≤ 700; omega⟩
    split at h
    · cases Option.some.inj h; exact ⟨by show i < i + 1; omega, by show i + 1 ≤ 700; omega⟩
    · split at h
      · obtain ⟨z, hz, h2⟩ := Option.bind_eq_some_iff.mp h
        have a := hr _ _ _ _ hz
        obtain ⟨z1, z2⟩ := z
        obtain ⟨-, b, e⟩ := pt_is h2
        subst e
        exact ⟨by show i < z1 + 1; have := a.1; omega, by show z1 + 1 ≤ 700; omega⟩
      · split at h
        · split at h
          · split at h
            · split at h
              · next d => cases Option.some.inj h; exact ⟨by show i < i + 4; omega, by show i + 4 ≤ 700; omega⟩
              · exact absurd h (by simp)
            · cases Option.some.inj h; exact ⟨by show i < i + 1; omega, by show i + 1 ≤ 700; omega⟩
          · cases Option.some.inj h; exact ⟨by show i < i + 1; omega, by show i + 1 ≤ 700; omega⟩
        · exact absurd h (by simp)
theorem pE_lt {K : Nat → Int32} {o : Bool} : ∀ f : Nat, pgo (pE K o f) := by
  intro f
  induction f with
  | zero => intro s i L q h; exact absurd h (by simp [pE])
  | succ f ih =>
    intro s i L q h
    rw [pE] at h
    split at h
    · obtain ⟨z, hz, h2⟩ := Option.bind_eq_some_iff.mp h
      have a : i < z.1 ∧ z.1 ≤ 700 := by
        split at hz
        · split at hz
          · obtain ⟨y, hy, e⟩ := Option.bind_eq_some_iff.mp hz
            have a := ih _ _ _ _ hy
            cases Option.some.inj e
            exact ⟨by show i < y.1; omega, a.2⟩
          · exact absurd hz (by simp)
        · exact pO_lt ih hz
      have b := pW_lt ih _ _ _ _ a.2 h2
      omega
    · exact absurd h (by simp)
/-! what a reader with a stack of operators has still before it: (strength, what may be nested, what it tells at its end) -/
abbrev gH := List (Nat × Nat × Nat × Nat × Nat)
def dB (K : Nat → Int32) (o : Bool) : gH → Nat → gU → gOp
  | [], _, _ => none
  | [_], j, L => some (j, L)
  | z :: y :: s, j, L => if z.1 = 0 then (if K j = 62 ∧ j < 700 then (pW (pE K o (y.2.1 - 1)) K y.1 701 (j + 1) L).bind (fun q => dB K o (y :: s) q.1 q.2) else none) else (pW (pE K o (y.2.1 - 1)) K y.1 701 j (L ++ [z.2.2])).bind (fun q => dB K o (y :: s) q.1 q.2)
def dAk (K : Nat → Int32) (o : Bool) (s : gH) (i : Nat) (L : gU) : gOp := match s with
  | [] => none
  | z :: _ => (pE K o z.2.1 z.1 i L).bind (fun q => dB K o s q.1 q.2)
def dW (K : Nat → Int32) (o : Bool) (s : gH) (j : Nat) (L : gU) : gOp := match s with
  | [] => none
  | z :: _ => (pW (pE K o (z.2.1 - 1)) K z.1 701 j L).bind (fun q => dB K o s q.1 q.2)
section DEN
variable {K : Nat → Int32} {o : Bool} {a r f i j : Nat} {v w : Nat × Nat × Nat} {y : Nat × Nat × Nat × Nat × Nat} {s : gH} {L : gU}
theorem dB_op (ha : ¬ a = 0) : dB K o ((a, r, v) :: y :: s) j L = dW K o (y :: s) j (L ++ [v]) := by
  rw [dB, if_neg ha]; rfl
theorem dB_par : dB K o ((0, r, v) :: y :: s) j L = if K j = 62 ∧ j < 700 then dW K o (y :: s) (j + 1) L else none := by
  rw [dB, if_pos rfl]; rfl
theorem dA_0 : dAk K o ((a, 0, v) :: s) i L = none := rfl
theorem dA_no (h : ¬ pbg o (K i)) : dAk K o ((a, r, v) :: s) i L = none := by
  cases r with
  | zero => rfl
  | succ f => show (pE K o (f + 1) a i L).bind _ = none; rw [pE, if_neg h]; rfl
theorem dA_pre (h : K i = 29 ∨ K i = 58) (hi : i < 700) : dAk K o ((a, f + 1, v) :: s) i L = dAk K o ((5, f, 50, i, 0) :: (a, f + 1, v) :: s) (i + 1) L := by
  show (pE K o (f + 1) a i L).bind _ = (pE K o f 5 (i + 1) L).bind _
  have hb : pbg o (K i) := Or.inr (Or.inr (Or.inr (Or.inr h)))
  rw [pE, if_pos hb, if_pos h, if_pos hi, Option.bind_assoc, Option.bind_assoc]
  congr 1
theorem dA_pre0 (h : K i = 29 ∨ K i = 58) : dAk K o ((a, 1, v) :: s) i L = none := by
  show (pE K o (0 + 1) a i L).bind _ = none
  have hb : pbg o (K i) := Or.inr (Or.inr (Or.inr (Or.inr h)))
  rw [pE, if_pos hb, if_pos h]
  split <;> rfl
theorem dA_7 (hi : 700 ≤ i) : dAk K o ((a, r, v) :: s) i L = none := by
  cases r with
  | zero => rfl
  | succ f =>
    show (pE K o (f + 1) a i L).bind _ = none
    rw [pE]
    split
    · split
      · rw [if_neg (by omega)]; rfl
      · rw [pO, if_pos hi]; rfl
    · rfl
theorem dA_par (h : K i = 61) (hi : i < 700) : dAk K o ((a, f + 1, v) :: s) i L = dAk K o ((0, f, w) :: (a, f + 1, v) :: s) (i + 1) L := by
  show (pE K o (f + 1) a i L).bind _ = (pE K o f 0 (i + 1) L).bind _
  have hb : pbg o (K i) := Or.inr (Or.inr (Or.inr (Or.inl h)))
  rw [pE, if_pos hb, if_neg (by rw [h]; decide), pO, if_neg (by omega), if_neg (by rw [h]; decide), if_neg (by rw [h]; decide), if_pos h, Option.bind_assoc, Option.bind_assoc]
  congr 1
  funext q
  rw [dB_par, pt]
  split <;> rfl
theorem dA_leaf {q : Nat × gU} (hb : pbg o (K i)) (h : ¬ (K i = 29 ∨ K i = 58)) (h2 : pO (pE K o f) K o i L = some q) : dAk K o ((a, f + 1, v) :: s) i L = dW K o ((a, f + 1, v) :: s) q.1 q.2 := by
  show (pE K o (f + 1) a i L).bind _ = (pW (pE K o f) K a 701 q.1 q.2).bind _
  rw [pE, if_pos hb, if_neg h, h2]
  rfl
theorem dA_leaf0 (h : ¬ (K i = 29 ∨ K i = 58)) (h2 : pO (pE K o f) K o i L = none) : dAk K o ((a, f + 1, v) :: s) i L = none := by
  by_cases hb : pbg o (K i)
  · show (pE K o (f + 1) a i L).bind _ = none
    rw [pE, if_pos hb, if_neg h, h2]
    rfl
  · exact dA_no hb
theorem dW_pop (ha : ¬ a = 0) (h : pst (K j) ≤ a) : dW K o ((a, r, v) :: y :: s) j L = dW K o (y :: s) j (L ++ [v]) := by
  show (pW (pE K o (r - 1)) K a (700 + 1) j L).bind _ = _
  rw [pW, if_neg (by omega)]
  exact dB_op ha
theorem dW_par (h : pst (K j) = 0) : dW K o ((0, r, v) :: y :: s) j L = if K j = 62 ∧ j < 700 then dW K o (y :: s) (j + 1) L else none := by
  show (pW (pE K o (r - 1)) K 0 (700 + 1) j L).bind _ = _
  rw [pW, if_neg (by omega)]
  exact dB_par
theorem dW_end (h : pst (K j) ≤ a) : dW K o [(a, r, v)] j L = some (j, L) := by
  show (pW (pE K o (r - 1)) K a (700 + 1) j L).bind _ = _
  rw [pW, if_neg (by omega)]
  rfl
theorem dW_op (h : a < pst (K j)) (hj : j < 700) : dW K o ((a, f + 1, v) :: s) j L = dAk K o ((pst (K j), f, 51, j, 0) :: (a, f + 1, v) :: s) (j + 1) L := by
  show (pW (pE K o f) K a (700 + 1) j L).bind _ = (pE K o f (pst (K j)) (j + 1) L).bind _
  rw [pW, if_pos h, if_pos hj, Option.bind_assoc]
  cases hz : pE K o f (pst (K j)) (j + 1) L with
  | none => rfl
  | some q =>
    have b := pE_lt f _ _ _ _ hz
    show (pW (pE K o f) K a 700 q.1 (q.2 ++ [(51, j, 0)])).bind _ = dB K o _ q.1 q.2
    rw [dB_op (by omega), pW_fuel (pE_lt f) 700 701 q.1 _ b.2 (by omega) (by omega)]
    rfl
theorem dW_op7 (h : a < pst (K j)) (hj : 700 ≤ j) : dW K o ((a, r, v) :: s) j L = none := by
  show (pW (pE K o (r - 1)) K a (700 + 1) j L).bind _ = none
  rw [pW, if_pos h, if_neg (by omega)]
  rfl
end DEN
