/-! the machine: all that a program can do, state by state -/
/-- a trying: its states with whence and by which choice; whether it is partly -/
abbrev gTy := List (gMa × Nat × Nat) × Bool
/-- a state is added, if it is new -/
noncomputable def adS (lim s i : Nat) (T : gTy) (M : gMa) : gTy := @ite gTy (∃ q ∈ T.1, q.1 = M) (Classical.propDecidable _) T (if lim ≤ T.1.length then (T.1, true) else (T.1 ++ [(M, s, i)], T.2))
/-- the first n choices of a state are tried -/
noncomputable def onS (C : gCo) (w lim s : Nat) (M : gMa) : Nat → gTy → gTy
  | 0, T => T
  | n + 1, T => if (onS C w lim s M n T).2 = true then onS C w lim s M n T else adS lim s n (onS C w lim s M n T) (doM C w M (((chM C w M)[n]?).getD (0, none, none)))
/-- the states from s on are tried -/
noncomputable def bfS (C : gCo) (w lim : Nat) : Nat → Nat → gTy → gTy
  | 0, _, T => T
  | f + 1, s, T => match T.1[s]? with
    | none => T
    | some q => bfS C w lim f (s + 1) (onS C w lim s q.1 (chM C w q.1).length T)
noncomputable def tryM (C : gCo) (w lim : Nat) : gTy := bfS C w lim 3001 0 ([(fsM C, 0, 0)], false)
section PTR
variable {C : gCo} {w lim s i n f : Nat} {T : gTy} {M : gMa}
theorem adS_old (h : ∃ q ∈ T.1, q.1 = M) : adS lim s i T M = T := if_pos h
theorem adS_full (h : ¬ ∃ q ∈ T.1, q.1 = M) (hl : lim ≤ T.1.length) : adS lim s i T M = (T.1, true) := (if_neg h).trans (if_pos hl)
theorem adS_new (h : ¬ ∃ q ∈ T.1, q.1 = M) (hl : ¬ lim ≤ T.1.length) : adS lim s i T M = (T.1 ++ [(M, s, i)], T.2) := (if_neg h).trans (if_neg hl)
theorem onS_p (h : T.2 = true) : ∀ n, onS C w lim s M n T = T := by
  intro n
  induction n with
  | zero => rfl
  | succ n ih => rw [onS, ih, if_pos h]
theorem bfS_p (h : T.2 = true) : ∀ f s, bfS C w lim f s T = T := by
  intro f
  induction f with
  | zero => intro s; rfl
  | succ f ih =>
    intro s
    rw [bfS]
    cases hs : T.1[s]? with
    | none => rfl
    | some q =>
      simp only []
      rw [onS_p h, ih]
theorem bfS_end (h : T.1[s]? = none) : bfS C w lim f s T = T := by
  cases f with
  | zero => rfl
  | succ f => rw [bfS, h]
theorem bfS_go {q : gMa × Nat × Nat} (h : T.1[s]? = some q) : bfS C w lim (f + 1) s T = bfS C w lim f (s + 1) (onS C w lim s q.1 (chM C w q.1).length T) := by
  rw [bfS, h]
end PTR
