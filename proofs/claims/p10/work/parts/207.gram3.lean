/-! the grammar of the whole text: (cells, locks, threads, always, finals), where, what was told -/
abbrev gN := Nat × Nat × Nat × Nat × Nat
abbrev gD := Option (gN × Nat × gU)
/-- how many cells a row has, by the whole at w -/
def prz (K V : Nat → Int32) (w : Nat) : Nat := if K w = 2 ∧ 1 ≤ V w ∧ V w ≤ 8 then (V w).toNatClampNeg else 1
/-- the start value: where it ends, what it tells -/
def pCv (K : Nat → Int32) (q : Nat × gU) : gOp := if K q.1 = 50 then (if q.1 < 700 then (if K (q.1 + 1) = 58 then (if q.1 + 1 < 700 ∧ K (q.1 + 2) = 2 ∧ q.1 + 2 < 700 then some (q.1 + 3, q.2 ++ [(81, q.1 + 2, 0)]) else none) else (if K (q.1 + 1) = 2 ∧ q.1 + 1 < 700 then some (q.1 + 2, q.2 ++ [(80, q.1 + 1, 0)]) else none)) else none) else some (q.1, q.2 ++ [(82, 0, 0)])
def pCl (K V : Nat → Int32) (n i t : Nat) (L : gU) : Option (Nat × Nat × gU) :=
  if (K (t - 1) = 17 ∧ t - 1 < 700) ∧ (K t = 1 ∧ t < 700) ∧ n < 24 then
    (if K (t + 1) = 65 then (if t + 1 < 700 ∧ n + prz K V (t + 2) ≤ 24 ∧ (K (t + 2) = 2 ∧ t + 2 < 700) ∧ K (t + 3) = 66 ∧ t + 3 < 700 then ((pCv K (t + 4, L ++ [(32, t, t + 2)])).bind (pt K 67)).bind (fun q => some (n + prz K V (t + 2), q.1, q.2 ++ [(83, i, t)])) else none)
    else ((pCv K (t + 1, L ++ [(31, t, 0)])).bind (pt K 67)).bind (fun q => some (n + 1, q.1, q.2 ++ [(83, i, t)])))
  else none
def pD (K V : Nat → Int32) (n : gN) (i : Nat) (L : gU) : gD :=
  if K i = 34 then (if i < 700 then (pCl K V n.1 i (i + 2) L).bind (fun q => some ((q.1, n.2), q.2)) else none)
  else if K i = 17 then (pCl K V n.1 i (i + 1) L).bind (fun q => some ((q.1, n.2), q.2))
  else if K i = 27 then (if n.2.1 < 6 ∧ i < 700 ∧ (K (i + 1) = 1 ∧ i + 1 < 700) ∧ K (i + 2) = 67 ∧ i + 2 < 700 then some ((n.1, n.2.1 + 1, n.2.2), i + 3, L ++ [(33, i + 1, 0)]) else none)
  else if K i = 23 then (if n.2.2.1 < 6 ∧ i < 700 ∧ (K (i + 1) = 37 ∧ i + 1 < 700) ∧ K (i + 2) = 1 ∧ i + 2 < 700 then (pBk (pS K 16) K 0 0 (i + 3) (L ++ [(34, i + 2, 1)])).bind (fun q => some ((n.1, n.2.1, n.2.2.1 + 1, n.2.2.2), q.2)) else none)
  else if K i = 37 then (if n.2.2.1 < 6 ∧ i < 700 ∧ K (i + 1) = 1 ∧ i + 1 < 700 then (pBk (pS K 16) K 0 0 (i + 2) (L ++ [(34, i + 1, 0)])).bind (fun q => some ((n.1, n.2.1, n.2.2.1 + 1, n.2.2.2), q.2)) else none)
  else if K i = 11 then (if n.2.2.2.1 < 4 ∧ i < 700 then ((pX K true 16 (i + 1) (L ++ [(35, i, 0)])).bind (pt K 67)).bind (fun q => some ((n.1, n.2.1, n.2.2.1, n.2.2.2.1 + 1, n.2.2.2.2), q)) else none)
  else if K i = 21 then (if n.2.2.2.2 < 4 ∧ i < 700 then ((pX K true 16 (i + 1) (L ++ [(36, i, 0)])).bind (pt K 67)).bind (fun q => some ((n.1, n.2.1, n.2.2.1, n.2.2.2.1, n.2.2.2.2 + 1), q)) else none)
  else none
def pAl (K V : Nat → Int32) : Nat → gN → Nat → gU → gD
  | 0, _, _, _ => none
  | m + 1, n, i, L => if K i = 0 then some (n, i, L) else (pD K V n i L).bind (fun q => pAl K V m q.1 q.2.1 q.2.2)
theorem pCv_lt {K : Nat → Int32} {q r : Nat × gU} (hq : q.1 ≤ 700) (h : pCv K q = some r) : q.1 ≤ r.1 ∧ r.1 ≤ 700 := by
  unfold pCv at h
  split at h
  · split at h
    · split at h
      · split at h
        · next d => cases Option.some.inj h; exact ⟨by show q.1 ≤ q.1 + 3; omega, by show q.1 + 3 ≤ 700; omega⟩
        · exact absurd h (by simp)
      · split at h
        · next d => cases Option.some.inj h; exact ⟨by show q.1 ≤ q.1 + 2; omega, by show q.1 + 2 ≤ 700; omega⟩
        · exact absurd h (by simp)
    · exact absurd h (by simp)
  · cases Option.some.inj h; exact ⟨Nat.le_refl _, hq⟩
theorem pCl_lt {K V : Nat → Int32} {n i t : Nat} {L : gU} {q : Nat × Nat × gU} (h : pCl K V n i t L = some q) : t < q.2.1 ∧ q.2.1 ≤ 700 := by
  unfold pCl at h
  split at h
  · next c =>
    split at h
    · split at h
      · next d =>
        obtain ⟨z, hz, e⟩ := Option.bind_eq_some_iff.mp h
        obtain ⟨y, hy, h2⟩ := Option.bind_eq_some_iff.mp hz
        have a := pCv_lt (by show t + 4 ≤ 700; omega) hy
        have b := pt_lt h2
        cases Option.some.inj e
        exact ⟨by show t < z.1; have : t + 4 ≤ y.1 := a.1; omega, by show z.1 ≤ 700; exact b.2⟩
      · exact absurd h (by simp)
    · obtain ⟨z, hz, e⟩ := Option.bind_eq_some_iff.mp h
      obtain ⟨y, hy, h2⟩ := Option.bind_eq_some_iff.mp hz
      have a := pCv_lt (by show t + 1 ≤ 700; omega) hy
      have b := pt_lt h2
      cases Option.some.inj e
      exact ⟨by show t < z.1; have : t + 1 ≤ y.1 := a.1; omega, by show z.1 ≤ 700; exact b.2⟩
  · exact absurd h (by simp)
theorem pD_lt {K V : Nat → Int32} {n : gN} {i : Nat} {L : gU} {q : gN × Nat × gU} (h : pD K V n i L = some q) : i < q.2.1 ∧ q.2.1 ≤ 700 := by
  have cell : ∀ t, i < t → (pCl K V n.1 i t L).bind (fun q => some ((q.1, n.2), q.2)) = some q → i < q.2.1 ∧ q.2.1 ≤ 700 := fun t ht h => by
    obtain ⟨z, hz, e⟩ := Option.bind_eq_some_iff.mp h
    have a := pCl_lt hz
    cases Option.some.inj e
    exact ⟨by show i < z.2.1; omega, a.2⟩
  have blk : ∀ (t : Nat) (M : gU) (v : gN), i < t → (pBk (pS K 16) K 0 0 t M).bind (fun q => some (v, q.2)) = some q → i < q.2.1 ∧ q.2.1 ≤ 700 := fun t M v ht h => by
    obtain ⟨z, hz, e⟩ := Option.bind_eq_some_iff.mp h
    have a := pBk_lt (pS_lt 16) hz
    cases Option.some.inj e
    exact ⟨by show i < z.2.1; omega, a.2⟩
  have clm : ∀ (M : gU) (v : gN), ((pX K true 16 (i + 1) M).bind (pt K 67)).bind (fun q => some (v, q)) = some q → i < q.2.1 ∧ q.2.1 ≤ 700 := fun M v h => by
    obtain ⟨z, hz, e⟩ := Option.bind_eq_some_iff.mp h
    obtain ⟨y, hy, h2⟩ := Option.bind_eq_some_iff.mp hz
    have a := pX_lt hy
    have b := pt_lt h2
    cases Option.some.inj e
    exact ⟨by show i < z.1; omega, b.2⟩
  unfold pD at h
  split at h
  · split at h
    · exact cell _ (by omega) h
    · exact absurd h (by simp)
  · split at h
    · exact cell _ (by omega) h
    · split at h
      · split at h
        · next d => cases Option.some.inj h; exact ⟨by show i < i + 3; omega, by show i + 3 ≤ 700; omega⟩
        · exact absurd h (by simp)
      · split at h
        · split at h
          · exact blk _ _ _ (by omega) h
          · exact absurd h (by simp)
        · split at h
          · split at h
            · exact blk _ _ _ (by omega) h
            · exact absurd h (by simp)
          · split at h
            · split at h
              · exact clm _ _ h
              · exact absurd h (by simp)
            · split at h
              · split at h
                · exact clm _ _ h
                · exact absurd h (by simp)
              · exact absurd h (by simp)
theorem pAl_fuel {K V : Nat → Int32} : ∀ (m g : Nat) (n : gN) (i : Nat) (L : gU), i ≤ 700 → 701 ≤ m + i → 701 ≤ g + i → pAl K V m n i L = pAl K V g n i L := by
  intro m
  induction m with
  | zero => intro g n i L h h1 h2; omega
  | succ m ih =>
    intro g n i L h h1 h2
    obtain ⟨g, rfl⟩ : ∃ k, g = k + 1 := ⟨g - 1, by omega⟩
    rw [pAl, pAl]
    split
    · rfl
    · cases hz : pD K V n i L with
      | none => rfl
      | some z =>
        have a := pD_lt hz
        exact ih g z.1 z.2.1 z.2.2 a.2 (by omega) (by omega)
/-! the tokens, on the text's bytes: b, of which there are n -/
def lxs (b : Nat → Int32) (n : Nat) : Nat → Bool → Nat → Nat
  | 0, _, p => p
  | f + 1, r, p => if n ≤ p then p else if b p = 10 then lxs b n f false (p + 1) else if b p = 47 ∧ (if p + 1 < n then b (p + 1) else 0) = 47 then lxs b n f true (p + 1) else if r = false ∧ ¬ b p = 32 ∧ ¬ b p = 9 ∧ ¬ b p = 13 then p else lxs b n f r (p + 1)
