/-! the grammar of statements: (lets so far, where, what was told) -/
abbrev gTs := Option (Nat × Nat × gU)
def pme : Option Nat → gU
  | none => []
  | some t => [(26, t, 0)]
def pma : Option Nat → gU
  | none => []
  | some t => [(25, t, 0)]
def pal : Option Nat → Nat → Nat × Nat × Nat
  | none, i => (24, i, 0)
  | some t, i => (27, t, i)
def pan (v : Nat × Nat × Nat) (q : Nat × gU) : gOp := some (q.1, q.2 ++ [v])
/-- a whole sum, its end told -/
def pX (K : Nat → Int32) (o : Bool) (f i : Nat) (L : gU) : gOp := (pE K o f 0 i L).bind (pan (54, 0, 0))
def pXq (K : Nat → Int32) (f : Nat) (q : Nat × gU) : gOp := pX K false f q.1 q.2
def pP (K : Nat → Int32) (f i : Nat) (L : gU) : gOp := if K i = 1 ∧ i < 700 then (if K (i + 1) = 65 then (if i + 1 < 700 then (pX K false f (i + 2) (L ++ [(7, i, 0)])).bind (pt K 66) else none) else some (i + 1, L ++ [(6, i, 0)])) else none
def pR (K : Nat → Int32) (f : Nat) (t : Option Nat) (i : Nat) (L : gU) : gOp :=
  if K i = 35 ∨ K i = 10 ∨ K i = 16 then (if i < 700 then (((pP K f (i + 1) (L ++ pme t)).bind (pt K 68)).bind (pXq K f)).bind (fun q => (if K i = 16 then (pt K 68 q).bind (pXq K f) else some q).bind (pan (74, i, 0))) else none)
  else if K i = 1 ∧ i < 700 ∧ K (i + 1) = 65 then (pP K f i (L ++ pme t)).bind (pan (75, i, 0))
  else if K i = 1 ∧ K (i + 1) = 67 then (if i < 700 ∧ 1 ≤ f then some (i + 1, L ++ [pal t i]) else none)
  else (pX K false f i (L ++ pma t)).bind (pan (76, i, 0))
def pBl (rS : Nat → Nat → gU → gTs) (K : Nat → Int32) (z : Nat) : Nat → Nat → Nat → gU → gTs
  | 0, _, _, _ => none
  | n + 1, c, i, L => if K i = 64 then (if i < 700 then some (c, i + 1, L ++ [(21, z, 0)]) else none) else (rS c i L).bind (fun q => pBl rS K z n q.1 q.2.1 q.2.2)
def pBk (rS : Nat → Nat → gU → gTs) (K : Nat → Int32) (z c i : Nat) (L : gU) : gTs := if K i = 63 ∧ i < 700 then pBl rS K z 701 c (i + 1) (L ++ [(20, z, 0)]) else none
def pEl (rS : Nat → Nat → gU → gTs) (K : Nat → Int32) (q : Nat × Nat × gU) : gTs := if K q.2.1 = 18 then (if q.2.1 < 700 then (if K (q.2.1 + 1) = 24 then rS q.1 (q.2.1 + 1) (q.2.2 ++ [(62, q.2.1, 0)]) else pBk rS K 4 q.1 (q.2.1 + 1) (q.2.2 ++ [(62, q.2.1, 0)])) else none) else some q
def pup (c : Nat) (v : Nat × Nat × Nat) (r : gOp) : gTs := r.bind (fun q => some (c, q.1, q.2 ++ [v]))
/-- the statements without a block -/
def pS1 (K : Nat → Int32) (f c i : Nat) (L : gU) : gTs :=
  if K i = 26 then (if (K (i + 1) = 1 ∧ i + 1 < 700) ∧ c < 8 ∧ K (i + 2) = 50 ∧ i + 2 < 700 then pup (c + 1) (22, i + 1, i) ((pR K f none (i + 3) (L ++ [(23, i + 1, 0)])).bind (pt K 67)) else none)
  else if K i = 1 then (if K (i + 1) = 65 then (if i + 1 < 700 then pup c (78, i, 0) (((((pX K false f (i + 2) (L ++ [(7, i, 0)])).bind (pt K 66)).bind (pt K 50)).bind (pXq K f)).bind (pt K 67)) else none) else if K (i + 1) = 50 ∧ i + 1 < 700 then pup c (77, i, 0) ((pR K f (some i) (i + 2) L).bind (pt K 67)) else none)
  else if K i = 20 ∨ K i = 31 ∨ K i = 19 then pup c (68, i, 0) (pt K 67 (i + 1, L))
  else if K i = 13 ∨ K i = 14 then pup c (69, i, 0) ((pX K false f (i + 1) L).bind (pt K 67))
  else if K i = 15 then (if (K (i + 1) = 2 ∧ i + 1 < 700) ∧ K (i + 2) = 68 ∧ i + 2 < 700 then pup c (70, i, i + 1) ((pX K false f (i + 3) L).bind (pt K 67)) else none)
  else if K i = 36 ∨ K i = 22 ∨ K i = 38 ∨ K i = 39 ∨ K i = 40 then (if K (i + 1) = 1 ∧ i + 1 < 700 then pup c (66, i, i + 1) (pt K 67 (i + 2, L)) else none)
  else if K i = 33 ∨ K i = 25 then (if K (i + 1) = 1 ∧ i + 1 < 700 then pup c (67, i, i + 1) (pt K 67 (i + 2, L)) else none)
  else none
def pfi (q : Nat × Nat × gU) : gTs := some (q.1, q.2.1, q.2.2 ++ [(63, 0, 0)])
def pS (K : Nat → Int32) : Nat → Nat → Nat → gU → gTs
  | 0, _, _, _ => none
  | f + 1, c, i, L =>
    if 700 ≤ i then none
    else if K i = 24 then (pX K false f (i + 1) L).bind (fun q => ((pBk (pS K f) K 3 c q.1 (q.2 ++ [(60, i, 0)])).bind (pEl (pS K f) K)).bind pfi)
    else if K i = 41 then (pX K false f (i + 1) L).bind (fun q => pBk (pS K f) K 1 c q.1 (q.2 ++ [(61, i, 0)]))
    else if K i = 27 then (if K (i + 1) = 1 ∧ i + 1 < 700 then pBk (pS K f) K 2 c (i + 2) (L ++ [(65, i, i + 1)]) else none)
    else pS1 K f c i L
theorem pt_lt {K : Nat → Int32} {w : Int32} {q r : Nat × gU} (h : pt K w q = some r) : q.1 < r.1 ∧ r.1 ≤ 700 := by
  obtain ⟨a, b⟩ := q
  obtain ⟨-, h1, e⟩ := pt_is h
  subst e
  exact ⟨Nat.lt_succ_self _, h1⟩
theorem pan_lt {v : Nat × Nat × Nat} {q r : Nat × gU} (h : pan v q = some r) : r.1 = q.1 := by
  unfold pan at h
  cases Option.some.inj h
  rfl
theorem pX_lt {K : Nat → Int32} {o : Bool} {f i : Nat} {L : gU} {q : Nat × gU} (h : pX K o f i L = some q) : i < q.1 ∧ q.1 ≤ 700 := by
  obtain ⟨z, hz, h2⟩ := Option.bind_eq_some_iff.mp h
  have a := pE_lt f _ _ _ _ hz
  have b := pan_lt h2
  omega
theorem pXq_lt {K : Nat → Int32} {f : Nat} {r q : Nat × gU} (h : pXq K f r = some q) : r.1 < q.1 ∧ q.1 ≤ 700 := pX_lt h
theorem pP_lt {K : Nat → Int32} {f i : Nat} {L : gU} {q : Nat × gU} (h : pP K f i L = some q) : i < q.1 ∧ q.1 ≤ 700 := by
  unfold pP at h
  split at h
  · split at h
    · split at h
      · obtain ⟨z, hz, h2⟩ := Option.bind_eq_some_iff.mp h
        have a := pX_lt hz
        have b := pt_lt h2
        omega
      · exact absurd h (by simp)
    · next c _ => cases Option.some.inj h; exact ⟨Nat.lt_succ_self _, by show i + 1 ≤ 700; omega⟩
  · exact absurd h (by simp)
theorem pR_lt {K : Nat → Int32} {f i : Nat} {t : Option Nat} {L : gU} {q : Nat × gU} (h : pR K f t i L = some q) : i < q.1 ∧ q.1 ≤ 700 := by
  unfold pR at h
  split at h
  · split at h
    · obtain ⟨z4, hz4, h4⟩ := Option.bind_eq_some_iff.mp h
      obtain ⟨z3, hz3, h3⟩ := Option.bind_eq_some_iff.mp hz4
      obtain ⟨z2, hz2, h2⟩ := Option.bind_eq_some_iff.mp hz3
      have a := pP_lt hz2
      have b := pt_lt h2
      have c := pXq_lt h3
      obtain ⟨z5, hz5, h5⟩ := Option.bind_eq_some_iff.mp h4
      have d := pan_lt h5
      split at hz5
      · obtain ⟨z6, hz6, h6⟩ := Option.bind_eq_some_iff.mp hz5
        have e1 := pt_lt hz6
        have e2 := pXq_lt h6
        omega
      · cases Option.some.inj hz5; omega
    · exact absurd h (by simp)
  · split at h
    · obtain ⟨z, hz, h2⟩ := Option.bind_eq_some_iff.mp h
      have a := pP_lt hz
      have b := pan_lt h2
      omega
    · split at h
      · split at h
        · next c => cases Option.some.inj h; exact ⟨Nat.lt_succ_self _, c.1⟩
        · exact absurd h (by simp)
      · obtain ⟨z, hz, h2⟩ := Option.bind_eq_some_iff.mp h
        have a := pX_lt hz
        have b := pan_lt h2
        omega
abbrev pgs (rS : Nat → Nat → gU → gTs) : Prop := ∀ c i L q, rS c i L = some q → i < q.2.1 ∧ q.2.1 ≤ 700
theorem pBl_lt {rS : Nat → Nat → gU → gTs} {K : Nat → Int32} {z : Nat} (hr : pgs rS) : ∀ (n c i : Nat) (L : gU) (q : Nat × Nat × gU), pBl rS K z n c i L = some q → i < q.2.1 ∧ q.2.1 ≤ 700 := by
  intro n
  induction n with
  | zero => intro c i L q h; exact absurd h (by simp [pBl])
  | succ n ih =>
    intro c i L q h
    rw [pBl] at h
    split at h
    · split at h
      · next d => cases Option.some.inj h; exact ⟨Nat.lt_succ_self _, d⟩
      · exact absurd h (by simp)
    · obtain ⟨y, hy, h2⟩ := Option.bind_eq_some_iff.mp h
      have a := hr _ _ _ _ hy
      have b := ih _ _ _ _ h2
      omega
theorem pBl_fuel {rS : Nat → Nat → gU → gTs} {K : Nat → Int32} {z : Nat} (hr : pgs rS) : ∀ (n m c i : Nat) (L : gU), i ≤ 700 → 701 ≤ n + i → 701 ≤ m + i → pBl rS K z n c i L = pBl rS K z m c i L := by
  intro n
  induction n with
  | zero => intro m c i L h h1 h2; omega
  | succ n ih =>
    intro m c i L h h1 h2
    obtain ⟨m, rfl⟩ : ∃ k, m = k + 1 := ⟨m - 1, by omega⟩
    rw [pBl, pBl]
    split
    · rfl
    · cases hy : rS c i L with
      | none => rfl
      | some y =>
        have a := hr _ _ _ _ hy
        exact ih m y.1 y.2.1 y.2.2 a.2 (by omega) (by omega)
theorem pBk_lt {rS : Nat → Nat → gU → gTs} {K : Nat → Int32} {z : Nat} (hr : pgs rS) {c i : Nat} {L : gU} {q : Nat × Nat × gU} (h : pBk rS K z c i L = some q) : i < q.2.1 ∧ q.2.1 ≤ 700 := by
  unfold pBk at h
  split at h
  · have := pBl_lt hr _ _ _ _ _ h; omega
  · exact absurd h (by simp)
theorem pEl_lt {rS : Nat → Nat → gU → gTs} {K : Nat → Int32} (hr : pgs rS) {q r : Nat × Nat × gU} (hq : q.2.1 ≤ 700) (h : pEl rS K q = some r) : q.2.1 ≤ r.2.1 ∧ r.2.1 ≤ 700 := by
  unfold pEl at h
  split at h
  · split at h
    · split at h
      · have := hr _ _ _ _ h; omega
      · have := pBk_lt hr h; omega
    · exact absurd h (by simp)
  · cases Option.some.inj h; exact ⟨Nat.le_refl _, hq⟩
theorem pup_lt {c : Nat} {v : Nat × Nat × Nat} {r : gOp} {q : Nat × Nat × gU} (h : pup c v r = some q) : ∃ L, r = some (q.2.1, L) := by
  unfold pup at h
  obtain ⟨z, hz, e⟩ := Option.bind_eq_some_iff.mp h
  cases Option.some.inj e
  exact ⟨z.2, hz⟩
theorem pS1_lt {K : Nat → Int32} {f c i : Nat} {L : gU} {q : Nat × Nat × gU} (h : pS1 K f c i L = some q) : i < q.2.1 ∧ q.2.1 ≤ 700 := by
  unfold pS1 at h
  split at h
  · split at h
    · obtain ⟨M, h⟩ := pup_lt h
      obtain ⟨y, hy, h2⟩ := Option.bind_eq_some_iff.mp h
      have a := pR_lt hy
      have b := pt_lt h2
      exact ⟨by have : y.1 < q.2.1 := b.1; omega, b.2⟩
    · exact absurd h (by simp)
  · split at h
    · split at h
      · split at h
        · obtain ⟨M, h⟩ := pup_lt h
          obtain ⟨y5, hy5, h5⟩ := Option.bind_eq_some_iff.mp h
          obtain ⟨y4, hy4, h4⟩ := Option.bind_eq_some_iff.mp hy5
          obtain ⟨y3, hy3, h3⟩ := Option.bind_eq_some_iff.mp hy4
          obtain ⟨y2, hy2, h2⟩ := Option.bind_eq_some_iff.mp hy3
          have a2 := pX_lt hy2
          have b2 := pt_lt h2
          have b3 := pt_lt h3
          have b4 := pXq_lt h4
          have b5 := pt_lt h5
          exact ⟨by have : y5.1 < q.2.1 := b5.1; omega, b5.2⟩
        · exact absurd h (by simp)
      · split at h
        · obtain ⟨M, h⟩ := pup_lt h
          obtain ⟨y2, hy2, h2⟩ := Option.bind_eq_some_iff.mp h
          have a2 := pR_lt hy2
          have b2 := pt_lt h2
          exact ⟨by have : y2.1 < q.2.1 := b2.1; omega, b2.2⟩
        · exact absurd h (by simp)
    · split at h
      · obtain ⟨M, h⟩ := pup_lt h
        have b := pt_lt h
        exact ⟨by have : i + 1 < q.2.1 := b.1; omega, b.2⟩
      · split at h
        · obtain ⟨M, h⟩ := pup_lt h
          obtain ⟨y2, hy2, h2⟩ := Option.bind_eq_some_iff.mp h
          have a2 := pX_lt hy2
          have b2 := pt_lt h2
          exact ⟨by have : y2.1 < q.2.1 := b2.1; omega, b2.2⟩
        · split at h
          · split at h
            · obtain ⟨M, h⟩ := pup_lt h
              obtain ⟨y2, hy2, h2⟩ := Option.bind_eq_some_iff.mp h
              have a2 := pX_lt hy2
              have b2 := pt_lt h2
              exact ⟨by have : y2.1 < q.2.1 := b2.1; omega, b2.2⟩
            · exact absurd h (by simp)
          · split at h
            · split at h
              · obtain ⟨M, h⟩ := pup_lt h
                have b := pt_lt h
                exact ⟨by have : i + 2 < q.2.1 := b.1; omega, b.2⟩
              · exact absurd h (by simp)
            · split at h
              · split at h
                · obtain ⟨M, h⟩ := pup_lt h
                  have b := pt_lt h
                  exact ⟨by have : i + 2 < q.2.1 := b.1; omega, b.2⟩
                · exact absurd h (by simp)
              · exact absurd h (by simp)
theorem pfi_lt {q r : Nat × Nat × gU} (h : pfi q = some r) : r.2.1 = q.2.1 := by
  unfold pfi at h
  cases Option.some.inj h
  rfl
theorem pS_lt {K : Nat → Int32} : ∀ f : Nat, pgs (pS K f) := by
  intro f
  induction f with
  | zero => intro c i L q h; exact absurd h (by simp [pS])
  | succ f ih =>
    intro c i L q h
    rw [pS] at h
    split at h
    · exact absurd h (by simp)
    · split at h
      · obtain ⟨z, hz, h2⟩ := Option.bind_eq_some_iff.mp h
        obtain ⟨x, hx, h4⟩ := Option.bind_eq_some_iff.mp h2
        obtain ⟨y, hy, h3⟩ := Option.bind_eq_some_iff.mp hx
        have a := pX_lt hz
        have b := pBk_lt ih hy
        have d := pEl_lt ih b.2 h3
        have e := pfi_lt h4
        omega
      · split at h
        · obtain ⟨z, hz, h2⟩ := Option.bind_eq_some_iff.mp h
          have a := pX_lt hz
          have b := pBk_lt ih h2
          omega
        · split at h
          · split at h
            · have b := pBk_lt ih h
              omega
            · exact absurd h (by simp)
          · exact pS1_lt h
/-! what a reader with a stack of open statements has still before it (0 a thread's block, 1 while, 2 lock, 3 if, 4 else, 5 the place of an if behind else) -/
def eS (K : Nat → Int32) : List Nat → Nat → Nat → gU → gTs
  | [], _, _, _ => none
  | z :: s, c, j, L => if z = 5 then eS K s c j (L ++ [(63, 0, 0)]) else (pBl (pS K (16 - s.length)) K z 701 c j L).bind (fun q => if z = 0 then some q else if z = 3 then (pEl (pS K (16 - s.length)) K q).bind (fun q => eS K s q.1 q.2.1 (q.2.2 ++ [(63, 0, 0)])) else if z = 4 then eS K s q.1 q.2.1 (q.2.2 ++ [(63, 0, 0)]) else eS K s q.1 q.2.1 q.2.2)
def eX (K : Nat → Int32) (u : List Nat) (c i : Nat) (L : gU) : gTs := (pS K (17 - u.length) c i L).bind (fun q => eS K u q.1 q.2.1 q.2.2)
/-- behind the end of a block -/
def eC (K : Nat → Int32) (z : Nat) (s : List Nat) (c j : Nat) (L : gU) : gTs := if z = 0 then some (c, j, L) else if z = 3 then (pEl (pS K (16 - s.length)) K (c, j, L)).bind (fun q => eS K s q.1 q.2.1 (q.2.2 ++ [(63, 0, 0)])) else if z = 4 then eS K s c j (L ++ [(63, 0, 0)]) else eS K s c j L
section DES
variable {K : Nat → Int32} {z f c i j : Nat} {s u : List Nat} {L : gU}
theorem eS_is (hz : ¬ z = 5) : eS K (z :: s) c j L = (pBl (pS K (16 - s.length)) K z 701 c j L).bind (fun q => eC K z s q.1 q.2.1 q.2.2) := by
  rw [eS, if_neg hz]; rfl
theorem eS_5 : eS K (5 :: s) c j L = eS K s c j (L ++ [(63, 0, 0)]) := by
  rw [eS, if_pos rfl]
theorem eS_close (hz : ¬ z = 5) (hK : K j = 64) (hj : j < 700) : eS K (z :: s) c j L = eC K z s c (j + 1) (L ++ [(21, z, 0)]) := by
  rw [eS_is hz, show (701 : Nat) = 700 + 1 from rfl, pBl, if_pos hK, if_pos hj]; rfl
theorem eS_close7 (hz : ¬ z = 5) (hK : K j = 64) (hj : 700 ≤ j) : eS K (z :: s) c j L = none := by
  rw [eS_is hz, show (701 : Nat) = 700 + 1 from rfl, pBl, if_pos hK, if_neg (by omega)]; rfl
theorem eS_stmt (hz : ¬ z = 5) (hK : ¬ K i = 64) : eS K (z :: s) c i L = eX K (z :: s) c i L := by
  rw [eS_is hz, show (701 : Nat) = 700 + 1 from rfl, pBl, if_neg hK, eX, show 17 - (z :: s).length = 16 - s.length by rw [List.length_cons]; omega]
  cases h : pS K (16 - s.length) c i L with
  | none => rfl
  | some q =>
    have a := pS_lt _ _ _ _ _ h
    show (pBl (pS K (16 - s.length)) K z 700 q.1 q.2.1 q.2.2).bind _ = eS K (z :: s) q.1 q.2.1 q.2.2
    rw [eS_is hz, pBl_fuel (pS_lt _) 700 701 q.1 q.2.1 q.2.2 a.2 (by omega) (by omega)]
theorem eX_1 {q : Nat × Nat × gU} (h : pS K (17 - u.length) c i L = some q) : eX K u c i L = eS K u q.1 q.2.1 q.2.2 := by
  rw [eX, h]; rfl
theorem eX_0 (h : pS K (17 - u.length) c i L = none) : eX K u c i L = none := by
  rw [eX, h]; rfl
theorem eS_block (hz : ¬ z = 5) (hu : 16 - u.length = f) (hK : K i = 63) (hi : i < 700) : (pBk (pS K f) K z c i L).bind (fun q => eC K z u q.1 q.2.1 q.2.2) = eS K (z :: u) c (i + 1) (L ++ [(20, z, 0)]) := by
  rw [pBk, if_pos ⟨hK, hi⟩, eS_is hz, hu]
theorem eX_while {q : Nat × gU} (hu : 17 - u.length = f + 1) (hi : i < 700) (hK : K i = 41) (h : pX K false f (i + 1) L = some q) : eX K u c i L = (pBk (pS K f) K 1 c q.1 (q.2 ++ [(61, i, 0)])).bind (fun q => eC K 1 u q.1 q.2.1 q.2.2) := by
  rw [eX, hu, pS, if_neg (by omega), if_neg (by rw [hK]; decide), if_pos hK, h]
  rfl
theorem eX_lock (hu : 17 - u.length = f + 1) (hi : i + 1 < 700) (hK : K i = 27) (h : K (i + 1) = 1) : eX K u c i L = (pBk (pS K f) K 2 c (i + 2) (L ++ [(65, i, i + 1)])).bind (fun q => eC K 2 u q.1 q.2.1 q.2.2) := by
  rw [eX, hu, pS, if_neg (by omega), if_neg (by rw [hK]; decide), if_neg (by rw [hK]; decide), if_pos hK, if_pos ⟨h, hi⟩]
  rfl
theorem eX_if {q : Nat × gU} (hu : 17 - u.length = f + 1) (hi : i < 700) (hK : K i = 24) (h : pX K false f (i + 1) L = some q) : eX K u c i L = (pBk (pS K f) K 3 c q.1 (q.2 ++ [(60, i, 0)])).bind (fun q => eC K 3 u q.1 q.2.1 q.2.2) := by
  rw [eX, hu, pS, if_neg (by omega), if_pos hK, h]
  show (((pBk (pS K f) K 3 c q.1 (q.2 ++ [(60, i, 0)])).bind (pEl (pS K f) K)).bind pfi).bind _ = _
  rw [Option.bind_assoc, Option.bind_assoc]
  congr 1
  funext r
  rw [eC, if_neg (by decide), if_pos rfl, show 16 - u.length = f by omega]
  rfl
/-- behind an if's block: no else; else if; else -/
theorem eC_if (h : ¬ K j = 18) : eC K 3 s c j L = eS K s c j (L ++ [(63, 0, 0)]) := by
  rw [eC, if_neg (by decide), if_pos rfl, pEl, if_neg h]; rfl
theorem eC_else7 (h : K j = 18) (hj : 700 ≤ j) : eC K 3 s c j L = none := by
  rw [eC, if_neg (by decide), if_pos rfl, pEl, if_pos h, if_neg (show ¬ j < 700 by omega)]; rfl
theorem eC_elif (h : K j = 18) (hj : j < 700) (h2 : K (j + 1) = 24) : eC K 3 s c j L = eX K (5 :: s) c (j + 1) (L ++ [(62, j, 0)]) := by
  rw [eC, if_neg (by decide), if_pos rfl, pEl, if_pos h, if_pos hj, if_pos h2, eX, show 17 - (5 :: s).length = 16 - s.length by rw [List.length_cons]; omega]
  congr 1
theorem eC_else (h : K j = 18) (hj : j < 700) (h2 : ¬ K (j + 1) = 24) : eC K 3 s c j L = (pBk (pS K (16 - s.length)) K 4 c (j + 1) (L ++ [(62, j, 0)])).bind (fun q => eC K 4 s q.1 q.2.1 q.2.2) := by
  rw [eC, if_neg (by decide), if_pos rfl, pEl, if_pos h, if_pos hj, if_neg h2]
  rfl
end DES
