/-! what is told has numbers; cells have starts -/
/-- how many of a sort are told (a row has as many cells as it says); the number of the first of the name -/
def nbT (w : Nat) : gTd → Nat
  | [] => 0
  | q :: T => (if q.2.1 = w then max q.2.2.1 1 else 0) + nbT w T
def nmT (sN : Nat → Nat → Bool) (w t : Nat) : gTd → Nat
  | [] => 0
  | q :: T => if (decide (q.2.1 = w) && sN q.1 t) = true then 0 else (if q.2.1 = w then max q.2.2.1 1 else 0) + nmT sN w t T
theorem nbT_app {w : Nat} {T U : gTd} : nbT w (T ++ U) = nbT w T + nbT w U := by
  induction T with
  | nil => rw [List.nil_append, nbT, Nat.zero_add]
  | cons q T ih => rw [List.cons_append, nbT, nbT, ih, Nat.add_assoc]
/-- the size of the row that a name means -/
def rsT (sN : Nat → Nat → Bool) (T : gTd) (t : Nat) : Nat := match mtP sN T 0 t with
  | some q => q.2.2.1
  | none => 0
/-- cells: how many and which start come next; those told -/
def ceV (K V : Nat → Int32) (c : Nat × Int32 × List (Int32 × Bool)) (v : Nat × Nat × Nat) : Nat × Int32 × List (Int32 × Bool) :=
  if v.1 = 31 then (1, c.2)
  else if v.1 = 32 then (prz K V v.2.2, c.2)
  else if v.1 = 80 then (c.1, V v.2.1, c.2.2)
  else if v.1 = 81 then (c.1, -(V v.2.1), c.2.2)
  else if v.1 = 82 then (c.1, 0, c.2.2)
  else if v.1 = 83 then (c.1, c.2.1, c.2.2 ++ List.replicate c.1 (c.2.1, decide (K v.2.1 = 34)))
  else c
def ces (K V : Nat → Int32) (L : gU) (c : Nat × Int32 × List (Int32 × Bool)) : Nat × Int32 × List (Int32 × Bool) := L.foldl (ceV K V) c
def cel (K V : Nat → Int32) (L : gU) : List (Int32 × Bool) := (ces K V L (0, 0, [])).2.2
/-- threads: idle or not -/
def idE (v : Nat × Nat × Nat) : Option Nat := if v.1 = 34 then some v.2.2 else none
theorem ces_app {K V : Nat → Int32} {L M : gU} {c : Nat × Int32 × List (Int32 × Bool)} : ces K V (L ++ M) c = ces K V M (ces K V L c) := List.foldl_append
theorem ces_no {K V : Nat → Int32} {c : Nat × Int32 × List (Int32 × Bool)} : ∀ {L : gU}, (∀ v ∈ L, ¬ (v.1 = 31 ∨ v.1 = 32 ∨ 80 ≤ v.1)) → ces K V L c = c := by
  intro L
  induction L with
  | nil => intro _; rfl
  | cons v L ih =>
    intro h
    have q := h v List.mem_cons_self
    show ces K V L (ceV K V c v) = c
    have e : ceV K V c v = c := by
      unfold ceV
      rw [if_neg (fun z => q (Or.inl z)), if_neg (fun z => q (Or.inr (Or.inl z))), if_neg (fun z => q (Or.inr (Or.inr (by omega)))), if_neg (fun z => q (Or.inr (Or.inr (by omega)))), if_neg (fun z => q (Or.inr (Or.inr (by omega)))), if_neg (fun z => q (Or.inr (Or.inr (by omega))))]
    rw [e]
    exact ih (fun w hw => h w (List.mem_cons_of_mem _ hw))
