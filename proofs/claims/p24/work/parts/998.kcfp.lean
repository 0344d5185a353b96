/-! what the class's judge finds, and what the row of uses says -/
/-- the first row told of that name -/
def rwK (R : Nat → Nat → Prop) (T : gTd) (t k : Nat) (q : Nat × Nat × Nat × Nat) : Prop := (tdS T 0)[k]? = some q ∧ 0 < q.2.2.1 ∧ R q.1 t ∧ ∀ (k' : Nat) (q' : Nat × Nat × Nat × Nat), k' < k → (tdS T 0)[k']? = some q' → 0 < q'.2.2.1 → ¬ R q'.1 t
def CFp (R : Nat → Nat → Prop) (Vx U : Nat → Int32) (T : gTd) (j : Nat) : Prop := (U j = 1 ∧ ∃ q ∈ T, q.1 < j ∧ R q.1 j) ∨ U j = 2 ∨ U j = 3 ∨ (U j = 4 ∧ ∀ q ∈ T, q.2.1 = 1 → ¬ R q.1 j) ∨ (U j = 5 ∧ ∀ q ∈ T, q.2.1 = 2 → ¬ R q.1 j) ∨ (U j = 6 ∧ ∀ q ∈ T, q.2.1 = 0 → q.2.2.1 = 0 → ¬ R q.1 j) ∨ (U j = 7 ∧ ∀ q ∈ T, q.2.1 = 0 → 0 < q.2.2.1 → ¬ R q.1 j) ∨ U j = 8 ∨ U j = 9 ∨ U j = 10 ∨ (U j = 11 ∧ ¬ (1 ≤ (Vx j).toInt ∧ (Vx j).toInt ≤ 8)) ∨ (U j = 12 ∧ ∃ (k : Nat) (q : Nat × Nat × Nat × Nat), rwK R T (j - 2) k q ∧ ((q.2.2.1 : Nat) : Int) ≤ (Vx j).toInt) ∨ (U j = 13 ∧ 3 < (Vx j).toInt)
section CFJ
variable {sN : Nat → Nat → Bool} {R : Nat → Nat → Prop} {K V Vx U : Nat → Int32} {T : gTd} {L : gU} {n j : Nat} {E : gV} {v : Nat × Nat × Nat}
theorem CF_o1 (h : CFp R Vx U T j) (hu : U j = 1) : ∃ q ∈ T, q.1 < j ∧ R q.1 j := by
  unfold CFp at h
  rw [hu] at h
  rcases h with ⟨-, h⟩ | h | h | ⟨h, -⟩ | ⟨h, -⟩ | ⟨h, -⟩ | ⟨h, -⟩ | h | h | h | ⟨h, -⟩ | ⟨h, -⟩ | ⟨h, -⟩
  · exact h
  · exact absurd h (by decide)
  · exact absurd h (by decide)
  · exact absurd h (by decide)
  · exact absurd h (by decide)
  · exact absurd h (by decide)
  · exact absurd h (by decide)
  · exact absurd h (by decide)
  · exact absurd h (by decide)
  · exact absurd h (by decide)
  · exact absurd h (by decide)
  · exact absurd h (by decide)
  · exact absurd h (by decide)
theorem CF_o4 (h : CFp R Vx U T j) (hu : U j = 4) : ∀ q ∈ T, q.2.1 = 1 → ¬ R q.1 j := by
  unfold CFp at h
  rw [hu] at h
  rcases h with ⟨h, -⟩ | h | h | ⟨-, h⟩ | ⟨h, -⟩ | ⟨h, -⟩ | ⟨h, -⟩ | h | h | h | ⟨h, -⟩ | ⟨h, -⟩ | ⟨h, -⟩
  · exact absurd h (by decide)
  · exact absurd h (by decide)
  · exact absurd h (by decide)
  · exact h
  · exact absurd h (by decide)
  · exact absurd h (by decide)
  · exact absurd h (by decide)
  · exact absurd h (by decide)
  · exact absurd h (by decide)
  · exact absurd h (by decide)
  · exact absurd h (by decide)
  · exact absurd h (by decide)
  · exact absurd h (by decide)
theorem CF_o5 (h : CFp R Vx U T j) (hu : U j = 5) : ∀ q ∈ T, q.2.1 = 2 → ¬ R q.1 j := by
  unfold CFp at h
  rw [hu] at h
  rcases h with ⟨h, -⟩ | h | h | ⟨h, -⟩ | ⟨-, h⟩ | ⟨h, -⟩ | ⟨h, -⟩ | h | h | h | ⟨h, -⟩ | ⟨h, -⟩ | ⟨h, -⟩
  · exact absurd h (by decide)
  · exact absurd h (by decide)
  · exact absurd h (by decide)
  · exact absurd h (by decide)
  · exact h
  · exact absurd h (by decide)
  · exact absurd h (by decide)
  · exact absurd h (by decide)
  · exact absurd h (by decide)
  · exact absurd h (by decide)
  · exact absurd h (by decide)
  · exact absurd h (by decide)
  · exact absurd h (by decide)
theorem CF_o6 (h : CFp R Vx U T j) (hu : U j = 6) : ∀ q ∈ T, q.2.1 = 0 → q.2.2.1 = 0 → ¬ R q.1 j := by
  unfold CFp at h
  rw [hu] at h
  rcases h with ⟨h, -⟩ | h | h | ⟨h, -⟩ | ⟨h, -⟩ | ⟨-, h⟩ | ⟨h, -⟩ | h | h | h | ⟨h, -⟩ | ⟨h, -⟩ | ⟨h, -⟩
  · exact absurd h (by decide)
  · exact absurd h (by decide)
  · exact absurd h (by decide)
  · exact absurd h (by decide)
  · exact absurd h (by decide)
  · exact h
  · exact absurd h (by decide)
  · exact absurd h (by decide)
  · exact absurd h (by decide)
  · exact absurd h (by decide)
  · exact absurd h (by decide)
  · exact absurd h (by decide)
  · exact absurd h (by decide)
theorem CF_o7 (h : CFp R Vx U T j) (hu : U j = 7) : ∀ q ∈ T, q.2.1 = 0 → 0 < q.2.2.1 → ¬ R q.1 j := by
  unfold CFp at h
  rw [hu] at h
  rcases h with ⟨h, -⟩ | h | h | ⟨h, -⟩ | ⟨h, -⟩ | ⟨h, -⟩ | ⟨-, h⟩ | h | h | h | ⟨h, -⟩ | ⟨h, -⟩ | ⟨h, -⟩
  · exact absurd h (by decide)
  · exact absurd h (by decide)
  · exact absurd h (by decide)
  · exact absurd h (by decide)
  · exact absurd h (by decide)
  · exact absurd h (by decide)
  · exact h
  · exact absurd h (by decide)
  · exact absurd h (by decide)
  · exact absurd h (by decide)
  · exact absurd h (by decide)
  · exact absurd h (by decide)
  · exact absurd h (by decide)
theorem CF_o11 (h : CFp R Vx U T j) (hu : U j = 11) : ¬ (1 ≤ (Vx j).toInt ∧ (Vx j).toInt ≤ 8) := by
  unfold CFp at h
  rw [hu] at h
  rcases h with ⟨h, -⟩ | h | h | ⟨h, -⟩ | ⟨h, -⟩ | ⟨h, -⟩ | ⟨h, -⟩ | h | h | h | ⟨-, h⟩ | ⟨h, -⟩ | ⟨h, -⟩
  · exact absurd h (by decide)
  · exact absurd h (by decide)
  · exact absurd h (by decide)
  · exact absurd h (by decide)
  · exact absurd h (by decide)
  · exact absurd h (by decide)
  · exact absurd h (by decide)
  · exact absurd h (by decide)
  · exact absurd h (by decide)
  · exact absurd h (by decide)
  · exact h
  · exact absurd h (by decide)
  · exact absurd h (by decide)
theorem CF_o12 (h : CFp R Vx U T j) (hu : U j = 12) : ∃ (k : Nat) (q : Nat × Nat × Nat × Nat), rwK R T (j - 2) k q ∧ ((q.2.2.1 : Nat) : Int) ≤ (Vx j).toInt := by
  unfold CFp at h
  rw [hu] at h
  rcases h with ⟨h, -⟩ | h | h | ⟨h, -⟩ | ⟨h, -⟩ | ⟨h, -⟩ | ⟨h, -⟩ | h | h | h | ⟨h, -⟩ | ⟨-, h⟩ | ⟨h, -⟩
  · exact absurd h (by decide)
  · exact absurd h (by decide)
  · exact absurd h (by decide)
  · exact absurd h (by decide)
  · exact absurd h (by decide)
  · exact absurd h (by decide)
  · exact absurd h (by decide)
  · exact absurd h (by decide)
  · exact absurd h (by decide)
  · exact absurd h (by decide)
  · exact absurd h (by decide)
  · exact h
  · exact absurd h (by decide)
theorem CF_o13 (h : CFp R Vx U T j) (hu : U j = 13) : 3 < (Vx j).toInt := by
  unfold CFp at h
  rw [hu] at h
  rcases h with ⟨h, -⟩ | h | h | ⟨h, -⟩ | ⟨h, -⟩ | ⟨h, -⟩ | ⟨h, -⟩ | h | h | h | ⟨h, -⟩ | ⟨h, -⟩ | ⟨-, h⟩
  · exact absurd h (by decide)
  · exact absurd h (by decide)
  · exact absurd h (by decide)
  · exact absurd h (by decide)
  · exact absurd h (by decide)
  · exact absurd h (by decide)
  · exact absurd h (by decide)
  · exact absurd h (by decide)
  · exact absurd h (by decide)
  · exact absurd h (by decide)
  · exact absurd h (by decide)
  · exact absurd h (by decide)
  · exact h
theorem CF_i1 (hu : U j = 1) (hc : ∃ q ∈ T, q.1 < j ∧ R q.1 j) : CFp R Vx U T j := Or.inl ⟨hu, hc⟩
theorem CF_i2 (hu : U j = 2) : CFp R Vx U T j := Or.inr (Or.inl hu)
theorem CF_i3 (hu : U j = 3) : CFp R Vx U T j := Or.inr (Or.inr (Or.inl hu))
theorem CF_i4 (hu : U j = 4) (hc : ∀ q ∈ T, q.2.1 = 1 → ¬ R q.1 j) : CFp R Vx U T j := Or.inr (Or.inr (Or.inr (Or.inl ⟨hu, hc⟩)))
theorem CF_i5 (hu : U j = 5) (hc : ∀ q ∈ T, q.2.1 = 2 → ¬ R q.1 j) : CFp R Vx U T j := Or.inr (Or.inr (Or.inr (Or.inr (Or.inl ⟨hu, hc⟩))))
theorem CF_i6 (hu : U j = 6) (hc : ∀ q ∈ T, q.2.1 = 0 → q.2.2.1 = 0 → ¬ R q.1 j) : CFp R Vx U T j := Or.inr (Or.inr (Or.inr (Or.inr (Or.inr (Or.inl ⟨hu, hc⟩)))))
theorem CF_i7 (hu : U j = 7) (hc : ∀ q ∈ T, q.2.1 = 0 → 0 < q.2.2.1 → ¬ R q.1 j) : CFp R Vx U T j := Or.inr (Or.inr (Or.inr (Or.inr (Or.inr (Or.inr (Or.inl ⟨hu, hc⟩))))))
theorem CF_i8 (hu : U j = 8) : CFp R Vx U T j := Or.inr (Or.inr (Or.inr (Or.inr (Or.inr (Or.inr (Or.inr (Or.inl hu)))))))
theorem CF_i9 (hu : U j = 9) : CFp R Vx U T j := Or.inr (Or.inr (Or.inr (Or.inr (Or.inr (Or.inr (Or.inr (Or.inr (Or.inl hu))))))))
theorem CF_i10 (hu : U j = 10) : CFp R Vx U T j := Or.inr (Or.inr (Or.inr (Or.inr (Or.inr (Or.inr (Or.inr (Or.inr (Or.inr (Or.inl hu)))))))))
theorem CF_i11 (hu : U j = 11) (hc : ¬ (1 ≤ (Vx j).toInt ∧ (Vx j).toInt ≤ 8)) : CFp R Vx U T j := Or.inr (Or.inr (Or.inr (Or.inr (Or.inr (Or.inr (Or.inr (Or.inr (Or.inr (Or.inr (Or.inl ⟨hu, hc⟩))))))))))
theorem CF_i12 (hu : U j = 12) (hc : ∃ (k : Nat) (q : Nat × Nat × Nat × Nat), rwK R T (j - 2) k q ∧ ((q.2.2.1 : Nat) : Int) ≤ (Vx j).toInt) : CFp R Vx U T j := Or.inr (Or.inr (Or.inr (Or.inr (Or.inr (Or.inr (Or.inr (Or.inr (Or.inr (Or.inr (Or.inr (Or.inl ⟨hu, hc⟩)))))))))))
theorem CF_i13 (hu : U j = 13) (hc : 3 < (Vx j).toInt) : CFp R Vx U T j := Or.inr (Or.inr (Or.inr (Or.inr (Or.inr (Or.inr (Or.inr (Or.inr (Or.inr (Or.inr (Or.inr (Or.inr (⟨hu, hc⟩))))))))))))
theorem CF_n0 (h : CFp R Vx U T j) : ¬ U j = 0 := by
  intro hu
  unfold CFp at h
  rw [hu] at h
  rcases h with ⟨h, -⟩ | h | h | ⟨h, -⟩ | ⟨h, -⟩ | ⟨h, -⟩ | ⟨h, -⟩ | h | h | h | ⟨h, -⟩ | ⟨h, -⟩ | ⟨h, -⟩
  · exact absurd h (by decide)
  · exact absurd h (by decide)
  · exact absurd h (by decide)
  · exact absurd h (by decide)
  · exact absurd h (by decide)
  · exact absurd h (by decide)
  · exact absurd h (by decide)
  · exact absurd h (by decide)
  · exact absurd h (by decide)
  · exact absurd h (by decide)
  · exact absurd h (by decide)
  · exact absurd h (by decide)
  · exact absurd h (by decide)
theorem mt_no {w t : Nat} : mtP sN T w t = none ↔ ∀ q ∈ T, q.2.1 = w → ¬ sN q.1 t = true := by
  unfold mtP
  rw [List.find?_eq_none]
  constructor
  · intro h q hq e c
    exact h q hq (by simp [e, c])
  · intro h q hq c
    simp at c
    exact h q hq c.1 c.2
theorem mt_so {w t : Nat} {q : Nat × Nat × Nat × Nat} (h : mtP sN T w t = some q) : q ∈ T ∧ q.2.1 = w ∧ sN q.1 t = true := by
  unfold mtP at h
  have a := List.mem_of_find?_eq_some h
  have b := List.find?_some h
  simp at b
  exact ⟨a, b.1, b.2⟩
theorem tdS_mem {w : Nat} {q : Nat × Nat × Nat × Nat} : q ∈ tdS T w ↔ q ∈ T ∧ q.2.1 = w := by
  unfold tdS
  rw [List.mem_filter]
  simp
theorem rw_so {t k : Nat} {q : Nat × Nat × Nat × Nat} (h : rwK R T t k q) : q ∈ T ∧ q.2.1 = 0 ∧ 0 < q.2.2.1 ∧ R q.1 t := by
  obtain ⟨h1, h2, h3, -⟩ := h
  obtain ⟨a, b⟩ := tdS_mem.mp (List.mem_of_getElem? h1)
  exact ⟨a, b, h2, h3⟩
theorem fst_ex {α : Type} {l : List α} {Q : α → Prop} : ∀ (k : Nat) (a : α), l[k]? = some a → Q a → ∃ (k : Nat) (a : α), l[k]? = some a ∧ Q a ∧ ∀ (k' : Nat) (a' : α), k' < k → l[k']? = some a' → ¬ Q a' := by
  intro k
  induction k using Nat.strongRecOn with
  | ind k ih =>
    intro a h hq
    by_cases c : ∃ (k' : Nat) (a' : α), k' < k ∧ l[k']? = some a' ∧ Q a'
    · obtain ⟨k', a', h1, h2, h3⟩ := c
      exact ih k' h1 a' h2 h3
    · exact ⟨k, a, h, hq, fun k' a' h1 h2 h3 => c ⟨k', a', h1, h2, h3⟩⟩
theorem rw_ex {t : Nat} {q : Nat × Nat × Nat × Nat} (h1 : q ∈ T) (h2 : q.2.1 = 0) (h3 : 0 < q.2.2.1) (h4 : R q.1 t) : ∃ k q', rwK R T t k q' := by
  obtain ⟨i, hi, ei⟩ := List.getElem_of_mem (tdS_mem.mpr ⟨h1, h2⟩)
  obtain ⟨k, a, g1, g2, g3⟩ := fst_ex (Q := fun q => 0 < q.2.2.1 ∧ R q.1 t) i q (by rw [List.getElem?_eq_getElem hi, ei]) ⟨h3, h4⟩
  exact ⟨k, a, g1, g2.1, g2.2, fun k' q' z1 z2 z3 z4 => g3 k' q' z1 z2 ⟨z3, z4⟩⟩
/-- no name is told twice -/
def nTw (sN : Nat → Nat → Bool) (T : gTd) : Prop := ∀ (j' j : Nat) (q' q : Nat × Nat × Nat × Nat), j' < j → T[j']? = some q' → T[j]? = some q → ¬ sN q'.1 q.1 = true
theorem nTw_one (hS : ∀ a b, sN a b = true → sN b a = true) (hTr : ∀ a b c, sN a b = true → sN b c = true → sN a c = true) (h : nTw sN T) {q q' : Nat × Nat × Nat × Nat} {t : Nat} (hq : q ∈ T) (hq' : q' ∈ T) (s : sN q.1 t = true) (s' : sN q'.1 t = true) : q = q' := by
  obtain ⟨i, hi, ei⟩ := List.getElem_of_mem hq
  obtain ⟨k, hk, ek⟩ := List.getElem_of_mem hq'
  have gi : T[i]? = some q := by rw [List.getElem?_eq_getElem hi, ei]
  have gk : T[k]? = some q' := by rw [List.getElem?_eq_getElem hk, ek]
  rcases Nat.lt_trichotomy i k with c | c | c
  · exact absurd (hTr _ _ _ s (hS _ _ s')) (h i k q q' c gi gk)
  · rw [c] at gi
    exact Option.some.inj (gi.symm.trans gk)
  · exact absurd (hTr _ _ _ s' (hS _ _ s)) (h k i q' q c gk gi)
theorem plc_no {t : Nat} (h : ∀ q ∈ T, q.2.1 = 0 → q.2.2.1 = 0 → ¬ sN q.1 t = true) : ¬ plc sN T t := by
  rintro ⟨q, e, r⟩
  obtain ⟨a, b, c⟩ := mt_so e
  exact h q a b r c
theorem plc_ye (hS : ∀ a b, sN a b = true → sN b a = true) (hTr : ∀ a b c, sN a b = true → sN b c = true → sN a c = true) (nt : nTw sN T) {t : Nat} (h : ¬ plc sN T t) : ∀ q ∈ T, q.2.1 = 0 → q.2.2.1 = 0 → ¬ sN q.1 t = true := by
  intro q hq e r c
  apply h
  cases hm : mtP sN T 0 t with
  | none => exact absurd c (mt_no.mp hm q hq e)
  | some q' =>
    obtain ⟨a, b, c'⟩ := mt_so hm
    have := nTw_one hS hTr nt hq a c c'
    exact ⟨q', hm, by rw [← this]; exact r⟩
theorem rwc_no {t : Nat} (h : ∀ q ∈ T, q.2.1 = 0 → 0 < q.2.2.1 → ¬ sN q.1 t = true) : ¬ ∃ n, rwc sN T t n := by
  rintro ⟨n, q, e, r, p⟩
  obtain ⟨a, b, c⟩ := mt_so e
  exact h q a b (by omega) c
theorem rwc_ye (hS : ∀ a b, sN a b = true → sN b a = true) (hTr : ∀ a b c, sN a b = true → sN b c = true → sN a c = true) (nt : nTw sN T) {t : Nat} {q : Nat × Nat × Nat × Nat} (hq : q ∈ T) (e : q.2.1 = 0) (r : 0 < q.2.2.1) (c : sN q.1 t = true) : rwc sN T t q.2.2.1 := by
  cases hm : mtP sN T 0 t with
  | none => exact absurd c (mt_no.mp hm q hq e)
  | some q' =>
    obtain ⟨a, b, c'⟩ := mt_so hm
    have := nTw_one hS hTr nt hq a c c'
    exact ⟨q', hm, by rw [← this], r⟩
theorem flt_HA : ∀ {L : gU} {E : gV}, flt sN T V L E → HAs sN U n L E → ∃ v E', v ∈ L ∧ fv sN T V E' v ∧ HAw sN U n E' v := by
  intro L
  induction L with
  | nil => intro E h; exact h.elim
  | cons w L ih =>
    intro E h g
    rcases h with h | h
    · exact ⟨w, E, List.mem_cons_self, h, g.1⟩
    · obtain ⟨v, E', h1, h2⟩ := ih h g.2
      exact ⟨v, E', List.mem_cons_of_mem _ h1, h2⟩
theorem HAs_mem : ∀ {L : gU} {E : gV}, HAs sN U n L E → ∀ v ∈ L, ∃ E', HAw sN U n E' v := by
  intro L
  induction L with
  | nil => intro E _ v hv; cases hv
  | cons w L ih =>
    intro E h v hv
    rcases List.mem_cons.mp hv with e | e
    · rw [e]; exact ⟨E, h.1⟩
    · exact ih h.2 v e
theorem HBs_flt {X : Prop} {u : Int32} : ∀ {L : gU} {E : gV}, HBs sN L E j u → (∀ v E', v ∈ L → HB sN E' v j u → X ∨ fv sN T V E' v) → X ∨ flt sN T V L E := by
  intro L
  induction L with
  | nil => intro E h; exact h.elim
  | cons w L ih =>
    intro E h g
    rcases h with h | h
    · exact (g w E List.mem_cons_self h).imp id Or.inl
    · exact (ih h (fun v E' hv => g v E' (List.mem_cons_of_mem _ hv))).imp id Or.inr
theorem te_mem {q : Nat × Nat × Nat × Nat} (h : q ∈ L.filterMap (te1 K V)) : ∃ v ∈ L, te1 K V v = some q := by
  obtain ⟨v, hv, e⟩ := List.mem_filterMap.mp h
  exact ⟨v, hv, e⟩
theorem te_is {q : Nat × Nat × Nat × Nat} (h : te1 K V v = some q) : (v.1 = 31 ∨ v.1 = 32 ∨ v.1 = 33 ∨ v.1 = 34) ∧ q.1 = v.2.1 ∧ (0 < q.2.2.1 → v.1 = 32 ∧ q.2.2.2 = v.2.2) := by
  unfold te1 at h
  split at h
  · next c => cases Option.some.inj h; exact ⟨Or.inl c, rfl, fun z => absurd z (Nat.lt_irrefl 0)⟩
  · split at h
    · next c => cases Option.some.inj h; exact ⟨Or.inr (Or.inl c), rfl, fun _ => ⟨c, rfl⟩⟩
    · split at h
      · next c => cases Option.some.inj h; exact ⟨Or.inr (Or.inr (Or.inl c)), rfl, fun z => absurd z (Nat.lt_irrefl 0)⟩
      · split at h
        · next c => cases Option.some.inj h; exact ⟨Or.inr (Or.inr (Or.inr c)), rfl, fun z => absurd z (Nat.lt_irrefl 0)⟩
        · exact absurd h (by simp)
theorem te_so (h : v.1 = 31 ∨ v.1 = 32 ∨ v.1 = 33 ∨ v.1 = 34) : ∃ q, te1 K V v = some q ∧ q.1 = v.2.1 := by
  unfold te1
  by_cases c1 : v.1 = 31
  · rw [if_pos c1]; exact ⟨_, rfl, rfl⟩
  · rw [if_neg c1]
    by_cases c2 : v.1 = 32
    · rw [if_pos c2]; exact ⟨_, rfl, rfl⟩
    · rw [if_neg c2]
      by_cases c3 : v.1 = 33
      · rw [if_pos c3]; exact ⟨_, rfl, rfl⟩
      · rw [if_neg c3, if_pos (by omega)]; exact ⟨_, rfl, rfl⟩
theorem prz_1 {w : Nat} : 0 < prz K V w := by
  unfold prz
  split
  · next c =>
    have k1 : (1 : Int32).toInt = 1 := rfl
    have := c.2.1
    rw [t_le, k1] at this
    rw [t_cl]; omega
  · omega
theorem bad8 {w : Int32} : ¬ (1 ≤ w ∧ w ≤ 8) ↔ ¬ (1 ≤ w.toInt ∧ w.toInt ≤ 8) := by
  have k1 : (1 : Int32).toInt = 1 := rfl
  have k8 : (8 : Int32).toInt = 8 := rfl
  rw [t_le, t_le, k1, k8]
/-- two told of one name -/
theorem tw_two (srt : T.Pairwise (fun a b => a.1 < b.1)) {q q' : Nat × Nat × Nat × Nat} (hq : q ∈ T) (hq' : q' ∈ T) (lt : q'.1 < q.1) (s : sN q'.1 q.1 = true) : jT sN V T := by
  obtain ⟨i, hi, ei⟩ := List.getElem_of_mem hq
  obtain ⟨k, hk, ek⟩ := List.getElem_of_mem hq'
  have gi : T[i]? = some q := by rw [List.getElem?_eq_getElem hi, ei]
  have gk : T[k]? = some q' := by rw [List.getElem?_eq_getElem hk, ek]
  have lt2 : k < i := by
    rcases Nat.lt_trichotomy k i with c | c | c
    · exact c
    · rw [c] at gk
      have := Option.some.inj (gk.symm.trans gi)
      rw [this] at lt; omega
    · have := List.pairwise_iff_getElem.mp srt i k hi hk c
      rw [ei, ek] at this; omega
  exact ⟨i, q, gi, Or.inl ⟨k, q', lt2, gk, s⟩⟩
theorem CF_one (hS : ∀ a b, sN a b = true → sN b a = true) (hTr : ∀ a b c, sN a b = true → sN b c = true → sN a c = true) (eT : T = L.filterMap (te1 K V)) (srt : T.Pairwise (fun a b => a.1 < b.1)) (hok : ∀ v ∈ L, oK K v) (hT1 : ∀ q ∈ T, K q.1 = 1 ∧ q.1 < n) (hR : ∀ a b, a < n → b < n → K a = 1 → K b = 1 → (R a b ↔ sN a b = true)) (hVx : ∀ j, j < n → K j = 2 → Vx j = V j) (hj : j < n) (hC : CFp R Vx U T j) (hv : v ∈ L) (hB : HB sN E v j (U j)) : jT sN V T ∨ fv sN T V E v := by
  obtain ⟨a, b, c⟩ := v
  obtain ⟨o1, o2, o3, o4, o5⟩ := hok _ hv
  have cv : ∀ q ∈ T, K j = 1 → (R q.1 j ↔ sN q.1 j = true) := fun q hq k => hR _ _ (hT1 q hq).2 hj (hT1 q hq).1 k
  by_cases nt : nTw sN T
  · unfold HB at hB
    rcases hB with ⟨e, eu, ej, h⟩ | ⟨e, eu, ej⟩ | ⟨e, eu, ej⟩ | ⟨e, eu, ej, ej2⟩ | ⟨e, eu, h⟩ | ⟨e, eu, ej, h⟩ | ⟨e, h, eu⟩ | ⟨e, eu, h, h2⟩ | ⟨e, eu, ej, h, h2⟩ | ⟨e, eu, ej, h⟩ | ⟨e, eu, ej⟩ | ⟨e, eu, ej⟩ | ⟨e, eu, ej⟩ | ⟨e, eu, ej⟩ | ⟨e, eu, ej⟩
    · have e : a = 3 := e
      rw [e]; exact Or.inr (fv_3.mpr h)
    · have e : a = 6 := e
      have ej : j = b := ej
      have kj : K j = 1 := by rw [ej]; exact o1 (by show a ∈ _; rw [e]; decide)
      have this := fun (q : Nat × Nat × Nat × Nat) (hq : q ∈ T) (z0 : q.2.1 = 0) (z1 : q.2.2.1 = 0) (s : sN q.1 j = true) => CF_o6 hC eu q hq z0 z1 ((cv q hq kj).mpr s)
      rw [ej] at this
      rw [e]; exact Or.inr (fv_6.mpr (plc_no this))
    · have e : a = 7 := e
      have ej : j = b := ej
      have kj : K j = 1 := by rw [ej]; exact o1 (by show a ∈ _; rw [e]; decide)
      have this := fun (q : Nat × Nat × Nat × Nat) (hq : q ∈ T) (z0 : q.2.1 = 0) (z1 : 0 < q.2.2.1) (s : sN q.1 j = true) => CF_o7 hC eu q hq z0 z1 ((cv q hq kj).mpr s)
      rw [ej] at this
      rw [e]; exact Or.inr (fv_7.mpr (rwc_no this))
    · have e : a = 12 := e
      have ej : j = b := ej
      have ej2 : j = c + 2 := ej2
      obtain ⟨k9, q, hq, hl⟩ := CF_o12 hC eu
      have e2 : j - 2 = c := by omega
      rw [e2] at hq
      obtain ⟨h1, h2, h3, h4⟩ := rw_so hq
      obtain ⟨kb, kc⟩ := o4 e
      have kb : K b = 2 := kb
      have kc : K c = 1 := kc
      have h4 := (hR _ _ (hT1 q h1).2 (by omega) (hT1 q h1).1 kc).mp h4
      rw [hVx j hj (by rw [ej]; exact kb)] at hl
      rw [e, fv_12]
      refine Or.inr ⟨q.2.2.1, rwc_ye hS hTr nt h1 h2 h3 h4, ?_⟩
      rw [← ej]; exact hl
    · have e : a = 23 := e
      rw [e]; exact Or.inr (fv_23.mpr h)
    · have ej : j = b := ej
      have kj : K j = 1 := by rw [ej]; exact o1 (by show a ∈ _; rcases e with e | e <;> (have e : a = _ := e; rw [e]; decide))
      have this := fun (q : Nat × Nat × Nat × Nat) (hq : q ∈ T) (z0 : q.2.1 = 0) (z1 : q.2.2.1 = 0) (s : sN q.1 j = true) => CF_o6 hC eu q hq z0 z1 ((cv q hq kj).mpr s)
      rw [ej] at this
      rcases e with e | e
      · have e : a = 24 := e
        rw [e]; exact Or.inr (fv_24.mpr ⟨h, plc_no this⟩)
      · have e : a = 25 := e
        rw [e]; exact Or.inr (fv_25.mpr ⟨h, plc_no this⟩)
    · have e : a = 26 := e
      rw [e]; exact Or.inr (fv_26.mpr h)
    · have e : a = 27 := e
      rw [e]; exact Or.inr (fv_27.mpr (Or.inl ⟨h, Or.inl h2⟩))
    · have e : a = 27 := e
      have ej : j = c := ej
      have kj : K j = 1 := by rw [ej]; exact (o2 e).2
      have this := fun (q : Nat × Nat × Nat × Nat) (hq : q ∈ T) (z0 : q.2.1 = 0) (z1 : q.2.2.1 = 0) (s : sN q.1 j = true) => CF_o6 hC eu q hq z0 z1 ((cv q hq kj).mpr s)
      rw [ej] at this
      rw [e]; exact Or.inr (fv_27.mpr (Or.inl ⟨h, Or.inr (plc_no this)⟩))
    · have e : a = 27 := e
      have ej : j = b := ej
      have kj : K j = 1 := by rw [ej]; exact (o2 e).1
      have this := fun (q : Nat × Nat × Nat × Nat) (hq : q ∈ T) (z0 : q.2.1 = 0) (z1 : q.2.2.1 = 0) (s : sN q.1 j = true) => CF_o6 hC eu q hq z0 z1 ((cv q hq kj).mpr s)
      rw [ej] at this
      rw [e]; exact Or.inr (fv_27.mpr (Or.inr ⟨h, plc_no this⟩))
    · have e : a = 65 ∨ a = 66 := e
      have ej : j = c := ej
      have kj : K j = 1 := by rw [ej]; exact o3 (by show a ∈ _; rcases e with e | e <;> (rw [e]; decide))
      have this := fun (q : Nat × Nat × Nat × Nat) (hq : q ∈ T) (z0 : q.2.1 = 1) (s : sN q.1 j = true) => CF_o4 hC eu q hq z0 ((cv q hq kj).mpr s)
      rw [ej] at this
      exact Or.inr ((fv_lk e).mpr (mt_no.mpr this))
    · have e : a = 67 := e
      have ej : j = c := ej
      have kj : K j = 1 := by rw [ej]; exact o3 (by show a ∈ _; rw [e]; decide)
      have this := fun (q : Nat × Nat × Nat × Nat) (hq : q ∈ T) (z0 : q.2.1 = 2) (s : sN q.1 j = true) => CF_o5 hC eu q hq z0 ((cv q hq kj).mpr s)
      rw [ej] at this
      rw [e]; exact Or.inr (fv_67.mpr (mt_no.mpr this))
    · have e : a = 70 := e
      have ej : j = c := ej
      have := CF_o13 hC eu
      have kc : K c = 2 := o5 (by show a ∈ _; rw [e]; decide)
      rw [hVx j hj (by rw [ej]; exact kc), ej] at this
      rw [e]; exact Or.inr (fv_70.mpr this)
    · have ej : j = b := ej
      obtain ⟨q', hq', lt, s⟩ := CF_o1 hC eu
      obtain ⟨q, hq, e1⟩ := te_so (K := K) (V := V) e
      have e1 : q.1 = b := e1
      have hm : q ∈ T := by rw [eT]; exact List.mem_filterMap.mpr ⟨_, hv, hq⟩
      have kj : K j = 1 := by
        have := (hT1 q hm).1
        rw [ej, ← e1]; exact this
      refine Or.inl (tw_two srt hm hq' ?_ ?_)
      · rw [e1, ← ej]; exact lt
      · rw [e1, ← ej]; exact (cv q' hq' kj).mp s
    · have e : a = 32 := e
      have ej : j = c := ej
      have := CF_o11 hC eu
      have kc : K c = 2 := o5 (by show a ∈ _; rw [e]; decide)
      rw [hVx j hj (by rw [ej]; exact kc), ej] at this
      have hm : (b, 0, prz K V c, c) ∈ T := by
        rw [eT]
        refine List.mem_filterMap.mpr ⟨_, hv, ?_⟩
        rw [e]; rfl
      obtain ⟨i, hi, ei⟩ := List.getElem_of_mem hm
      exact Or.inl ⟨i, _, by rw [List.getElem?_eq_getElem hi, ei], Or.inr ⟨prz_1, bad8.mpr this⟩⟩
  · refine Or.inl ?_
    unfold nTw at nt
    have : ∃ (j' j : Nat) (q' q : Nat × Nat × Nat × Nat), j' < j ∧ T[j']? = some q' ∧ T[j]? = some q ∧ sN q'.1 q.1 = true := by
      refine Classical.byContradiction (fun z => nt (fun j' j q' q h1 h2 h3 h4 => z ⟨j', j, q', q, h1, h2, h3, h4⟩))
    obtain ⟨j', j, q', q, h1, h2, h3, h4⟩ := this
    exact ⟨j, q, h3, Or.inl ⟨j', q', h1, h2, h4⟩⟩
theorem CF_jT (eT : T = L.filterMap (te1 K V)) (srt : T.Pairwise (fun a b => a.1 < b.1)) (hok : ∀ v ∈ L, oK K v) (hT1 : ∀ q ∈ T, K q.1 = 1 ∧ q.1 < n) (hR : ∀ a b, a < n → b < n → K a = 1 → K b = 1 → (R a b ↔ sN a b = true)) (hVx : ∀ j, j < n → K j = 2 → Vx j = V j) (hA : HAs sN U n L E) (h : jT sN V T) : ∃ j, j < n ∧ CFp R Vx U T j := by
  obtain ⟨i, q, hq, h⟩ := h
  have hm : q ∈ T := List.mem_of_getElem? hq
  have hm2 := hm
  rw [eT] at hm2
  obtain ⟨v, hv, ev⟩ := te_mem hm2
  obtain ⟨e1, e2, e3⟩ := te_is ev
  obtain ⟨E', g⟩ := HAs_mem hA v hv
  rcases h with ⟨k, q', lt, hq', s⟩ | ⟨h1, h2⟩
  · obtain ⟨hi, ei⟩ := List.getElem?_eq_some_iff.mp hq
    obtain ⟨hk, ek⟩ := List.getElem?_eq_some_iff.mp hq'
    have l2 := List.pairwise_iff_getElem.mp srt k i hk hi lt
    rw [ei, ek, e2] at l2
    rw [e2] at s
    obtain ⟨b1, b2⟩ := g.2.2.2.2.2.2.2.2.2.2.2.2.1 e1
    have hm' := List.mem_of_getElem? hq'
    have kv : K v.2.1 = 1 := by rw [← e2]; exact (hT1 q hm).1
    exact ⟨v.2.1, b1, CF_i1 b2 ⟨q', hm', l2, (hR _ _ (hT1 q' hm').2 b1 (hT1 q' hm').1 kv).mpr s⟩⟩
  · obtain ⟨c1, c2⟩ := e3 h1
    obtain ⟨b1, b2⟩ := g.2.2.2.2.2.2.2.2.2.2.2.2.2 c1
    rw [c2] at h2
    have kw : K v.2.2 = 2 := (hok v hv).2.2.2.2 (by rw [c1]; decide)
    exact ⟨v.2.2, b1, CF_i11 b2 (by rw [hVx _ b1 kw]; exact bad8.mp h2)⟩
theorem CF_fv (hS : ∀ a b, sN a b = true → sN b a = true) (hTr : ∀ a b c, sN a b = true → sN b c = true → sN a c = true) (nt : nTw sN T) (hok : oK K v) (hT1 : ∀ q ∈ T, K q.1 = 1 ∧ q.1 < n) (hR : ∀ a b, a < n → b < n → K a = 1 → K b = 1 → (R a b ↔ sN a b = true)) (hVx : ∀ j, j < n → K j = 2 → Vx j = V j) (hg : HAw sN U n E v) (h : fv sN T V E v) : ∃ j, j < n ∧ CFp R Vx U T j := by
  obtain ⟨a, b, c⟩ := v
  obtain ⟨g1, g2, g3, g4, g5, g6, g7, g8, g9, g10, g11, g12, g13, g14⟩ := hg
  obtain ⟨o1, o2, o3, o4, o5⟩ := hok
  have cv : ∀ (t : Nat), t < n → K t = 1 → ∀ q ∈ T, R q.1 t → sN q.1 t = true := fun t ht k q hq s => (hR _ _ (hT1 q hq).2 ht (hT1 q hq).1 k).mp s
  have pl : ∀ t, t < n → K t = 1 → U t = 6 → ¬ plc sN T t → CFp R Vx U T t := fun t ht k hu hp => CF_i6 hu (fun q hq e0 r s => plc_ye hS hTr nt hp q hq e0 r (cv t ht k q hq s))
  have kb : a ∈ [3, 6, 7, 23, 24, 25, 26, 31, 32, 33, 34] → K b = 1 := o1
  unfold fv at h
  rcases h with ⟨e, h⟩ | ⟨e, h⟩ | ⟨e, h⟩ | ⟨e, h⟩ | ⟨e, h⟩ | ⟨e, h, h2⟩ | ⟨e, h, h2⟩ | ⟨e, h⟩ | ⟨e, h, h2⟩ | ⟨e, h, h2⟩ | ⟨e, h⟩ | ⟨e, h⟩ | ⟨e, h⟩
  · obtain ⟨z1, z2⟩ := g1 e
    exact ⟨b, z1, CF_i3 (z2 h)⟩
  · obtain ⟨z1, z2⟩ := g2 e
    have e : a = 6 := e
    exact ⟨b, z1, pl b z1 (kb (by rw [e]; decide)) z2 h⟩
  · obtain ⟨z1, z2⟩ := g3 e
    rcases z2 with z2 | z2
    · have e : a = 7 := e
      refine ⟨b, z1, CF_i7 z2 (fun q hq e0 r s => h ⟨_, rwc_ye hS hTr nt hq e0 r (cv b z1 (kb (by rw [e]; decide)) q hq s)⟩)⟩
    · exact ⟨b, z1, CF_i9 z2⟩
  · obtain ⟨z1, z2, z3⟩ := g4 e
    obtain ⟨m, ⟨q, hm, er, p⟩, hl⟩ := h
    obtain ⟨m1, m2, m3⟩ := mt_so hm
    refine ⟨b, z1, CF_i12 z2 ?_⟩
    have z3 : b = c + 2 := z3
    have eb : b - 2 = c := by omega
    rw [eb]
    obtain ⟨kb2, kc⟩ := o4 e
    have kb2 : K b = 2 := kb2
    have kc : K c = 1 := kc
    have cn : c < n := by
      have : b < n := z1
      omega
    obtain ⟨k', q', hr⟩ := rw_ex (R := R) m1 m2 (by omega) ((hR _ _ (hT1 q m1).2 cn (hT1 q m1).1 kc).mpr m3)
    obtain ⟨r1, r2, r3, r4⟩ := rw_so hr
    have := nTw_one hS hTr nt r1 m1 (cv c cn kc q' r1 r4) m3
    refine ⟨k', q', hr, ?_⟩
    rw [this, er, hVx b z1 kb2]; exact hl
  · obtain ⟨z1, z2⟩ := g5 e
    exact ⟨b, z1, CF_i2 (z2 h)⟩
  · obtain ⟨z1, z2⟩ := g6 (Or.inl e)
    have e : a = 24 := e
    exact ⟨b, z1, pl b z1 (kb (by rw [e]; decide)) (z2 h) h2⟩
  · obtain ⟨z1, z2⟩ := g6 (Or.inr e)
    have e : a = 25 := e
    exact ⟨b, z1, pl b z1 (kb (by rw [e]; decide)) (z2 h) h2⟩
  · obtain ⟨j, z1, z2⟩ := g7 e h
    exact ⟨j, z1, z2.elim CF_i9 CF_i10⟩
  · obtain ⟨z1, z2⟩ := g8 e
    by_cases ka : kfi sN E.1 b = none
    · exact ⟨c, z1, CF_i8 ((z2 h).1 ka)⟩
    · exact ⟨c, z1, pl c z1 (o2 e).2 ((z2 h).2 ka) (h2.resolve_left ka)⟩
  · obtain ⟨z1, z2⟩ := g9 e
    exact ⟨b, z1, pl b z1 (o2 e).1 (z2 h) h2⟩
  · obtain ⟨z1, z2⟩ := g10 e
    have kc : K c = 1 := o3 (by show a ∈ _; rcases e with e | e <;> (have e : a = _ := e; rw [e]; decide))
    exact ⟨c, z1, CF_i4 z2 (fun q hq e0 s => mt_no.mp h q hq e0 (cv c z1 kc q hq s))⟩
  · obtain ⟨z1, z2⟩ := g11 e
    have kc : K c = 1 := o3 (by show a ∈ _; have e : a = _ := e; rw [e]; decide)
    exact ⟨c, z1, CF_i5 z2 (fun q hq e0 s => mt_no.mp h q hq e0 (cv c z1 kc q hq s))⟩
  · obtain ⟨z1, z2⟩ := g12 e
    have kc : K c = 2 := o5 (by show a ∈ _; have e : a = _ := e; rw [e]; decide)
    exact ⟨c, z1, CF_i13 z2 (by rw [hVx c z1 kc]; exact h)⟩
theorem CF_is (hS : ∀ a b, sN a b = true → sN b a = true) (hTr : ∀ a b c, sN a b = true → sN b c = true → sN a c = true) (eT : T = L.filterMap (te1 K V)) (srt : T.Pairwise (fun a b => a.1 < b.1)) (hok : ∀ v ∈ L, oK K v) (hT1 : ∀ q ∈ T, K q.1 = 1 ∧ q.1 < n) (hR : ∀ a b, a < n → b < n → K a = 1 → K b = 1 → (R a b ↔ sN a b = true)) (hVx : ∀ j, j < n → K j = 2 → Vx j = V j) (hA : HAs sN U n L E0v) (hB : ∀ j, j < n → ¬ U j = 0 → HBs sN L E0v j (U j)) : (∃ j, j < n ∧ CFp R Vx U T j) ↔ jFl sN K V L := by
  unfold jFl
  rw [← eT]
  constructor
  · rintro ⟨j, hj, hC⟩
    exact HBs_flt (hB j hj (CF_n0 hC)) (fun v E' hv hb => CF_one hS hTr eT srt hok hT1 hR hVx hj hC hv hb)
  · intro h
    by_cases nt : jT sN V T
    · exact CF_jT eT srt hok hT1 hR hVx hA nt
    · rcases h with h | h
      · exact absurd h nt
      · obtain ⟨v, E', hv, hf, hg⟩ := flt_HA h hA
        refine CF_fv hS hTr (fun j' j q' q h1 h2 h3 h4 => nt ⟨j, q, h3, Or.inl ⟨j', q', h1, h2, h4⟩⟩) (hok v hv) hT1 hR hVx hg hf
end CFJ
