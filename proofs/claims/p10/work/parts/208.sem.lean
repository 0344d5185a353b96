/-! names: locals known (token, slot; told last first), starts of open blocks, lets so far; what is told; which uses are faults. sN: of the same name -/
abbrev gK := List (Nat × Nat)
abbrev gV := gK × List Nat × Nat
abbrev gTd := List (Nat × Nat × Nat × Nat)
def kfi (sN : Nat → Nat → Bool) : gK → Nat → Option Nat
  | [], _ => none
  | k :: ks, t => if sN k.1 t = true then some ks.length else kfi sN ks t
def exV (E : gV) (v : Nat × Nat × Nat) : gV := if v.1 = 20 then (E.1, E.1.length :: E.2.1, E.2.2) else if v.1 = 21 then (E.1.drop (E.1.length - E.2.1.headD 0), E.2.1.tail, E.2.2) else if v.1 = 22 then ((v.2.1, E.2.2) :: E.1, E.2.1, E.2.2 + 1) else E
def exs (L : gU) (E : gV) : gV := L.foldl exV E
/-- the first told of a sort that has the name -/
def mtP (sN : Nat → Nat → Bool) (T : gTd) (w t : Nat) : Option (Nat × Nat × Nat × Nat) := T.find? (fun q => decide (q.2.1 = w) && sN q.1 t)
def plc (sN : Nat → Nat → Bool) (T : gTd) (t : Nat) : Prop := ∃ q, mtP sN T 0 t = some q ∧ q.2.2.1 = 0
def rwc (sN : Nat → Nat → Bool) (T : gTd) (t n : Nat) : Prop := ∃ q, mtP sN T 0 t = some q ∧ q.2.2.1 = n ∧ 0 < n
/-- whether a use is a fault -/
def fv (sN : Nat → Nat → Bool) (T : gTd) (V : Nat → Int32) (E : gV) (v : Nat × Nat × Nat) : Prop :=
  (v.1 = 3 ∧ kfi sN E.1 v.2.1 = none) ∨
  (v.1 = 6 ∧ ¬ plc sN T v.2.1) ∨
  (v.1 = 7 ∧ ¬ ∃ n, rwc sN T v.2.1 n) ∨
  (v.1 = 12 ∧ ∃ n, rwc sN T v.2.2 n ∧ (n : Int) ≤ (V v.2.1).toInt) ∨
  (v.1 = 23 ∧ ∃ k ∈ E.1.take (E.1.length - E.2.1.headD 0), sN k.1 v.2.1 = true) ∨
  (v.1 = 24 ∧ kfi sN E.1 v.2.1 = none ∧ ¬ plc sN T v.2.1) ∨
  (v.1 = 25 ∧ kfi sN E.1 v.2.1 = none ∧ ¬ plc sN T v.2.1) ∨
  (v.1 = 26 ∧ kfi sN E.1 v.2.1 = none) ∨
  (v.1 = 27 ∧ kfi sN E.1 v.2.2 = none ∧ (kfi sN E.1 v.2.1 = none ∨ ¬ plc sN T v.2.2)) ∨
  (v.1 = 27 ∧ kfi sN E.1 v.2.1 = none ∧ ¬ plc sN T v.2.1) ∨
  ((v.1 = 65 ∨ v.1 = 66) ∧ mtP sN T 1 v.2.2 = none) ∨
  (v.1 = 67 ∧ mtP sN T 2 v.2.2 = none) ∨
  (v.1 = 70 ∧ 3 < (V v.2.2).toInt)
def flt (sN : Nat → Nat → Bool) (T : gTd) (V : Nat → Int32) : gU → gV → Prop
  | [], _ => False
  | v :: L, E => fv sN T V E v ∨ flt sN T V L (exV E v)
section SEM
variable {sN : Nat → Nat → Bool} {T : gTd} {V : Nat → Int32} {E : gV} {L M : gU} {v : Nat × Nat × Nat}
theorem exs_app : exs (L ++ M) E = exs M (exs L E) := List.foldl_append
theorem exs_nil : exs [] E = E := rfl
theorem exs_one : exs [v] E = exV E v := rfl
theorem flt_nil : flt sN T V [] E ↔ False := Iff.rfl
theorem flt_one : flt sN T V [v] E ↔ fv sN T V E v := ⟨fun h => h.elim id (fun q => q.elim), Or.inl⟩
theorem flt_app : ∀ {L : gU} {E : gV}, flt sN T V (L ++ M) E ↔ flt sN T V L E ∨ flt sN T V M (exs L E) := by
  intro L
  induction L with
  | nil => intro E; exact ⟨Or.inr, fun h => h.elim (fun q => q.elim) id⟩
  | cons v L ih =>
    intro E
    show fv sN T V E v ∨ flt sN T V (L ++ M) (exV E v) ↔ (fv sN T V E v ∨ flt sN T V L (exV E v)) ∨ flt sN T V M (exs L (exV E v))
    rw [ih, or_assoc]
/-- events that change nothing of what is known -/
def still (L : gU) : Prop := ∀ v ∈ L, ¬ v.1 = 20 ∧ ¬ v.1 = 21 ∧ ¬ v.1 = 22
theorem exV_still (h : ¬ v.1 = 20 ∧ ¬ v.1 = 21 ∧ ¬ v.1 = 22) : exV E v = E := by
  unfold exV
  rw [if_neg h.1, if_neg h.2.1, if_neg h.2.2]
theorem exs_still : ∀ {L : gU}, still L → exs L E = E := by
  intro L
  induction L with
  | nil => intro _; rfl
  | cons v L ih =>
    intro h
    show exs L (exV E v) = E
    rw [exV_still (h v List.mem_cons_self)]
    exact ih (fun w hw => h w (List.mem_cons_of_mem _ hw))
theorem still_app (h : still L) (g : still M) : still (L ++ M) := fun v hv => (List.mem_append.mp hv).elim (h v) (g v)
theorem still_one (h : ¬ v.1 = 20 ∧ ¬ v.1 = 21 ∧ ¬ v.1 = 22) : still [v] := fun w hw => by
  rw [List.mem_singleton.mp hw]; exact h
theorem still_nil : still [] := fun _ h => by cases h
/-- a use that is no fault -/
theorem fv_no (h : ∀ u ∈ [3, 6, 7, 12, 23, 24, 25, 26, 27, 65, 66, 67, 70], ¬ v.1 = u) : ¬ fv sN T V E v := by
  intro g
  unfold fv at g
  rcases g with g | g | g | g | g | g | g | g | g | g | g | g | g
  · exact h 3 (by decide) g.1
  · exact h 6 (by decide) g.1
  · exact h 7 (by decide) g.1
  · exact h 12 (by decide) g.1
  · exact h 23 (by decide) g.1
  · exact h 24 (by decide) g.1
  · exact h 25 (by decide) g.1
  · exact h 26 (by decide) g.1
  · exact h 27 (by decide) g.1
  · exact h 27 (by decide) g.1
  · exact g.1.elim (h 65 (by decide)) (h 66 (by decide))
  · exact h 67 (by decide) g.1
  · exact h 70 (by decide) g.1
theorem flt_no (h : ∀ u ∈ [3, 6, 7, 12, 23, 24, 25, 26, 27, 65, 66, 67, 70], ¬ v.1 = u) : ¬ flt sN T V [v] E := fun g => fv_no h (flt_one.mp g)
theorem fv_3 {a b : Nat} : fv sN T V E (3, a, b) ↔ kfi sN E.1 a = none := by
  unfold fv
  simp
theorem fv_6 {a b : Nat} : fv sN T V E (6, a, b) ↔ ¬ plc sN T a := by
  unfold fv
  simp
theorem fv_7 {a b : Nat} : fv sN T V E (7, a, b) ↔ ¬ ∃ n, rwc sN T a n := by
  unfold fv
  simp
theorem fv_12 {a b : Nat} : fv sN T V E (12, a, b) ↔ ∃ n, rwc sN T b n ∧ (n : Int) ≤ (V a).toInt := by
  unfold fv
  simp
theorem fv_23 {a b : Nat} : fv sN T V E (23, a, b) ↔ ∃ k ∈ E.1.take (E.1.length - E.2.1.headD 0), sN k.1 a = true := by
  unfold fv
  simp
theorem fv_24 {a b : Nat} : fv sN T V E (24, a, b) ↔ kfi sN E.1 a = none ∧ ¬ plc sN T a := by
  unfold fv
  simp
theorem fv_25 {a b : Nat} : fv sN T V E (25, a, b) ↔ kfi sN E.1 a = none ∧ ¬ plc sN T a := by
  unfold fv
  simp
theorem fv_26 {a b : Nat} : fv sN T V E (26, a, b) ↔ kfi sN E.1 a = none := by
  unfold fv
  simp
theorem fv_27 {a b : Nat} : fv sN T V E (27, a, b) ↔ (kfi sN E.1 b = none ∧ (kfi sN E.1 a = none ∨ ¬ plc sN T b)) ∨ (kfi sN E.1 a = none ∧ ¬ plc sN T a) := by
  unfold fv
  simp
theorem fv_lk {u a b : Nat} (h : u = 65 ∨ u = 66) : fv sN T V E (u, a, b) ↔ mtP sN T 1 b = none := by
  unfold fv
  rcases h with rfl | rfl <;> simp
theorem fv_67 {a b : Nat} : fv sN T V E (67, a, b) ↔ mtP sN T 2 b = none := by
  unfold fv
  simp
theorem fv_70 {a b : Nat} : fv sN T V E (70, a, b) ↔ 3 < (V b).toInt := by
  unfold fv
  simp
end SEM
theorem dr_cons {α : Type} {T : List α} {i : Nat} {q : α} (h : T[i]? = some q) : T.drop i = q :: T.drop (i + 1) := by
  have hi : i < T.length := by
    by_cases c : i < T.length
    · exact c
    · rw [List.getElem?_eq_none (by omega)] at h
      exact absurd h (by simp)
  rw [List.drop_eq_getElem_cons hi]
  rw [List.getElem?_eq_getElem hi] at h
  rw [Option.some.inj h]
