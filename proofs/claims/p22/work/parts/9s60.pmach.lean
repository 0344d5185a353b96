/-! the machine: what stands, which choices there are, what one does -/
/-- a thread: status, number, step, waits (1 not woken, 2 woken), how often it held, its call's kind (-1: none), late writes, locals by place -/
abbrev gTq := Nat × Nat × Nat × Nat × Int32 × Int32 × List (Nat × Int32) × (Nat → Int32)
/-- cells, locks (holder + 1 or 0, how often), threads -/
abbrev gMa := (Nat → Int32) × (Nat → Nat × Int32) × (Nat → gTq)
def stN (C : gCo) (s : Nat) : gNs := (C.1[s]?).getD (0, [], 0, none, 0, 0, false, none, none, none)
def obM (C : gCo) (s : Nat) : Nat := (stN C s).2.2.2.2.1.toNatClampNeg
def suM (C : gCo) (c : Nat) : Bool := match C.2.2.1[c]? with
  | some q => q.2
  | none => false
/-- what comes of a thread's own steps -/
noncomputable def owR (C : gCo) (me : Int32) (s : Nat) (lv : Nat → Int32) : gTr := @dite gTr (∃ r, ∃ n, setP C me n 0 s lv = some r) (Classical.propDecidable _) (fun h => h.choose) (fun _ => (0, 0, 0, fun _ => 0))
theorem owR_is {C : gCo} {me : Int32} {n s : Nat} {lv : Nat → Int32} {r : gTr} (h : setP C me n 0 s lv = some r) : owR C me s lv = r := by
  have h' : ∃ r, ∃ n, setP C me n 0 s lv = some r := ⟨r, n, h⟩
  unfold owR
  rw [dif_pos h']
  obtain ⟨m, hm⟩ := h'.choose_spec
  exact set_det hm h
/-- locals that are known there; 0 where not -/
def kvL (C : gCo) (u s : Nat) (lv : Nat → Int32) : Nat → Int32 := fun p => if (u = 1 ∨ u = 3) ∧ p < (stN C s).2.1.length then lv p else 0
/-- a thread goes on from a step, up to before its next act -/
noncomputable def thN (C : gCo) (t : Nat) (h : gTq) (s : Nat) (lv : Nat → Int32) : gTq := ((owR C (Int32.ofNat t) s lv).1, (owR C (Int32.ofNat t) s lv).2.1, (owR C (Int32.ofNat t) s lv).2.2.1, h.2.2.2.1, h.2.2.2.2.1, h.2.2.2.2.2.1, h.2.2.2.2.2.2.1, kvL C (owR C (Int32.ofNat t) s lv).1 (owR C (Int32.ofNat t) s lv).2.2.1 (owR C (Int32.ofNat t) s lv).2.2.2)
def thF (h : gTq) (k : Nat) : gTq := (3, k, h.2.2)
def upf {α : Type} (f : Nat → α) (j : Nat) (v : α) : Nat → α := fun i => if i = j then v else f i
def upC (M : gMa) (c : Nat) (v : Int32) : gMa := (upf M.1 c v, M.2)
def upL (M : gMa) (l : Nat) (v : Nat × Int32) : gMa := (M.1, upf M.2.1 l v, M.2.2)
def upT (M : gMa) (t : Nat) (h : gTq) : gMa := (M.1, M.2.1, upf M.2.2 t h)
/-- the sort of its next act -/
def soM (C : gCo) (h : gTq) : Nat := if h.2.2.2.1 = 0 then (stN C h.2.2.1).1 else 15
/-- a thread as a run begins; a run's beginning -/
def th0 : gTq := (0, 0, 0, 0, 0, -1, [], fun _ => 0)
noncomputable def fsM (C : gCo) : gMa := (fun c => match C.2.2.1[c]? with | some q => q.1 | none => 0, fun _ => (0, 0), fun t => match C.2.1[t]? with | some q => if q.2 = 1 then th0 else thN C t th0 q.1 (fun _ => 0) | none => th0)
/-- the latest of a row of writes to a cell -/
def seL : List (Nat × Int32) → Nat → Int32 → Int32
  | [], _, v => v
  | q :: r, c, v => seL r c (if q.1 = c then q.2 else v)
def seM (M : gMa) (t c : Nat) : Int32 := seL (M.2.2 t).2.2.2.2.2.2.1 c (M.1 c)
/-- whether its next act can be done -/
abbrev canM (C : gCo) (w : Nat) (M : gMa) (t : Nat) : Prop := (M.2.2 t).1 = 1 ∧ ¬ (M.2.2 t).2.2.2.1 = 1 ∧
  (¬ (soM C (M.2.2 t) = 0 ∨ soM C (M.2.2 t) = 12 ∨ soM C (M.2.2 t) = 13 ∨ soM C (M.2.2 t) = 14 ∨ (w = 1 ∧ soM C (M.2.2 t) = 1 ∧ suM C (obM C (M.2.2 t).2.2.1) = false)) → (M.2.2 t).2.2.2.2.2.2.1 = []) ∧
  ((soM C (M.2.2 t) = 5 ∨ soM C (M.2.2 t) = 15) → (M.2.1 (obM C (M.2.2 t).2.2.1)).1 = 0 ∨ (M.2.1 (obM C (M.2.2 t).2.2.1)).1 = t + 1) ∧
  (soM C (M.2.2 t) = 10 → 2 ≤ (M.2.2 (obM C (M.2.2 t).2.2.1)).1 ∧ (M.2.2 (obM C (M.2.2 t).2.2.1)).2.2.2.2.2.2.1 = [])
/-- those that wait for a lock, not woken yet -/
def waM (C : gCo) (M : gMa) (l : Nat) : List Nat := (List.range C.2.1.length).filter (fun o => (M.2.2 o).2.2.2.1 == 1 && obM C (M.2.2 o).2.2.1 == l)
/-- a thread's late ones that may come: the first of each cell -/
def ltM (h : gTq) : List Nat := (List.range h.2.2.2.2.2.2.1.length).filter (fun i => ((h.2.2.2.2.2.2.1.take i).all (fun q => !(some q.1 == (h.2.2.2.2.2.2.1[i]?).map (fun z => z.1)))))
/-- a choice: thread, late one, woken thread -/
abbrev gCh := Nat × Option Nat × Option Nat
def ch1 (C : gCo) (w : Nat) (M : gMa) (t : Nat) : List gCh :=
  (if canM C w M t then (if soM C (M.2.2 t) = 8 ∧ (stN C (M.2.2 t).2.2.1).2.2.2.2.2.2.1 = false ∧ (M.2.1 (obM C (M.2.2 t).2.2.1)).1 = t + 1 ∧ ¬ waM C M (obM C (M.2.2 t).2.2.1) = [] then (waM C M (obM C (M.2.2 t).2.2.1)).map (fun o => (t, none, some o)) else [(t, none, none)]) else [])
  ++ (ltM (M.2.2 t)).map (fun i => (t, some i, none))
def chM (C : gCo) (w : Nat) (M : gMa) : List gCh := (List.range C.2.1.length).flatMap (ch1 C w M)
/-- where its [ ] leads: a failure, or the cell -/
def lkI (C : gCo) (M : gMa) (t : Nat) : Nat × Int32 := match (stN C (M.2.2 t).2.2.1).2.2.2.2.2.2.2.1 with
  | none => (0, (stN C (M.2.2 t).2.2.1).2.2.2.2.1)
  | some Q => match wkQ (M.2.2 t).2.2.2.2.2.2.2 (fun _ => 0) (Int32.ofNat t) Q with
    | none => (1, -1)
    | some v => if v < 0 ∨ (stN C (M.2.2 t).2.2.1).2.2.2.2.2.1 ≤ v then (2, -1) else (0, (stN C (M.2.2 t).2.2.1).2.2.2.2.1 + v)
def evO (lv : Nat → Int32) (me : Int32) : Option (List gQ) → Option Int32
  | none => some 0
  | some Q => wkQ lv (fun _ => 0) me Q
/-- what else it may fail by -/
def rsF (C : gCo) (w : Nat) (M : gMa) (t s c : Nat) : Nat :=
  if s = 6 ∧ ¬ (M.2.1 c).1 = t + 1 then 3
  else if (s = 7 ∨ s = 8) ∧ ¬ (M.2.1 c).1 = t + 1 then 4
  else if s = 9 ∧ ¬ (M.2.2 c).1 = 0 then 7
  else if (s = 13 ∧ ¬ (M.2.2 t).2.2.2.2.2.1 = -1) ∨ (s = 14 ∧ (M.2.2 t).2.2.2.2.2.1 = -1) then 8
  else if s = 1 ∧ w = 1 ∧ suM C c = false ∧ 8 ≤ (M.2.2 t).2.2.2.2.2.2.1.length then 9 else 0
/-- an act looked at: its failure (0: none), its cell, lock or thread, its values -/
def lkM (C : gCo) (w : Nat) (M : gMa) (t : Nat) : Nat × Int32 × Int32 × Int32 :=
  if ¬ (M.2.2 t).2.2.2.1 = 0 then (0, (stN C (M.2.2 t).2.2.1).2.2.2.2.1, 0, 0)
  else if ¬ (lkI C M t).1 = 0 then ((lkI C M t).1, (lkI C M t).2, 0, 0)
  else match evO (M.2.2 t).2.2.2.2.2.2.2 (Int32.ofNat t) (stN C (M.2.2 t).2.2.1).2.2.2.2.2.2.2.2.1 with
    | none => (1, (lkI C M t).2, 0, 0)
    | some e => match evO (M.2.2 t).2.2.2.2.2.2.2 (Int32.ofNat t) (stN C (M.2.2 t).2.2.1).2.2.2.2.2.2.2.2.2 with
      | none => (1, (lkI C M t).2, e, 0)
      | some f => (rsF C w M t (stN C (M.2.2 t).2.2.1).1 (lkI C M t).2.toNatClampNeg, (lkI C M t).2, e, f)
section PLK
variable {C : gCo} {w : Nat} {M : gMa} {t : Nat} {e f v : Int32} {Q : List gQ}
theorem lkI_n (h : (stN C (M.2.2 t).2.2.1).2.2.2.2.2.2.2.1 = none) : lkI C M t = (0, (stN C (M.2.2 t).2.2.1).2.2.2.2.1) := by
  unfold lkI
  rw [h]
theorem lkI_1 (h : (stN C (M.2.2 t).2.2.1).2.2.2.2.2.2.2.1 = some Q) (g : wkQ (M.2.2 t).2.2.2.2.2.2.2 (fun _ => 0) (Int32.ofNat t) Q = none) : lkI C M t = (1, -1) := by
  unfold lkI
  rw [h]
  simp only [g]
theorem lkI_2 (h : (stN C (M.2.2 t).2.2.1).2.2.2.2.2.2.2.1 = some Q) (g : wkQ (M.2.2 t).2.2.2.2.2.2.2 (fun _ => 0) (Int32.ofNat t) Q = some v) (c : v < 0 ∨ (stN C (M.2.2 t).2.2.1).2.2.2.2.2.1 ≤ v) : lkI C M t = (2, -1) := by
  unfold lkI
  rw [h]
  simp only [g]
  rw [if_pos c]
theorem lkI_0 (h : (stN C (M.2.2 t).2.2.1).2.2.2.2.2.2.2.1 = some Q) (g : wkQ (M.2.2 t).2.2.2.2.2.2.2 (fun _ => 0) (Int32.ofNat t) Q = some v) (c : ¬ (v < 0 ∨ (stN C (M.2.2 t).2.2.1).2.2.2.2.2.1 ≤ v)) : lkI C M t = (0, (stN C (M.2.2 t).2.2.1).2.2.2.2.1 + v) := by
  unfold lkI
  rw [h]
  simp only [g]
  rw [if_neg c]
theorem lkM_15 (h : ¬ (M.2.2 t).2.2.2.1 = 0) : lkM C w M t = (0, (stN C (M.2.2 t).2.2.1).2.2.2.2.1, 0, 0) := by
  unfold lkM
  rw [if_pos h]
theorem lkM_i (h : (M.2.2 t).2.2.2.1 = 0) (g : ¬ (lkI C M t).1 = 0) : lkM C w M t = ((lkI C M t).1, (lkI C M t).2, 0, 0) := by
  unfold lkM
  rw [if_neg (fun z => z h), if_pos g]
theorem lkM_1 (h : (M.2.2 t).2.2.2.1 = 0) (g : (lkI C M t).1 = 0) (e1 : evO (M.2.2 t).2.2.2.2.2.2.2 (Int32.ofNat t) (stN C (M.2.2 t).2.2.1).2.2.2.2.2.2.2.2.1 = none) : lkM C w M t = (1, (lkI C M t).2, 0, 0) := by
  unfold lkM
  rw [if_neg (fun z => z h), if_neg (fun z => z g)]
  simp only [e1]
theorem lkM_2 (h : (M.2.2 t).2.2.2.1 = 0) (g : (lkI C M t).1 = 0) (e1 : evO (M.2.2 t).2.2.2.2.2.2.2 (Int32.ofNat t) (stN C (M.2.2 t).2.2.1).2.2.2.2.2.2.2.2.1 = some e) (e2 : evO (M.2.2 t).2.2.2.2.2.2.2 (Int32.ofNat t) (stN C (M.2.2 t).2.2.1).2.2.2.2.2.2.2.2.2 = none) : lkM C w M t = (1, (lkI C M t).2, e, 0) := by
  unfold lkM
  rw [if_neg (fun z => z h), if_neg (fun z => z g)]
  simp only [e1, e2]
theorem lkM_3 (h : (M.2.2 t).2.2.2.1 = 0) (g : (lkI C M t).1 = 0) (e1 : evO (M.2.2 t).2.2.2.2.2.2.2 (Int32.ofNat t) (stN C (M.2.2 t).2.2.1).2.2.2.2.2.2.2.2.1 = some e) (e2 : evO (M.2.2 t).2.2.2.2.2.2.2 (Int32.ofNat t) (stN C (M.2.2 t).2.2.1).2.2.2.2.2.2.2.2.2 = some f) : lkM C w M t = (rsF C w M t (stN C (M.2.2 t).2.2.1).1 (lkI C M t).2.toNatClampNeg, (lkI C M t).2, e, f) := by
  unfold lkM
  rw [if_neg (fun z => z h), if_neg (fun z => z g)]
  simp only [e1, e2]
end PLK
/-- what it does to others, and what it answers -/
noncomputable def efM (C : gCo) (w : Nat) (M : gMa) (t s c : Nat) (e f : Int32) (wk : Option Nat) : gMa × Int32 :=
  if s = 0 then (M, seM M t c)
  else if s = 1 then (if w = 0 ∨ suM C c = true then (upC M c e, 0) else (upT M t ((M.2.2 t).1, (M.2.2 t).2.1, (M.2.2 t).2.2.1, (M.2.2 t).2.2.2.1, (M.2.2 t).2.2.2.2.1, (M.2.2 t).2.2.2.2.2.1, (M.2.2 t).2.2.2.2.2.2.1 ++ [(c, e)], (M.2.2 t).2.2.2.2.2.2.2), 0))
  else if s = 2 then (upC M c e, M.1 c)
  else if s = 3 then (upC M c (M.1 c + e), M.1 c)
  else if s = 4 then (upC M c (if M.1 c = e then f else M.1 c), if M.1 c = e then 1 else 0)
  else if s = 5 then (upL M c (t + 1, (M.2.1 c).2 + 1), 0)
  else if s = 6 then (upL M c (if (M.2.1 c).2 - 1 = 0 then 0 else t + 1, (M.2.1 c).2 - 1), 0)
  else if s = 7 then (upT (upL M c (0, 0)) t ((M.2.2 t).1, (M.2.2 t).2.1, (M.2.2 t).2.2.1, 1, (M.2.1 c).2, (M.2.2 t).2.2.2.2.2), 0)
  else if s = 8 then ((M.1, M.2.1, fun o => if o < C.2.1.length ∧ (M.2.2 o).2.2.2.1 = 1 ∧ obM C (M.2.2 o).2.2.1 = c ∧ ((stN C (M.2.2 t).2.2.1).2.2.2.2.2.2.1 = true ∨ wk = some o) then ((M.2.2 o).1, (M.2.2 o).2.1, (M.2.2 o).2.2.1, 2, (M.2.2 o).2.2.2.2) else M.2.2 o), 0)
  else if s = 9 then (match C.2.1[c]? with | some q => upT M c (thN C c (M.2.2 c) q.1 (M.2.2 c).2.2.2.2.2.2.2) | none => M, 0)
  else if s = 13 then (upT M t ((M.2.2 t).1, (M.2.2 t).2.1, (M.2.2 t).2.2.1, (M.2.2 t).2.2.2.1, (M.2.2 t).2.2.2.2.1, (stN C (M.2.2 t).2.2.1).2.2.2.2.1, (M.2.2 t).2.2.2.2.2.2), 0)
  else if s = 14 then (upT M t ((M.2.2 t).1, (M.2.2 t).2.1, (M.2.2 t).2.2.1, (M.2.2 t).2.2.2.1, (M.2.2 t).2.2.2.2.1, -1, (M.2.2 t).2.2.2.2.2.2), 0)
  else if s = 15 then (upT (upL M c (t + 1, (M.2.2 t).2.2.2.2.1)) t ((M.2.2 t).1, (M.2.2 t).2.1, (M.2.2 t).2.2.1, 0, 0, (M.2.2 t).2.2.2.2.2), 0)
  else (M, 0)
def toV (st : gNs) (lv : Nat → Int32) (v : Int32) : Nat → Int32 := match st.2.2.2.1 with
  | some p => fup lv p v
  | none => lv
/-- a thread's act is done -/
noncomputable def acM (C : gCo) (w : Nat) (M : gMa) (t : Nat) (wk : Option Nat) : gMa :=
  if ¬ (lkM C w M t).1 = 0 then upT M t (thF (M.2.2 t) (lkM C w M t).1)
  else if soM C (M.2.2 t) = 7 then (efM C w M t 7 (lkM C w M t).2.1.toNatClampNeg 0 0 wk).1
  else upT (efM C w M t (soM C (M.2.2 t)) (lkM C w M t).2.1.toNatClampNeg (lkM C w M t).2.2.1 (lkM C w M t).2.2.2 wk).1 t
    (thN C t ((efM C w M t (soM C (M.2.2 t)) (lkM C w M t).2.1.toNatClampNeg (lkM C w M t).2.2.1 (lkM C w M t).2.2.2 wk).1.2.2 t) ((M.2.2 t).2.2.1 + 1) (toV (stN C (M.2.2 t).2.2.1) (M.2.2 t).2.2.2.2.2.2.2 (efM C w M t (soM C (M.2.2 t)) (lkM C w M t).2.1.toNatClampNeg (lkM C w M t).2.2.1 (lkM C w M t).2.2.2 wk).2))
/-- a late one comes -/
def laM (M : gMa) (t i : Nat) : gMa := match (M.2.2 t).2.2.2.2.2.2.1[i]? with
  | some q => upT (upC M q.1 q.2) t ((M.2.2 t).1, (M.2.2 t).2.1, (M.2.2 t).2.2.1, (M.2.2 t).2.2.2.1, (M.2.2 t).2.2.2.2.1, (M.2.2 t).2.2.2.2.2.1, (M.2.2 t).2.2.2.2.2.2.1.eraseIdx i, (M.2.2 t).2.2.2.2.2.2.2)
  | none => M
/-- a choice is done -/
noncomputable def doM (C : gCo) (w : Nat) (M : gMa) (c : gCh) : gMa := match c.2.1 with
  | some i => laM M c.1 i
  | none => acM C w M c.1 c.2.2
/-- what else every code is like: sums only where they belong; wakeall's sign -/
def NXc (C : gCo) : Prop := ∀ (j : Nat) (st : gNs), C.1[j]? = some st → (¬ st.2.2.2.2.2.2.2.1 = none → st.1 ≤ 4) ∧ (¬ st.2.2.2.2.2.2.2.2.2 = none → st.1 = 4) ∧ (¬ st.2.2.2.2.2.2.2.2.1 = none → (1 ≤ st.1 ∧ st.1 ≤ 4) ∨ st.1 = 13 ∨ st.1 = 14 ∨ (16 ≤ st.1 ∧ st.1 ≤ 18)) ∧ (st.1 = 8 → st.2.2.2.2.2.1 = if st.2.2.2.2.2.2.1 = true then 1 else 0) ∧ (¬ (st.1 = 0 ∨ (2 ≤ st.1 ∧ st.1 ≤ 4) ∨ st.1 = 16 ∨ st.1 = 17 ∨ st.1 = 20) → st.2.2.2.1 = none) ∧ (st.1 ≤ 4 → 0 ≤ st.2.2.2.2.1.toInt ∧ st.2.2.2.2.1.toInt < C.2.2.1.length ∧ (¬ st.2.2.2.2.2.2.2.1 = none → st.2.2.2.2.1.toInt + st.2.2.2.2.2.1.toInt ≤ C.2.2.1.length))
