section
/-! the machine: what stands, which choices there are, what one does -/
/-- a thread: status, number, step, waits (1 not woken, 2 woken), how often it held, its call's kind (-1: none), late writes, locals by place -/
abbrev gTq := Nat × Nat × Nat × Nat × Int32 × Int32 × List (Nat × Int32) × (Nat → Int32)
/-- cells, locks (holder + 1 or 0, how often), threads -/
abbrev gMa := (Nat → Int32) × (Nat → Nat × Int32) × (Nat → gTq)
def stN (C : gCo) (s : Nat) : gNs := (C.1[s]?).getD (0, [], 0, none, 0, 0, false, none, none, none)
def obM (C : gCo) (s : Nat) : Nat := (stN C s).2.2.2.2.1.toNatClampNeg
def suM (C : gCo) (c : Nat) : Bool := match C.2.2.1[c]? with
  | some q => q.2
  | none => false
/-- what comes of a thread's own steps -/
noncomputable def owR (C : gCo) (me : Int32) (s : Nat) (lv : Nat → Int32) : gTr := @dite gTr (∃ r, ∃ n, setP C me n 0 s lv = some r) (Classical.propDecidable _) (fun h => h.choose) (fun _ => (0, 0, 0, fun _ => 0))
theorem owR_is {C : gCo} {me : Int32} {n s : Nat} {lv : Nat → Int32} {r : gTr} (h : setP C me n 0 s lv = some r) : owR C me s lv = r := by
  have h' : ∃ r, ∃ n, setP C me n 0 s lv = some r := ⟨r, n, h⟩
  unfold owR
  rw [dif_pos h']
  obtain ⟨m, hm⟩ := h'.choose_spec
  exact set_det hm h
/-- locals that are known there; 0 where not -/
def kvL (C : gCo) (u s : Nat) (lv : Nat → Int32) : Nat → Int32 := fun p => if (u = 1 ∨ u = 3) ∧ p < (stN C s).2.1.length then lv p else 0
/-- a thread goes on from a step, up to before its next act -/
noncomputable def thN (C : gCo) (t : Nat) (h : gTq) (s : Nat) (lv : Nat → Int32) : gTq := ((owR C (Int32.ofNat t) s lv).1, (owR C (Int32.ofNat t) s lv).2.1, (owR C (Int32.ofNat t) s lv).2.2.1, h.2.2.2.1, h.2.2.2.2.1, h.2.2.2.2.2.1, h.2.2.2.2.2.2.1, kvL C (owR C (Int32.ofNat t) s lv).1 (owR C (Int32.ofNat t) s lv).2.2.1 (owR C (Int32.ofNat t) s lv).2.2.2)
def thF (h : gTq) (k : Nat) : gTq := (3, k, h.2.2)
def upf {α : Type} (f : Nat → α) (j : Nat) (v : α) : Nat → α := fun i => if i = j then v else f i
def upC (M : gMa) (c : Nat) (v : Int32) : gMa := (upf M.1 c v, M.2)
def upL (M : gMa) (l : Nat) (v : Nat × Int32) : gMa := (M.1, upf M.2.1 l v, M.2.2)
def upT (M : gMa) (t : Nat) (h : gTq) : gMa := (M.1, M.2.1, upf M.2.2 t h)
/-- the sort of its next act -/
def soM (C : gCo) (h : gTq) : Nat := if h.2.2.2.1 = 0 then (stN C h.2.2.1).1 else 15
/-- a thread as a run begins; a run's beginning -/
def th0 : gTq := (0, 0, 0, 0, 0, -1, [], fun _ => 0)
noncomputable def fsM (C : gCo) : gMa := (fun c => match C.2.2.1[c]? with | some q => q.1 | none => 0, fun _ => (0, 0), fun t => match C.2.1[t]? with | some q => if q.2 = 1 then th0 else thN C t th0 q.1 (fun _ => 0) | none => th0)
/-- the latest of a row of writes to a cell -/
def seL : List (Nat × Int32) → Nat → Int32 → Int32
  | [], _, v => v
  | q :: r, c, v => seL r c (if q.1 = c then q.2 else v)
def seM (M : gMa) (t c : Nat) : Int32 := seL (M.2.2 t).2.2.2.2.2.2.1 c (M.1 c)
/-- whether its next act can be done -/
abbrev canM (C : gCo) (w : Nat) (M : gMa) (t : Nat) : Prop := (M.2.2 t).1 = 1 ∧ ¬ (M.2.2 t).2.2.2.1 = 1 ∧
  (¬ (soM C (M.2.2 t) = 0 ∨ soM C (M.2.2 t) = 12 ∨ soM C (M.2.2 t) = 13 ∨ soM C (M.2.2 t) = 14 ∨ (w = 1 ∧ soM C (M.2.2 t) = 1 ∧ suM C (obM C (M.2.2 t).2.2.1) = false)) → (M.2.2 t).2.2.2.2.2.2.1 = []) ∧
  ((soM C (M.2.2 t) = 5 ∨ soM C (M.2.2 t) = 15) → (M.2.1 (obM C (M.2.2 t).2.2.1)).1 = 0 ∨ (M.2.1 (obM C (M.2.2 t).2.2.1)).1 = t + 1) ∧
  (soM C (M.2.2 t) = 10 → 2 ≤ (M.2.2 (obM C (M.2.2 t).2.2.1)).1 ∧ (M.2.2 (obM C (M.2.2 t).2.2.1)).2.2.2.2.2.2.1 = [])
/-- those that wait for a lock, not woken yet -/
def waM (C : gCo) (M : gMa) (l : Nat) : List Nat := (List.range C.2.1.length).filter (fun o => (M.2.2 o).2.2.2.1 == 1 && obM C (M.2.2 o).2.2.1 == l)
/-- a thread's late ones that may come: the first of each cell -/
def ltM (h : gTq) : List Nat := (List.range h.2.2.2.2.2.2.1.length).filter (fun i => ((h.2.2.2.2.2.2.1.take i).all (fun q => !(some q.1 == (h.2.2.2.2.2.2.1[i]?).map (fun z => z.1)))))
/-- a choice: thread, late one, woken thread -/
abbrev gCh := Nat × Option Nat × Option Nat
def ch1 (C : gCo) (w : Nat) (M : gMa) (t : Nat) : List gCh :=
  (if canM C w M t then (if soM C (M.2.2 t) = 8 ∧ (stN C (M.2.2 t).2.2.1).2.2.2.2.2.2.1 = false ∧ (M.2.1 (obM C (M.2.2 t).2.2.1)).1 = t + 1 ∧ ¬ waM C M (obM C (M.2.2 t).2.2.1) = [] then (waM C M (obM C (M.2.2 t).2.2.1)).map (fun o => (t, none, some o)) else [(t, none, none)]) else [])
  ++ (ltM (M.2.2 t)).map (fun i => (t, some i, none))
def chM (C : gCo) (w : Nat) (M : gMa) : List gCh := (List.range C.2.1.length).flatMap (ch1 C w M)
/-- where its [ ] leads: a failure, or the cell -/
def lkI (C : gCo) (M : gMa) (t : Nat) : Nat × Int32 := match (stN C (M.2.2 t).2.2.1).2.2.2.2.2.2.2.1 with
  | none => (0, (stN C (M.2.2 t).2.2.1).2.2.2.2.1)
  | some Q => match wkQ (M.2.2 t).2.2.2.2.2.2.2 (fun _ => 0) (Int32.ofNat t) Q with
    | none => (1, -1)
    | some v => if v < 0 ∨ (stN C (M.2.2 t).2.2.1).2.2.2.2.2.1 ≤ v then (2, -1) else (0, (stN C (M.2.2 t).2.2.1).2.2.2.2.1 + v)
def evO (lv : Nat → Int32) (me : Int32) : Option (List gQ) → Option Int32
  | none => some 0
  | some Q => wkQ lv (fun _ => 0) me Q
/-- what else it may fail by -/
def rsF (C : gCo) (w : Nat) (M : gMa) (t s c : Nat) : Nat :=
  if s = 6 ∧ ¬ (M.2.1 c).1 = t + 1 then 3
  else if (s = 7 ∨ s = 8) ∧ ¬ (M.2.1 c).1 = t + 1 then 4
  else if s = 9 ∧ ¬ (M.2.2 c).1 = 0 then 7
  else if (s = 13 ∧ ¬ (M.2.2 t).2.2.2.2.2.1 = -1) ∨ (s = 14 ∧ (M.2.2 t).2.2.2.2.2.1 = -1) then 8
  else if s = 1 ∧ w = 1 ∧ suM C c = false ∧ 8 ≤ (M.2.2 t).2.2.2.2.2.2.1.length then 9 else 0
/-- an act looked at: its failure (0: none), its cell, lock or thread, its values -/
def lkM (C : gCo) (w : Nat) (M : gMa) (t : Nat) : Nat × Int32 × Int32 × Int32 :=
  if ¬ (M.2.2 t).2.2.2.1 = 0 then (0, (stN C (M.2.2 t).2.2.1).2.2.2.2.1, 0, 0)
  else if ¬ (lkI C M t).1 = 0 then ((lkI C M t).1, (lkI C M t).2, 0, 0)
  else match evO (M.2.2 t).2.2.2.2.2.2.2 (Int32.ofNat t) (stN C (M.2.2 t).2.2.1).2.2.2.2.2.2.2.2.1 with
    | none => (1, (lkI C M t).2, 0, 0)
    | some e => match evO (M.2.2 t).2.2.2.2.2.2.2 (Int32.ofNat t) (stN C (M.2.2 t).2.2.1).2.2.2.2.2.2.2.2.2 with
      | none => (1, (lkI C M t).2, e, 0)
      | some f => (rsF C w M t (stN C (M.2.2 t).2.2.1).1 (lkI C M t).2.toNatClampNeg, (lkI C M t).2, e, f)
section PLK
variable {C : gCo} {w : Nat} {M : gMa} {t : Nat} {e f v : Int32} {Q : List gQ}
theorem lkI_n (h : (stN C (M.2.2 t).2.2.1).2.2.2.2.2.2.2.1 = none) : lkI C M t = (0, (stN C (M.2.2 t).2.2.1).2.2.2.2.1) := by
  unfold lkI
  rw [h]
theorem lkI_1 (h : (stN C (M.2.2 t).2.2.1).2.2.2.2.2.2.2.1 = some Q) (g : wkQ (M.2.2 t).2.2.2.2.2.2.2 (fun _ => 0) (Int32.ofNat t) Q = none) : lkI C M t = (1, -1) := by
  unfold lkI
  rw [h]
  simp only [g]
theorem lkI_2 (h : (stN C (M.2.2 t).2.2.1).2.2.2.2.2.2.2.1 = some Q) (g : wkQ (M.2.2 t).2.2.2.2.2.2.2 (fun _ => 0) (Int32.ofNat t) Q = some v) (c : v < 0 ∨ (stN C (M.2.2 t).2.2.1).2.2.2.2.2.1 ≤ v) : lkI C M t = (2, -1) := by
  unfold lkI
  rw [h]
  simp only [g]
  rw [if_pos c]
theorem lkI_0 (h : (stN C (M.2.2 t).2.2.1).2.2.2.2.2.2.2.1 = some Q) (g : wkQ (M.2.2 t).2.2.2.2.2.2.2 (fun _ => 0) (Int32.ofNat t) Q = some v) (c : ¬ (v < 0 ∨ (stN C (M.2.2 t).2.2.1).2.2.2.2.2.1 ≤ v)) : lkI C M t = (0, (stN C (M.2.2 t).2.2.1).2.2.2.2.1 + v) := by
  unfold lkI
  rw [h]
  simp only [g]
  rw [if_neg c]
theorem lkM_15 (h : ¬ (M.2.2 t).2.2.2.1 = 0) : lkM C w M t = (0, (stN C (M.2.2 t).2.2.1).2.2.2.2.1, 0, 0) := by
  unfold lkM
  rw [if_pos h]
theorem lkM_i (h : (M.2.2 t).2.2.2.1 = 0) (g : ¬ (lkI C M t).1 = 0) : lkM C w M t = ((lkI C M t).1, (lkI C M t).2, 0, 0) := by
  unfold lkM
  rw [if_neg (fun z => z h), if_pos g]
theorem lkM_1 (h : (M.2.2 t).2.2.2.1 = 0) (g : (lkI C M t).1 = 0) (e1 : evO (M.2.2 t).2.2.2.2.2.2.2 (Int32.ofNat t) (stN C (M.2.2 t).2.2.1).2.2.2.2.2.2.2.2.1 = none) : lkM C w M t = (1, (lkI C M t).2, 0, 0) := by
  unfold lkM
  rw [if_neg (fun z => z h), if_neg (fun z => z g)]
  simp only [e1]
theorem lkM_2 (h : (M.2.2 t).2.2.2.1 = 0) (g : (lkI C M t).1 = 0) (e1 : evO (M.2.2 t).2.2.2.2.2.2.2 (Int32.ofNat t) (stN C (M.2.2 t).2.2.1).2.2.2.2.2.2.2.2.1 = some e) (e2 : evO (M.2.2 t).2.2.2.2.2.2.2 (Int32.ofNat t) (stN C (M.2.2 t).2.2.1).2.2.2.2.2.2.2.2.2 = none) : lkM C w M t = (1, (lkI C M t).2, e, 0) := by
  unfold lkM
  rw [if_neg (fun z => z h), if_neg (fun z => z g)]
  simp only [e1, e2]
theorem lkM_3 (h : (M.2.2 t).2.2.2.1 = 0) (g : (lkI C M t).1 = 0) (e1 : evO (M.2.2 t).2.2.2.2.2.2.2 (Int32.ofNat t) (stN C (M.2.2 t).2.2.1).2.2.2.2.2.2.2.2.1 = some e) (e2 : evO (M.2.2 t).2.2.2.2.2.2.2 (Int32.ofNat t) (stN C (M.2.2 t).2.2.1).2.2.2.2.2.2.2.2.2 = some f) : lkM C w M t = (rsF C w M t (stN C (M.2.2 t).2.2.1).1 (lkI C M t).2.toNatClampNeg, (lkI C M t).2, e, f) := by
  unfold lkM
  rw [if_neg (fun z => z h), if_neg (fun z => z g)]
  simp only [e1, e2]
end PLK
/-- what it does to others, and what it answers -/
noncomputable def efM (C : gCo) (w : Nat) (M : gMa) (t s c : Nat) (e f : Int32) (wk : Option Nat) : gMa × Int32 :=
  if s = 0 then (M, seM M t c)
  else if s = 1 then (if w = 0 ∨ suM C c = true then (upC M c e, 0) else (upT M t ((M.2.2 t).1, (M.2.2 t).2.1, (M.2.2 t).2.2.1, (M.2.2 t).2.2.2.1, (M.2.2 t).2.2.2.2.1, (M.2.2 t).2.2.2.2.2.1, (M.2.2 t).2.2.2.2.2.2.1 ++ [(c, e)], (M.2.2 t).2.2.2.2.2.2.2), 0))
  else if s = 2 then (upC M c e, M.1 c)
  else if s = 3 then (upC M c (M.1 c + e), M.1 c)
  else if s = 4 then (upC M c (if M.1 c = e then f else M.1 c), if M.1 c = e then 1 else 0)
  else if s = 5 then (upL M c (t + 1, (M.2.1 c).2 + 1), 0)
  else if s = 6 then (upL M c (if (M.2.1 c).2 - 1 = 0 then 0 else t + 1, (M.2.1 c).2 - 1), 0)
  else if s = 7 then (upT (upL M c (0, 0)) t ((M.2.2 t).1, (M.2.2 t).2.1, (M.2.2 t).2.2.1, 1, (M.2.1 c).2, (M.2.2 t).2.2.2.2.2), 0)
  else if s = 8 then ((M.1, M.2.1, fun o => if o < C.2.1.length ∧ (M.2.2 o).2.2.2.1 = 1 ∧ obM C (M.2.2 o).2.2.1 = c ∧ ((stN C (M.2.2 t).2.2.1).2.2.2.2.2.2.1 = true ∨ wk = some o) then ((M.2.2 o).1, (M.2.2 o).2.1, (M.2.2 o).2.2.1, 2, (M.2.2 o).2.2.2.2) else M.2.2 o), 0)
  else if s = 9 then (match C.2.1[c]? with | some q => upT M c (thN C c (M.2.2 c) q.1 (M.2.2 c).2.2.2.2.2.2.2) | none => M, 0)
  else if s = 13 then (upT M t ((M.2.2 t).1, (M.2.2 t).2.1, (M.2.2 t).2.2.1, (M.2.2 t).2.2.2.1, (M.2.2 t).2.2.2.2.1, (stN C (M.2.2 t).2.2.1).2.2.2.2.1, (M.2.2 t).2.2.2.2.2.2), 0)
  else if s = 14 then (upT M t ((M.2.2 t).1, (M.2.2 t).2.1, (M.2.2 t).2.2.1, (M.2.2 t).2.2.2.1, (M.2.2 t).2.2.2.2.1, -1, (M.2.2 t).2.2.2.2.2.2), 0)
  else if s = 15 then (upT (upL M c (t + 1, (M.2.2 t).2.2.2.2.1)) t ((M.2.2 t).1, (M.2.2 t).2.1, (M.2.2 t).2.2.1, 0, 0, (M.2.2 t).2.2.2.2.2), 0)
  else (M, 0)
def toV (st : gNs) (lv : Nat → Int32) (v : Int32) : Nat → Int32 := match st.2.2.2.1 with
  | some p => fup lv p v
  | none => lv
/-- a thread's act is done -/
noncomputable def acM (C : gCo) (w : Nat) (M : gMa) (t : Nat) (wk : Option Nat) : gMa :=
  if ¬ (lkM C w M t).1 = 0 then upT M t (thF (M.2.2 t) (lkM C w M t).1)
  else if soM C (M.2.2 t) = 7 then (efM C w M t 7 (lkM C w M t).2.1.toNatClampNeg 0 0 wk).1
  else upT (efM C w M t (soM C (M.2.2 t)) (lkM C w M t).2.1.toNatClampNeg (lkM C w M t).2.2.1 (lkM C w M t).2.2.2 wk).1 t
    (thN C t ((efM C w M t (soM C (M.2.2 t)) (lkM C w M t).2.1.toNatClampNeg (lkM C w M t).2.2.1 (lkM C w M t).2.2.2 wk).1.2.2 t) ((M.2.2 t).2.2.1 + 1) (toV (stN C (M.2.2 t).2.2.1) (M.2.2 t).2.2.2.2.2.2.2 (efM C w M t (soM C (M.2.2 t)) (lkM C w M t).2.1.toNatClampNeg (lkM C w M t).2.2.1 (lkM C w M t).2.2.2 wk).2))
/-- a late one comes -/
def laM (M : gMa) (t i : Nat) : gMa := match (M.2.2 t).2.2.2.2.2.2.1[i]? with
  | some q => upT (upC M q.1 q.2) t ((M.2.2 t).1, (M.2.2 t).2.1, (M.2.2 t).2.2.1, (M.2.2 t).2.2.2.1, (M.2.2 t).2.2.2.2.1, (M.2.2 t).2.2.2.2.2.1, (M.2.2 t).2.2.2.2.2.2.1.eraseIdx i, (M.2.2 t).2.2.2.2.2.2.2)
  | none => M
/-- a choice is done -/
noncomputable def doM (C : gCo) (w : Nat) (M : gMa) (c : gCh) : gMa := match c.2.1 with
  | some i => laM M c.1 i
  | none => acM C w M c.1 c.2.2
/-- what else every code is like: sums only where they belong; wakeall's sign -/
def NXc (C : gCo) : Prop := ∀ (j : Nat) (st : gNs), C.1[j]? = some st → (¬ st.2.2.2.2.2.2.2.1 = none → st.1 ≤ 4) ∧ (¬ st.2.2.2.2.2.2.2.2.2 = none → st.1 = 4) ∧ (¬ st.2.2.2.2.2.2.2.2.1 = none → (1 ≤ st.1 ∧ st.1 ≤ 4) ∨ st.1 = 13 ∨ st.1 = 14 ∨ (16 ≤ st.1 ∧ st.1 ≤ 18)) ∧ (st.1 = 8 → st.2.2.2.2.2.1 = if st.2.2.2.2.2.2.1 = true then 1 else 0) ∧ (¬ (st.1 = 0 ∨ (2 ≤ st.1 ∧ st.1 ≤ 4) ∨ st.1 = 16 ∨ st.1 = 17 ∨ st.1 = 20) → st.2.2.2.1 = none) ∧ (st.1 ≤ 4 → 0 ≤ st.2.2.2.2.1.toInt ∧ st.2.2.2.2.1.toInt < C.2.2.1.length ∧ (¬ st.2.2.2.2.2.2.2.1 = none → st.2.2.2.2.1.toInt + st.2.2.2.2.2.1.toInt ≤ C.2.2.1.length))
end
section
/-! the model: what a thread's own steps leave, wholly -/
/-- which locals are known: the bits of a mask -/
theorem or_sr (a b j : Int32) : ((a ||| b) >>> j) &&& 1 = ((a >>> j) &&& 1) ||| ((b >>> j) &&& 1) := by
  apply Int32.toBitVec_inj.1
  simp only [Int32.toBitVec_and, Int32.toBitVec_or, Int32.toBitVec_shiftRight, BitVec.sshiftRight_eq', BitVec.sshiftRight_or_distrib]
  ext i hi
  simp [Bool.and_or_distrib_right]
theorem km_1 : ∀ s, s < 8 → ∀ k, k < 8 → (((1 : Int32) <<< (Int32.ofNat s &&& 31)) >>> (Int32.ofNat k &&& 31)) &&& 1 = if k = s then 1 else 0 := by decide +kernel
theorem km_0 : ∀ k, k < 8 → ((0 : Int32) >>> (Int32.ofNat k &&& 31)) &&& 1 = 0 := by decide +kernel
theorem km_bit : ∀ {sl : List Nat}, (∀ s ∈ sl, s < 8) → ∀ k, k < 8 → (kmN sl >>> (Int32.ofNat k &&& 31)) &&& 1 = if k ∈ sl then 1 else 0 := by
  intro sl
  induction sl with
  | nil => intro _ k hk; rw [if_neg (by simp)]; exact km_0 k hk
  | cons s r ih =>
    intro h k hk
    rw [kmN, or_sr, ih (fun s hs => h s (List.mem_cons_of_mem _ hs)) k hk, km_1 s (h s List.mem_cons_self) k hk]
    by_cases c1 : k = s
    · rw [if_pos c1, if_pos (show k ∈ s :: r by rw [c1]; exact List.mem_cons_self)]
      by_cases c2 : k ∈ r
      · rw [if_pos c2]; decide
      · rw [if_neg c2]; decide
    · rw [if_neg c1]
      by_cases c2 : k ∈ r
      · rw [if_pos c2, if_pos (List.mem_cons_of_mem _ c2)]; decide
      · rw [if_neg c2, if_neg (fun z => (List.mem_cons.mp z).elim c1 c2)]; decide
def th3 (t : Nat) (x x' : gd) : Prop := md hL hA x x' ∧ (∀ c j : Nat, (c = 73 ∨ c = 74 ∨ c = 75 ∨ c = 77 ∨ c = 78) → ¬ j = t → x'.1 c j = x.1 c j) ∧ ∀ j : Nat, ¬ (8 * t ≤ j ∧ j < 8 * t + 8) → x'.1 76 j = x.1 76 j
theorem th3_th {t : Nat} {x x' : gd} (h : th3 t x x') : th t x x' := ⟨h.1, fun c j hc hj => h.2.1 c j (by omega) hj⟩
theorem th3_rf (t : Nat) (x : gd) : th3 t x x := ⟨md_w (md_rf x) (by decide) (by decide), fun _ _ _ _ => rfl, fun _ _ => rfl⟩
theorem th3_tr {t : Nat} {x y z : gd} (a : th3 t x y) (b : th3 t y z) : th3 t x z := ⟨md_tr a.1 b.1 rfl rfl, fun c j h1 h2 => (b.2.1 c j h1 h2).trans (a.2.1 c j h1 h2), fun j h => (b.2.2 j h).trans (a.2.2 j h)⟩
theorem th3_si {t c : Nat} (h : c ∈ [73, 74, 75, 77, 78]) (x : gd) (v : Int32) : th3 t x (si x c t v) := by
  refine ⟨(th_si h x v).1, fun c' j _ hj => si_ne c' j hj, fun j _ => ?_⟩
  rw [si_cell (fun e => by rw [← e] at h; exact absurd h (by decide))]
theorem th3_md {t : Nat} {L A : List Nat} {x x' : gd} (h : md L A x x') (h1 : L.all (hL.elem ·) = true) (h2 : A.all ([84].elem ·) = true) : th3 t x x' := by
  have g : ∀ k ∈ A, k ∈ [84] := fun k hk => List.elem_iff.mp (List.all_eq_true.mp h2 k hk)
  refine ⟨md_w h (fun k hk => List.elem_iff.mp (List.all_eq_true.mp h1 k hk)) (fun k hk => by have := g k hk; simp at this ⊢; omega), fun c j hc _ => ?_, fun j _ => ?_⟩
  · rw [h.2.1 c (by omega) (fun q => by have := g c q; simp at this; omega)]
  · rw [h.2.1 76 (by decide) (fun q => by have := g 76 q; simp at this)]
theorem th3_76 {t i : Nat} (h : 8 * t ≤ i ∧ i < 8 * t + 8) (x : gd) (v : Int32) : th3 t x (si x 76 i v) := by
  refine ⟨md_w (md_a x 76 i v (by decide)) (fun i hi => nomatch hi) (fun i hi => by rw [List.mem_singleton.mp hi]; decide), fun c j hc _ => ?_, fun j hj => ?_⟩
  · rw [si_cell (by omega)]
  · rw [si_get, if_neg (fun z => hj (by rw [z.2]; exact h))]
section DSL
variable {d : Nat} {S : gS} {x : gd} {F : Int32 → gd → gS → Prop} {Fv : gd → gS → Prop} {C : gCo}
theorem ds_fail3 (t n : Int32) (ht : vp_in t 6) (h : ∀ x', th3 t.toNatClampNeg x x' → x'.1 73 t.toNatClampNeg = 3 → x'.1 74 t.toNatClampNeg = x.1 74 t.toNatClampNeg → x'.1 77 t.toNatClampNeg = 0 → x'.1 75 t.toNatClampNeg = n → x'.1 78 t.toNatClampNeg = 0 → x'.1 76 = x.1 76 → Fv x' S) : MD d z_failThread 0 [(0, vr 0), (1, vi t), (2, vi n)] [] S x (Dv Fv) := by
  refine sd_failThread_0 _ _ ⟨ht, fun x2 e2 => ⟨ht, fun x4 e4 => ⟨ht, fun x6 e6 => ⟨ht, fun x8 e8 => Dv_i (h x8 ?_ ?_ ?_ ?_ ?_ ?_ ?_)⟩⟩⟩⟩
  · rw [e8, e6, e4, e2]
    exact th3_tr (th3_tr (th3_tr (th3_si (by decide) _ _) (th3_si (by decide) _ _)) (th3_si (by decide) _ _)) (th3_si (by decide) _ _)
  · rw [e8, si_cell (by decide), e6, si_cell (by decide), e4, si_cell (by decide), e2, si_get, if_pos ⟨rfl, rfl⟩]
  · rw [e8, si_cell (by decide), e6, si_cell (by decide), e4, si_cell (by decide), e2, si_cell (by decide)]
  · rw [e8, si_cell (by decide), e6, si_get, if_pos ⟨rfl, rfl⟩]
  · rw [e8, si_cell (by decide), e6, si_cell (by decide), e4, si_get, if_pos ⟨rfl, rfl⟩]
  · rw [e8, si_get, if_pos ⟨rfl, rfl⟩]
  · rw [e8, si_cell (by decide), e6, si_cell (by decide), e4, si_cell (by decide), e2, si_cell (by decide)]
theorem ds_clean3 (t : Int32) (ht : vp_in t 6) (ha : 0 ≤ (x.1 74 t.toNatClampNeg).toInt ∧ (x.1 74 t.toNatClampNeg).toInt < 1500) {sl : List Nat} (h8 : ∀ s ∈ sl, s < 8) (hm : x.1 73 t.toNatClampNeg = 1 ∨ x.1 73 t.toNatClampNeg = 3 → x.1 62 (x.1 74 t.toNatClampNeg).toNatClampNeg = kmN sl) (h : ∀ x', th3 t.toNatClampNeg x x' → x'.1 73 = x.1 73 → x'.1 75 = x.1 75 → x'.1 77 = x.1 77 → x'.1 78 = x.1 78 → (¬ (x.1 73 t.toNatClampNeg = 0 ∨ x.1 73 t.toNatClampNeg = 2) → x'.1 74 = x.1 74) → (x.1 73 t.toNatClampNeg = 0 ∨ x.1 73 t.toNatClampNeg = 2 → x'.1 74 t.toNatClampNeg = 0) → (∀ s, s < 8 → x'.1 76 (8 * t.toNatClampNeg + s) = if (x.1 73 t.toNatClampNeg = 1 ∨ x.1 73 t.toNatClampNeg = 3) ∧ s ∈ sl then x.1 76 (8 * t.toNatClampNeg + s) else 0) → Fv x' S) : MD d z_clean 0 [(0, vr 0), (1, vi t)] [] S x (Dv Fv) := by
  have k1 : (1 : Int32).toInt = 1 := rfl
  have k8 : (8 : Int32).toInt = 8 := rfl
  have tv := vp_in_iff.mp ht
  obtain ⟨T, eT⟩ : ∃ T, T = t.toNatClampNeg := ⟨_, rfl⟩
  have tT : t.toInt = (T : Nat) := by rw [eT, t_cl]; omega
  rw [← eT] at ha hm h
  have m1 : (8 * t).toInt = 8 * t.toInt := by rw [t_mul (by rw [k8]; omega) (by rw [k8]; omega), k8]
  have loop : ∀ (n : Nat) (y : gd) (m i : Int32), (∀ s, s < 8 → (¬ (m >>> (Int32.ofNat s &&& 31)) &&& 1 = 0 ↔ (x.1 73 T = 1 ∨ x.1 73 T = 3) ∧ s ∈ sl)) → md [] [76] x y → th3 T x y → 0 ≤ i.toInt → 8 - i.toInt ≤ n → (∀ s, s < 8 → y.1 76 (8 * T + s) = if (s : Int) < i.toInt ∧ ¬ ((x.1 73 T = 1 ∨ x.1 73 T = 3) ∧ s ∈ sl) then 0 else x.1 76 (8 * T + s)) → MD d z_clean 38 [(0, vr 0), (1, vi t), (2, vi m), (3, vi i)] [] S y (Dv Fv) := by
    have last : ∀ y : gd, md [] [76] x y → th3 T x y → (∀ s, s < 8 → y.1 76 (8 * T + s) = if (x.1 73 T = 1 ∨ x.1 73 T = 3) ∧ s ∈ sl then x.1 76 (8 * T + s) else 0) → vp_in t 6 ∧ (((y.1 73 t.toNatClampNeg) = (0 : Int32) → vp_in t 6 ∧ (∀ x5 : gd, x5 = si y 74 t.toNatClampNeg 0 → Dv Fv none x5 S)) ∧ (¬ ((y.1 73 t.toNatClampNeg) = (0 : Int32)) → vp_in t 6 ∧ ((¬ ((y.1 73 t.toNatClampNeg) = (2 : Int32)) → Dv Fv none y S) ∧ ((y.1 73 t.toNatClampNeg) = (2 : Int32) → vp_in t 6 ∧ (∀ x9 : gd, x9 = si y 74 t.toNatClampNeg 0 → Dv Fv none x9 S))))) := by
      intro y my ty hl
      have e73 : y.1 73 = x.1 73 := my.2.1 73 (by decide) (by decide)
      have e74 : y.1 74 = x.1 74 := my.2.1 74 (by decide) (by decide)
      have e75 : y.1 75 = x.1 75 := my.2.1 75 (by decide) (by decide)
      have e77 : y.1 77 = x.1 77 := my.2.1 77 (by decide) (by decide)
      have e78 : y.1 78 = x.1 78 := my.2.1 78 (by decide) (by decide)
      have z0 : x.1 73 T = 0 ∨ x.1 73 T = 2 → ∀ x5 : gd, x5 = si y 74 T 0 → Dv Fv none x5 S := by
        intro q x5 e5
        refine Dv_i (h x5 ?_ ?_ ?_ ?_ ?_ (fun c => absurd q c) (fun _ => ?_) (fun s hs => ?_))
        · rw [e5]; exact th3_tr ty (th3_si (by decide) _ _)
        · rw [e5, si_cell (by decide), e73]
        · rw [e5, si_cell (by decide), e75]
        · rw [e5, si_cell (by decide), e77]
        · rw [e5, si_cell (by decide), e78]
        · rw [e5, si_get, if_pos ⟨rfl, rfl⟩]
        · rw [e5, si_cell (by decide)]; exact hl s hs
      rw [e73, ← eT]
      exact ⟨ht, fun c => ⟨ht, z0 (Or.inl c)⟩, fun c0 => ⟨ht, fun c2 => Dv_i (h y ty e73 e75 e77 e78 (fun _ => e74) (fun c => absurd c (fun z => z.elim c0 c2)) hl), fun c => ⟨ht, z0 (Or.inr c)⟩⟩⟩
    have lastI : ∀ (y : gd) (i : Int32), 8 ≤ i.toInt → (∀ s, s < 8 → y.1 76 (8 * T + s) = if (s : Int) < i.toInt ∧ ¬ ((x.1 73 T = 1 ∨ x.1 73 T = 3) ∧ s ∈ sl) then 0 else x.1 76 (8 * T + s)) → ∀ s, s < 8 → y.1 76 (8 * T + s) = if (x.1 73 T = 1 ∨ x.1 73 T = 3) ∧ s ∈ sl then x.1 76 (8 * T + s) else 0 := fun y i hi hl s hs => by
      rw [hl s hs]
      by_cases c : (x.1 73 T = 1 ∨ x.1 73 T = 3) ∧ s ∈ sl
      · rw [if_pos c, if_neg (fun z => z.2 c)]
      · rw [if_neg c, if_pos ⟨by omega, c⟩]
    intro n
    induction n with
    | zero =>
      intro y m i hb my ty i0 hi hl
      exact sd_clean_38 _ _ _ ⟨fun _ => last y my ty (lastI y i (by omega) hl), fun c => absurd (t_le.mpr (by rw [k8]; omega)) c⟩
    | succ n ih =>
      intro y m i hb my ty i0 hi hl
      refine sd_clean_38 _ _ _ ⟨fun c => last y my ty (lastI y i (by rw [t_le, k8] at c; exact c) hl), fun c => ?_⟩
      rw [t_le, k8] at c
      have i1 : (i + 1).toInt = i.toInt + 1 := by rw [t_add (by omega) (by omega), k1]
      have ei : i = Int32.ofNat i.toInt.toNat := i32_of (by omega)
      have hbi := hb i.toInt.toNat (by omega)
      rw [← ei] at hbi
      have es : (8 * t + i).toNatClampNeg = 8 * T + i.toInt.toNat := by rw [t_cl, t_add (by omega) (by omega), m1]; omega
      refine ⟨fun cb => ih y m (i + 1) hb my ty (by omega) (by omega) (fun s hs => ?_), fun cb => ⟨?_, fun y2 e2 => ?_⟩⟩
      · rw [hl s hs]
        have hB := hbi.mp cb
        by_cases e : s = i.toInt.toNat
        · rw [e, if_neg (fun z => z.2 hB), if_neg (fun z => z.2 hB)]
        · by_cases c9 : (s : Int) < i.toInt
          · by_cases c8 : (x.1 73 T = 1 ∨ x.1 73 T = 3) ∧ s ∈ sl
            · rw [if_neg (fun z => z.2 c8), if_neg (fun z => z.2 c8)]
            · rw [if_pos ⟨c9, c8⟩, if_pos ⟨by omega, c8⟩]
          · rw [if_neg (fun z => c9 z.1), if_neg (fun z => by have := z.1; omega)]
      · rw [vp_in_iff, t_add (by omega) (by omega), m1]; omega
      · rw [es] at e2
        have m2 := md_a y 76 (8 * T + i.toInt.toNat) 0 (by decide)
        rw [← e2] at m2
        have hB : ¬ ((x.1 73 T = 1 ∨ x.1 73 T = 3) ∧ i.toInt.toNat ∈ sl) := fun z => hbi.mpr z cb
        refine ih y2 m (i + 1) hb (md_tr my m2 rfl rfl) (th3_tr ty (by rw [e2]; exact th3_76 (by omega) _ _)) (by omega) (by omega) (fun s hs => ?_)
        rw [e2, si_get]
        by_cases e : s = i.toInt.toNat
        · rw [e, if_pos ⟨rfl, rfl⟩, if_pos ⟨by omega, hB⟩]
        · rw [if_neg (fun z => by have := z.2; omega), hl s hs]
          by_cases c8 : (x.1 73 T = 1 ∨ x.1 73 T = 3) ∧ s ∈ sl
          · rw [if_neg (fun z => z.2 c8), if_neg (fun z => z.2 c8)]
          · by_cases c9 : (s : Int) < i.toInt
            · rw [if_pos ⟨c9, c8⟩, if_pos ⟨by omega, c8⟩]
            · rw [if_neg (fun z => c9 z.1), if_neg (fun z => by have := z.1; omega)]
  have go : ∀ m : Int32, (∀ s, s < 8 → (¬ (m >>> (Int32.ofNat s &&& 31)) &&& 1 = 0 ↔ (x.1 73 T = 1 ∨ x.1 73 T = 3) ∧ s ∈ sl)) → MD d z_clean 38 [(0, vr 0), (1, vi t), (2, vi m), (3, vi 0)] [] S x (Dv Fv) := fun m hb => loop 8 x m 0 hb (md_w (md_rf x) (by decide) (by decide)) (th3_rf T x) (by decide) (by decide) (fun s hs => by
    rw [if_neg (fun z => by have := z.1; rw [show (0 : Int32).toInt = 0 from rfl] at this; omega)])
  have g20 : x.1 73 T = 1 ∨ x.1 73 T = 3 → MD d z_clean 20 [(0, vr 0), (1, vi t)] [] S x (Dv Fv) := fun c => sd_clean_20 _ ⟨ht, by rw [← eT, vp_in_iff]; omega, go _ (fun s hs => by
    rw [← eT, hm c, km_bit h8 s hs]
    by_cases e : s ∈ sl
    · rw [if_pos e]; exact ⟨fun _ => ⟨c, e⟩, fun _ => by decide⟩
    · rw [if_neg e]; exact ⟨fun z => absurd rfl z, fun z => absurd z.2 e⟩)⟩
  refine sd_clean_0 _ ⟨ht, fun c => g20 (by rw [← eT] at c; exact Or.inl c), fun c1 => ⟨ht, fun c3 => go _ (fun s hs => ?_), fun c => g20 (by rw [← eT] at c; exact Or.inr c)⟩⟩
  rw [← eT] at c1 c3
  rw [km_0 s hs]
  exact ⟨fun z => absurd rfl z, fun z => absurd z.1 (fun q => q.elim c1 c3)⟩
end DSL
end
section
/-! the model: a thread's own steps, wholly -/
/-- known locals stand in their slots, the others are 0 -/
def mLv (y : gd) (C : gCo) (T u s : Nat) (lv : Nat → Int32) : Prop := ((u = 1 ∨ u = 3) → ∀ p, p < (stN C s).2.1.length → y.1 76 (8 * T + slN (stN C s).2.1 p) = lv p) ∧ ∀ k, k < 8 → ¬ ((u = 1 ∨ u = 3) ∧ k ∈ (stN C s).2.1) → y.1 76 (8 * T + k) = 0
/-- what its own steps left of a thread -/
def owM (y : gd) (C : gCo) (T : Nat) (r : gTr) : Prop := y.1 73 T = Int32.ofNat r.1 ∧ (r.1 = 1 ∨ r.1 = 2 ∨ r.1 = 3) ∧ y.1 75 T = Int32.ofNat r.2.1 ∧ (y.1 74 T).toInt = (r.2.2.1 : Nat) ∧ mLv y C T r.1 r.2.2.1 r.2.2.2 ∧ (¬ r.1 = 2 → ∃ st, C.1[r.2.2.1]? = some st)
def q0 (z : gd) (T : Nat) : Prop := z.1 77 T = 0 ∧ z.1 78 T = 0 ∧ z.1 75 T = 0
theorem q0_si {z : gd} {T c k : Nat} {v : Int32} (h : c ≠ 77 ∧ c ≠ 78 ∧ c ≠ 75) (q : q0 z T) : q0 (si z c k v) T := by
  unfold q0
  rw [si_cell (fun e => h.1 e.symm), si_cell (fun e => h.2.1 e.symm), si_cell (fun e => h.2.2 e.symm)]
  exact q
def finP (C : gCo) (y : gd) (T : Nat) (r : gTr) : Prop := y.1 73 T = Int32.ofNat r.1 ∧ (r.1 = 1 ∨ r.1 = 2 ∨ r.1 = 3) ∧ y.1 75 T = Int32.ofNat r.2.1 ∧ (r.1 = 2 → r.2.2.1 = 0) ∧ (¬ r.1 = 2 → (y.1 74 T).toInt = (r.2.2.1 : Nat) ∧ ∃ st, C.1[r.2.2.1]? = some st ∧ ∀ p, p < st.2.1.length → y.1 76 (8 * T + slN st.2.1 p) = r.2.2.2 p)
theorem stN_is {C : gCo} {s : Nat} {st : gNs} (h : C.1[s]? = some st) : stN C s = st := by
  unfold stN
  rw [h]; rfl
section DOG
variable {d : Nat} {S : gS} {x : gd} {F : Int32 → gd → gS → Prop} {Fv : gd → gS → Prop} {C : gCo}
theorem ds_own3 (t : Int32) (ht : vp_in t 6) (cp : CP x) (ha : 0 ≤ (x.1 74 t.toNatClampNeg).toInt ∧ (x.1 74 t.toNatClampNeg).toInt < 1500) (h1 : x.1 73 t.toNatClampNeg = 1 → (x.1 74 t.toNatClampNeg).toInt < (x.1 0 52).toInt) (hw : q0 x t.toNatClampNeg) (hK : MK x C) (hN : NC C) (hg : x.1 73 t.toNatClampNeg = 1) {st0 : gNs} {lv0 : Nat → Int32} (hst0 : C.1[(x.1 74 t.toNatClampNeg).toNatClampNeg]? = some st0) (hlv0 : ∀ p, p < st0.2.1.length → x.1 76 (8 * t.toNatClampNeg + slN st0.2.1 p) = lv0 p) (h : ∀ x' S', th3 t.toNatClampNeg x x' → ssub S S' → ra x' t.toNatClampNeg → x'.1 77 t.toNatClampNeg = 0 → x'.1 78 t.toNatClampNeg = 0 → owM x' C t.toNatClampNeg (owR C (Int32.ofNat t.toNatClampNeg) (x.1 74 t.toNatClampNeg).toNatClampNeg lv0) → Fv x' S') : MD (d + 3) z_own 0 [(0, vr 0), (1, vi t)] [] S x (Dv Fv) := by
  obtain ⟨T, eT⟩ : ∃ T, T = t.toNatClampNeg := ⟨_, rfl⟩
  rw [← eT] at ha h1 hw h hg hst0 hlv0
  have k1 : (1 : Int32).toInt = 1 := rfl
  have k8 : (8 : Int32).toInt = 8 := rfl
  have k300 : (300 : Int32).toInt = 300 := rfl
  have tv := vp_in_iff.mp ht
  have tT : t = Int32.ofNat T := i32_of (by rw [eT, t_cl]; omega)
  have tTi : t.toInt = (T : Nat) := by rw [eT, t_cl]; omega
  obtain ⟨G0, eG0⟩ : ∃ G0 : gTr → Prop, G0 = fun r => ∃ n, setP C (Int32.ofNat T) n 0 (x.1 74 T).toNatClampNeg lv0 = some r := ⟨_, rfl⟩
  obtain ⟨J, eJ⟩ : ∃ J : Int32 → gd → Prop, J = fun m y => (y.1 73 T = 1 ∧ ∃ st lv, C.1[(y.1 74 T).toNatClampNeg]? = some st ∧ (∀ p, p < st.2.1.length → y.1 76 (8 * T + slN st.2.1 p) = lv p) ∧ ∀ r, (∃ n, setP C (Int32.ofNat T) n m.toInt.toNat (y.1 74 T).toNatClampNeg lv = some r) → G0 r) ∨ (¬ y.1 73 T = 1 ∧ ∃ r, G0 r ∧ finP C y T r) := ⟨_, rfl⟩
  have noJ : ∀ {m : Int32} {y : gd}, ¬ y.1 73 T = 1 → J m y → ∃ r, G0 r ∧ finP C y T r := fun {m y} hn hJ => by
    rw [eJ] at hJ
    rcases hJ with ⟨c, -⟩ | ⟨-, c⟩
    · exact absurd c hn
    · exact c
  obtain ⟨_, ⟨j1, j2, j3, j4, j5, _⟩, _⟩ := id cp
  -- the loop's state
  let I : gd → gS → Prop := fun y S1 => th3 T x y ∧ ssub S S1 ∧ (0 ≤ (y.1 74 T).toInt ∧ (y.1 74 T).toInt < 1500) ∧ (y.1 73 T = 1 → (y.1 74 T).toInt < (x.1 0 52).toInt) ∧ y.1 77 T = 0 ∧ y.1 78 T = 0 ∧ (y.1 73 T = 1 → y.1 75 T = 0)
  have out : ∀ (y : gd) (S1 : gS), I y S1 → (y.1 73 T = 1 → y.1 54 (y.1 74 T).toNatClampNeg = 6) → (∃ r, G0 r ∧ finP C y T r) → MD (d + 3) z_own 264 [(0, vr 0), (1, vi t)] [] S1 y (Dv Fv) := by
    intro y S1 iy q6 hfin
    obtain ⟨i1, i2, i3, i4, i5⟩ := iy
    obtain ⟨r, hr, f1, f3, f5, f2, fn⟩ := hfin
    rw [eG0] at hr
    obtain ⟨n, hn⟩ := hr
    have hr := owR_is hn
    have hsl : ∃ sl : List Nat, (∀ k ∈ sl, k < 8) ∧ (y.1 73 T = 1 ∨ y.1 73 T = 3 → y.1 62 (y.1 74 T).toNatClampNeg = kmN sl) ∧ (¬ r.1 = 2 → sl = (stN C r.2.2.1).2.1) := by
      by_cases c2 : r.1 = 2
      · refine ⟨[], (fun k hk => nomatch hk), fun c => ?_, fun c => absurd c2 c⟩
        rw [f1, c2] at c
        exact absurd c (by decide)
      · obtain ⟨g1, st, g2, g3⟩ := fn c2
        have ns := hN.1 _ st g2
        obtain ⟨-, pm, p8⟩ := ns.2.2.2.2.1
        obtain ⟨-, -, -, -, -, -, -, -, h62⟩ := hK.1.2 _ st g2
        refine ⟨st.2.1, fun k hk => by have := pm k hk; omega, fun _ => ?_, fun _ => by rw [stN_is g2]⟩
        rw [i1.1.2.1 62 (by decide) (by decide), show (y.1 74 T).toNatClampNeg = r.2.2.1 by rw [t_cl, g1]; rfl]
        exact h62
    obtain ⟨sl, sl8, slm, slr⟩ := hsl
    have st3 : ∀ v : Nat, v = 1 ∨ v = 2 ∨ v = 3 → ((Int32.ofNat v = 1 ∨ Int32.ofNat v = 3) ↔ (v = 1 ∨ v = 3)) ∧ ((Int32.ofNat v = 0 ∨ Int32.ofNat v = 2) ↔ v = 2) := by
      intro v hv
      rcases hv with e | e | e <;> rw [e] <;> decide
    obtain ⟨s13, s02⟩ := st3 r.1 f3
    rw [← f1] at s13 s02
    refine sd_own_264 _ (ds_clean3 t ht (by rw [← eT]; exact i3) sl8 (by rw [← eT]; exact slm) (fun z tz e73 e75 e77 e78 e74 e74' e76 => Dv_i (h z S1 ?_ i2 ?_ ?_ ?_ ?_)))
    · rw [← eT] at tz; exact th3_tr i1 tz
    · rw [← eT] at e74 e74' tz
      have f52 : z.1 0 52 = x.1 0 52 := by rw [tz.1.1 52 (by decide), i1.1.1 52 (by decide)]
      have f54 : z.1 54 = y.1 54 := tz.1.2.1 54 (by decide) (by decide)
      by_cases c : y.1 73 T = 0 ∨ y.1 73 T = 2
      · have e := e74' c
        refine ⟨by rw [e]; decide, by rw [e]; decide, fun q => ?_⟩
        rw [e73] at q
        rw [q] at c
        exact absurd c (by decide)
      · have e := e74 c
        refine ⟨by rw [e]; exact i3.1, by rw [e]; exact i3.2, fun q => ?_⟩
        rw [e73] at q
        rw [e, f52, f54]
        exact ⟨i4 q, q6 q⟩
    · rw [e77]; exact i5.1
    · rw [e78]; exact i5.2.1
    · rw [← eT] at e74 e74' e76
      rw [hr]
      refine ⟨by rw [e73]; exact f1, f3, by rw [e75]; exact f5, ?_, ⟨fun c p hp => ?_, fun k hk c => ?_⟩, fun c => ?_⟩
      · by_cases c : r.1 = 2
        · rw [e74' (s02.mpr c), f2 c]; rfl
        · rw [e74 (fun z => c (s02.mp z))]; exact (fn c).1
      · have c2 : ¬ r.1 = 2 := by omega
        obtain ⟨g1, st, g2, g3⟩ := fn c2
        have es := slr c2
        rw [stN_is g2] at es hp ⊢
        have hm := slN_mem hp
        rw [e76 _ (sl8 _ (by rw [es]; exact hm)), if_pos ⟨s13.mpr c, by rw [es]; exact hm⟩]
        exact g3 p hp
      · rw [e76 k hk, if_neg (fun z => c ⟨s13.mp z.1, by rw [← slr (by have := s13.mp z.1; omega)]; exact z.2⟩)]
      · obtain ⟨-, st, g2, -⟩ := fn c
        exact ⟨st, g2⟩
  have loop : ∀ (n : Nat) (y : gd) (S1 : gS) (m : Int32), I y S1 → 0 ≤ m.toInt → m.toInt ≤ 300 → (y.1 73 T = 1 → (300 - m.toInt) * 3001 + gg x (y.1 74 T) + 1 ≤ n) → J m y → MD (d + 3) z_own 2 [(0, vr 0), (1, vi t), (2, vi m)] [] S1 y (Dv Fv) := by
    have gone : ∀ (y : gd) (S1 : gS) (m : Int32), I y S1 → ¬ y.1 73 T = 1 → (∃ r, G0 r ∧ finP C y T r) → MD (d + 3) z_own 2 [(0, vr 0), (1, vi t), (2, vi m)] [] S1 y (Dv Fv) := by
      intro y S1 m iy ne hfin
      refine sd_own_2 _ _ ⟨ht, fun _ => out y S1 iy (fun q => absurd q ne) hfin, fun q => ?_⟩
      rw [← eT] at q
      exact absurd q ne
    intro n
    induction n with
    | zero =>
      intro y S1 m iy m0 m3 hm hJ
      by_cases q : y.1 73 T = 1
      · have := hm q
        have g0 : 0 ≤ gg x (y.1 74 T) := by
          unfold gg
          have := iy.2.2.1
          split <;> omega
        omega
      · exact gone y S1 m iy q (noJ q hJ)
    | succ n ih =>
      intro y S1 m iy m0 m3 hm hJ
      by_cases q : y.1 73 T = 1
      rotate_left
      · exact gone y S1 m iy q (noJ q hJ)
      have hm := hm q
      obtain ⟨i1, i2, i3, i4, i5⟩ := id iy
      have q5 : q0 y T := ⟨i5.1, i5.2.1, i5.2.2 q⟩
      obtain ⟨st, lv, hst, hlv, lift⟩ : ∃ st lv, C.1[(y.1 74 T).toNatClampNeg]? = some st ∧ (∀ p, p < st.2.1.length → y.1 76 (8 * T + slN st.2.1 p) = lv p) ∧ ∀ r, (∃ n, setP C (Int32.ofNat T) n m.toInt.toNat (y.1 74 T).toNatClampNeg lv = some r) → G0 r := by
        rw [eJ] at hJ
        rcases hJ with ⟨-, c⟩ | ⟨c, -⟩
        · exact c
        · exact absurd q c
      clear hJ
      obtain ⟨k, ek⟩ : ∃ k, k = y.1 74 T := ⟨_, rfl⟩
      rw [← ek] at hm i3 i4 hst lift
      have kv : vp_in k 1500 := by rw [vp_in_iff]; omega
      have kl := i4 q
      have ck := cl_i i3.1
      have f : ∀ c : Nat, c ≠ 0 → c ∉ hA → y.1 c = x.1 c := fun c c0 hc => i1.1.2.1 c c0 hc
      have f54 := f 54 (by decide) (by decide)
      have f59 := f 59 (by decide) (by decide)
      have f61 := f 61 (by decide) (by decide)
      obtain ⟨so, sc2, sc3⟩ := j5 k.toNatClampNeg (by omega)
      obtain ⟨wa, we, wf, sv, go⟩ := so
      have cpy : CP y := CP_th (th3_th i1) cp
      have ns := hN.1 _ st hst
      have n22 := ns.1.1
      obtain ⟨h54, -, -, -, -, h59, -, h61, -⟩ := hK.1.2 _ st hst
      obtain ⟨w6, w3, w5, w0, w2, w1⟩ := mWh_i st.1 n22
      rw [← h54] at w6 w3 w5 w0 w2 w1
      have l52 : (x.1 0 52).toInt = C.1.length := hK.1.1
      have len : ∀ {j : Nat} {s9 : gNs}, C.1[j]? = some s9 → (Int32.ofNat j).toInt = (j : Nat) ∧ (Int32.ofNat j).toNatClampNeg = j := fun {j s9} hj => by
        have := gt_lt hj
        have e9 : (Int32.ofNat j).toInt = (j : Nat) := Int32.toInt_ofNat_of_lt (by omega)
        exact ⟨e9, by rw [t_cl, e9]; rfl⟩
      -- it goes on at a step
      have onJ : ∀ (m' a : Int32) (n2 : Nat) (z2 : gd) (st' : gNs) (lv2 : Nat → Int32) (l9 : List Nat), z2.1 73 T = 1 → z2.1 74 T = a → a.toNatClampNeg = n2 → C.1[n2]? = some st' → st'.2.1 <:+ l9 → (∀ p, p < l9.length → z2.1 76 (8 * T + slN l9 p) = lv2 p) → (∀ r, (∃ n, setP C (Int32.ofNat T) n m'.toInt.toNat n2 lv2 = some r) → G0 r) → J m' z2 := fun m' a n2 z2 st' lv2 l9 z3 z4 ea hs' hsf hl9 hlift => by
        rw [eJ]
        refine Or.inl ⟨z3, st', lv2, by rw [z4, ea]; exact hs', fun p hp => ?_, fun r hr => hlift r (by rw [z4, ea] at hr; exact hr)⟩
        rw [slN_suf hsf hp]
        exact hl9 p (by have := hsf.length_le; omega)
      -- at goes to a step
      have to : ∀ (z : gd) (S2 : gS) (m' a : Int32) (z2 : gd), th3 T x z → ssub S S2 → q0 z T → z2 = si z 74 T a → 0 ≤ a.toInt → a.toInt < (x.1 0 52).toInt → 0 ≤ m'.toInt → m'.toInt ≤ 300 → (300 - m'.toInt) * 3001 + gg x a + 1 ≤ n → J m' z2 → MD (d + 3) z_own 2 [(0, vr 0), (1, vi t), (2, vi m')] [] S2 z2 (Dv Fv) := by
        intro z S2 m' a z2 tz s2 w0 e2 a0 a1 m1 m2 hg hJ2
        have ea : z2.1 74 T = a := by rw [e2, si_get, if_pos ⟨rfl, rfl⟩]
        have tz2 : th3 T x z2 := by rw [e2]; exact th3_tr tz (th3_si (by decide) _ _)
        refine ih z2 S2 m' ⟨tz2, s2, by rw [ea]; exact ⟨a0, by omega⟩, fun _ => by rw [ea]; exact a1, by rw [e2, si_cell (by decide)]; exact w0.1, by rw [e2, si_cell (by decide)]; exact w0.2.1, fun _ => by rw [e2, si_cell (by decide)]; exact w0.2.2⟩ m1 m2 (fun _ => by rw [ea]; exact hg) hJ2
      -- the thread ends
      have fin : ∀ (z : gd) (S2 : gS) (m' : Int32) (z2 : gd), th3 T x z → ssub S S2 → q0 z T → z.1 74 T = k → z2 = si z 73 T 2 → G0 (2, 0, 0, lv) → MD (d + 3) z_own 2 [(0, vr 0), (1, vi t), (2, vi m')] [] S2 z2 (Dv Fv) := by
        intro z S2 m' z2 tz s2 w0 e74 e2 hG
        have tz2 : th3 T x z2 := by rw [e2]; exact th3_tr tz (th3_si (by decide) _ _)
        have e73 : z2.1 73 T = 2 := by rw [e2, si_get, if_pos ⟨rfl, rfl⟩]
        refine gone z2 S2 m' ⟨tz2, s2, by rw [e2, si_cell (by decide), e74]; exact i3, fun q => by rw [e73] at q; exact absurd q (by decide), by rw [e2, si_cell (by decide)]; exact w0.1, by rw [e2, si_cell (by decide)]; exact w0.2.1, fun q => by rw [e73] at q; exact absurd q (by decide)⟩ (by rw [e73]; decide) ⟨_, hG, e73, Or.inr (Or.inl rfl), by rw [e2, si_cell (by decide)]; exact w0.2.2, fun _ => rfl, fun c => absurd rfl c⟩
      have fail : ∀ (z : gd) (S2 : gS) (m' n' : Int32), th3 T x z → ssub S S2 → z.1 74 T = k → z.1 76 = y.1 76 → (∃ j, n' = Int32.ofNat j ∧ G0 (3, j, k.toNatClampNeg, lv)) → MD (d + 2) z_failThread 0 [(0, vr 0), (1, vi t), (2, vi n')] [] S2 z (Dv (fun z2 S3 => MD (d + 3) z_own 2 [(0, vr 0), (1, vi t), (2, vi m')] [] S3 z2 (Dv Fv))) := by
        intro z S2 m' n' tz s2 e74 z76 hG
        refine ds_fail3 t n' ht (fun z2 t2 e3 e4 e7 e5 e8 e6 => ?_)
        rw [← eT] at t2 e3 e4 e7 e5 e8
        exact gone z2 S2 m' ⟨th3_tr tz t2, s2, by rw [e4, e74]; exact i3, fun q => by rw [e3] at q; exact absurd q (by decide), e7, e8, fun q => by rw [e3] at q; exact absurd q (by decide)⟩ (by rw [e3]; decide) (by
          obtain ⟨j, ej, hG⟩ := hG
          exact ⟨_, hG, e3, Or.inr (Or.inr rfl), e5.trans ej, fun c => absurd c (by show ¬ 3 = 2; decide), fun _ => ⟨by rw [e4, e74]; exact ck.symm, st, hst, fun p hp => by rw [e6, z76]; exact hlv p hp⟩⟩)
      have g0 : ∀ a : Int32, 0 ≤ a.toInt → a.toInt < 1500 → 0 ≤ gg x a ∧ gg x a ≤ 1501 := fun a a0 a1 => by
        unfold gg
        split <;> omega
      have nx : ¬ x.1 54 k.toNatClampNeg = 5 → (k + 1).toInt = k.toInt + 1 ∧ k.toInt + 1 < (x.1 0 52).toInt := fun ne => by
        have := sc3.resolve_left ne
        exact ⟨by rw [t_add (by omega) (by omega), k1], by omega⟩
      have p153 : ¬ x.1 54 k.toNatClampNeg = 3 → ¬ x.1 54 k.toNatClampNeg = 5 → ¬ x.1 54 k.toNatClampNeg = 6 → ∀ (z : gd) (S2 : gS) (m' v : Int32), th3 T x z → ssub S S2 → q0 z T → z.1 74 T = k → 0 ≤ m'.toInt → m'.toInt ≤ 300 → m'.toInt = m.toInt + 1 → z.1 73 T = 1 → z.1 76 = y.1 76 → (st.1 = 19 ∨ ∃ Q, st.2.2.2.2.2.2.2.2.1 = some Q ∧ wkQ lv (fun _ => 0) (Int32.ofNat T) Q = some v) → MD (d + 3) z_own 153 [(0, vr 0), (1, vi t), (2, vi m'), (3, vi k), (4, vi (x.1 54 k.toNatClampNeg)), (5, vi v)] [] S2 z (Dv Fv) := by
        intro n3 n5 n6 z S2 m' v tz s2 z77 e74 m1 m2 em z73 z76 hv
        obtain ⟨nx1, nx2⟩ := nx n5
        have o16 : ¬ st.1 < 16 := fun z => n6 (w6.mpr z)
        have o20 : ¬ st.1 = 20 := fun z => n3 (w3.mpr z)
        have o21 : ¬ st.1 = 21 := fun z => n5 (w5.mpr z)
        have c2 : ¬ (st.1 < 20 ∧ 300 ≤ m.toInt.toNat) := by omega
        have eown : (if st.1 < 20 then m.toInt.toNat + 1 else m.toInt.toNat) = m'.toInt.toNat := by rw [if_pos (by omega)]; omega
        have ow : ¬ st.1 = 19 → ow1 (Int32.ofNat T) k.toNatClampNeg st lv = (if st.1 = 18 ∧ v = 0 then .inl (3, 5, k.toNatClampNeg, lv) else .inr (if st.1 = 17 ∧ v = 0 then st.2.2.2.1.getD 0 else k.toNatClampNeg + 1, if st.1 = 16 then fup lv (st.2.2.2.1.getD 0) v else lv)) := fun n19 => by
          rcases hv with hv | ⟨Q, hQ, hv⟩
          · exact absurd hv n19
          · unfold ow1
            rw [if_neg (by omega), if_neg o20, hQ]
            show (match wkQ lv (fun _ => 0) (Int32.ofNat T) Q with | none => _ | some v => _) = _
            rw [hv]
        have goR : ∀ {s2 : Nat} {lv2 : Nat → Int32}, ow1 (Int32.ofNat T) k.toNatClampNeg st lv = .inr (s2, lv2) → ∀ r, (∃ n, setP C (Int32.ofNat T) n m'.toInt.toNat s2 lv2 = some r) → G0 r := fun {s2 lv2} how r hr => by
          obtain ⟨n9, hn9⟩ := hr
          refine lift r ⟨n9 + 1, ?_⟩
          rw [set_r hst o16 c2 how, eown]
          exact hn9
        have nxt : ∃ st', C.1[k.toNatClampNeg + 1]? = some st' ∧ st'.2.1 <:+ aftN st := ns.2.1 (by omega)
        have ek1 : (k + 1).toNatClampNeg = k.toNatClampNeg + 1 := by rw [t_cl]; omega
        have lz : ∀ p, p < st.2.1.length → z.1 76 (8 * T + slN st.2.1 p) = lv p := fun p hp => by rw [z76]; exact hlv p hp
        have ean : ¬ st.1 = 16 → aftN st = st.2.1 := fun n16 => if_neg (fun z => by omega)
        have fz61 : z.1 61 = x.1 61 := tz.1.2.1 61 (by decide) (by decide)
        have gk : gg x k = 0 := by unfold gg; rw [if_neg n3]
        have me : ∀ a : Int32, 0 ≤ a.toInt → a.toInt < 1500 → (300 - m'.toInt) * 3001 + gg x a + 1 ≤ n := fun a a0 a1 => by
          have := (g0 a a0 a1).2
          rw [gk] at hm
          omega
        refine sd_own_153 _ _ _ _ _ ⟨fun ne0 => ⟨fun ne2 => ⟨fun ne1 => ⟨ht, fun z2 e2 => ?_⟩, fun e1 => ⟨fun nv => ⟨ht, ht, fun z2 e2 => ?_⟩, fun v0 => fail z S2 m' _ tz s2 e74 z76 ⟨5, rfl, lift _ ⟨1, set_l hst o16 c2 ?_⟩⟩⟩⟩, fun e2 => ⟨fun v0 => ⟨kv, ht, fun z2 e3 => ?_⟩, fun nv => ⟨ht, fun z2 e3 => ?_⟩⟩⟩, fun e0 => ⟨kv, ?_, fun z2 e2 => ⟨ht, ht, fun z3 e3 => ?_⟩⟩⟩
        · rw [← eT] at e2
          have s19 : st.1 = 19 := by
            have a1 : ¬ st.1 = 16 := fun z => ne0 (w0.mpr z)
            have a2 : ¬ st.1 = 17 := fun z => ne2 (w2.mpr z)
            have a3 : ¬ st.1 = 18 := fun z => ne1 (w1.mpr z)
            omega
          refine fin z S2 m' z2 tz s2 z77 e74 e2 (lift _ ⟨1, set_l hst o16 c2 ?_⟩)
          unfold ow1
          rw [if_pos (Or.inl s19)]
        · rw [← eT, e74] at e2
          have s18 : st.1 = 18 := w1.mp e1
          have how : ow1 (Int32.ofNat T) k.toNatClampNeg st lv = .inr (k.toNatClampNeg + 1, lv) := by rw [ow (by omega), if_neg (fun z => nv z.2), if_neg (by omega), if_neg (by omega)]
          obtain ⟨st', hs', hsf⟩ := nxt
          rw [ean (by omega)] at hsf
          refine to z S2 m' (k + 1) z2 tz s2 z77 e2 (by omega) (by omega) m1 m2 (me _ (by omega) (by omega)) (onJ m' (k + 1) _ z2 st' lv st.2.1 (by rw [e2, si_cell (by decide)]; exact z73) (by rw [e2, si_get, if_pos ⟨rfl, rfl⟩]) ek1 hs' hsf (fun p hp => by rw [e2, si_cell (by decide)]; exact lz p hp) (goR how))
        · have s18 : st.1 = 18 := w1.mp e1
          rw [ow (by omega), if_pos ⟨s18, v0⟩]
        · have tw := sc2 (Or.inl e2)
          have s17 : st.1 = 17 := w2.mp e2
          obtain ⟨n2, st', hto, hs', hsf⟩ := ns.2.2.1 (Or.inl s17)
          have h61' : x.1 61 k.toNatClampNeg = Int32.ofNat n2 := by
            rw [h61]
            unfold mNt
            rw [hto]
            show (if st.1 = 17 ∨ st.1 = 20 then Int32.ofNat n2 else _) = _
            rw [if_pos (Or.inl s17)]
          obtain ⟨l1, l2⟩ := len hs'
          have t0 : 0 ≤ (x.1 61 k.toNatClampNeg).toInt := by rw [h61', l1]; omega
          rw [← eT, fz61] at e3
          have how : ow1 (Int32.ofNat T) k.toNatClampNeg st lv = .inr (n2, lv) := by rw [ow (by omega), if_neg (fun z => by omega), if_pos ⟨s17, v0⟩, if_neg (by omega), hto]; rfl
          refine to z S2 m' _ z2 tz s2 z77 e3 t0 tw m1 m2 (me _ t0 (by omega)) (onJ m' _ n2 z2 st' lv st.2.1 (by rw [e3, si_cell (by decide)]; exact z73) (by rw [e3, si_get, if_pos ⟨rfl, rfl⟩]) (by rw [h61']; exact l2) hs' hsf (fun p hp => by rw [e3, si_cell (by decide)]; exact lz p hp) (goR how))
        · rw [← eT] at e3
          have s17 : st.1 = 17 := w2.mp e2
          have how : ow1 (Int32.ofNat T) k.toNatClampNeg st lv = .inr (k.toNatClampNeg + 1, lv) := by rw [ow (by omega), if_neg (fun z => by omega), if_neg (fun z => nv z.2), if_neg (by omega)]
          obtain ⟨st', hs', hsf⟩ := nxt
          rw [ean (by omega)] at hsf
          refine to z S2 m' (k + 1) z2 tz s2 z77 e3 (by omega) (by omega) m1 m2 (me _ (by omega) (by omega)) (onJ m' (k + 1) _ z2 st' lv st.2.1 (by rw [e3, si_cell (by decide)]; exact z73) (by rw [e3, si_get, if_pos ⟨rfl, rfl⟩]) ek1 hs' hsf (fun p hp => by rw [e3, si_cell (by decide)]; exact lz p hp) (goR how))
        · rw [fz61]
          have s8 : 0 ≤ (x.1 61 k.toNatClampNeg).toInt ∧ (x.1 61 k.toNatClampNeg).toInt < 8 := by
            rcases sv with ⟨_, s⟩ | s | ⟨s, _⟩ | s | s | ⟨s, _⟩
            · exact s
            · rw [s] at e0; exact absurd e0 (by decide)
            · rw [e0] at s; exact absurd s (by decide)
            · rw [s] at e0; exact absurd e0 (by decide)
            · rw [s] at e0; exact absurd e0 (by decide)
            · rw [s] at e0; exact absurd e0 (by decide)
          have m9 : (8 * t).toInt = 8 * t.toInt := by rw [t_mul (by rw [k8]; omega) (by rw [k8]; omega), k8]
          rw [vp_in_iff, t_add (by omega) (by omega), m9]; omega
        · have m9 := md_a z 76 (8 * t + z.1 61 k.toNatClampNeg).toNatClampNeg v (by decide)
          rw [← e2] at m9
          rw [← eT, show z2.1 74 T = k by rw [m9.2.1 74 (by decide) (by decide)]; exact e74] at e3
          have s16 : st.1 = 16 := w0.mp e0
          obtain ⟨p, hto, hp⟩ := ns.2.2.2.1 (Or.inr (Or.inr s16))
          obtain ⟨pw, pm, p8⟩ := ns.2.2.2.2.1
          have how : ow1 (Int32.ofNat T) k.toNatClampNeg st lv = .inr (k.toNatClampNeg + 1, fup lv p v) := by rw [ow (by omega), if_neg (fun z => by omega), if_neg (fun z => by omega), if_pos s16, hto]; rfl
          obtain ⟨st', hs', hsf⟩ := nxt
          -- the slot that is set
          have ap : (aftN st).Pairwise (fun a b => b < a) ∧ (∀ s ∈ aftN st, s < 8) ∧ p < (aftN st).length ∧ x.1 61 k.toNatClampNeg = Int32.ofNat (slN (aftN st) p) ∧ ∀ j, j < (aftN st).length → ¬ j = p → j < st.2.1.length ∧ slN (aftN st) j = slN st.2.1 j := by
            have h61' : x.1 61 k.toNatClampNeg = Int32.ofNat (if p = st.2.1.length then st.2.2.1 else slN st.2.1 p) := by
              rw [h61]
              unfold mNt
              rw [hto]
              show (if st.1 = 17 ∨ st.1 = 20 then _ else Int32.ofNat (if p = st.2.1.length then st.2.2.1 else slN st.2.1 p)) = _
              rw [if_neg (by omega)]
            rcases hp with hp | ⟨hp, hp8⟩
            · have ea : aftN st = st.2.1 := if_neg (fun z => by rw [hto] at z; have := Option.some.inj z.2; omega)
              rw [ea]
              refine ⟨pw, fun s hs => by have := pm s hs; omega, hp, by rw [h61', if_neg (by omega)], fun j hj _ => ⟨hj, rfl⟩⟩
            · have ea : aftN st = st.2.2.1 :: st.2.1 := if_pos ⟨Or.inr (Or.inr s16), by rw [hto, hp]⟩
              rw [ea]
              refine ⟨List.Pairwise.cons pm pw, fun s hs => ?_, by rw [hp]; exact Nat.lt_succ_self _, ?_, fun j hj hne => ?_⟩
              · rcases List.mem_cons.mp hs with e | hs
                · rw [e]; exact hp8
                · have := pm s hs; omega
              · rw [h61', if_pos hp]
                show _ = Int32.ofNat (if p = st.2.1.length then st.2.2.1 else slN st.2.1 p)
                rw [if_pos hp]
              · have hj : j < st.2.1.length + 1 := hj
                refine ⟨by omega, ?_⟩
                show (if j = st.2.1.length then st.2.2.1 else slN st.2.1 j) = _
                rw [if_neg (by omega)]
          obtain ⟨apw, ap8, app, ap61, apj⟩ := ap
          have sl8 := ap8 _ (slN_mem app)
          have ei : (8 * t + z.1 61 k.toNatClampNeg).toNatClampNeg = 8 * T + slN (aftN st) p := by
            have m8 : (8 * t).toInt = 8 * t.toInt := by rw [t_mul (by rw [k8]; omega) (by rw [k8]; omega), k8]
            have eo : (Int32.ofNat (slN (aftN st) p)).toInt = (slN (aftN st) p : Nat) := Int32.toInt_ofNat_of_lt (by omega)
            rw [fz61, ap61, t_cl, t_add (by omega) (by omega), m8, eo, tTi]
            omega
          rw [ei] at e2
          have t2 : th3 T x z2 := th3_tr tz (by rw [e2]; exact th3_76 (by omega) _ _)
          refine to z2 S2 m' (k + 1) z3 t2 s2 (by rw [e2]; exact q0_si (by decide) z77) e3 (by omega) (by omega) m1 m2 (me _ (by omega) (by omega)) (onJ m' (k + 1) _ z3 st' (fup lv p v) (aftN st) (by rw [e3, si_cell (by decide), m9.2.1 73 (by decide) (by decide)]; exact z73) (by rw [e3, si_get, if_pos ⟨rfl, rfl⟩]) ek1 hs' hsf (fun j hj => ?_) (goR how))
          rw [e3, si_cell (by decide), e2, si_get]
          unfold fup
          by_cases c : j = p
          · rw [c, if_pos ⟨rfl, rfl⟩, if_pos rfl]
          · obtain ⟨j1', j2'⟩ := apj j hj c
            rw [if_neg (fun z => c (slN_inj apw hj app (by have := z.2; omega))), if_neg c, j2']
            exact lz j j1'
      have ne19 : st.1 = 19 → ¬ ¬ x.1 59 k.toNatClampNeg = -1 := fun c19 nn => by
        have e1 := ns.2.2.2.2.2.2.2.2.2.2 (by omega)
        rw [e1] at h59
        exact nn h59
      have p125 : ¬ x.1 54 k.toNatClampNeg = 3 → ¬ x.1 54 k.toNatClampNeg = 5 → ¬ x.1 54 k.toNatClampNeg = 6 → ∀ (z : gd) (S2 : gS) (m' v : Int32), th3 T x z → ssub S S2 → q0 z T → z.1 74 T = k → 0 ≤ m'.toInt → m'.toInt ≤ 300 → m'.toInt = m.toInt + 1 → z.1 73 T = 1 → z.1 76 = y.1 76 → (x.1 59 k.toNatClampNeg = -1 → st.1 = 19) → (¬ x.1 59 k.toNatClampNeg = -1 → S2 0 82 ∧ ∃ Q, st.2.2.2.2.2.2.2.2.1 = some Q ∧ wkM z (wkQ lv (fun _ => 0) (Int32.ofNat T) Q) v) → MD (d + 3) z_own 125 [(0, vr 0), (1, vi t), (2, vi m'), (3, vi k), (4, vi (x.1 54 k.toNatClampNeg))] [vi v] S2 z (Dv Fv) := by
        intro n3 n5 n6 z S2 m' v tz s2 z77 e74 m1 m2 em z73 z76 hno hyes
        have o16 : ¬ st.1 < 16 := fun z => n6 (w6.mpr z)
        have o20 : ¬ st.1 = 20 := fun z => n3 (w3.mpr z)
        have o21 : ¬ st.1 = 21 := fun z => n5 (w5.mpr z)
        have fz59 : z.1 59 = x.1 59 := tz.1.2.1 59 (by decide) (by decide)
        refine sd_own_125 _ _ _ _ _ ⟨kv, ?_⟩
        rw [fz59]
        refine ⟨fun e => p153 n3 n5 n6 z S2 m' v tz s2 z77 e74 m1 m2 em z73 z76 (Or.inl (hno e)), fun ne => ⟨(hyes ne).1, fun c => ?_, fun c => ?_⟩⟩
        · obtain ⟨-, Q, hQ, hw⟩ := hyes ne
          rcases hw with ⟨v9, hw, er, -⟩ | ⟨-, e82⟩
          · exact p153 n3 n5 n6 z S2 m' v tz s2 z77 e74 m1 m2 em z73 z76 (Or.inr ⟨Q, hQ, by rw [er]; exact hw⟩)
          · rw [e82] at c; exact absurd c (by decide)
        · obtain ⟨-, Q, hQ, hw⟩ := hyes ne
          rcases hw with ⟨v9, hw, er, e82⟩ | ⟨hw, -⟩
          · rw [e82] at c; exact absurd (by decide) c
          · refine fail z S2 m' _ tz s2 e74 z76 ⟨1, rfl, lift _ ⟨1, set_l hst o16 (by omega) ?_⟩⟩
            by_cases c19 : st.1 = 19
            · exfalso
              exact ne19 c19 ne
            unfold ow1
            rw [if_neg (by omega), if_neg o20, hQ]
            show (match wkQ lv (fun _ => 0) (Int32.ofNat T) Q with | none => _ | some v => _) = _
            rw [hw]
      refine sd_own_2 _ _ ⟨ht, fun c => ?_, fun _ => ⟨ht, ?_⟩⟩
      · rw [← eT] at c; exact absurd q c
      rw [← eT, ← ek]
      refine ⟨kv, fun c6 => out y S1 iy (fun _ => by rw [← ek]; exact c6) ⟨(1, 0, k.toNatClampNeg, lv), lift _ ⟨1, set_act hst (w6.mp (by rw [← f54]; exact c6))⟩, q, Or.inl rfl, q5.2.2, fun c => absurd c (by show ¬ 1 = 2; decide), fun _ => ⟨by rw [← ek]; exact ck.symm, st, hst, hlv⟩⟩, fun c6 => ⟨ht, kv, ?_⟩⟩
      rw [f54] at c6
      rw [f54]
      refine ⟨fun n3 => ⟨fun n5 => ?_, fun e5 => ⟨ht, fun z2 e2 => fin y S1 m z2 i1 i2 q5 ek.symm e2 (lift _ ⟨1, set_l hst (fun z => c6 (w6.mpr z)) (fun z => by have := w5.mp e5; omega) (by unfold ow1; rw [if_pos (Or.inr (w5.mp e5))])⟩)⟩⟩, fun e3 => ⟨kv, ht, fun z2 e2 => ?_⟩⟩
      · have mi : (m + 1).toInt = m.toInt + 1 := by rw [t_add (by omega) (by omega), k1]
        refine ⟨fun c3 => ⟨kv, ?_⟩, fun c3 => fail y S1 (m + 1) _ i1 i2 ek.symm rfl ⟨6, rfl, lift _ ⟨1, set_6 hst (fun z => c6 (w6.mpr z)) ⟨?_, ?_⟩⟩⟩⟩
        rotate_left
        · have a1 : ¬ st.1 = 20 := fun z => n3 (w3.mpr z)
          have a2 : ¬ st.1 = 21 := fun z => n5 (w5.mpr z)
          omega
        · rw [t_le, k300] at c3
          omega
        rw [t_le, k300] at c3
        have a0 : ¬ st.1 < 16 := fun z => c6 (w6.mpr z)
        have a1 : ¬ st.1 = 20 := fun z => n3 (w3.mpr z)
        have a2 : ¬ st.1 = 21 := fun z => n5 (w5.mpr z)
        rw [f59]
        refine ⟨fun ne => ⟨kv, ?_⟩, fun e59 => p125 n3 n5 c6 y S1 (m + 1) 0 i1 i2 q5 ek.symm (by omega) (by omega) mi q rfl (fun _ => ?_) (fun z => absurd e59 z)⟩
        · have n19 : ¬ st.1 = 19 := fun c => ne19 c ne
          obtain ⟨Q, hQ⟩ := ns.2.2.2.2.2.1 (by omega)
          obtain ⟨q1, q2⟩ := ns.2.2.2.2.2.2.2.2.1 Q hQ
          obtain ⟨pw, pm, p8⟩ := ns.2.2.2.2.1
          rw [hQ] at h59
          have h59 : SUm x (x.1 59 k.toNatClampNeg) (Q.map (mQp st.2.1)) := h59
          have f49 : y.1 0 49 = x.1 0 49 := i1.1.1 49 (by decide)
          refine ds_workedf (lv := lv) (cv := fun _ => 0) (SUm_f h59 f49 (f 51 (by decide) (by decide)) (f 52 (by decide) (by decide))) (by rw [f49]; omega) q1 (fun p hp => ?_) (fun r z S2 mz s2 s82 hwk => ?_)
          · obtain ⟨b1, b2, b3⟩ := q2 p hp
            refine ⟨b1, fun c => ?_, fun c => absurd c b3⟩
            have pl := b2 c
            have sm := pm _ (slN_mem pl)
            have m8 : (8 * t).toInt = 8 * t.toInt := by rw [t_mul (by rw [k8]; omega) (by rw [k8]; omega), k8]
            have eo : (Int32.ofNat (slN st.2.1 p.2.1)).toInt = (slN st.2.1 p.2.1 : Nat) := Int32.toInt_ofNat_of_lt (by omega)
            have es : (8 * t + Int32.ofNat (slN st.2.1 p.2.1)).toInt = 8 * t.toInt + (slN st.2.1 p.2.1 : Nat) := by rw [t_add (by omega) (by omega), m8, eo]
            refine ⟨by rw [vp_in_iff, es]; omega, ?_⟩
            have ei : (8 * t + Int32.ofNat (slN st.2.1 p.2.1)).toNatClampNeg = 8 * T + slN st.2.1 p.2.1 := by rw [t_cl, es, tTi]; omega
            rw [ei]
            exact hlv _ pl
          · rw [tT] at hwk
            exact p125 n3 n5 c6 z S2 (m + 1) r (th3_tr i1 (th3_md mz rfl rfl)) (ssub_tr i2 s2) (by unfold q0; rw [mz.2.1 77 (by decide) (by decide), mz.2.1 78 (by decide) (by decide), mz.2.1 75 (by decide) (by decide)]; exact q5) (by rw [mz.2.1 74 (by decide) (by decide)]; exact ek.symm) (by omega) (by omega) mi (by rw [mz.2.1 73 (by decide) (by decide)]; exact q) (mz.2.1 76 (by decide) (by decide)) (fun z => absurd z ne) (fun _ => ⟨s82, Q, hQ, hwk⟩)
        · by_cases n19 : st.1 = 19
          · exact n19
          · exfalso
            obtain ⟨Q, hQ⟩ := ns.2.2.2.2.2.1 (by omega)
            rw [hQ] at h59
            have h59 : SUm x (x.1 59 k.toNatClampNeg) (Q.map (mQp st.2.1)) := h59
            have := h59.1
            rw [e59] at this
            exact absurd this (by decide)
      · rw [f61] at e2
        have gk : gg x k = 1501 - k.toInt := by unfold gg; rw [if_pos e3]
        have tw := sc2 (Or.inr e3)
        have s20 : st.1 = 20 := w3.mp e3
        obtain ⟨n2, st', hto, hs', hsf⟩ := ns.2.2.1 (Or.inr s20)
        have h61' : x.1 61 k.toNatClampNeg = Int32.ofNat n2 := by
          rw [h61]
          unfold mNt
          rw [hto]
          show (if st.1 = 17 ∨ st.1 = 20 then Int32.ofNat n2 else _) = _
          rw [if_pos (Or.inr s20)]
        obtain ⟨l1, l2⟩ := len hs'
        have t0 : 0 ≤ (x.1 61 k.toNatClampNeg).toInt := by rw [h61', l1]; omega
        have how : ow1 (Int32.ofNat T) k.toNatClampNeg st lv = .inr (n2, lv) := by
          unfold ow1
          rw [if_neg (by omega), if_pos s20, hto]
          rfl
        refine to y S1 m _ z2 i1 i2 q5 e2 t0 tw m0 m3 ?_ (onJ m _ n2 z2 st' lv st.2.1 (by rw [e2, si_cell (by decide)]; exact q) (by rw [e2, si_get, if_pos ⟨rfl, rfl⟩]) (by rw [h61']; exact l2) hs' hsf (fun p hp => by rw [e2, si_cell (by decide)]; exact hlv p hp) (fun r hr => ?_))
        rotate_left
        · obtain ⟨n9, hn9⟩ := hr
          refine lift r ⟨n9 + 1, ?_⟩
          rw [set_r hst (by omega) (by omega) how, if_neg (by omega)]
          exact hn9
        rcases go e3 with g | ⟨_, _, g⟩
        · have : gg x (x.1 61 k.toNatClampNeg) ≤ 1501 - (x.1 61 k.toNatClampNeg).toInt := by
            unfold gg
            split <;> omega
          omega
        · have : gg x (x.1 61 k.toNatClampNeg) = 0 := by
            unfold gg
            rw [if_neg (by rw [g]; decide)]
          omega
  refine sd_own_0 _ (loop ((300 - 0) * 3001 + gg x (x.1 74 T) + 1).toNat x S 0 ⟨th3_rf T x, ssub_rf S, ha, h1, hw.1, hw.2.1, fun _ => hw.2.2⟩ (by decide) (by decide) (fun _ => Int.self_le_toNat _) ?_)
  rw [eJ]
  refine Or.inl ⟨hg, st0, lv0, hst0, hlv0, fun r hr => ?_⟩
  rw [eG0]
  exact hr
end DOG
end
