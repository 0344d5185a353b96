/-! sums are worked: what comes of them -/
def biQ (k a b : Int32) : Option Int32 :=
  if k = 30 then some (if a = 0 then (if b = 0 then 0 else 1) else 1)
  else if k = 12 then some (if a = 0 then 0 else if b = 0 then 0 else 1)
  else if k = 51 then some (if a = b then 1 else 0)
  else if k = 52 then some (if a = b then 0 else 1)
  else if k = 53 then some (if b ≤ a then 0 else 1)
  else if k = 54 then some (if b < a then 0 else 1)
  else if k = 55 then some (if a ≤ b then 0 else 1)
  else if k = 56 then some (if a < b then 0 else 1)
  else if k = 57 then some (a + b)
  else if k = 58 then some (a - b)
  else if k = 59 then some (a * b)
  else if b = 0 then none
  else if k = 60 then some (a / b) else some (a - a / b * b)
def unQ (k a : Int32) : Int32 := if k = 29 then (if a = 0 then 1 else 0) else -a
/-- the values, the latest first; none: a division by 0 -/
def evQ (lv : Nat → Int32) (cv : Int32 → Int32) (me : Int32) : List gQ → List Int32 → Option (List Int32)
  | [], s => some s
  | q :: Q, s =>
    if q.1 = 1 then evQ lv cv me Q (q.2.2 :: s)
    else if q.1 = 2 then evQ lv cv me Q (lv q.2.1 :: s)
    else if q.1 = 3 then evQ lv cv me Q (me :: s)
    else if q.1 = 4 then evQ lv cv me Q (cv q.2.2 :: s)
    else if q.1 = 5 then evQ lv cv me Q (unQ q.2.2 (s.headD 0) :: s.tail)
    else match biQ q.2.2 (s.tail.headD 0) (s.headD 0) with
      | some r => evQ lv cv me Q (r :: s.tail.tail)
      | none => none
def wkQ (lv : Nat → Int32) (cv : Int32 → Int32) (me : Int32) (Q : List gQ) : Option Int32 := (evQ lv cv me Q []).map (fun s => s.headD 0)
/-- how high the values stand -/
def okQ : List gQ → Nat → Prop
  | [], h => h = 1
  | q :: Q, h => if q.1 = 5 then 1 ≤ h ∧ okQ Q h else if q.1 = 6 then 2 ≤ h ∧ okQ Q (h - 1) else h < 40 ∧ okQ Q (h + 1)
def qOk (q : gQ) : Prop := (1 ≤ q.1 ∧ q.1 ≤ 6) ∧ (q.1 = 5 → q.2.2 = 29 ∨ q.2.2 = 58) ∧ (q.1 = 6 → ¬ pst q.2.2 = 0)
/-- values stand in a row, the latest on top -/
def STK (a : Nat → Int32) : List Int32 → Prop
  | [] => True
  | v :: s => a s.length = v ∧ STK a s
section PWK
variable {lv : Nat → Int32} {cv : Int32 → Int32} {me : Int32} {Q : List gQ} {q : gQ} {s : List Int32} {a a' : Nat → Int32} {h : Nat} {sN : Nat → Nat → Bool} {T : gTd} {V K : Nat → Int32} {ks : gK} {N : gU}
theorem STK_eq : ∀ {s : List Int32}, (∀ i, i < s.length → a' i = a i) → STK a s → STK a' s := by
  intro s
  induction s with
  | nil => intro _ _; trivial
  | cons v s ih => intro e h; exact ⟨(e s.length (Nat.lt_succ_self _)).trans h.1, ih (fun i hi => e i (Nat.lt_succ_of_lt hi)) h.2⟩
theorem ev_1 (c : q.1 = 1) : evQ lv cv me (q :: Q) s = evQ lv cv me Q (q.2.2 :: s) := by rw [evQ, if_pos c]
theorem ev_2 (c : q.1 = 2) : evQ lv cv me (q :: Q) s = evQ lv cv me Q (lv q.2.1 :: s) := by rw [evQ, if_neg (by omega), if_pos c]
theorem ev_3 (c : q.1 = 3) : evQ lv cv me (q :: Q) s = evQ lv cv me Q (me :: s) := by rw [evQ, if_neg (by omega), if_neg (by omega), if_pos c]
theorem ev_4 (c : q.1 = 4) : evQ lv cv me (q :: Q) s = evQ lv cv me Q (cv q.2.2 :: s) := by rw [evQ, if_neg (by omega), if_neg (by omega), if_neg (by omega), if_pos c]
theorem ev_5 (c : q.1 = 5) {v : Int32} : evQ lv cv me (q :: Q) (v :: s) = evQ lv cv me Q (unQ q.2.2 v :: s) := by
  rw [evQ, if_neg (by omega), if_neg (by omega), if_neg (by omega), if_neg (by omega), if_pos c]; rfl
theorem ev_6 (c : q.1 = 6) {v u r : Int32} (hb : biQ q.2.2 u v = some r) : evQ lv cv me (q :: Q) (v :: u :: s) = evQ lv cv me Q (r :: s) := by
  rw [evQ, if_neg (by omega), if_neg (by omega), if_neg (by omega), if_neg (by omega), if_neg (by omega)]
  show (match biQ q.2.2 u v with | some r => evQ lv cv me Q (r :: s) | none => none) = _
  rw [hb]
theorem ev_6n (c : q.1 = 6) {v u : Int32} (hb : biQ q.2.2 u v = none) : evQ lv cv me (q :: Q) (v :: u :: s) = none := by
  rw [evQ, if_neg (by omega), if_neg (by omega), if_neg (by omega), if_neg (by omega), if_neg (by omega)]
  show (match biQ q.2.2 u v with | some r => evQ lv cv me Q (r :: s) | none => none) = _
  rw [hb]
theorem okQ_p (h1 : okQ (q :: Q) h) (c : 1 ≤ q.1 ∧ q.1 ≤ 4) : h < 40 ∧ okQ Q (h + 1) := by
  rw [okQ, if_neg (by omega), if_neg (by omega)] at h1
  exact h1
theorem okQ_5 (h1 : okQ (q :: Q) h) (c : q.1 = 5) : 1 ≤ h ∧ okQ Q h := by
  rw [okQ, if_pos c] at h1
  exact h1
theorem okQ_6 (h1 : okQ (q :: Q) h) (c : q.1 = 6) : 2 ≤ h ∧ okQ Q (h - 1) := by
  rw [okQ, if_neg (by omega), if_pos c] at h1
  exact h1
/-- the pieces of a text's sum -/
theorem nQ_ok {o : Bool} : ∀ {N : gU} {h : Nat}, sEv o N → okE N h → okQ (nQs sN T V K ks N) h := by
  intro N
  induction N with
  | nil => intro h _ g; exact g
  | cons v N ih =>
    intro h hs g
    have ih := fun h' g' => ih (h := h') (fun u hu => hs u (List.mem_cons_of_mem _ hu)) g'
    obtain ⟨k, i, j⟩ := v
    rw [okE] at g
    rcases hs _ List.mem_cons_self with e | e | e | e | ⟨-, e⟩ | ⟨-, e | e | e⟩
    · have e : k = 50 := e
      subst e
      rw [if_neg (show ¬ 50 = 7 by decide), if_pos rfl] at g
      show okQ ((5, 0, K i) :: nQs sN T V K ks N) h
      rw [okQ, if_pos rfl]
      exact ⟨g.1, ih _ g.2⟩
    · have e : k = 51 := e
      subst e
      rw [if_neg (show ¬ 51 = 7 by decide), if_neg (show ¬ 51 = 50 by decide), if_pos rfl] at g
      show okQ ((6, 0, K i) :: nQs sN T V K ks N) h
      rw [okQ, if_neg (show ¬ 6 = 5 by decide), if_pos rfl]
      exact ⟨g.1, ih _ g.2⟩
    · have e : k = 52 := e
      subst e
      rw [if_neg (show ¬ 52 = 7 by decide), if_neg (show ¬ 52 = 50 by decide), if_neg (show ¬ 52 = 51 by decide)] at g
      show okQ ((1, 0, V i) :: nQs sN T V K ks N) h
      rw [okQ, if_neg (show ¬ 1 = 5 by decide), if_neg (show ¬ 1 = 6 by decide)]
      exact ⟨g.1, ih _ g.2⟩
    · have e : k = 53 := e
      subst e
      rw [if_neg (show ¬ 53 = 7 by decide), if_neg (show ¬ 53 = 50 by decide), if_neg (show ¬ 53 = 51 by decide)] at g
      show okQ ((3, 0, 0) :: nQs sN T V K ks N) h
      rw [okQ, if_neg (show ¬ 3 = 5 by decide), if_neg (show ¬ 3 = 6 by decide)]
      exact ⟨g.1, ih _ g.2⟩
    · have e : k = 3 := e
      subst e
      rw [if_neg (show ¬ 3 = 7 by decide), if_neg (show ¬ 3 = 50 by decide), if_neg (show ¬ 3 = 51 by decide)] at g
      show okQ ((2, (kfi sN ks i).getD 0, 0) :: nQs sN T V K ks N) h
      rw [okQ, if_neg (show ¬ 2 = 5 by decide), if_neg (show ¬ 2 = 6 by decide)]
      exact ⟨g.1, ih _ g.2⟩
    · have e : k = 6 := e
      subst e
      rw [if_neg (show ¬ 6 = 7 by decide), if_neg (show ¬ 6 = 50 by decide), if_neg (show ¬ 6 = 51 by decide)] at g
      show okQ ((4, 0, Int32.ofNat (nmT sN 0 i T)) :: nQs sN T V K ks N) h
      rw [okQ, if_neg (show ¬ 4 = 5 by decide), if_neg (show ¬ 4 = 6 by decide)]
      exact ⟨g.1, ih _ g.2⟩
    · have e : k = 7 := e
      subst e
      rw [if_pos rfl] at g
      exact ih _ g
    · have e : k = 12 := e
      subst e
      rw [if_neg (show ¬ 12 = 7 by decide), if_neg (show ¬ 12 = 50 by decide), if_neg (show ¬ 12 = 51 by decide)] at g
      show okQ ((4, 0, Int32.ofNat (nmT sN 0 j T) + V i) :: nQs sN T V K ks N) h
      rw [okQ, if_neg (show ¬ 4 = 5 by decide), if_neg (show ¬ 4 = 6 by decide)]
      exact ⟨g.1, ih _ g.2⟩
/-- each of them: what it is; a local is known -/
theorem nQ_q {o : Bool} (hs : sEv o N) (hv : ∀ v ∈ N, sVv K v) (hk : ∀ v ∈ N, v.1 = 3 → ∃ p, kfi sN ks v.2.1 = some p) : ∀ q ∈ nQs sN T V K ks N, qOk q ∧ (q.1 = 2 → q.2.1 < ks.length) ∧ (o = false → ¬ q.1 = 4) := by
  intro q hq
  obtain ⟨v, hm, e⟩ := List.mem_filterMap.mp hq
  obtain ⟨h50, h51, -⟩ := hv v hm
  have h3 := hk v hm
  obtain ⟨k, i, j⟩ := v
  rcases hs _ hm with e9 | e9 | e9 | e9 | ⟨-, e9⟩ | ⟨ho, e9 | e9 | e9⟩
  · have e9 : k = 50 := e9
    subst e9
    cases Option.some.inj e
    exact ⟨⟨⟨Nat.le_of_ble_eq_true rfl, Nat.le_of_ble_eq_true rfl⟩, fun _ => h50 rfl, fun z => absurd z (show ¬ 5 = 6 by decide)⟩, fun z => absurd z (show ¬ 5 = 2 by decide), fun _ => show ¬ 5 = 4 by decide⟩
  · have e9 : k = 51 := e9
    subst e9
    cases Option.some.inj e
    exact ⟨⟨⟨Nat.le_of_ble_eq_true rfl, Nat.le_of_ble_eq_true rfl⟩, fun z => absurd z (show ¬ 6 = 5 by decide), fun _ => h51 rfl⟩, fun z => absurd z (show ¬ 6 = 2 by decide), fun _ => show ¬ 6 = 4 by decide⟩
  · have e9 : k = 52 := e9
    subst e9
    cases Option.some.inj e
    exact ⟨⟨⟨Nat.le_of_ble_eq_true rfl, Nat.le_of_ble_eq_true rfl⟩, fun z => absurd z (show ¬ 1 = 5 by decide), fun z => absurd z (show ¬ 1 = 6 by decide)⟩, fun z => absurd z (show ¬ 1 = 2 by decide), fun _ => show ¬ 1 = 4 by decide⟩
  · have e9 : k = 53 := e9
    subst e9
    cases Option.some.inj e
    exact ⟨⟨⟨Nat.le_of_ble_eq_true rfl, Nat.le_of_ble_eq_true rfl⟩, fun z => absurd z (show ¬ 3 = 5 by decide), fun z => absurd z (show ¬ 3 = 6 by decide)⟩, fun z => absurd z (show ¬ 3 = 2 by decide), fun _ => show ¬ 3 = 4 by decide⟩
  · have e9 : k = 3 := e9
    subst e9
    cases Option.some.inj e
    refine ⟨⟨⟨Nat.le_of_ble_eq_true rfl, Nat.le_of_ble_eq_true rfl⟩, fun z => absurd z (show ¬ 2 = 5 by decide), fun z => absurd z (show ¬ 2 = 6 by decide)⟩, fun _ => ?_, fun _ => show ¬ 2 = 4 by decide⟩
    obtain ⟨p, hp⟩ := h3 rfl
    have hp : kfi sN ks i = some p := hp
    show (kfi sN ks i).getD 0 < ks.length
    rw [hp]
    exact kfi_lt hp
  · have e9 : k = 6 := e9
    subst e9
    cases Option.some.inj e
    exact ⟨⟨⟨Nat.le_of_ble_eq_true rfl, Nat.le_of_ble_eq_true rfl⟩, fun z => absurd z (show ¬ 4 = 5 by decide), fun z => absurd z (show ¬ 4 = 6 by decide)⟩, fun z => absurd z (show ¬ 4 = 2 by decide), fun z => absurd (ho.symm.trans z) (by decide)⟩
  · have e9 : k = 7 := e9
    subst e9
    cases e
  · have e9 : k = 12 := e9
    subst e9
    cases Option.some.inj e
    exact ⟨⟨⟨Nat.le_of_ble_eq_true rfl, Nat.le_of_ble_eq_true rfl⟩, fun z => absurd z (show ¬ 4 = 5 by decide), fun z => absurd z (show ¬ 4 = 6 by decide)⟩, fun z => absurd z (show ¬ 4 = 2 by decide), fun z => absurd (ho.symm.trans z) (by decide)⟩
end PWK
