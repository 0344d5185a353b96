/-! the code in numbers, as both sides hold it: the model's side -/
abbrev gQ := Nat × Nat × Int32
/-- op, slots known, next slot, where to, object, row, flag, index, first, second sum -/
abbrev gNs := Nat × List Nat × Nat × Option Nat × Int32 × Int32 × Bool × Option (List gQ) × Option (List gQ) × Option (List gQ)
/-- steps, threads, cells, always, finally -/
abbrev gCo := List gNs × List (Nat × Nat) × List (Int32 × Bool) × List (List gQ) × List (List gQ)
def nQt (sN : Nat → Nat → Bool) (T : gTd) (V K : Nat → Int32) (ks : gK) (v : Nat × Nat × Nat) : Option gQ :=
  if v.1 = 52 then some (1, 0, V v.2.1)
  else if v.1 = 53 then some (3, 0, 0)
  else if v.1 = 3 then some (2, (kfi sN ks v.2.1).getD 0, 0)
  else if v.1 = 6 then some (4, 0, Int32.ofNat (nmT sN 0 v.2.1 T))
  else if v.1 = 12 then some (4, 0, Int32.ofNat (nmT sN 0 v.2.2 T) + V v.2.1)
  else if v.1 = 50 then some (5, 0, K v.2.1)
  else if v.1 = 51 then some (6, 0, K v.2.1)
  else none
def nQs (sN : Nat → Nat → Bool) (T : gTd) (V K : Nat → Int32) (ks : gK) (N : gU) : List gQ := N.filterMap (nQt sN T V K ks)
def nStp (sN : Nat → Nat → Bool) (T : gTd) (V K : Nat → Int32) (st : gSt) : gNs := (st.1, slK st.2.2.1.1, st.2.2.1.2, st.2.2.2.1, mOf sN T V st, mSz sN T st, st.2.2.2.2.2.1, st.2.2.2.2.2.2.1.map (nQs sN T V K st.2.2.1.1), st.2.2.2.2.2.2.2.1.map (nQs sN T V K st.2.2.1.1), st.2.2.2.2.2.2.2.2.map (nQs sN T V K st.2.2.1.1))
def codN (sN : Nat → Nat → Bool) (V K : Nat → Int32) (L : gU) : gCo := ((cds sN K L cd0).2.1.map (nStp sN (L.filterMap (te1 K V)) V K), (cds sN K L cd0).2.2.2.2.1, cel K V L, (clF 35 (cds sN K L cd0).2.2.2.2.2).map (nQs sN (L.filterMap (te1 K V)) V K []), (clF 36 (cds sN K L cd0).2.2.2.2.2).map (nQs sN (L.filterMap (te1 K V)) V K []))
/-- the slot of the local at a place -/
def slN : List Nat → Nat → Nat
  | [], _ => 0
  | s :: r, p => if p = r.length then s else slN r p
def kmN : List Nat → Int32
  | [] => 0
  | s :: r => kmN r ||| (1 <<< (Int32.ofNat s &&& 31))
def mQp (sl : List Nat) (q : gQ) : Int32 × Int32 := if q.1 = 2 then (2, Int32.ofNat (slN sl q.2.1)) else (Int32.ofNat q.1, q.2.2)
def mNs (w : gd) (sl : List Nat) (v : Int32) : Option (List gQ) → Prop
  | none => v = -1
  | some Q => SUm w v (Q.map (mQp sl))
def mNt (st : gNs) : Int32 := match st.2.2.2.1 with
  | none => -1
  | some n => if st.1 = 17 ∨ st.1 = 20 then Int32.ofNat n else Int32.ofNat (if n = st.2.1.length then st.2.2.1 else slN st.2.1 n)
def mN (w : gd) (j : Nat) (st : gNs) : Prop := w.1 54 j = mWh st.1 ∧ (st.1 < 16 → w.1 55 j = Int32.ofNat st.1) ∧ w.1 56 j = st.2.2.2.2.1 ∧ w.1 57 j = st.2.2.2.2.2.1 ∧ mNs w st.2.1 (w.1 58 j) st.2.2.2.2.2.2.2.1 ∧ mNs w st.2.1 (w.1 59 j) st.2.2.2.2.2.2.2.2.1 ∧ mNs w st.2.1 (w.1 60 j) st.2.2.2.2.2.2.2.2.2 ∧ w.1 61 j = mNt st ∧ w.1 62 j = kmN st.2.1
def MK (w : gd) (C : gCo) : Prop := ((w.1 0 52).toInt = C.1.length ∧ ∀ j st, C.1[j]? = some st → mN w j st) ∧ ((w.1 0 25).toInt = C.2.1.length ∧ ∀ (t : Nat) (q : Nat × Nat), C.2.1[t]? = some q → (w.1 64 t).toInt = q.1 ∧ w.1 38 t = Int32.ofNat q.2) ∧ ((w.1 0 23).toInt = C.2.2.1.length ∧ ∀ j q, C.2.2.1[j]? = some q → w.1 36 j = q.1 ∧ w.1 37 j = if q.2 = true then 1 else 0) ∧ (∀ k Q, C.2.2.2.1[k]? = some Q → SUm w (w.1 65 k) (Q.map (mQp []))) ∧ ∀ k Q, C.2.2.2.2[k]? = some Q → SUm w (w.1 66 k) (Q.map (mQp []))
section CNM
variable {sN : Nat → Nat → Bool} {T : gTd} {V K : Nat → Int32} {w : gd} {L N : gU} {ks : gK} {v : Nat × Nat × Nat} {st : gSt}
theorem slt_N : ∀ {ks : gK} {p : Nat}, slt ks p = slN (slK ks) p := by
  intro ks
  induction ks with
  | nil => intro p; rfl
  | cons k ks ih =>
    intro p
    show (if p = ks.length then k.2 else slt ks p) = if p = (slK ks).length then k.2 else slN (slK ks) p
    rw [ih, show (slK ks).length = ks.length from List.length_map _]
theorem kms_N : ∀ {ks : gK}, kms ks = kmN (slK ks) := by
  intro ks
  induction ks with
  | nil => rfl
  | cons k ks ih =>
    show kms ks ||| _ = kmN (slK ks) ||| _
    rw [ih]
theorem nPt_N : nPt sN T V K ks v = (nQt sN T V K ks v).map (mQp (slK ks)) := by
  unfold nPt nQt
  split
  · rfl
  · split
    · rfl
    · split
      · show some (2, Int32.ofNat (slt ks _)) = some (2, Int32.ofNat (slN (slK ks) _))
        rw [slt_N]
      · split
        · rfl
        · split
          · rfl
          · split
            · rfl
            · split
              · rfl
              · rfl
theorem nPs_N : nPs sN T V K ks N = (nQs sN T V K ks N).map (mQp (slK ks)) := by
  unfold nPs nQs
  rw [List.map_filterMap]
  congr 1
  funext v
  exact nPt_N
theorem mSu_N {r : Int32} {o : Option gU} (h : mSu sN T V K w ks r o) : mNs w (slK ks) r (o.map (nQs sN T V K ks)) := by
  cases o with
  | none => exact h
  | some N =>
    have h : SUm w r (nPs sN T V K ks N) := h
    rw [nPs_N] at h
    exact h
theorem mTo_N : mTo st = mNt (nStp sN T V K st) := by
  unfold mTo mNt
  show (match st.2.2.2.1 with | none => (-1 : Int32) | some n => if st.1 = 17 ∨ st.1 = 20 then Int32.ofNat n else Int32.ofNat (slP st.2.2.1 n)) = match st.2.2.2.1 with | none => (-1 : Int32) | some n => if st.1 = 17 ∨ st.1 = 20 then Int32.ofNat n else Int32.ofNat (if n = (slK st.2.2.1.1).length then st.2.2.1.2 else slN (slK st.2.2.1.1) n)
  cases st.2.2.2.1 with
  | none => rfl
  | some n =>
    show (if st.1 = 17 ∨ st.1 = 20 then Int32.ofNat n else Int32.ofNat (if n = st.2.2.1.1.length then st.2.2.1.2 else slt st.2.2.1.1 n)) = if st.1 = 17 ∨ st.1 = 20 then Int32.ofNat n else Int32.ofNat (if n = (slK st.2.2.1.1).length then st.2.2.1.2 else slN (slK st.2.2.1.1) n)
    rw [slt_N, show (slK st.2.2.1.1).length = st.2.2.1.1.length from List.length_map _]
theorem MCo_MK (h : MCo sN V K L w) : MK w (codN sN V K L) := by
  obtain ⟨⟨h1, h1'⟩, h2, h3, h4, h5⟩ := h
  refine ⟨⟨by rw [h1]; show _ = (((cds sN K L cd0).2.1.map _).length : Int); rw [List.length_map], fun j st hj => ?_⟩, h2, h3, fun k Q hQ => ?_, fun k Q hQ => ?_⟩
  · have hj : ((cds sN K L cd0).2.1.map (nStp sN (L.filterMap (te1 K V)) V K))[j]? = some st := hj
    rw [List.getElem?_map] at hj
    obtain ⟨s0, g0, e⟩ := Option.map_eq_some_iff.mp hj
    subst e
    obtain ⟨a1, a2, a3, a4, a5, a6, a7, a8, a9⟩ := h1' j s0 g0
    exact ⟨a1, a2, a3, a4, mSu_N a5, mSu_N a6, mSu_N a7, by rw [a8]; exact mTo_N, by rw [a9]; exact kms_N⟩
  · have hQ : ((clF 35 (cds sN K L cd0).2.2.2.2.2).map (nQs sN (L.filterMap (te1 K V)) V K []))[k]? = some Q := hQ
    rw [List.getElem?_map] at hQ
    obtain ⟨N, g0, e⟩ := Option.map_eq_some_iff.mp hQ
    subst e
    have a := h4 k N g0
    rw [nPs_N] at a
    exact a
  · have hQ : ((clF 36 (cds sN K L cd0).2.2.2.2.2).map (nQs sN (L.filterMap (te1 K V)) V K []))[k]? = some Q := hQ
    rw [List.getElem?_map] at hQ
    obtain ⟨N, g0, e⟩ := Option.map_eq_some_iff.mp hQ
    subst e
    have a := h5 k N g0
    rw [nPs_N] at a
    exact a
end CNM
