/-! the code in numbers: what it is like -/
def aftN (st : gNs) : List Nat := if (st.1 = 0 ∨ (2 ≤ st.1 ∧ st.1 ≤ 4) ∨ st.1 = 16) ∧ st.2.2.2.1 = some st.2.1.length then st.2.2.1 :: st.2.1 else st.2.1
def sQo (sl : List Nat) (o : Option (List gQ)) : Prop := ∀ Q, o = some Q → okQ Q 0 ∧ ∀ q ∈ Q, qOk q ∧ (q.1 = 2 → q.2.1 < sl.length) ∧ ¬ q.1 = 4
def NS (S : List gNs) (j : Nat) (st : gNs) : Prop :=
  (st.1 < 22 ∧ ¬ st.1 = 15) ∧
  (¬ (st.1 = 20 ∨ st.1 = 21) → ∃ st', S[j + 1]? = some st' ∧ st'.2.1 <:+ aftN st) ∧
  (st.1 = 17 ∨ st.1 = 20 → ∃ n st', st.2.2.2.1 = some n ∧ S[n]? = some st' ∧ st'.2.1 <:+ st.2.1) ∧
  ((st.1 = 0 ∨ (2 ≤ st.1 ∧ st.1 ≤ 4) ∨ st.1 = 16) → ∃ p, st.2.2.2.1 = some p ∧ (p < st.2.1.length ∨ (p = st.2.1.length ∧ st.2.2.1 < 8))) ∧
  (st.2.1.Pairwise (fun a b => b < a) ∧ (∀ s ∈ st.2.1, s < st.2.2.1) ∧ st.2.2.1 ≤ 8) ∧
  ((1 ≤ st.1 ∧ st.1 ≤ 4) ∨ st.1 = 13 ∨ st.1 = 14 ∨ (16 ≤ st.1 ∧ st.1 ≤ 18) → ∃ Q, st.2.2.2.2.2.2.2.2.1 = some Q) ∧
  (st.1 = 4 → ∃ Q, st.2.2.2.2.2.2.2.2.2 = some Q) ∧
  sQo st.2.1 st.2.2.2.2.2.2.2.1 ∧ sQo st.2.1 st.2.2.2.2.2.2.2.2.1 ∧ sQo st.2.1 st.2.2.2.2.2.2.2.2.2 ∧ (19 ≤ st.1 → st.2.2.2.2.2.2.2.2.1 = none)
def NC (C : gCo) : Prop := (∀ j st, C.1[j]? = some st → NS C.1 j st) ∧ (∀ q ∈ C.2.1, (∃ st, C.1[q.1]? = some st ∧ st.2.1 = []) ∧ q.2 ≤ 1) ∧ ∀ Q, Q ∈ C.2.2.2.1 ∨ Q ∈ C.2.2.2.2 → okQ Q 0 ∧ ∀ q ∈ Q, qOk q ∧ ¬ q.1 = 2
section CNW
variable {sN : Nat → Nat → Bool} {T : gTd} {V K : Nat → Int32} {L : gU} {st : gSt} {P : Nat × Nat × Nat → Prop} {E : gV}
theorem slK_len {ks : gK} : (slK ks).length = ks.length := List.length_map _
theorem aft_N : aftN (nStp sN T V K st) = aft st := by
  show (if (st.1 = 0 ∨ (2 ≤ st.1 ∧ st.1 ≤ 4) ∨ st.1 = 16) ∧ st.2.2.2.1 = some (slK st.2.2.1.1).length then st.2.2.1.2 :: slK st.2.2.1.1 else slK st.2.2.1.1) = aft st
  rw [slK_len]
  rfl
theorem sQo_of {ks : gK} {o : Option gU} (ek : ks = E.1) (h : sOo sN K E o) : sQo (slK ks) (o.map (nQs sN T V K ks)) := fun Q hQ => by
  obtain ⟨N, g0, e⟩ := Option.map_eq_some_iff.mp hQ
  subst e
  obtain ⟨q1, q2, q3, q4⟩ := h N g0
  refine ⟨nQ_ok q1 q3, fun q hq => ?_⟩
  obtain ⟨a, b, c⟩ := nQ_q q1 q2 (fun v hv h3 => by rw [ek]; exact q4 v hv h3) q hq
  exact ⟨a, fun z => by rw [slK_len]; exact b z, c rfl⟩
theorem NC_of (h : WC sN K P (cds sN K L cd0)) : NC (codN sN V K L) := by
  obtain ⟨E, S, r, b, l, ec, -, -, w1, w2, w3⟩ := h
  have e1 : (cds sN K L cd0).2.1 = S := by rw [ec]
  have e2 : (cds sN K L cd0).2.2.2.2.1 = b := by rw [ec]
  have e3 : (cds sN K L cd0).2.2.2.2.2 = l := by rw [ec]
  unfold codN
  rw [e1, e2, e3]
  generalize L.filterMap (te1 K V) = T
  have at' : ∀ {j : Nat} {s : gSt}, S[j]? = some s → (S.map (nStp sN T V K))[j]? = some (nStp sN T V K s) := fun {j s} hj => by rw [List.getElem?_map, hj]; rfl
  have cl : ∀ {u : Nat} {Q : List gQ}, Q ∈ (clF u l).map (nQs sN T V K []) → okQ Q 0 ∧ ∀ q ∈ Q, qOk q ∧ ¬ q.1 = 2 := fun {u Q} hQ => by
    obtain ⟨N, hN, e⟩ := List.mem_map.mp hQ
    subst e
    obtain ⟨q, hq, e9⟩ := List.mem_filterMap.mp hN
    have e9 : q.2 = N := by
      split at e9
      · exact Option.some.inj e9
      · exact absurd e9 (by simp)
    obtain ⟨⟨z1, z2, z3, -⟩, -⟩ := w3 q hq
    rw [e9] at z1 z2 z3
    refine ⟨nQ_ok z1 z3, fun q hq => ?_⟩
    obtain ⟨a, b, -⟩ := nQ_q z1 z2 (fun v hv h3 => by
      rcases z1 v hv with e | e | e | e | ⟨e, -⟩ | ⟨-, e | e | e⟩
      · omega
      · omega
      · omega
      · omega
      · cases e
      · omega
      · omega
      · omega) q hq
    exact ⟨a, fun z => absurd (b z) (Nat.not_lt_zero _)⟩
  refine ⟨fun j st hj => ?_, fun q hq => ?_, fun Q hQ => hQ.elim (fun z => cl z) (fun z => cl z)⟩
  · have hj : (S.map (nStp sN T V K))[j]? = some st := hj
    rw [List.getElem?_map] at hj
    obtain ⟨s0, g0, e⟩ := Option.map_eq_some_iff.mp hj
    subst e
    obtain ⟨⟨f1, f2⟩, E0, ⟨q1, q2, q3, q4, q5, q5', q6, q7, q8, q9, so0, so1, so2⟩, ge⟩ := w1 j s0 g0
    have ek : s0.2.2.1.1 = E0.1 := by rw [q1]
    have en : s0.2.2.1.2 = E0.2.2 := by rw [q1]
    refine ⟨q2, fun c => ?_, fun c => ?_, fun c => ?_, ?_, fun c => ?_, fun c => ?_, sQo_of ek so0, sQo_of ek so1, sQo_of ek so2.1, fun c => by show s0.2.2.2.2.2.2.2.1.map _ = none; rw [so2.2.1 c]; rfl⟩
    · obtain ⟨s', a1, a2⟩ := f1 c
      exact ⟨_, at' a1, by rw [aft_N]; exact a2⟩
    · obtain ⟨n, s', a0, a1, a2⟩ := f2 c
      exact ⟨n, _, a0, at' a1, a2⟩
    · obtain ⟨p, a1, a2⟩ := q3 c
      refine ⟨p, a1, ?_⟩
      show p < (slK s0.2.2.1.1).length ∨ (p = (slK s0.2.2.1.1).length ∧ s0.2.2.1.2 < 8)
      rw [slK_len, ek, en]
      exact a2
    · show (slK s0.2.2.1.1).Pairwise _ ∧ (∀ s ∈ slK s0.2.2.1.1, s < s0.2.2.1.2) ∧ s0.2.2.1.2 ≤ 8
      rw [ek, en]
      exact ge
    · have := q8 c
      cases h9 : s0.2.2.2.2.2.2.2.1 with
      | none => exact absurd h9 this
      | some N => exact ⟨_, by show s0.2.2.2.2.2.2.2.1.map _ = _; rw [h9]; rfl⟩
    · have := q9 c
      cases h9 : s0.2.2.2.2.2.2.2.2 with
      | none => exact absurd h9 this
      | some N => exact ⟨_, by show s0.2.2.2.2.2.2.2.2.map _ = _; rw [h9]; rfl⟩
  · obtain ⟨⟨s, s1, s2⟩, a⟩ := w2 q hq
    exact ⟨⟨_, at' s1, by show slK s.2.2.1.1 = []; rw [s2]; rfl⟩, a⟩
/-- what belongs where -/
def NX2 (C : gCo) : Prop := ∀ (j : Nat) (st : gNs), C.1[j]? = some st → (¬ st.2.2.2.2.2.2.2.1 = none → st.1 ≤ 4) ∧ (¬ st.2.2.2.2.2.2.2.2.2 = none → st.1 = 4) ∧ (¬ st.2.2.2.2.2.2.2.2.1 = none → (1 ≤ st.1 ∧ st.1 ≤ 4) ∨ st.1 = 13 ∨ st.1 = 14 ∨ (16 ≤ st.1 ∧ st.1 ≤ 18)) ∧ (st.1 = 8 → st.2.2.2.2.2.1 = if st.2.2.2.2.2.2.1 = true then 1 else 0) ∧ (¬ (st.1 = 0 ∨ (2 ≤ st.1 ∧ st.1 ≤ 4) ∨ st.1 = 16 ∨ st.1 = 17 ∨ st.1 = 20) → st.2.2.2.1 = none)
theorem NX2_of (h : WC sN K P (cds sN K L cd0)) : NX2 (codN sN V K L) := by
  obtain ⟨E, S, r, b, l, ec, -, -, w1, w2, w3⟩ := h
  have e1 : (cds sN K L cd0).2.1 = S := by rw [ec]
  intro j st hj
  unfold codN at hj
  rw [e1] at hj
  generalize L.filterMap (te1 K V) = T at hj
  have hj : (S.map (nStp sN T V K))[j]? = some st := hj
  rw [List.getElem?_map] at hj
  obtain ⟨s0, g0, e⟩ := Option.map_eq_some_iff.mp hj
  subst e
  obtain ⟨-, E0, ⟨q1, q2, q3, q4, q5, q5', q6, q7, q8, q9, so0, so1, so2, q10, n1, n2, n3⟩, -⟩ := w1 j s0 g0
  refine ⟨fun c => ?_, fun c => ?_, fun c => ?_, fun c => ?_, n3⟩
  · rcases Nat.lt_or_ge 4 s0.1 with c5 | c5
    · exact absurd (show s0.2.2.2.2.2.2.1.map _ = none by rw [q7 c5]; rfl) c
    · exact c5
  · rcases Decidable.em (s0.1 = 4) with c5 | c5
    · exact c5
    · exact absurd (show s0.2.2.2.2.2.2.2.2.map _ = none by rw [n1 c5]; rfl) c
  · rcases Decidable.em ((1 ≤ s0.1 ∧ s0.1 ≤ 4) ∨ s0.1 = 13 ∨ s0.1 = 14 ∨ (16 ≤ s0.1 ∧ s0.1 ≤ 18)) with c5 | c5
    · exact c5
    · exact absurd (show s0.2.2.2.2.2.2.2.1.map _ = none by rw [n2 c5]; rfl) c
  · have c : s0.1 = 8 := c
    show mSz sN T s0 = if s0.2.2.2.2.2.1 = true then 1 else 0
    unfold mSz
    rw [if_neg (show ¬ s0.1 ≤ 4 by omega)]
end CNW
