/-! the model: a row is kept just where the state is -/
section MKP
variable {y b : gd} {A : Nat → gd} {C : gCo} {M : gMa} {T : gTy} {nl s : Nat}
theorem row_kept (hN : NC C) (l24 : C.2.2.1.length ≤ 24) (l6 : C.2.1.length ≤ 6) (n6 : nl ≤ 6) (hA : ∀ s p, T.1[s]? = some p → MM1 (A s) C p.1 ∧ MCn C nl p.1 ∧ NBm p.1) (hrow : ∀ s, s < T.1.length → ∀ i, i < 222 → y.1 133 (240 * s + i) = pv (A s) i) (hb : MM1 b C M) (mc : MCn C nl M) (nb : NBm M) (l8 : ∀ t, t < 6 → (b.1 80 t).toInt ≤ 8) (hs : s < T.1.length) : (∀ i, i < 222 → y.1 133 (240 * s + i) = pv b i) ↔ ∃ p, T.1[s]? = some p ∧ p.1 = M := by
  have hg := List.getElem?_eq_getElem hs
  obtain ⟨a1, a2, a3⟩ := hA s _ hg
  constructor
  · intro h
    exact ⟨_, hg, (rows_one hN l24 l6 n6 hb a1 mc a2 nb a3 l8 (fun i hi => by rw [← h i hi, hrow s hs i hi])).symm⟩
  · rintro ⟨p, h1, h2⟩ i hi
    rw [hrow s hs i hi]
    rw [hg] at h1
    have e := Option.some.inj h1
    rw [e, h2] at a1
    exact rows_same a1 hb i hi
/-- sought and not found: it is new; found: it is not -/
theorem kept_new (h : ∀ s, s < T.1.length → ((∀ i, i < 222 → y.1 133 (240 * s + i) = pv b i) ↔ ∃ p, T.1[s]? = some p ∧ p.1 = M)) (hn : ∀ s, s < T.1.length → ¬ ∀ i, i < 222 → y.1 133 (240 * s + i) = pv b i) : ¬ ∃ q ∈ T.1, q.1 = M := by
  rintro ⟨q, q1, q2⟩
  obtain ⟨s, hs⟩ := List.mem_iff_getElem?.mp q1
  exact hn s (gt_lt hs) ((h s (gt_lt hs)).mpr ⟨q, hs, q2⟩)
theorem kept_old (h : ∀ s, s < T.1.length → ((∀ i, i < 222 → y.1 133 (240 * s + i) = pv b i) ↔ ∃ p, T.1[s]? = some p ∧ p.1 = M)) (hs : s < T.1.length) (hr : ∀ i, i < 222 → y.1 133 (240 * s + i) = pv b i) : ∃ q ∈ T.1, q.1 = M := by
  obtain ⟨p, h1, h2⟩ := (h s hs).mp hr
  exact ⟨p, List.mem_of_getElem? h1, h2⟩
end MKP
