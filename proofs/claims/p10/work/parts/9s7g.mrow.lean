/-! the model: rows that are the same hold one state, and the other way round -/
section MRW
variable {a b : gd} {C : gCo} {M M' : gMa} {h h' : gTq} {nl t k : Nat}
theorem slN_ex : ∀ {l : List Nat} {k : Nat}, k ∈ l → ∃ p, p < l.length ∧ slN l p = k := by
  intro l
  induction l with
  | nil => intro k h; cases h
  | cons s r ih =>
    intro k h
    by_cases c : k ∈ r
    · obtain ⟨p, p1, p2⟩ := ih c
      refine ⟨p, Nat.lt_succ_of_lt p1, ?_⟩
      rw [slN, if_neg (by omega)]; exact p2
    · rcases List.mem_cons.mp h with e | e
      · exact ⟨r.length, Nat.lt_succ_self _, by rw [slN, if_pos rfl, e]⟩
      · exact absurd e c
theorem stN_8 (hN : NC C) {s : Nat} : ∀ k ∈ (stN C s).2.1, k < 8 := by
  intro k hk
  unfold stN at hk
  cases hs : C.1[s]? with
  | none => rw [hs] at hk; cases hk
  | some st =>
    rw [hs] at hk
    have hk : k ∈ st.2.1 := hk
    obtain ⟨n1, n2, n3⟩ := (hN.1 s st hs).2.2.2.2.1
    have := n2 k hk
    omega
/-- a thread's ints -/
theorem mTq_same (g : mTq a C t h) (g' : mTq b C t h) : a.1 73 t = b.1 73 t ∧ a.1 74 t = b.1 74 t ∧ a.1 75 t = b.1 75 t ∧ a.1 77 t = b.1 77 t ∧ a.1 78 t = b.1 78 t ∧ a.1 79 t = b.1 79 t ∧ a.1 80 t = b.1 80 t ∧ (∀ k, k < 8 → a.1 76 (8 * t + k) = b.1 76 (8 * t + k)) ∧ ∀ k : Nat, (k : Int) < (a.1 80 t).toInt → a.1 81 (10 * t + k) = b.1 81 (10 * t + k) ∧ a.1 82 (10 * t + k) = b.1 82 (10 * t + k) := by
  obtain ⟨q0, q0', q1, q2, q3, q3', q4, q5, ⟨q6, q6'⟩, q7, q7'⟩ := g
  obtain ⟨r0, r0', r1, r2, r3, r3', r4, r5, ⟨r6, r6'⟩, r7, r7'⟩ := g'
  refine ⟨by rw [q0, r0], by rw [t_eq, q2, r2], by rw [q1, r1], by rw [q3, r3], by rw [q4, r4], by rw [q5, r5], by rw [t_eq, q6, r6], fun k hk => ?_, fun k hk => ?_⟩
  · by_cases c : (h.1 = 1 ∨ h.1 = 3) ∧ k ∈ (stN C h.2.2.1).2.1
    · obtain ⟨p, p1, p2⟩ := slN_ex c.2
      have e1 := q7 c.1 p p1
      have e2 := r7 c.1 p p1
      rw [p2] at e1 e2
      rw [e1, e2]
    · rw [q7' k hk c, r7' k hk c]
  · rw [q6] at hk
    have hg := List.getElem?_eq_getElem (show k < h.2.2.2.2.2.2.1.length by omega)
    obtain ⟨a1, a2, -⟩ := q6' k _ hg
    obtain ⟨b1, b2, -⟩ := r6' k _ hg
    exact ⟨by rw [a1, b1], by rw [a2, b2]⟩
/-- the places of a row -/
theorem row_at {i : Nat} (hi : i < 222) : i < 24 ∨ (∃ l, l < 6 ∧ (i = 24 + 2 * l ∨ i = 25 + 2 * l)) ∨ ∃ t, t < 6 ∧ ((∃ r, r < 7 ∧ i = 36 + 31 * t + r) ∨ (∃ k, k < 8 ∧ i = 43 + 31 * t + k) ∨ ∃ k, k < 8 ∧ (i = 51 + 31 * t + 2 * k ∨ i = 52 + 31 * t + 2 * k)) := by
  by_cases c1 : i < 24
  · exact Or.inl c1
  · by_cases c2 : i < 36
    · exact Or.inr (Or.inl ⟨(i - 24) / 2, by omega, by omega⟩)
    · refine Or.inr (Or.inr ⟨(i - 36) / 31, by omega, ?_⟩)
      by_cases c3 : (i - 36) % 31 < 7
      · exact Or.inl ⟨(i - 36) % 31, c3, by omega⟩
      · by_cases c4 : (i - 36) % 31 < 15
        · exact Or.inr (Or.inl ⟨(i - 36) % 31 - 7, by omega, by omega⟩)
        · exact Or.inr (Or.inr ⟨((i - 36) % 31 - 15) / 2, by omega, by omega⟩)
theorem pv_t {t r : Nat} (ht : t < 6) (hr : r < 7) : pv a (36 + 31 * t + r) = a.1 (if r = 0 then 73 else if r = 1 then 74 else if r = 2 then 75 else if r = 3 then 77 else if r = 4 then 78 else if r = 5 then 79 else 80) t := by
  rw [pv_n (Or.inr (by omega)), tg_t ht hr]
theorem pv_lo {t k : Nat} (ht : t < 6) (hk : k < 8) : pv a (43 + 31 * t + k) = a.1 76 (8 * t + k) := by
  rw [pv_n (Or.inr (by omega)), tg_lo ht hk]
theorem pv_l0 {l : Nat} (hl : l < 6) : pv a (24 + 2 * l) = a.1 71 l := by rw [pv_n (Or.inl (by omega)), tg_l0 hl]
theorem pv_l1 {l : Nat} (hl : l < 6) : pv a (25 + 2 * l) = a.1 72 l := by rw [pv_n (Or.inl (by omega)), tg_l1 hl]
theorem pv_c {c : Nat} (hc : c < 24) : pv a c = a.1 70 c := by rw [pv_n (Or.inl (by omega)), tg_c hc]
/-- one state, one row -/
theorem rows_same (g : MM1 a C M) (g' : MM1 b C M) : ∀ i, i < 222 → pv a i = pv b i := by
  obtain ⟨g1, g2, g3⟩ := g
  obtain ⟨h1, h2, h3⟩ := g'
  intro i hi
  rcases row_at hi with c | ⟨l, hl, e | e⟩ | ⟨t, ht, ⟨r, hr, e⟩ | ⟨k, hk, e⟩ | ⟨k, hk, e | e⟩⟩
  · rw [pv_c c, pv_c c, g1 i c, h1 i c]
  · rw [e, pv_l0 hl, pv_l0 hl, (g2 l hl).1, (h2 l hl).1]
  · rw [e, pv_l1 hl, pv_l1 hl, (g2 l hl).2.2, (h2 l hl).2.2]
  · obtain ⟨s0, s1, s2, s3, s4, s5, s6, -, -⟩ := mTq_same (g3 t ht) (h3 t ht)
    rw [e, pv_t ht hr, pv_t ht hr]
    have : r = 0 ∨ r = 1 ∨ r = 2 ∨ r = 3 ∨ r = 4 ∨ r = 5 ∨ r = 6 := by omega
    rcases this with c | c | c | c | c | c | c <;> rw [c]
    · exact s0
    · exact s1
    · exact s2
    · exact s3
    · exact s4
    · exact s5
    · exact s6
  · obtain ⟨-, -, -, -, -, -, -, s7, -⟩ := mTq_same (g3 t ht) (h3 t ht)
    rw [e, pv_lo ht hk, pv_lo ht hk]; exact s7 k hk
  · obtain ⟨-, -, -, -, -, -, s6, -, s8⟩ := mTq_same (g3 t ht) (h3 t ht)
    rw [e, pv_a ht hk, pv_a ht hk, ← s6]
    by_cases c : (k : Int) < (a.1 80 t).toInt
    · rw [if_pos c, if_pos c]; exact (s8 k c).1
    · rw [if_neg c, if_neg c]
  · obtain ⟨-, -, -, -, -, -, s6, -, s8⟩ := mTq_same (g3 t ht) (h3 t ht)
    rw [e, pv_b ht hk, pv_b ht hk, ← s6]
    by_cases c : (k : Int) < (a.1 80 t).toInt
    · rw [if_pos c, if_pos c]; exact (s8 k c).2
    · rw [if_neg c, if_neg c]
theorem hol_in {n m : Nat} (hn : n ≤ 9) (hm : m ≤ 9) (e : Int32.ofNat n - 1 = Int32.ofNat m - 1) : n = m := by
  have s : ∀ n, n < 10 → ∀ m, m < 10 → Int32.ofNat n - 1 = Int32.ofNat m - 1 → n = m := by decide +kernel
  exact s n (by omega) m (by omega) e
/-- one row, one state -/
theorem rows_one (hN : NC C) (l24 : C.2.2.1.length ≤ 24) (l6 : C.2.1.length ≤ 6) (n6 : nl ≤ 6) (g : MM1 a C M) (g' : MM1 b C M') (q : MCn C nl M) (q' : MCn C nl M') (n9 : NBm M) (n9' : NBm M') (l8 : ∀ t, t < 6 → (a.1 80 t).toInt ≤ 8) (hr : ∀ i, i < 222 → pv a i = pv b i) : M = M' := by
  obtain ⟨g1, g2, g3⟩ := g
  obtain ⟨h1, h2, h3⟩ := g'
  refine MCn_eq q q' (fun c hc => ?_) (fun l hl => ?_) (fun t ht => ?_)
  · have := hr c (by omega)
    rw [pv_c (by omega), pv_c (by omega), g1 c (by omega), h1 c (by omega)] at this
    exact this
  · obtain ⟨a1, a2, a3⟩ := g2 l (by omega)
    obtain ⟨b1, b2, b3⟩ := h2 l (by omega)
    have k1 := hr (24 + 2 * l) (by omega)
    have k2 := hr (25 + 2 * l) (by omega)
    rw [pv_l0 (by omega), pv_l0 (by omega), a1, b1] at k1
    rw [pv_l1 (by omega), pv_l1 (by omega), a3, b3] at k2
    exact Prod.ext (hol_in (by omega) (by omega) k1) k2
  · have t6 : t < 6 := by omega
    have rr := fun (r : Nat) (h7 : r < 7) => (pv_t (a := a) t6 h7).symm.trans ((hr (36 + 31 * t + r) (by omega)).trans (pv_t (a := b) t6 h7))
    have m9 := n9 t
    have m9' := n9' t
    have c1 := (q.2.2 t).2.1
    have c2 := (q'.2.2 t).2.1
    have le := l8 t t6
    obtain ⟨q0, q0', q1, q2, q3, q3', q4, q5, ⟨q6, q6'⟩, q7, q7'⟩ := g3 t t6
    obtain ⟨r0, r0', r1, r2, r3, r3', r4, r5, ⟨r6, r6'⟩, r7, r7'⟩ := h3 t t6
    have k0 : a.1 73 t = b.1 73 t := rr 0 (by omega)
    have k1 : a.1 74 t = b.1 74 t := rr 1 (by omega)
    have k2 : a.1 75 t = b.1 75 t := rr 2 (by omega)
    have k3 : a.1 77 t = b.1 77 t := rr 3 (by omega)
    have k4 : a.1 78 t = b.1 78 t := rr 4 (by omega)
    have k5 : a.1 79 t = b.1 79 t := rr 5 (by omega)
    have k6 : a.1 80 t = b.1 80 t := rr 6 (by omega)
    have e0 : (M.2.2 t).1 = (M'.2.2 t).1 := ofN_in9 (by omega) (by omega) (by rw [← q0, ← r0, k0])
    have e1 : (M.2.2 t).2.1 = (M'.2.2 t).2.1 := ofN_in9 (by omega) (by omega) (by rw [← q1, ← r1, k2])
    have e2 : (M.2.2 t).2.2.1 = (M'.2.2 t).2.2.1 := by rw [k1, r2] at q2; omega
    have e3 : (M.2.2 t).2.2.2.1 = (M'.2.2 t).2.2.2.1 := ofN_in9 (by omega) (by omega) (by rw [← q3, ← r3, k3])
    have e4 : (M.2.2 t).2.2.2.2.1 = (M'.2.2 t).2.2.2.2.1 := by rw [← q4, ← r4, k4]
    have e5 : (M.2.2 t).2.2.2.2.2.1 = (M'.2.2 t).2.2.2.2.2.1 := by rw [← q5, ← r5, k5]
    have len : (M.2.2 t).2.2.2.2.2.2.1.length = (M'.2.2 t).2.2.2.2.2.2.1.length := by rw [k6, r6] at q6; omega
    have e6 : (M.2.2 t).2.2.2.2.2.2.1 = (M'.2.2 t).2.2.2.2.2.2.1 := by
      refine List.ext_getElem? (fun i => ?_)
      by_cases ci : i < (M.2.2 t).2.2.2.2.2.2.1.length
      · obtain ⟨p, hp⟩ : ∃ p, (M.2.2 t).2.2.2.2.2.2.1[i]? = some p := ⟨_, List.getElem?_eq_getElem ci⟩
        obtain ⟨p', hp'⟩ : ∃ p', (M'.2.2 t).2.2.2.2.2.2.1[i]? = some p' := ⟨_, List.getElem?_eq_getElem (by omega)⟩
        obtain ⟨a1, a2, a3⟩ := q6' i p hp
        obtain ⟨b1, b2, b3⟩ := r6' i p' hp'
        have i8 : i < 8 := by omega
        have u1 := hr (51 + 31 * t + 2 * i) (by omega)
        have u2 := hr (52 + 31 * t + 2 * i) (by omega)
        rw [pv_a t6 i8, pv_a t6 i8, if_pos (by omega), if_pos (by omega), a1, b1] at u1
        rw [pv_b t6 i8, pv_b t6 i8, if_pos (by omega), if_pos (by omega), a2, b2] at u2
        have v1 : (Int32.ofNat p.1).toInt = (p.1 : Nat) := Int32.toInt_ofNat_of_lt (by omega)
        have v2 : (Int32.ofNat p'.1).toInt = (p'.1 : Nat) := Int32.toInt_ofNat_of_lt (by omega)
        rw [hp, hp']
        exact congrArg some (Prod.ext (by rw [u1, v2] at v1; omega) u2)
      · rw [List.getElem?_eq_none_iff.mpr (by omega), List.getElem?_eq_none_iff.mpr (by omega)]
    have e7 : (M.2.2 t).2.2.2.2.2.2.2 = (M'.2.2 t).2.2.2.2.2.2.2 := by
      funext p
      rw [← e0, ← e2] at r7 c2
      by_cases cp : ((M.2.2 t).1 = 1 ∨ (M.2.2 t).1 = 3) ∧ p < (stN C (M.2.2 t).2.2.1).2.1.length
      · have s8 := stN_8 hN _ (slN_mem cp.2)
        have := hr (43 + 31 * t + slN (stN C (M.2.2 t).2.2.1).2.1 p) (by omega)
        rw [pv_lo t6 s8, pv_lo t6 s8, q7 cp.1 p cp.2, r7 cp.1 p cp.2] at this
        exact this
      · rw [c1 p cp, c2 p cp]
    exact Prod.ext e0 (Prod.ext e1 (Prod.ext e2 (Prod.ext e3 (Prod.ext e4 (Prod.ext e5 (Prod.ext e6 e7))))))
end MRW
