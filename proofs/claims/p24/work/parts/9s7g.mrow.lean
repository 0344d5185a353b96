section
/-! the model: rows that are the same hold one state, and the other way round -/
section MRW
variable {a b : gd} {C : gCo} {M M' : gMa} {h h' : gTq} {nl t k : Nat}
theorem slN_ex : ∀ {l : List Nat} {k : Nat}, k ∈ l → ∃ p, p < l.length ∧ slN l p = k := by
  intro l
  induction l with
  | nil => intro k h; cases h
  | cons s r ih =>
    intro k h
    by_cases c : k ∈ r
    · obtain ⟨p, p1, p2⟩ := ih c
      refine ⟨p, Nat.lt_succ_of_lt p1, ?_⟩
      rw [slN, if_neg (by omega)]; exact p2
    · rcases List.mem_cons.mp h with e | e
      · exact ⟨r.length, Nat.lt_succ_self _, by rw [slN, if_pos rfl, e]⟩
      · exact absurd e c
theorem stN_8 (hN : NC C) {s : Nat} : ∀ k ∈ (stN C s).2.1, k < 8 := by
  intro k hk
  unfold stN at hk
  cases hs : C.1[s]? with
  | none => rw [hs] at hk; cases hk
  | some st =>
    rw [hs] at hk
    have hk : k ∈ st.2.1 := hk
    obtain ⟨n1, n2, n3⟩ := (hN.1 s st hs).2.2.2.2.1
    have := n2 k hk
    omega
/-- a thread's ints -/
theorem mTq_same (g : mTq a C t h) (g' : mTq b C t h) : a.1 73 t = b.1 73 t ∧ a.1 74 t = b.1 74 t ∧ a.1 75 t = b.1 75 t ∧ a.1 77 t = b.1 77 t ∧ a.1 78 t = b.1 78 t ∧ a.1 79 t = b.1 79 t ∧ a.1 80 t = b.1 80 t ∧ (∀ k, k < 8 → a.1 76 (8 * t + k) = b.1 76 (8 * t + k)) ∧ ∀ k : Nat, (k : Int) < (a.1 80 t).toInt → a.1 81 (10 * t + k) = b.1 81 (10 * t + k) ∧ a.1 82 (10 * t + k) = b.1 82 (10 * t + k) := by
  obtain ⟨q0, q0', q1, q2, q3, q3', q4, q5, ⟨q6, q6'⟩, q7, q7'⟩ := g
  obtain ⟨r0, r0', r1, r2, r3, r3', r4, r5, ⟨r6, r6'⟩, r7, r7'⟩ := g'
  refine ⟨by rw [q0, r0], by rw [t_eq, q2, r2], by rw [q1, r1], by rw [q3, r3], by rw [q4, r4], by rw [q5, r5], by rw [t_eq, q6, r6], fun k hk => ?_, fun k hk => ?_⟩
  · by_cases c : (h.1 = 1 ∨ h.1 = 3) ∧ k ∈ (stN C h.2.2.1).2.1
    · obtain ⟨p, p1, p2⟩ := slN_ex c.2
      have e1 := q7 c.1 p p1
      have e2 := r7 c.1 p p1
      rw [p2] at e1 e2
      rw [e1, e2]
    · rw [q7' k hk c, r7' k hk c]
  · rw [q6] at hk
    have hg := List.getElem?_eq_getElem (show k < h.2.2.2.2.2.2.1.length by omega)
    obtain ⟨a1, a2, -⟩ := q6' k _ hg
    obtain ⟨b1, b2, -⟩ := r6' k _ hg
    exact ⟨by rw [a1, b1], by rw [a2, b2]⟩
/-- the places of a row -/
theorem row_at {i : Nat} (hi : i < 222) : i < 24 ∨ (∃ l, l < 6 ∧ (i = 24 + 2 * l ∨ i = 25 + 2 * l)) ∨ ∃ t, t < 6 ∧ ((∃ r, r < 7 ∧ i = 36 + 31 * t + r) ∨ (∃ k, k < 8 ∧ i = 43 + 31 * t + k) ∨ ∃ k, k < 8 ∧ (i = 51 + 31 * t + 2 * k ∨ i = 52 + 31 * t + 2 * k)) := by
  by_cases c1 : i < 24
  · exact Or.inl c1
  · by_cases c2 : i < 36
    · exact Or.inr (Or.inl ⟨(i - 24) / 2, by omega, by omega⟩)
    · refine Or.inr (Or.inr ⟨(i - 36) / 31, by omega, ?_⟩)
      by_cases c3 : (i - 36) % 31 < 7
      · exact Or.inl ⟨(i - 36) % 31, c3, by omega⟩
      · by_cases c4 : (i - 36) % 31 < 15
        · exact Or.inr (Or.inl ⟨(i - 36) % 31 - 7, by omega, by omega⟩)
        · exact Or.inr (Or.inr ⟨((i - 36) % 31 - 15) / 2, by omega, by omega⟩)
theorem pv_t {t r : Nat} (ht : t < 6) (hr : r < 7) : pv a (36 + 31 * t + r) = a.1 (if r = 0 then 73 else if r = 1 then 74 else if r = 2 then 75 else if r = 3 then 77 else if r = 4 then 78 else if r = 5 then 79 else 80) t := by
  rw [pv_n (Or.inr (by omega)), tg_t ht hr]
theorem pv_lo {t k : Nat} (ht : t < 6) (hk : k < 8) : pv a (43 + 31 * t + k) = a.1 76 (8 * t + k) := by
  rw [pv_n (Or.inr (by omega)), tg_lo ht hk]
theorem pv_l0 {l : Nat} (hl : l < 6) : pv a (24 + 2 * l) = a.1 71 l := by rw [pv_n (Or.inl (by omega)), tg_l0 hl]
theorem pv_l1 {l : Nat} (hl : l < 6) : pv a (25 + 2 * l) = a.1 72 l := by rw [pv_n (Or.inl (by omega)), tg_l1 hl]
theorem pv_c {c : Nat} (hc : c < 24) : pv a c = a.1 70 c := by rw [pv_n (Or.inl (by omega)), tg_c hc]
/-- one state, one row -/
theorem rows_same (g : MM1 a C M) (g' : MM1 b C M) : ∀ i, i < 222 → pv a i = pv b i := by
  obtain ⟨g1, g2, g3⟩ := g
  obtain ⟨h1, h2, h3⟩ := g'
  intro i hi
  rcases row_at hi with c | ⟨l, hl, e | e⟩ | ⟨t, ht, ⟨r, hr, e⟩ | ⟨k, hk, e⟩ | ⟨k, hk, e | e⟩⟩
  · rw [pv_c c, pv_c c, g1 i c, h1 i c]
  · rw [e, pv_l0 hl, pv_l0 hl, (g2 l hl).1, (h2 l hl).1]
  · rw [e, pv_l1 hl, pv_l1 hl, (g2 l hl).2.2, (h2 l hl).2.2]
  · obtain ⟨s0, s1, s2, s3, s4, s5, s6, -, -⟩ := mTq_same (g3 t ht) (h3 t ht)
    rw [e, pv_t ht hr, pv_t ht hr]
    have : r = 0 ∨ r = 1 ∨ r = 2 ∨ r = 3 ∨ r = 4 ∨ r = 5 ∨ r = 6 := by omega
    rcases this with c | c | c | c | c | c | c <;> rw [c]
    · exact s0
    · exact s1
    · exact s2
    · exact s3
    · exact s4
    · exact s5
    · exact s6
  · obtain ⟨-, -, -, -, -, -, -, s7, -⟩ := mTq_same (g3 t ht) (h3 t ht)
    rw [e, pv_lo ht hk, pv_lo ht hk]; exact s7 k hk
  · obtain ⟨-, -, -, -, -, -, s6, -, s8⟩ := mTq_same (g3 t ht) (h3 t ht)
    rw [e, pv_a ht hk, pv_a ht hk, ← s6]
    by_cases c : (k : Int) < (a.1 80 t).toInt
    · rw [if_pos c, if_pos c]; exact (s8 k c).1
    · rw [if_neg c, if_neg c]
  · obtain ⟨-, -, -, -, -, -, s6, -, s8⟩ := mTq_same (g3 t ht) (h3 t ht)
    rw [e, pv_b ht hk, pv_b ht hk, ← s6]
    by_cases c : (k : Int) < (a.1 80 t).toInt
    · rw [if_pos c, if_pos c]; exact (s8 k c).2
    · rw [if_neg c, if_neg c]
theorem hol_in {n m : Nat} (hn : n ≤ 9) (hm : m ≤ 9) (e : Int32.ofNat n - 1 = Int32.ofNat m - 1) : n = m := by
  have s : ∀ n, n < 10 → ∀ m, m < 10 → Int32.ofNat n - 1 = Int32.ofNat m - 1 → n = m := by decide +kernel
  exact s n (by omega) m (by omega) e
/-- one row, one state -/
theorem rows_one (hN : NC C) (l24 : C.2.2.1.length ≤ 24) (l6 : C.2.1.length ≤ 6) (n6 : nl ≤ 6) (g : MM1 a C M) (g' : MM1 b C M') (q : MCn C nl M) (q' : MCn C nl M') (n9 : NBm M) (n9' : NBm M') (l8 : ∀ t, t < 6 → (a.1 80 t).toInt ≤ 8) (hr : ∀ i, i < 222 → pv a i = pv b i) : M = M' := by
  obtain ⟨g1, g2, g3⟩ := g
  obtain ⟨h1, h2, h3⟩ := g'
  refine MCn_eq q q' (fun c hc => ?_) (fun l hl => ?_) (fun t ht => ?_)
  · have := hr c (by omega)
    rw [pv_c (by omega), pv_c (by omega), g1 c (by omega), h1 c (by omega)] at this
    exact this
  · obtain ⟨a1, a2, a3⟩ := g2 l (by omega)
    obtain ⟨b1, b2, b3⟩ := h2 l (by omega)
    have k1 := hr (24 + 2 * l) (by omega)
    have k2 := hr (25 + 2 * l) (by omega)
    rw [pv_l0 (by omega), pv_l0 (by omega), a1, b1] at k1
    rw [pv_l1 (by omega), pv_l1 (by omega), a3, b3] at k2
    exact Prod.ext (hol_in (by omega) (by omega) k1) k2
  · have t6 : t < 6 := by omega
    have rr := fun (r : Nat) (h7 : r < 7) => (pv_t (a := a) t6 h7).symm.trans ((hr (36 + 31 * t + r) (by omega)).trans (pv_t (a := b) t6 h7))
    have m9 := n9 t
    have m9' := n9' t
    have c1 := (q.2.2 t).2.1
    have c2 := (q'.2.2 t).2.1
    have le := l8 t t6
    obtain ⟨q0, q0', q1, q2, q3, q3', q4, q5, ⟨q6, q6'⟩, q7, q7'⟩ := g3 t t6
    obtain ⟨r0, r0', r1, r2, r3, r3', r4, r5, ⟨r6, r6'⟩, r7, r7'⟩ := h3 t t6
    have k0 : a.1 73 t = b.1 73 t := rr 0 (by omega)
    have k1 : a.1 74 t = b.1 74 t := rr 1 (by omega)
    have k2 : a.1 75 t = b.1 75 t := rr 2 (by omega)
    have k3 : a.1 77 t = b.1 77 t := rr 3 (by omega)
    have k4 : a.1 78 t = b.1 78 t := rr 4 (by omega)
    have k5 : a.1 79 t = b.1 79 t := rr 5 (by omega)
    have k6 : a.1 80 t = b.1 80 t := rr 6 (by omega)
    have e0 : (M.2.2 t).1 = (M'.2.2 t).1 := ofN_in9 (by omega) (by omega) (by rw [← q0, ← r0, k0])
    have e1 : (M.2.2 t).2.1 = (M'.2.2 t).2.1 := ofN_in9 (by omega) (by omega) (by rw [← q1, ← r1, k2])
    have e2 : (M.2.2 t).2.2.1 = (M'.2.2 t).2.2.1 := by rw [k1, r2] at q2; omega
    have e3 : (M.2.2 t).2.2.2.1 = (M'.2.2 t).2.2.2.1 := ofN_in9 (by omega) (by omega) (by rw [← q3, ← r3, k3])
    have e4 : (M.2.2 t).2.2.2.2.1 = (M'.2.2 t).2.2.2.2.1 := by rw [← q4, ← r4, k4]
    have e5 : (M.2.2 t).2.2.2.2.2.1 = (M'.2.2 t).2.2.2.2.2.1 := by rw [← q5, ← r5, k5]
    have len : (M.2.2 t).2.2.2.2.2.2.1.length = (M'.2.2 t).2.2.2.2.2.2.1.length := by rw [k6, r6] at q6; omega
    have e6 : (M.2.2 t).2.2.2.2.2.2.1 = (M'.2.2 t).2.2.2.2.2.2.1 := by
      refine List.ext_getElem? (fun i => ?_)
      by_cases ci : i < (M.2.2 t).2.2.2.2.2.2.1.length
      · obtain ⟨p, hp⟩ : ∃ p, (M.2.2 t).2.2.2.2.2.2.1[i]? = some p := ⟨_, List.getElem?_eq_getElem ci⟩
        obtain ⟨p', hp'⟩ : ∃ p', (M'.2.2 t).2.2.2.2.2.2.1[i]? = some p' := ⟨_, List.getElem?_eq_getElem (by omega)⟩
        obtain ⟨a1, a2, a3⟩ := q6' i p hp
        obtain ⟨b1, b2, b3⟩ := r6' i p' hp'
        have i8 : i < 8 := by omega
        have u1 := hr (51 + 31 * t + 2 * i) (by omega)
        have u2 := hr (52 + 31 * t + 2 * i) (by omega)
        rw [pv_a t6 i8, pv_a t6 i8, if_pos (by omega), if_pos (by omega), a1, b1] at u1
        rw [pv_b t6 i8, pv_b t6 i8, if_pos (by omega), if_pos (by omega), a2, b2] at u2
        have v1 : (Int32.ofNat p.1).toInt = (p.1 : Nat) := Int32.toInt_ofNat_of_lt (by omega)
        have v2 : (Int32.ofNat p'.1).toInt = (p'.1 : Nat) := Int32.toInt_ofNat_of_lt (by omega)
        rw [hp, hp']
        exact congrArg some (Prod.ext (by rw [u1, v2] at v1; omega) u2)
      · rw [List.getElem?_eq_none_iff.mpr (by omega), List.getElem?_eq_none_iff.mpr (by omega)]
    have e7 : (M.2.2 t).2.2.2.2.2.2.2 = (M'.2.2 t).2.2.2.2.2.2.2 := by
      funext p
      rw [← e0, ← e2] at r7 c2
      by_cases cp : ((M.2.2 t).1 = 1 ∨ (M.2.2 t).1 = 3) ∧ p < (stN C (M.2.2 t).2.2.1).2.1.length
      · have s8 := stN_8 hN _ (slN_mem cp.2)
        have := hr (43 + 31 * t + slN (stN C (M.2.2 t).2.2.1).2.1 p) (by omega)
        rw [pv_lo t6 s8, pv_lo t6 s8, q7 cp.1 p cp.2, r7 cp.1 p cp.2] at this
        exact this
      · rw [c1 p cp, c2 p cp]
    exact Prod.ext e0 (Prod.ext e1 (Prod.ext e2 (Prod.ext e3 (Prod.ext e4 (Prod.ext e5 (Prod.ext e6 e7))))))
end MRW
end
section
/-! the model: a state is sought among those kept -/
def rwZ (z : gd) (s : Nat) : Nat → Int32 := fun i => z.1 133 (240 * s + i)
def hsF (S : Int32 → Int32 → Int32) (r : Nat → Int32) : Nat → Int32
  | 0 => 0
  | k + 1 => S (hsF S r k) (r k)
def hs31 (a b : Int32) : Int32 := (a * 31) + b
def hsE (v : Int32) : Int32 := ((v ^^^ (((v : Int32).toUInt32 >>> ((12 : Int32).toUInt32 &&& Int32.toUInt32 31)).toInt32)) ^^^ (((v : Int32).toUInt32 >>> ((22 : Int32).toUInt32 &&& Int32.toUInt32 31)).toInt32)) &&& 4095
def hsO (r : Nat → Int32) : Nat := (hsE (hsF hs31 r 222)).toNatClampNeg
/-- s stands on the chain from v on -/
def pCf (nx : Nat → Int32) : Nat → Int32 → Nat → Prop
  | 0, _, _ => False
  | f + 1, v, s => ¬ v = -1 ∧ (v.toInt = (s : Nat) ∨ pCf nx f (nx v.toNatClampNeg) s)
/-- each of the first n stands on its chain -/
def chC (z : gd) (n : Nat) : Prop := ∀ s, s < n → ∃ f, pCf (z.1 134) f (z.1 135 (hsO (rwZ z s))) s
section SK3
variable {G : mG} {d D : Nat} {x z a : gd} {F : Int32 → gd → Prop} {Fv : gd → Prop}
theorem hsF_cg {S : Int32 → Int32 → Int32} {r r' : Nat → Int32} : ∀ {n : Nat}, (∀ i, i < n → r i = r' i) → hsF S r n = hsF S r' n := by
  intro n
  induction n with
  | zero => intro _; rfl
  | succ n ih =>
    intro h
    rw [hsF, hsF, ih (fun i hi => h i (by omega)), h n (by omega)]
theorem hsO_cg {r r' : Nat → Int32} (h : ∀ i, i < 222 → r i = r' i) : hsO r = hsO r' := by
  unfold hsO; rw [hsF_cg h]
theorem pCf_up {nx nx' : Nat → Int32} {m s : Nat} (e : ∀ j, j < m → nx' j = nx j) (hs : ∀ j, j < m → nx j = -1 ∨ (0 ≤ (nx j).toInt ∧ (nx j).toInt < j)) : ∀ (f : Nat) (v : Int32), (v = -1 ∨ (0 ≤ v.toInt ∧ v.toInt < m)) → pCf nx f v s → pCf nx' f v s := by
  intro f
  induction f with
  | zero => intro v _ h; exact h
  | succ f ih =>
    intro v hv h
    obtain ⟨h1, h2⟩ := h
    obtain ⟨v0, v1⟩ := hv.resolve_left h1
    have cv := cl_i v0
    refine ⟨h1, h2.imp id (fun h3 => ?_)⟩
    rw [e _ (by omega)]
    refine ih _ ?_ h3
    exact (hs _ (by omega)).imp id (fun w => by omega)
theorem sp_seek3 (w : Int32) (wv : vp_in w 2) {m : Nat} (em : (z.1 120 w.toNatClampNeg).toInt = (m : Nat)) (m1 : m ≤ 3000) (hs : hsR z (m : Nat)) (hc : chC z m) (h80 : ∀ t : Nat, t < 6 → (z.1 80 t).toInt ≤ 8) (h : ∀ r z', md [136] [133, 134, 135] z z' → (∀ j : Nat, j < 240 * m → z'.1 133 j = z.1 133 j) → ((r = z.1 120 w.toNatClampNeg ∧ (∀ i : Nat, i < 222 → z'.1 133 (240 * m + i) = pv z i) ∧ hsR z' ((m : Int) + 1) ∧ chC z' (m + 1) ∧ ∀ s, s < m → ¬ ∀ i, i < 222 → z.1 133 (240 * s + i) = pv z i) ∨ (∃ s : Nat, s < m ∧ r.toInt = (s : Nat) ∧ hsR z' (m : Nat) ∧ chC z' m ∧ ∀ i, i < 222 → z.1 133 (240 * s + i) = pv z i)) → F r z') : MT G (D + 1) z_seek 0 [(0, vr 0), (1, vi w)] [] z (ri F) := by
  have k0 : (0 : Int32).toInt = 0 := rfl
  have k1 : (1 : Int32).toInt = 1 := rfl
  have k24 : (240 : Int32).toInt = 240 := rfl
  obtain ⟨M, eM⟩ : ∃ M, M = z.1 120 w.toNatClampNeg := ⟨_, rfl⟩
  rw [← eM] at em h
  have b1 : (240 * M).toInt = 240 * M.toInt := by rw [t_mul (by rw [k24]; omega) (by rw [k24]; omega), k24]
  have cM : M.toNatClampNeg = m := by rw [t_cl, em]; rfl
  have cb : (240 * M).toNatClampNeg = 240 * m := by have := cl_i (a := 240 * M) (by omega); omega
  refine sg_seek_0 _ ⟨wv, ?_⟩
  rw [← eM]
  refine sp_pack (Or.inl rfl) mk_133 ml_133 (240 * M) (by omega) (by omega) (by omega) h80 (fun y my y136 yr yo => ?_)
  rw [cb] at yr yo
  have y120 : y.1 120 w.toNatClampNeg = M := by rw [my.2.1 120 (by decide) (by decide), eM]
  have y134 : y.1 134 = z.1 134 := my.2.1 134 (by decide) (by decide)
  have y135 : y.1 135 = z.1 135 := my.2.1 135 (by decide) (by decide)
  have ylo : ∀ s i, s < m → i < 222 → y.1 133 (240 * s + i) = z.1 133 (240 * s + i) := fun s i hs hi => yo _ (Or.inl (by omega))
  obtain ⟨HV, eHV⟩ : ∃ HV, HV = hsE (hsF hs31 (fun i => pv z i) 222) := ⟨_, rfl⟩
  have hHV : vp_in HV 4096 := by rw [eHV]; exact t_and4 _
  have HVb := vp_lt hHV
  have hsame : ∀ s, s < m → (∀ i, i < 222 → z.1 133 (240 * s + i) = pv z i) → hsO (rwZ z s) = HV.toNatClampNeg := fun s hs9 he => by
    rw [eHV]
    exact hsO_cg (fun i hi => he i hi)
  have hs2 : ∀ j, j < m → z.1 134 j = -1 ∨ (0 ≤ (z.1 134 j).toInt ∧ (z.1 134 j).toInt < j) := fun j hj => hs.2 j (by omega)
  have new : (∀ s, s < m → ¬ ∀ i, i < 222 → z.1 133 (240 * s + i) = pv z i) → vp_in w 2 ∧ vp_in HV 4096 ∧ vp_in (y.1 120 w.toNatClampNeg) 3001 ∧ (∀ x5 : gd, x5 = si y 134 (y.1 120 w.toNatClampNeg : Int32).toNatClampNeg (y.1 135 HV.toNatClampNeg) → vp_in w 2 ∧ vp_in HV 4096 ∧ (∀ x8 : gd, x8 = si x5 135 HV.toNatClampNeg (x5.1 120 w.toNatClampNeg) → vp_in w 2 ∧ ri F (some (vi (x8.1 120 w.toNatClampNeg))) x8)) := by
    intro hnone
    rw [y120, cM]
    refine ⟨wv, hHV, by rw [vp_in_iff]; omega, fun y5 e5 => ⟨wv, hHV, fun y8 e8 => ⟨wv, ?_⟩⟩⟩
    have m5 := md_a y 134 m (y.1 135 HV.toNatClampNeg) (by decide)
    rw [← e5] at m5
    have f5 : y5.1 120 w.toNatClampNeg = M := by rw [m5.2.1 120 (by decide) (by decide), y120]
    rw [f5] at e8
    have m8 := md_a y5 135 HV.toNatClampNeg M (by decide)
    rw [← e8] at m8
    have mm : md [136] [133, 134, 135] z y8 := md_tr (md_tr (L3 := [136]) (A3 := [133, 134]) my m5 rfl rfl) m8 rfl rfl
    have f8 : y8.1 120 w.toNatClampNeg = M := by rw [m8.2.1 120 (by decide) (by decide), f5]
    have f133 : y8.1 133 = y.1 133 := by rw [m8.2.1 133 (by decide) (by decide), m5.2.1 133 (by decide) (by decide)]
    have n134 : ∀ j, y8.1 134 j = if j = m then z.1 135 HV.toNatClampNeg else z.1 134 j := fun j => by
      rw [m8.2.1 134 (by decide) (by decide), e5, si_get]
      by_cases q : j = m
      · rw [if_pos ⟨rfl, q⟩, if_pos q, y135]
      · rw [if_neg (fun w => q w.2), if_neg q, y134]
    have n135 : ∀ j, y8.1 135 j = if j = HV.toNatClampNeg then M else z.1 135 j := fun j => by
      rw [e8, si_get]
      by_cases q : j = HV.toNatClampNeg
      · rw [if_pos ⟨rfl, q⟩, if_pos q]
      · rw [if_neg (fun w => q w.2), if_neg q, m5.2.1 135 (by decide) (by decide), y135]
    have nM : ¬ M = -1 := fun e => by rw [e, tm1] at em; omega
    rw [f8]
    refine ri_i (h M y8 mm (fun j hj => by rw [f133]; exact yo j (Or.inl hj)) (Or.inl ⟨rfl, by rw [f133]; exact yr, ⟨fun k hk => ?_, fun s hs9 => ?_⟩, fun s hs9 => ?_, hnone⟩))
    · rw [n135]
      by_cases q : k = HV.toNatClampNeg
      · rw [if_pos q]; exact Or.inr (by omega)
      · rw [if_neg q]; exact (hs.1 k hk).imp id (fun w => by omega)
    · rw [n134]
      by_cases q : s = m
      · rw [if_pos q]
        exact (hs.1 _ HVb).imp id (fun w => by omega)
      · rw [if_neg q]; exact hs.2 s (by omega)
    · by_cases q : s = m
      · refine ⟨1, ?_⟩
        have eO : hsO (rwZ y8 s) = HV.toNatClampNeg := by
          rw [eHV]
          exact hsO_cg (fun i hi => by show y8.1 133 (240 * s + i) = _; rw [f133, q]; exact yr i hi)
        rw [eO, n135, if_pos rfl]
        exact ⟨nM, Or.inl (by rw [q]; exact em)⟩
      · have sm : s < m := by omega
        obtain ⟨f, hf⟩ := hc s sm
        have eO : hsO (rwZ y8 s) = hsO (rwZ z s) := hsO_cg (fun i hi => by show y8.1 133 (240 * s + i) = _; rw [f133]; exact ylo s i sm hi)
        have hb : hsO (rwZ z s) < 4096 := vp_lt (t_and4 _)
        have hd := hs.1 _ hb
        have up := pCf_up (nx := z.1 134) (nx' := y8.1 134) (m := m) (s := s) (fun j hj => by rw [n134, if_neg (by omega)]) hs2 f _ hd hf
        rw [eO, n135]
        by_cases q2 : hsO (rwZ z s) = HV.toNatClampNeg
        · rw [if_pos q2]
          refine ⟨f + 1, nM, Or.inr ?_⟩
          rw [cM, n134, if_pos rfl, ← q2]; exact up
        · rw [if_neg q2]; exact ⟨f, up⟩
  have old : ∀ s9 : Nat, s9 < m → ∀ s : Int32, s.toInt = (s9 : Nat) → (∀ i, i < 222 → y.1 133 (240 * s9 + i) = pv z i) → ri F (some (vi s)) y := fun s9 h9 s es he => ri_i (h s y (md_w my (by decide) (by decide)) (fun j hj => yo j (Or.inl hj)) (Or.inr ⟨s9, h9, es, ⟨fun k hk => by rw [y135]; exact hs.1 k hk, fun k hk => by rw [y134]; exact hs.2 k hk⟩, fun s hs9 => by
    rw [y134, y135, show hsO (rwZ y s) = hsO (rwZ z s) from hsO_cg (fun i hi => ylo s i hs9 hi)]
    exact hc s hs9, fun i hi => by rw [← ylo s9 i h9 hi]; exact he i hi⟩))
  -- the chain
  have p79 : ∀ (n : Nat) (s : Int32), (s = -1 ∨ (0 ≤ s.toInt ∧ s.toInt < m)) → s.toInt + 1 ≤ n → (∀ s9, s9 < m → (∀ i, i < 222 → z.1 133 (240 * s9 + i) = pv z i) → ∃ f, pCf (z.1 134) f s s9) → MT G (D + 1) z_seek 79 [(0, vr 0), (1, vi w), (2, vi (240 * M)), (3, vi HV), (4, vi s)] [] y (ri F) := by
    intro n
    have fin : ∀ s : Int32, (∀ s9, s9 < m → (∀ i, i < 222 → z.1 133 (240 * s9 + i) = pv z i) → ∃ f, pCf (z.1 134) f s s9) → s = -1 → ∀ s9, s9 < m → ¬ ∀ i, i < 222 → z.1 133 (240 * s9 + i) = pv z i := by
      intro s hm e s9 h9 he
      obtain ⟨f, hf⟩ := hm s9 h9 he
      cases f with
      | zero => exact hf
      | succ f => exact hf.1 e
    induction n with
    | zero =>
      intro s h1 hn hm
      have s1 : s = -1 := h1.resolve_right (fun q => by omega)
      exact sg_seek_79 _ _ _ _ ⟨fun _ => new (fin s hm s1), fun c => absurd s1 c⟩
    | succ n ih =>
      intro s h1 hn hm
      refine sg_seek_79 _ _ _ _ ⟨fun c => new (fin s hm c), fun c => ?_⟩
      obtain ⟨s0, sM⟩ := h1.resolve_left c
      have cs := cl_i s0
      obtain ⟨S, eS⟩ : ∃ S, S = s.toNatClampNeg := ⟨_, rfl⟩
      rw [← eS] at cs
      have sb : (240 * s).toInt = 240 * s.toInt := by rw [t_mul (by rw [k24]; omega) (by rw [k24]; omega), k24]
      have Sm : S < m := by omega
      have p144 : ∀ v : Int32, ((v = 1 ∧ ∀ i, i < 222 → y.1 133 (240 * S + i) = pv z i) ∨ (v = 0 ∧ ¬ ∀ i, i < 222 → y.1 133 (240 * S + i) = pv z i)) → MT G (D + 1) z_seek 144 [(0, vr 0), (1, vi w), (2, vi (240 * M)), (3, vi HV), (4, vi s), (5, vi v)] [] y (ri F) := by
        intro v hv
        refine sg_seek_144 _ _ _ _ _ ⟨fun cv => ⟨by rw [vp_in_iff]; omega, ?_⟩, fun cv => ?_⟩
        · have ne : ¬ ∀ i, i < 222 → y.1 133 (240 * S + i) = pv z i := by
            rcases hv with ⟨e, -⟩ | ⟨-, e⟩
            · rw [e] at cv; exact absurd cv (by decide)
            · exact e
          rw [y134, ← eS]
          have nh : ∀ s9, s9 < m → (∀ i, i < 222 → z.1 133 (240 * s9 + i) = pv z i) → ∃ f, pCf (z.1 134) f (z.1 134 S) s9 := by
            intro s9 h9 he
            obtain ⟨f, hf⟩ := hm s9 h9 he
            cases f with
            | zero => exact absurd hf (fun z => z)
            | succ f =>
              rcases hf.2 with e | e
              · exfalso
                have : s9 = S := by omega
                rw [this] at he
                exact ne (fun i hi => by rw [ylo S i Sm hi]; exact he i hi)
              · rw [← eS] at e; exact ⟨f, e⟩
          rcases hs.2 S (by omega) with q | q
          · rw [q] at nh ⊢; exact ih (-1) (Or.inl rfl) (by show (-1 : Int) + 1 ≤ _; omega) nh
          · exact ih _ (Or.inr ⟨q.1, by omega⟩) (by omega) nh
        · rcases hv with ⟨-, e⟩ | ⟨e, -⟩
          · exact old S Sm s (by omega) e
          · exact absurd e cv
      have p91 : ∀ (m9 k : Nat) (v i : Int32), i.toInt = (k : Nat) → 222 - k ≤ m9 → k ≤ 222 → ((v = 1 ∧ ∀ i, i < k → y.1 133 (240 * S + i) = pv z i) ∨ (v = 0 ∧ ¬ ∀ i, i < 222 → y.1 133 (240 * S + i) = pv z i)) → MT G (D + 1) z_seek 91 [(0, vr 0), (1, vi w), (2, vi (240 * M)), (3, vi HV), (4, vi s), (5, vi v), (6, vi i)] [] y (ri F) := by
        intro m9
        have go : ∀ (k : Nat) (v : Int32), k = 222 → ((v = 1 ∧ ∀ i, i < k → y.1 133 (240 * S + i) = pv z i) ∨ (v = 0 ∧ ¬ ∀ i, i < 222 → y.1 133 (240 * S + i) = pv z i)) → MT G (D + 1) z_seek 144 [(0, vr 0), (1, vi w), (2, vi (240 * M)), (3, vi HV), (4, vi s), (5, vi v)] [] y (ri F) := fun k v ek hv => p144 v (by rw [ek] at hv; exact hv)
        induction m9 with
        | zero =>
          intro k v i ei hn hk hv
          exact sg_seek_91 _ _ _ _ _ _ ⟨fun _ => go k v (by omega) hv, fun c => absurd (t_le.mpr (by rw [y136]; omega)) c⟩
        | succ m9 ihm =>
          intro k v i ei hn hk hv
          refine sg_seek_91 _ _ _ _ _ _ ⟨fun c2 => go k v (by rw [t_le, y136] at c2; omega) hv, fun c2 => ⟨fun v0 => p144 v (Or.inr ⟨v0, ?_⟩), fun vn => ?_⟩⟩
          · rcases hv with ⟨e, -⟩ | ⟨-, e⟩
            · rw [e] at v0; exact absurd v0 (by decide)
            · exact e
          rw [t_le, y136] at c2
          have hv1 : ∀ i, i < k → y.1 133 (240 * S + i) = pv z i := by
            rcases hv with ⟨-, e⟩ | ⟨e, -⟩
            · exact e
            · exact absurd e vn
          have ii : (i + 1).toInt = ((k + 1 : Nat) : Int) := by rw [t_add (by omega) (by omega), k1, ei]; rfl
          have x1 : (240 * s + i).toInt = 240 * s.toInt + i.toInt := by rw [t_add (by omega) (by omega), sb]
          have x2 : (240 * M + i).toInt = 240 * M.toInt + i.toInt := by rw [t_add (by omega) (by omega), b1]
          have c1 : (240 * s + i).toNatClampNeg = 240 * S + k := by rw [t_cl, x1]; omega
          have c3 : (240 * M + i).toNatClampNeg = 240 * m + k := by rw [t_cl, x2]; omega
          rw [c1, c3, yr k (by omega)]
          refine ⟨by rw [vp_in_iff]; omega, by rw [vp_in_iff]; omega, fun ne => ihm (k + 1) _ _ ii (by omega) (by omega) (Or.inr ⟨rfl, fun z9 => ne (z9 k (by omega))⟩), fun e => ihm (k + 1) _ _ ii (by omega) (by omega) (Or.inl ⟨rfl, fun i9 h9 => ?_⟩)⟩
          by_cases q : i9 = k
          · rw [q]; exact e
          · exact hv1 i9 (by omega)
      exact p91 222 0 1 0 rfl (by omega) (by omega) (Or.inl ⟨rfl, fun i hi => absurd hi (Nat.not_lt_zero _)⟩)
  have p25 : ∀ (n k : Nat) (hh i : Int32), i.toInt = (k : Nat) → 222 - k ≤ n → k ≤ 222 → hh = hsF hs31 (fun i => pv z i) k → MT G (D + 1) z_seek 25 [(0, vr 0), (1, vi w), (2, vi (240 * M)), (3, vi hh), (4, vi i)] [] y (ri F) := by
    have last : ∀ (k : Nat) (hh : Int32), k = 222 → hh = hsF hs31 (fun i => pv z i) k → vp_in (hsE hh) 4096 ∧ MT G (D + 1) z_seek 79 [(0, vr 0), (1, vi w), (2, vi (240 * M)), (3, vi (hsE hh)), (4, vi (y.1 135 (hsE hh).toNatClampNeg))] [] y (ri F) := by
      intro k hh ek eh
      rw [ek] at eh
      rw [eh, ← eHV, y135]
      have hd := hs.1 _ HVb
      refine ⟨hHV, p79 3001 _ (hd.imp id (fun q => by omega)) ?_ (fun s9 h9 he => ?_)⟩
      · rcases hd with q | q
        · rw [q]; decide
        · omega
      · rw [← hsame s9 h9 he]; exact hc s9 h9
    intro n
    induction n with
    | zero =>
      intro k hh i ei hn hk eh
      exact sg_seek_25 _ _ _ _ ⟨fun _ => last k hh (by omega) eh, fun c => absurd (t_le.mpr (by rw [y136]; omega)) c⟩
    | succ n ih =>
      intro k hh i ei hn hk eh
      refine sg_seek_25 _ _ _ _ ⟨fun c => last k hh (by rw [t_le, y136] at c; omega) eh, fun c => ?_⟩
      rw [t_le, y136] at c
      have ii : (i + 1).toInt = ((k + 1 : Nat) : Int) := by rw [t_add (by omega) (by omega), k1, ei]; rfl
      have x2 : (240 * M + i).toInt = 240 * M.toInt + i.toInt := by rw [t_add (by omega) (by omega), b1]
      have c3 : (240 * M + i).toNatClampNeg = 240 * m + k := by rw [t_cl, x2]; omega
      rw [c3, yr k (by omega)]
      refine ⟨by rw [vp_in_iff]; omega, ih (k + 1) _ _ ii (by omega) (by omega) ?_⟩
      rw [hsF, ← eh]
      rfl
  exact p25 222 0 0 0 rfl (by omega) (by omega) rfl
end SK3
end
section
/-! the model: what looking at a state asks -/
section MLH
variable {G : mG} {d D : Nat} {x z a y : gd} {F : Int32 → gd → Prop} {Fv : gd → Prop} {C : gCo} {M : gMa} {w : Nat}
theorem evQ_me {lv : Nat → Int32} {cv : Int32 → Int32} {m m' : Int32} : ∀ {Q : List gQ}, (∀ p ∈ Q, ¬ p.1 = 3) → ∀ s, evQ lv cv m Q s = evQ lv cv m' Q s := by
  intro Q
  induction Q with
  | nil => intro _ s; rfl
  | cons q Q ih =>
    intro h s
    have ih := ih (fun p hp => h p (List.mem_cons_of_mem _ hp))
    have h3 := h q (List.mem_cons_self ..)
    rw [evQ, evQ]
    by_cases c1 : q.1 = 1
    · rw [if_pos c1, if_pos c1, ih]
    · rw [if_neg c1, if_neg c1]
      by_cases c2 : q.1 = 2
      · rw [if_pos c2, if_pos c2, ih]
      · rw [if_neg c2, if_neg c2, if_neg h3, if_neg h3]
        by_cases c4 : q.1 = 4
        · rw [if_pos c4, if_pos c4, ih]
        · rw [if_neg c4, if_neg c4]
          by_cases c5 : q.1 = 5
          · rw [if_pos c5, if_pos c5, ih]
          · rw [if_neg c5, if_neg c5]
            cases biQ q.2.2 (s.tail.headD 0) (s.headD 0) with
            | none => rfl
            | some r => exact ih _
theorem sp_hasAct3 (hN : NC C) (hX : NXc C) (w01 : w = 0 ∨ w = 1) (am : AM C w M a) (e : eqS (Sm a) a y) (t : Int32) (tv : vp_in t 6) (hD : 2 ≤ D) (h0 : ¬ canM C w M t.toNatClampNeg → ∀ y', md rL rA y y' → eqS (Sm a) a y' → F 0 y') (h1 : a.1 73 t.toNatClampNeg = 1 → ¬ a.1 77 t.toNatClampNeg = 1 → canM C w M t.toNatClampNeg → ∀ y', md rL rA y y' → eqS (Sm a) a y' → F 1 y') : MT G D z_hasAct 0 [(0, vr 0), (1, vi t)] [] y (ri F) := by
  obtain ⟨av, hK, hM, hI, wy, -⟩ := am
  refine MD_top (ds_hasAct3 (d := 1) (S := Sm a) (x := a) (C := C) (M := M) (F := fun r y S1 => y = a ∧ S1 = Sm a ∧ ((r = 0 ∧ ¬ canM C w M t.toNatClampNeg) ∨ (r = 1 ∧ a.1 73 t.toNatClampNeg = 1 ∧ ¬ a.1 77 t.toNatClampNeg = 1 ∧ canM C w M t.toNatClampNeg))) t tv (RI_sub (Sl_Sm a) av.1) hK hN hX hM wy w01 (fun w0 t' ht' => (hI.1 t' ht').2.2.2 w0) (fun c => ⟨rfl, rfl, Or.inl ⟨rfl, c⟩⟩) (fun c1 c2 c3 => ⟨rfl, rfl, Or.inr ⟨rfl, c1, c2, c3⟩⟩)) e (by omega) (fun o x' S' y' q eq m => ?_)
  obtain ⟨r, eo, ex, eS, hr⟩ := q
  rw [ex, eS] at eq
  rw [eo]
  rcases hr with ⟨hr, c⟩ | ⟨hr, c1, c2, c3⟩
  · rw [hr]; exact ri_i (h0 c y' m eq)
  · rw [hr]; exact ri_i (h1 c1 c2 c3 y' m eq)
theorem sp_lookAt3 (hN : NC C) (hX : NXc C) (w01 : w = 0 ∨ w = 1) (am : AM C w M a) (e : eqS (Sm a) a z) (t : Int32) (tv : vp_in t 6) (h1 : a.1 73 t.toNatClampNeg = 1) (h2 : ¬ a.1 77 t.toNatClampNeg = 1) (hD : 3 ≤ D) (h : ∀ z' x', eqS (Sm a) a z' → md rL rA z z' → lkP a x' t.toNatClampNeg → z'.1 0 88 = x'.1 0 88 → z'.1 0 89 = x'.1 0 89 → z'.1 0 89 = Int32.ofNat (lkM C w M t.toNatClampNeg).1 → z'.1 0 88 = (lkM C w M t.toNatClampNeg).2.1 → Fv z') : MT G D z_lookAt 0 [(0, vr 0), (1, vi t)] [] z (rv Fv) := by
  obtain ⟨av, hK, hM, hI, wy, -⟩ := am
  refine MD_top (ds_look3 (d := 0) (S := Sm a) (C := C) (M := M) (w := w) (Fv := fun y S1 => md [82, 88, 89, 90, 91] [84] a y ∧ ssub (Sm a) S1 ∧ lkS S1 ∧ lkP a y t.toNatClampNeg ∧ lkQ y (lkM C w M t.toNatClampNeg)) t tv (RI_sub (Sl_Sm a) av.1) h1 h2 hK hN hX hM wy w01 (fun y S1 q1 q2 q3 q4 q5 => ⟨q1, q2, q3, q4, q5⟩)) e (by omega) (fun o x' S' z' q eq mz => ?_)
  obtain ⟨eo, mx, ss, ls, lp, lq⟩ := q
  rw [eo]
  have e88 := eq 0 88 (Or.inr ls.1)
  have e89 := eq 0 89 (Or.inr ls.2.1)
  refine rv_i (h z' x' (fun c j hc => ?_) mz lp e88 e89 (by rw [e89]; exact lq.1) (by rw [e88]; exact lq.2.1))
  have hx : eqS (Sm a) a x' := eqS_mi (eqS_rf _ _) (mi_of mx) rfl rfl (ssub_rf _)
  rw [eq c j (hc.imp id (ss c j)), hx c j hc]
/-- a claim's sum -/
theorem sp_claim (hN : NC C) (hq2 : NCq C) (l24 : C.2.2.1.length ≤ 24) (am : AM C w M a) (e : eqS (Sm a) a y) (r : Int32) {Q : List gQ} (hQ : Q ∈ C.2.2.2.1 ∨ Q ∈ C.2.2.2.2) (hS : SUm a r (Q.map (mQp []))) (hD : 2 ≤ D) (h : ∀ v y', md rL rA y y' → eqS (Sm a) a y' → ((v = 0 ∨ ¬ y'.1 0 82 = 0) ↔ badC M Q) → (y'.1 0 82 = 0 ∨ y'.1 0 82 = 1) → F v y') : MT G D z_worked 0 [(0, vr 0), (1, vi r), (2, vi (-1))] [] y (ri F) := by
  obtain ⟨av, hK, hM, hI, wy, -⟩ := am
  have w6 : (a.1 0 49).toInt ≤ 6000 := by have := av.1.1.2.1.2.2.2.1; omega
  obtain ⟨n1, n2⟩ := hN.2.2 Q hQ
  have k1 : ¬ (1 : Int32) = 0 := by decide
  refine MD_top (ds_workedf (d := 0) (S := Sm a) (x := a) (t := -1) (sl := []) (lv := fun _ => 0) (cv := fun c => M.1 c.toNatClampNeg) (F := fun v y S1 => md [82] [84] a y ∧ ssub (Sm a) S1 ∧ S1 0 82 ∧ wkM y (wkQ (fun _ => 0) (fun c => M.1 c.toNatClampNeg) (-1) Q) v) hS w6 n1 (fun p hp => ⟨(n2 p hp).1, fun c => absurd c (n2 p hp).2, fun c => ?_⟩) (fun v y S1 h1 h2 h3 h4 => ⟨h1, h2, h3, h4⟩)) e (by omega) (fun o x' S' y' q eq m => ?_)
  · obtain ⟨c0, c1⟩ := (hq2 Q hQ p hp).2 c
    exact ⟨by rw [vp_in_iff]; omega, hM.1 _ (by rw [t_cl]; omega)⟩
  · obtain ⟨v, eo, mx, ss, s82, wk⟩ := q
    rw [eo]
    have e82 := eq 0 82 (Or.inr s82)
    have ev : wkQ (fun _ => 0) (fun c => M.1 c.toNatClampNeg) (-1) Q = evC M Q := by
      unfold evC wkQ
      rw [evQ_me (m' := 0) (fun p hp => (hq2 Q hQ p hp).1)]
    rw [ev] at wk
    refine ri_i (h v y' m (fun c j hc => ?_) ?_ ?_)
    · have hx : eqS (Sm a) a x' := eqS_mi (eqS_rf _ _) (mi_of mx) rfl rfl (ssub_rf _)
      rw [eq c j (hc.imp id (ss c j)), hx c j hc]
    · rw [e82]
      rcases wk with ⟨u, hu, er, y5⟩ | ⟨hu, y5⟩
      · rw [er, y5]
        constructor
        · rintro (z | z)
          · exact Or.inr (by rw [hu, z])
          · exact absurd rfl z
        · rintro (z | z)
          · rw [hu] at z; cases z
          · rw [hu] at z; exact Or.inl (Option.some.inj z)
      · rw [y5]
        exact ⟨fun _ => Or.inl hu, fun _ => Or.inr k1⟩
    · rw [e82]
      rcases wk with ⟨u, hu, er, y5⟩ | ⟨hu, y5⟩
      · exact Or.inl y5
      · exact Or.inr y5
end MLH
end
section
/-! the model: locks held, outcomes kept -/
/-- the outcomes that are kept, in any order -/
def OUm (y : gd) (W : Nat) (L : List (List Int32)) : Prop := ∃ K : List (List Int32), (y.1 123 W).toInt = (K.length : Nat) ∧ K.length = L.length ∧ (∀ r, r ∈ K ↔ r ∈ L) ∧ ∀ i r, K[i]? = some r → ∀ c v, r[c]? = some v → y.1 129 (72000 * W + 24 * i + c) = v
section MOU
variable {G : mG} {d D : Nat} {x z a y : gd} {F : Int32 → gd → Prop} {Fv : gd → Prop} {C : gCo} {M : gMa} {w T nl : Nat} {L : List (List Int32)} {r : List Int32}
theorem OUm_f {W : Nat} (e3 : y.1 123 = x.1 123) (e9 : y.1 129 = x.1 129) (h : OUm x W L) : OUm y W L := by
  obtain ⟨K, h1, h2, h3, h4⟩ := h
  exact ⟨K, by rw [e3]; exact h1, h2, h3, fun i r hr c v hv => by rw [e9]; exact h4 i r hr c v hv⟩
theorem sp_locksOf3 (t : Int32) (et : t.toInt = T) (hT : T < 6) (en : (z.1 0 24).toInt = (nl : Nat)) (n6 : nl ≤ 6) (e71 : ∀ l, l < nl → z.1 71 l = Int32.ofNat (M.2.1 l).1 - 1 ∧ (M.2.1 l).1 ≤ 6) (h : F (hdN M T nl) z) : MT G d z_locksOf 0 [(0, vr 0), (1, vi t)] [] z (ri F) := by
  have k0 : (0 : Int32).toInt = 0 := rfl
  have k1 : (1 : Int32).toInt = 1 := rfl
  have tT : t = Int32.ofNat T := i32_of et
  have loop : ∀ (n k : Nat) (m i : Int32), i.toInt = k → nl - k ≤ n → k ≤ nl → m = hdN M T k → MT G d z_locksOf 4 [(0, vr 0), (1, vi t), (2, vi m), (3, vi i)] [] z (ri F) := by
    intro n
    have fin : ∀ (k : Nat) (m i : Int32), i.toInt = k → k ≤ nl → m = hdN M T k → z.1 0 24 ≤ i → ri F (some (vi m)) z := by
      intro k m i ei hk em c
      rw [t_le] at c
      have ek : k = nl := by omega
      rw [em, ek]; exact ri_i h
    induction n with
    | zero =>
      intro k m i ei hn hk em
      exact sg_locksOf_4 _ _ _ ⟨fun c => fin k m i ei hk em c, fun c => absurd (t_le.mpr (by omega)) c⟩
    | succ n ih =>
      intro k m i ei hn hk em
      refine sg_locksOf_4 _ _ _ ⟨fun c => fin k m i ei hk em c, fun c => ?_⟩
      rw [t_le] at c
      have ii : (i + 1).toInt = ((k + 1 : Nat) : Int) := by rw [t_add (by omega) (by omega), k1, ei]; rfl
      have iK : i.toNatClampNeg = k := by rw [t_cl, ei]; rfl
      have hk2 : k < nl := by omega
      obtain ⟨q1, q2⟩ := e71 k hk2
      have hh := hol_t (M.2.1 k).1 (by omega) T hT
      rw [iK, q1, tT, hh]
      refine ⟨by rw [vp_in_iff]; omega, fun c => ?_, fun c => ?_⟩
      · rw [← tT]
        exact ih (k + 1) _ _ ii (by omega) (by omega) (by rw [hdN, if_neg c]; exact em)
      · rw [← tT]
        exact ih (k + 1) _ _ ii (by omega) (by omega) (by rw [hdN, if_pos c, ← em, i32_of ei])
  exact sg_locksOf_0 _ (loop nl 0 0 0 rfl (by omega) (Nat.zero_le _) rfl)
theorem t72e {w i c : Int32} {W I c' : Nat} (wv : vp_in w 2) (eW : w.toNatClampNeg = W) (ei : i.toInt = I) (i1 : I < 3000) (ec : c.toInt = c') (c1 : c' < 24) : (72000 * w + 24 * i + c).toNatClampNeg = 72000 * W + 24 * I + c' := by
  have k : (72000 : Int32).toInt = 72000 := rfl
  have k2 : (24 : Int32).toInt = 24 := rfl
  have tv := vp_in_iff.mp wv
  have m : (72000 * w).toInt = 72000 * w.toInt := by rw [t_mul (by rw [k]; omega) (by rw [k]; omega), k]
  have m2 : (24 * i).toInt = 24 * i.toInt := by rw [t_mul (by rw [k2]; omega) (by rw [k2]; omega), k2]
  have e : (72000 * w + 24 * i).toInt = 72000 * w.toInt + 24 * i.toInt := by rw [t_add (by omega) (by omega), m, m2]
  rw [t_cl] at eW
  rw [t_cl, t_add (by omega) (by omega), e]; omega
theorem inR_new (h : soR L) (hl : ∀ s ∈ L, s.length = r.length) (n : ¬ r ∈ L) : (inR r L).length = L.length + 1 := by
  induction L with
  | nil => rfl
  | cons s L ih =>
    have ne : ¬ s = r := fun z => n (by rw [z]; exact List.mem_cons_self ..)
    rw [inR, if_neg ne]
    by_cases c : ltR r s = true
    · rw [if_pos c]; rfl
    · rw [if_neg c]
      show (inR r L).length + 1 = _
      rw [ih (List.pairwise_cons.mp h).2 (fun s hs => hl s (List.mem_cons_of_mem _ hs)) (fun z => n (List.mem_cons_of_mem _ z))]
      rfl
theorem sp_addOutcome3 (w : Int32) (wv : vp_in w 2) {W N : Nat} (eW : w.toNatClampNeg = W) (o1 : L.length < 3000) (h23 : (z.1 0 23).toInt = (N : Nat)) (hN : N ≤ 24) (hso : soR L) (hll : ∀ t ∈ L, t.length = N) (lr : r.length = N) (hr : ∀ c v, r[c]? = some v → z.1 70 c = v) (hL : OUm z W L) (h : ∀ z', md [] [123, 129] z z' → ow W z z' → 0 ≤ (z'.1 123 W).toInt → (z'.1 123 W).toInt ≤ (z.1 123 W).toInt + 1 → OUm z' W (inR r L) → Fv z') : MT G d z_addOutcome 0 [(0, vr 0), (1, vi w)] [] z (rv Fv) := by
  have k0 : (0 : Int32).toInt = 0 := rfl
  have k1 : (1 : Int32).toInt = 1 := rfl
  have k24 : (24 : Int32).toInt = 24 := rfl
  have W2 : W < 2 := by rw [← eW]; exact vp_lt wv
  obtain ⟨K, K1, K2, K3, K4⟩ := id hL
  have Kl : ∀ t ∈ K, t.length = N := fun t ht => hll t ((K3 t).mp ht)
  obtain ⟨O, eO⟩ : ∃ O, O = z.1 123 W := ⟨_, rfl⟩
  rw [← eO] at K1 h
  have p83 : ¬ r ∈ K → ∀ (n c' : Nat) (y : gd) (c : Int32), c.toInt = c' → 24 - c' ≤ n → c' ≤ 24 → md [] [129] z y → (∀ j, j < 72000 * W + 24 * K.length → y.1 129 j = z.1 129 j) → (∀ j, j < c' → y.1 129 (72000 * W + 24 * K.length + j) = z.1 70 j) → MT G d z_addOutcome 83 [(0, vr 0), (1, vi w), (2, vi c)] [] y (rv Fv) := by
    intro nr
    have last : ∀ (c' : Nat) (y : gd) (c : Int32), c.toInt = c' → c' ≤ 24 → (24 : Int32) ≤ c → md [] [129] z y → (∀ j, j < 72000 * W + 24 * K.length → y.1 129 j = z.1 129 j) → (∀ j, j < c' → y.1 129 (72000 * W + 24 * K.length + j) = z.1 70 j) → vp_in w 2 ∧ vp_in w 2 ∧ (∀ x4 : gd, x4 = si y 123 w.toNatClampNeg ((y.1 123 w.toNatClampNeg) + 1) → rv Fv none x4) := by
      intro c' y c ec hc' hc my y1 y2
      refine ⟨wv, wv, fun y4 e4 => ?_⟩
      rw [eW] at e4
      have f : y.1 123 W = O := by rw [my.2.1 123 (by decide) (by decide), eO]
      rw [f] at e4
      have m4 := md_a y 123 W (O + 1) (by decide)
      rw [← e4] at m4
      have g : (y4.1 123 W).toInt = O.toInt + 1 := by clear y1 y2; rw [e4, si_get, if_pos ⟨rfl, rfl⟩, t_add (by omega) (by omega), k1]
      have e129 : y4.1 129 = y.1 129 := by rw [e4, si_cell (by decide)]
      rw [t_le, k24] at hc
      have c24 : c' = 24 := by clear y1 y2; omega
      refine rv_i (h y4 (md_tr my m4 rfl rfl) (ow_tr (ow_mi (mi_of my) rfl) (by rw [e4]; exact ow_si W2 (Or.inl ⟨Or.inr rfl, rfl⟩))) (by clear y1 y2; omega) (by clear y1 y2; omega) ⟨K ++ [r], ?_, ?_, fun t => ?_, fun i t ht c v hv => ?_⟩)
      · rw [g, K1, List.length_append]; rfl
      · rw [inR_new hso (fun s hs => by rw [hll s hs, lr]) (fun z => nr ((K3 r).mpr z)), List.length_append, K2]; rfl
      · rw [List.mem_append, inR_in, K3 t, List.mem_singleton]
        exact ⟨fun z => z.elim Or.inr Or.inl, fun z => z.elim Or.inr Or.inl⟩
      · rw [e129]
        by_cases ei : i < K.length
        · rw [List.getElem?_append_left ei] at ht
          have hc := gt_lt hv
          have := Kl t (List.mem_of_getElem? ht)
          rw [y1 _ (by clear y1 y2; omega)]
          exact K4 i t ht c v hv
        · have hi := gt_lt ht
          rw [List.length_append] at hi
          have hi : i < K.length + 1 := hi
          have ei2 : i = K.length := by clear y1 y2; omega
          rw [ei2, List.getElem?_append_right (Nat.le_refl _), Nat.sub_self] at ht
          have et : r = t := Option.some.inj ht
          rw [← et] at hv
          have hc := gt_lt hv
          rw [ei2, y2 c (by clear y1 y2; omega)]
          exact hr c v hv
    intro n
    induction n with
    | zero =>
      intro c' y c ec hn hc my y1 y2
      exact sg_addOutcome_83 _ _ ⟨fun q => last c' y c ec hc q my y1 y2, fun q => absurd (t_le.mpr (by clear y1 y2; rw [k24]; omega)) q⟩
    | succ n ih =>
      intro c' y c ec hn hc my y1 y2
      refine sg_addOutcome_83 _ _ ⟨fun q => last c' y c ec hc q my y1 y2, fun q => ?_⟩
      rw [t_le, k24] at q
      have hc2 : c' < 24 := by clear y1 y2; omega
      have ci : (c + 1).toInt = ((c' + 1 : Nat) : Int) := by clear y1 y2; rw [t_add (by omega) (by omega), k1, ec]; rfl
      have f : y.1 123 w.toNatClampNeg = O := by rw [my.2.1 123 (by decide) (by decide), eW, eO]
      rw [f]
      refine ⟨wv, by clear y1 y2; rw [vp_in_iff]; omega, t72 wv (by clear y1 y2; omega) (by clear y1 y2; omega) (by clear y1 y2; omega) (by clear y1 y2; omega), fun y8 e8 => ?_⟩
      have eI := t72e wv eW (i := O) (I := K.length) (c := c) (c' := c') (by clear y1 y2; omega) (by clear y1 y2; omega) ec hc2
      have cK : c.toNatClampNeg = c' := by rw [t_cl, ec]; rfl
      rw [eI, cK, my.2.1 70 (by decide) (by decide)] at e8
      have m8 := md_a y 129 (72000 * W + 24 * K.length + c') (z.1 70 c') (by decide)
      rw [← e8] at m8
      refine ih (c' + 1) y8 (c + 1) ci (by clear y1 y2; omega) hc2 (md_tr my m8 rfl rfl) (fun j hj => ?_) (fun j hj => ?_)
      · rw [e8, si_get, if_neg (by clear y1 y2; omega)]; exact y1 j hj
      · by_cases e : j = c'
        · rw [e, e8, si_get, if_pos ⟨rfl, rfl⟩]
        · rw [e8, si_get, if_neg (by clear y1 y2; omega)]
          exact y2 j (by clear y1 y2; omega)
  have q83 : ¬ r ∈ K → MT G d z_addOutcome 83 [(0, vr 0), (1, vi w), (2, vi 0)] [] z (rv Fv) := fun nr => p83 nr 24 0 z 0 rfl (by omega) (by omega) (md_w (md_rf z) (by decide) (by decide)) (fun _ _ => rfl) (fun j hj => absurd hj (Nat.not_lt_zero _))
  have same : r ∈ K → rv Fv none z := fun hm => rv_i (h z (md_w (md_rf z) (by decide) (by decide)) (ow_mi (L := []) (A := []) ⟨fun _ _ => rfl, fun _ _ _ => rfl⟩ rfl) (by rw [← eO]; omega) (by rw [← eO]; omega) (by rw [inR_mem hso ((K3 r).mp hm)]; exact hL))
  have p2 : ∀ (n I : Nat) (i : Int32), i.toInt = I → K.length - I ≤ n → I ≤ K.length → (∀ j t, j < I → K[j]? = some t → ¬ t = r) → MT G d z_addOutcome 2 [(0, vr 0), (1, vi w), (2, vi i)] [] z (rv Fv) := by
    intro n
    have fin : ∀ (I : Nat) (i : Int32), i.toInt = I → I ≤ K.length → (∀ j t, j < I → K[j]? = some t → ¬ t = r) → O ≤ i → MT G d z_addOutcome 83 [(0, vr 0), (1, vi w), (2, vi 0)] [] z (rv Fv) := by
      intro I i ei hI hno c
      rw [t_le] at c
      refine q83 (fun hm => ?_)
      obtain ⟨j, hj⟩ := List.mem_iff_getElem?.mp hm
      have := gt_lt hj
      exact hno j r (by clear hno; omega) hj rfl
    induction n with
    | zero =>
      intro I i ei hn hI hno
      refine sg_addOutcome_2 _ _ ⟨wv, ?_⟩
      rw [eW, ← eO]
      exact ⟨fun c => fin I i ei hI hno c, fun c => absurd (t_le.mpr (by clear hno; omega)) c⟩
    | succ n ih =>
      intro I i ei hn hI hno
      refine sg_addOutcome_2 _ _ ⟨wv, ?_⟩
      rw [eW, ← eO]
      refine ⟨fun c => fin I i ei hI hno c, fun c => ?_⟩
      rw [t_le] at c
      have hI2 : I < K.length := by clear hno; omega
      have ii : (i + 1).toInt = ((I + 1 : Nat) : Int) := by clear hno; rw [t_add (by omega) (by omega), k1, ei]; rfl
      obtain ⟨t, ht⟩ : ∃ t, K[I]? = some t := ⟨_, List.getElem?_eq_getElem hI2⟩
      have tl := Kl t (List.mem_of_getElem? ht)
      have p70 : ∀ v : Int32, (v = 0 ↔ ¬ t = r) → MT G d z_addOutcome 70 [(0, vr 0), (1, vi w), (2, vi i), (3, vi v)] [] z (rv Fv) := fun v hv => sg_addOutcome_70 _ _ _ ⟨fun v0 => ih (I + 1) (i + 1) ii (by clear hno; omega) hI2 (fun j u hj hu => by
        by_cases e : j = I
        · rw [e, ht] at hu
          rw [← Option.some.inj hu]; exact hv.mp v0
        · exact hno j u (by clear hno; omega) hu), fun vn => same (by
        have : t = r := by
          apply Classical.byContradiction
          intro z; exact vn (hv.mpr z)
        rw [← this]; exact List.mem_of_getElem? ht)⟩
      have p17 : ∀ (m c' : Nat) (v c : Int32), c.toInt = c' → N - c' ≤ m → c' ≤ N → ((v = 1 ∧ t.take c' = r.take c') ∨ (v = 0 ∧ ¬ t = r)) → MT G d z_addOutcome 17 [(0, vr 0), (1, vi w), (2, vi i), (3, vi v), (4, vi c)] [] z (rv Fv) := by
        intro m
        have n1 : ¬ (1 : Int32) = 0 := by decide
        have fin7 : ∀ (c' : Nat) (v c : Int32), c.toInt = c' → c' ≤ N → ((v = 1 ∧ t.take c' = r.take c') ∨ (v = 0 ∧ ¬ t = r)) → z.1 0 23 ≤ c → MT G d z_addOutcome 70 [(0, vr 0), (1, vi w), (2, vi i), (3, vi v)] [] z (rv Fv) := by
          intro c' v c ec hc hv q
          rw [t_le] at q
          have ec2 : c' = N := by clear hno; omega
          refine p70 v ?_
          rcases hv with ⟨h1, h2⟩ | ⟨h1, h2⟩
          · rw [ec2, List.take_of_length_le (by omega), List.take_of_length_le (by omega)] at h2
            exact ⟨fun z => absurd (h1.symm.trans z) n1, fun z => absurd h2 z⟩
          · exact ⟨fun _ => h2, fun _ => h1⟩
        induction m with
        | zero =>
          intro c' v c ec hm hc hv
          exact sg_addOutcome_17 _ _ _ _ ⟨fun q => fin7 c' v c ec hc hv q, fun q => absurd (t_le.mpr (by clear hno; omega)) q⟩
        | succ m ihm =>
          intro c' v c ec hm hc hv
          refine sg_addOutcome_17 _ _ _ _ ⟨fun q => fin7 c' v c ec hc hv q, fun q => ⟨fun v0 => p70 v ?_, fun vn => ?_⟩⟩
          · rcases hv with ⟨h1, h2⟩ | ⟨h1, h2⟩
            · exact absurd (h1.symm.trans v0) n1
            · exact ⟨fun _ => h2, fun _ => h1⟩
          rw [t_le] at q
          have hc2 : c' < N := by clear hno; omega
          have ci : (c + 1).toInt = ((c' + 1 : Nat) : Int) := by clear hno; rw [t_add (by omega) (by omega), k1, ec]; rfl
          have ht2 : t.take c' = r.take c' := by
            rcases hv with ⟨h1, h2⟩ | ⟨h1, h2⟩
            · exact h2
            · exact absurd h1 vn
          obtain ⟨u, hu⟩ : ∃ u, t[c']? = some u := ⟨_, List.getElem?_eq_getElem (by omega)⟩
          obtain ⟨u2, hu2⟩ : ∃ u, r[c']? = some u := ⟨_, List.getElem?_eq_getElem (by omega)⟩
          have eI := t72e wv eW (i := i) (I := I) (c := c) (c' := c') ei (by clear hno; omega) ec (by clear hno; omega)
          have cK : c.toNatClampNeg = c' := by rw [t_cl, ec]; rfl
          rw [eI, cK, K4 I t ht c' u hu, hr c' u2 hu2]
          refine ⟨t72 wv (by clear hno; omega) (by clear hno; omega) (by clear hno; omega) (by clear hno; omega), by clear hno; rw [vp_in_iff]; omega, fun ne => ihm (c' + 1) _ _ ci (by clear hno; omega) hc2 (Or.inr ⟨rfl, fun z => ne ?_⟩), fun e => ihm (c' + 1) _ _ ci (by clear hno; omega) hc2 (Or.inl ⟨rfl, ?_⟩)⟩
          · rw [z, hu2] at hu
            exact (Option.some.inj hu).symm
          · rw [List.take_succ, List.take_succ, ht2, hu, hu2, e]
      exact p17 N 0 1 0 rfl (by omega) (Nat.zero_le _) (Or.inl ⟨rfl, rfl⟩)
  exact sg_addOutcome_0 _ (p2 K.length 0 0 rfl (by omega) (Nat.zero_le _) (fun j t hj => absurd hj (Nat.not_lt_zero _)))
end MOU
end
section
/-! the model: sorts, races, findings noted -/
def FAm (z y : gd) (W : Nat) (s : Int32) (D : Nat → Prop) : Prop := ∀ f, f < 11 → (D f ∧ z.1 126 (11 * W + f) = -1 ∧ y.1 126 (11 * W + f) = s) ∨ (¬ (D f ∧ z.1 126 (11 * W + f) = -1) ∧ y.1 126 (11 * W + f) = z.1 126 (11 * W + f))
section MRC
variable {G : mG} {d D : Nat} {x z a y y' : gd} {F : Int32 → gd → Prop} {Fv : gd → Prop} {C : gCo} {M : gMa} {w W n m : Nat} {s : Int32} {E E' : Nat → Prop}
theorem FAm_f (e : y'.1 126 = y.1 126) (h : FAm z y W s E) : FAm z y' W s E := fun f hf => by rw [e]; exact h f hf
theorem FAm_c (e : ∀ f, f < 11 → (E f ↔ E' f)) (h : FAm z y W s E) : FAm z y W s E' := fun f hf => by rw [← e f hf]; exact h f hf
theorem FAm_more (hm : n ≤ m) (hn : ∀ f, n ≤ f → f < m → ¬ fnM C w M f) (h : FAm z y W s (fD C w M n)) : FAm z y W s (fD C w M m) := FAm_c (fun f _ => ⟨fun z => ⟨by have := z.1; omega, z.2⟩, fun z => ⟨by
  apply Classical.byContradiction
  intro c
  exact hn f (by omega) z.1 z.2, z.2⟩⟩) h
/-- a finding is noted, whether it was before or not -/
theorem FAm_find (hs : 0 ≤ s.toInt) (hn : n < 11) (e : ∀ k, ¬ k = 11 * W + n → y'.1 126 k = y.1 126 k) (e1 : y.1 126 (11 * W + n) = -1 → y'.1 126 (11 * W + n) = s) (e2 : ¬ y.1 126 (11 * W + n) = -1 → y'.1 126 (11 * W + n) = y.1 126 (11 * W + n)) (h : FAm z y W s E) : FAm z y' W s (fun f => E f ∨ f = n) := by
  intro f hf9
  by_cases c : f = n
  · rw [c]
    rcases h n hn with ⟨a1, a2, a3⟩ | ⟨a1, a2⟩
    · refine Or.inl ⟨Or.inr rfl, a2, ?_⟩
      rw [e2 (fun q => by rw [a3] at q; rw [q, tm1] at hs; omega)]; exact a3
    · by_cases c9 : z.1 126 (11 * W + n) = -1
      · exact Or.inl ⟨Or.inr rfl, c9, e1 (by rw [a2]; exact c9)⟩
      · exact Or.inr ⟨fun q => c9 q.2, by rw [e2 (by rw [a2]; exact c9)]; exact a2⟩
  · rw [e _ (by omega)]
    have hD : (fun f => E f ∨ f = n) f ↔ E f := ⟨fun q => q.resolve_right c, Or.inl⟩
    rw [hD]; exact h f hf9
theorem fD_up (hf : fnM C w M n) (f : Nat) : (fD C w M n f ∨ f = n) ↔ fD C w M (n + 1) f := by
  constructor
  · rintro (q | q)
    · exact ⟨by have := q.1; omega, q.2⟩
    · exact ⟨by omega, by rw [q]; exact hf⟩
  · intro q
    by_cases c : f = n
    · exact Or.inr c
    · exact Or.inl ⟨by have := q.1; omega, q.2⟩
theorem sp_find3 (w f s : Int32) (wv : vp_in w 2) {f9 : Nat} (ef : f.toInt = (f9 : Nat)) (f1 : f9 < 11) {M : Int} (s0 : 0 ≤ s.toInt) (s1 : s.toInt < M) (hf : fnd z w.toNatClampNeg M) (h : ∀ z', md [] [126] z z' → ow w.toNatClampNeg z z' → fnd z' w.toNatClampNeg M → (∀ k, ¬ k = 11 * w.toNatClampNeg + f9 → z'.1 126 k = z.1 126 k) → (z.1 126 (11 * w.toNatClampNeg + f9) = -1 → z'.1 126 (11 * w.toNatClampNeg + f9) = s) → (¬ z.1 126 (11 * w.toNatClampNeg + f9) = -1 → z'.1 126 (11 * w.toNatClampNeg + f9) = z.1 126 (11 * w.toNatClampNeg + f9)) → Fv z') : MT G d z_find 0 [(0, vr 0), (1, vi w), (2, vi f), (3, vi s)] [] z (rv Fv) := by
  obtain ⟨v, e⟩ := t11 wv (f := f) (by omega) (by omega)
  have cf : f.toNatClampNeg = f9 := by rw [t_cl, ef]; rfl
  rw [cf] at e
  refine sg_find_0 _ _ _ ⟨v, fun c => rv_i (h z (md_w (md_rf z) (by decide) (by decide)) (ow_mi (L := []) (A := []) ⟨fun _ _ => rfl, fun _ _ _ => rfl⟩ rfl) hf (fun _ _ => rfl) (fun c2 => absurd (by rw [e]; exact c2) c) (fun _ => rfl)), fun c => ⟨v, fun y ey => ?_⟩⟩
  rw [e] at ey c
  have m := md_a z 126 (11 * w.toNatClampNeg + f9) s (by decide)
  rw [← ey] at m
  refine rv_i (h y m ?_ (fun g hg => ?_) (fun k hk => by rw [ey, si_get, if_neg (fun q => hk q.2)]) (fun _ => by rw [ey, si_get, if_pos ⟨rfl, rfl⟩]) (fun c2 => absurd c c2))
  · rw [ey]
    exact ow_si (vp_lt wv) (Or.inr (Or.inl ⟨rfl, _, f1, rfl⟩))
  · rw [ey, si_get]
    by_cases q : (126 : Nat) = 126 ∧ 11 * w.toNatClampNeg + g = 11 * w.toNatClampNeg + f9
    · rw [if_pos q]; exact Or.inr ⟨s0, s1⟩
    · rw [if_neg q]; exact hf g hg
theorem sp_isAtomic3 {k : Nat} (hk : k < 22) (h : ∀ r : Int32, (¬ r = 0 ↔ 2 ≤ k ∧ k ≤ 4) → F r x) : MT G d z_isAtomic 0 [(0, vr 0), (1, vi (Int32.ofNat k))] [] x (ri F) := by
  have k1 : ¬ (1 : Int32) = 0 := by decide
  have e : ∀ n, n < 22 → ((Int32.ofNat n = 2 ↔ n = 2) ∧ (Int32.ofNat n = 3 ↔ n = 3) ∧ (Int32.ofNat n = 4 ↔ n = 4)) := by decide +kernel
  obtain ⟨e2, e3, e4⟩ := e k hk
  refine sg_isAtomic_0 _ ⟨fun c => ri_i (h _ ⟨fun _ => by have := e2.mp c; omega, fun _ => k1⟩), fun c2 => ⟨fun c => ri_i (h _ ⟨fun _ => by have := e3.mp c; omega, fun _ => k1⟩), fun c3 => ⟨fun c4 => ri_i (h _ ⟨fun q => absurd rfl q, fun q => ?_⟩), fun c => ri_i (h _ ⟨fun _ => by have := e4.mp c; omega, fun _ => k1⟩)⟩⟩⟩
  exfalso
  rw [e2] at c2
  rw [e3] at c3
  rw [e4] at c4
  omega
theorem sp_mayRace3 {k l : Nat} (hk : k < 22) (hl : l < 22) (h : ∀ r : Int32, (¬ r = 0 ↔ k ≤ 4 ∧ l ≤ 4 ∧ srM k l) → F r x) : MT G (d + 1) z_mayRace 0 [(0, vr 0), (1, vi (Int32.ofNat k)), (2, vi (Int32.ofNat l))] [] x (ri F) := by
  have k1 : ¬ (1 : Int32) = 0 := by decide
  have ek : (Int32.ofNat k).toInt = (k : Nat) := Int32.toInt_ofNat_of_lt (by omega)
  have el : (Int32.ofNat l).toInt = (l : Nat) := Int32.toInt_ofNat_of_lt (by omega)
  have z0 : ∀ n, n < 22 → (Int32.ofNat n = 0 ↔ n = 0) := by decide +kernel
  have p24 : k ≤ 4 → l ≤ 4 → ¬ (k = 0 ∧ l = 0) → MT G (d + 1) z_mayRace 24 [(0, vr 0), (1, vi (Int32.ofNat k)), (2, vi (Int32.ofNat l))] [] x (ri F) := fun a1 a2 a3 => sg_mayRace_24 _ _ (sp_isAtomic3 hk (fun r hr => ⟨fun r0 => ri_i (h _ ⟨fun _ => ⟨a1, a2, a3, fun q => hr.mpr ⟨q.1, a1⟩ r0⟩, fun _ => k1⟩), fun rn => sp_isAtomic3 hl (fun r2 hr2 => ⟨fun n2 => ri_i (h _ ⟨fun q => absurd rfl q, fun q => absurd ⟨(hr.mp rn).1, (hr2.mp n2).1⟩ q.2.2.2⟩), fun e2 => ri_i (h _ ⟨fun _ => ⟨a1, a2, a3, fun q => hr2.mpr ⟨q.2, a2⟩ e2⟩, fun _ => k1⟩)⟩)⟩))
  refine sg_mayRace_0 _ _ (sp_isAccess _ (fun c => ⟨fun _ => ri_i (h _ ⟨fun q => absurd rfl q, fun q => absurd q.1 (fun q2 => c (by omega))⟩), fun q => absurd rfl q⟩) (fun c1 => ⟨fun q => absurd q (by decide), fun _ => sp_isAccess _ (fun c => ⟨fun _ => ri_i (h _ ⟨fun q => absurd rfl q, fun q => absurd q.2.1 (fun q2 => c (by omega))⟩), fun q => absurd rfl q⟩) (fun c2 => ⟨fun q => absurd q (by decide), fun _ => ⟨fun n0 => p24 (by omega) (by omega) (fun q => n0 ((z0 k hk).mpr q.1)), fun e0 => ⟨fun e3 => ri_i (h _ ⟨fun q => absurd rfl q, fun q => absurd ⟨(z0 k hk).mp e0, (z0 l hl).mp e3⟩ q.2.2.1⟩), fun n3 => p24 (by omega) (by omega) (fun q => n3 ((z0 l hl).mpr q.2))⟩⟩⟩)⟩))
theorem srt_so {t : Nat} (hN : NC C) (am : AM C w M a) (ht : t < 6) (h1 : a.1 73 t = 1) (h2 : ¬ a.1 77 t = 1) : srt a t = Int32.ofNat (soM C (M.2.2 t)) ∧ soM C (M.2.2 t) < 22 := by
  obtain ⟨av, hK, hM, hI, wy, -⟩ := am
  obtain ⟨kv, kn, so, -⟩ := RI_step av.1 ht h1
  obtain ⟨m73, l73, m75, m74, m77, l77, -⟩ := hM.2.2 t ht
  have kK : (a.1 74 t).toNatClampNeg = (M.2.2 t).2.2.1 := by rw [t_cl, m74]; rfl
  have l52 : (a.1 0 52).toInt = C.1.length := hK.1.1
  obtain ⟨st, hst⟩ : ∃ st, C.1[(M.2.2 t).2.2.1]? = some st := ⟨_, List.getElem?_eq_getElem (by omega)⟩
  have esN := stN_is hst
  obtain ⟨k54, k55, -⟩ := hK.1.2 _ st hst
  have ns := hN.1 _ st hst
  have o16 : st.1 < 16 := by
    have b := ((av.1.2 t ht).1.2.2 h1).2
    rw [kK, k54] at b
    exact (mWh_i st.1 ns.1.1).1.mp b
  obtain ⟨w2, w1', w0'⟩ := wai_2 _ (show (M.2.2 t).2.2.2.1 < 3 by omega)
  rw [← m77] at w2 w1' w0'
  unfold srt soM
  rw [esN]
  by_cases c9 : a.1 77 t = 2
  · rw [if_pos c9, if_neg (by have := w2.mp c9; omega)]
    exact ⟨rfl, by decide⟩
  · have z0 : (M.2.2 t).2.2.2.1 = 0 := by
      have a1 : ¬ (M.2.2 t).2.2.2.1 = 2 := fun z => c9 (w2.mpr z)
      have a2 : ¬ (M.2.2 t).2.2.2.1 = 1 := fun z => h2 (w1'.mpr z)
      omega
    rw [if_neg c9, if_pos z0, kK]
    exact ⟨k55 o16, by omega⟩
end MRC
end
