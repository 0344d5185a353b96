/-! the class: rows that are the same hold one state, and the other way round -/
/-- the same program, the same places -/
def gmE (x y : gd) (o : Nat) : Prop := (y.1 60 6 = x.1 60 6 ∧ y.1 60 9 = x.1 60 9 ∧ y.1 60 10 = x.1 60 10 ∧ y.1 60 13 = x.1 60 13) ∧ y.1 o 7 = x.1 o 7 ∧ y.1 o 8 = x.1 o 8 ∧ y.1 o 9 = x.1 o 9
section KON
variable {x y z : gd} {o : Nat} {C : gCo} {M M' : gMa} {t k : Nat} {h h' : gTq}
theorem gm_pa (e : gmE x y o) (t k : Nat) : pa y o t k = pa x o t k := by
  unfold pa; rw [e.2.1, e.2.2.1]
theorem kTq_same (hM : MM x o) (ht : (t : Int) < (x.1 60 10).toInt) (e : gmE x y o) (g : kTq x o C t h) (g' : kTq y o C t h) (hk : k < usN x o t) : rg x o t k = rg y o t k := by
  obtain ⟨b1, b2, b3, b4, b5, b6, b7⟩ := MG_b hM.1 hM.2.1
  obtain ⟨⟨q0, q0'⟩, q1, q2, ⟨q3, q5, qw⟩, q4, q6, ⟨q7, ql⟩, qv, qk⟩ := g
  obtain ⟨⟨r0, r0'⟩, r1, r2, ⟨r3, r5, rw'⟩, r4, r6, ⟨r7, rl⟩, rv', rk⟩ := g'
  rw [e.1.2.2.2] at rv'
  rw [e.2.2.2] at rl
  unfold usN at hk
  by_cases c8 : k < 8
  · have : k = 0 ∨ k = 1 ∨ k = 2 ∨ k = 3 ∨ k = 4 ∨ k = 5 ∨ k = 6 ∨ k = 7 := by omega
    rcases this with c | c | c | c | c | c | c | c <;> rw [c]
    · rw [q0, r0]
    · rw [q1, r1]
    · rw [t_eq, q2, r2]
    · rw [q3, r3]
    · rw [q4, r4]
    · rw [q5, r5]
    · rw [q6, r6]
    · rw [t_eq, q7, r7]
  · by_cases c9 : (k : Int) < (x.1 o 9).toInt
    · obtain ⟨p, ep⟩ : ∃ p, k = 8 + p := ⟨k - 8, by omega⟩
      rw [ep, qv p (by omega), rv' p (by omega)]
    · obtain ⟨i, ei⟩ : ∃ i, k = (x.1 o 9).toInt.toNat + 2 * i ∨ k = (x.1 o 9).toInt.toNat + 2 * i + 1 := ⟨(k - (x.1 o 9).toInt.toNat) / 2, by omega⟩
      have hi : i < h.2.2.2.2.2.2.1.length := by omega
      obtain ⟨p, hp⟩ : ∃ p, h.2.2.2.2.2.2.1[i]? = some p := ⟨_, List.getElem?_eq_getElem hi⟩
      obtain ⟨a1, a2⟩ := ql i p hp
      obtain ⟨a3, a4⟩ := rl i p hp
      rcases ei with ei | ei <;> rw [ei]
      · rw [t_eq, a1, a3]
      · rw [a2, a4]
theorem KMm_same (hM : MM x o) (hK : CK x C) (e : gmE x y o) (g : KMm x o C M) (g' : KMm y o C M) : rwS x o (y.1 (o + 5)) := by
  have nT : (x.1 60 10).toInt = C.2.1.length := hK.2.1.1
  obtain ⟨m1, m2, m3, -⟩ := hM.2.1
  have c1 := hM.1.1.1
  have c2 := hM.1.1.2.1
  obtain ⟨⟨gc, gl⟩, gt⟩ := g
  obtain ⟨⟨gc', gl'⟩, gt'⟩ := g'
  rw [e.1.1] at gc' gl'
  rw [e.1.2.1] at gl'
  refine ⟨fun j hj => ?_, fun t k ht hk => ?_⟩
  · by_cases cj : (j : Int) < (x.1 60 6).toInt
    · rw [gc j cj, gc' j cj]
    · obtain ⟨l, el⟩ : ∃ l, j = (x.1 60 6).toInt.toNat + 2 * l ∨ j = (x.1 60 6).toInt.toNat + 2 * l + 1 := ⟨(j - (x.1 60 6).toInt.toNat) / 2, by omega⟩
      obtain ⟨a1, -, a2⟩ := gl l (by omega)
      obtain ⟨a3, -, a4⟩ := gl' l (by omega)
      rcases el with el | el <;> rw [el]
      · rw [a1, a3]
      · rw [a2, a4]
  · have := kTq_same hM ht e (gt t (by omega)) (gt' t (by omega)) hk
    unfold rg at this
    rw [gm_pa e] at this
    exact this
theorem ofN_in9 {a b : Nat} (ha : a ≤ 9) (hb : b ≤ 9) (h : Int32.ofNat a = Int32.ofNat b) : a = b := by
  have e1 : (Int32.ofNat a).toInt = (a : Nat) := Int32.toInt_ofNat_of_lt (by omega)
  have e2 : (Int32.ofNat b).toInt = (b : Nat) := Int32.toInt_ofNat_of_lt (by omega)
  rw [t_eq, e1, e2] at h
  omega
theorem i32_c1 {a b : Int32} (h : a + 1 = b + 1) : a = b := by
  have e2 : a + 1 - 1 = b + 1 - 1 := by rw [h]
  rw [Int32.add_sub_cancel, Int32.add_sub_cancel] at e2
  exact e2
theorem kTq_one (hM : MM x o) (hM' : MM y o) (hK : CK x C) (hK' : CK y C) (hN : NC C) (ht : t < C.2.1.length) (e : gmE x y o) (g : kTq x o C t h) (g' : kTq y o C t h') (n9 : h.2.1 ≤ 9) (n9' : h'.2.1 ≤ 9) (q : tCn C h) (q' : tCn C h') (hr : ∀ k, k < usN x o t → rg x o t k = rg y o t k) : h = h' := by
  have nT : (x.1 60 10).toInt = C.2.1.length := hK.2.1.1
  obtain ⟨b1, b2, b3, b4, b5, b6, b7⟩ := MG_b hM.1 hM.2.1
  have w3 := kst_w3 hM hK hN ht g
  have w3' := kst_w3 hM' hK' hN ht g'
  obtain ⟨⟨q0, q0'⟩, q1, q2, ⟨q3, q5, qw, -⟩, q4, q6, ⟨q7, ql⟩, qv, qk⟩ := g
  obtain ⟨⟨r0, r0'⟩, r1, r2, ⟨r3, r5, rw', -⟩, r4, r6, ⟨r7, rl⟩, rv', rk⟩ := g'
  have u8 : ∀ k, k < 8 → k < usN x o t := fun k hk => by unfold usN; omega
  have h0 := hr 0 (u8 0 (by omega))
  have h1 := hr 1 (u8 1 (by omega))
  have h2 := hr 2 (u8 2 (by omega))
  have h3 := hr 3 (u8 3 (by omega))
  have h4 := hr 4 (u8 4 (by omega))
  have h5 := hr 5 (u8 5 (by omega))
  have h6 := hr 6 (u8 6 (by omega))
  have h7 := hr 7 (u8 7 (by omega))
  have e0 : h.1 = h'.1 := ofN_in9 (by omega) (by omega) (by rw [← q0, ← r0, h0])
  have e1 : h.2.1 = h'.2.1 := ofN_in9 n9 n9' (by rw [← q1, ← r1, h1])
  have e2 : h.2.2.1 = h'.2.2.1 := by rw [h2, r2] at q2; omega
  have e3 : h.2.2.2.1 = h'.2.2.2.1 := by
    have z0 : h.2.2.2.1 = 0 ↔ h'.2.2.2.1 = 0 := by rw [← w3, ← w3', h3]
    have z2 : h.2.2.2.1 = 2 ↔ h'.2.2.2.1 = 2 := by
      have : (if h.2.2.2.1 = 2 then (1 : Int32) else 0) = if h'.2.2.2.1 = 2 then 1 else 0 := by rw [← q5, ← r5, h5]
      by_cases c1 : h.2.2.2.1 = 2
      · by_cases c2 : h'.2.2.2.1 = 2
        · exact ⟨fun _ => c2, fun _ => c1⟩
        · rw [if_pos c1, if_neg c2] at this; exact absurd this (by decide)
      · by_cases c2 : h'.2.2.2.1 = 2
        · rw [if_neg c1, if_pos c2] at this; exact absurd this (by decide)
        · exact ⟨fun z => absurd z c1, fun z => absurd z c2⟩
    omega
  have e4 : h.2.2.2.2.1 = h'.2.2.2.2.1 := by rw [← q4, ← r4, h4]
  have e6 : h.2.2.2.2.2.1 = h'.2.2.2.2.2.1 := i32_c1 (by rw [← q6, ← r6, h6])
  have len : h.2.2.2.2.2.2.1.length = h'.2.2.2.2.2.2.1.length := by rw [h7, r7] at q7; omega
  rw [e.2.2.2] at rl
  have e7 : h.2.2.2.2.2.2.1 = h'.2.2.2.2.2.2.1 := by
    refine List.ext_getElem? (fun i => ?_)
    by_cases ci : i < h.2.2.2.2.2.2.1.length
    · obtain ⟨p, hp⟩ : ∃ p, h.2.2.2.2.2.2.1[i]? = some p := ⟨_, List.getElem?_eq_getElem ci⟩
      obtain ⟨p', hp'⟩ : ∃ p', h'.2.2.2.2.2.2.1[i]? = some p' := ⟨_, List.getElem?_eq_getElem (by omega)⟩
      obtain ⟨a1, a2⟩ := ql i p hp
      obtain ⟨a3, a4⟩ := rl i p' hp'
      have k1 := hr ((x.1 o 9).toInt.toNat + 2 * i) (by unfold usN; omega)
      have k2 := hr ((x.1 o 9).toInt.toNat + 2 * i + 1) (by unfold usN; omega)
      rw [hp, hp']
      rw [k1, a3] at a1
      rw [k2, a4] at a2
      exact congrArg some (Prod.ext (by omega) a2.symm)
    · rw [List.getElem?_eq_none_iff.mpr (by omega), List.getElem?_eq_none_iff.mpr (by omega)]
  have e8 : h.2.2.2.2.2.2.2 = h'.2.2.2.2.2.2.2 := by
    funext p
    rw [e.1.2.2.2] at rv'
    by_cases cp : (p : Int) < (x.1 60 13).toInt
    · have := hr (8 + p) (by unfold usN; omega)
      rw [qv p cp, rv' p cp] at this
      exact this
    · have z1 := q.1 p (fun z => by have := qk z.1; omega)
      have z2 := q'.1 p (fun z => by have := rk z.1; rw [e.1.2.2.2] at this; omega)
      rw [z1, z2]
  exact Prod.ext e0 (Prod.ext e1 (Prod.ext e2 (Prod.ext e3 (Prod.ext e4 (Prod.ext e6 (Prod.ext e7 e8))))))
theorem KMm_one {nl : Nat} (hM : MM x o) (hM' : MM y o) (hK : CK x C) (hK' : CK y C) (hN : NC C) (en : (x.1 60 9).toInt = (nl : Nat)) (e : gmE x y o) (g : KMm x o C M) (g' : KMm y o C M') (q : MCn C nl M) (q' : MCn C nl M') (n9 : NBm M) (n9' : NBm M') (hr : rwS x o (y.1 (o + 5))) : M = M' := by
  have nT : (x.1 60 10).toInt = C.2.1.length := hK.2.1.1
  have nC : (x.1 60 6).toInt = C.2.2.1.length := hK.2.2.1.1
  obtain ⟨m1, m2, m3, -⟩ := hM.2.1
  have c1 := hM.1.1.1
  obtain ⟨⟨gc, gl⟩, gt⟩ := g
  obtain ⟨⟨gc', gl'⟩, gt'⟩ := g'
  rw [e.1.1] at gc' gl'
  rw [e.1.2.1] at gl'
  refine MCn_eq q q' (fun c hc => ?_) (fun l hl => ?_) (fun t ht => ?_)
  · rw [← gc c (by omega), ← gc' c (by omega)]; exact hr.1 c (by omega)
  · obtain ⟨a1, a5, a2⟩ := gl l (by omega)
    obtain ⟨a3, a6, a4⟩ := gl' l (by omega)
    have k1 := hr.1 ((x.1 60 6).toInt.toNat + 2 * l) (by omega)
    have k2 := hr.1 ((x.1 60 6).toInt.toNat + 2 * l + 1) (by omega)
    exact Prod.ext (ofN_in9 (by omega) (by omega) (by rw [← a1, ← a3, k1])) (by rw [← a2, ← a4, k2])
  · refine kTq_one hM hM' hK hK' hN ht e (gt t ht) (gt' t ht) (n9 t) (n9' t) (q.2.2 t).2 (q'.2.2 t).2 (fun k hk => ?_)
    have := hr.2 t k (by omega) hk
    unfold rg
    rw [gm_pa e]
    exact this
/-- the same row, the same mix -/
theorem mxT_same {S : Int32 → Int32 → Int32} {a0 : Int32} (hM : MM x o) (us : ∀ t : Nat, (t : Int) < (x.1 60 10).toInt → usN y o t = usN x o t) (hr : rwS x o (y.1 (o + 5))) : ∀ n : Nat, n ≤ (x.1 60 10).toInt.toNat → mxT S (y.1 (o + 5)) (x.1 o 7).toInt.toNat (x.1 o 8).toInt.toNat (usN y o) n a0 = mxT S (x.1 (o + 5)) (x.1 o 7).toInt.toNat (x.1 o 8).toInt.toNat (usN x o) n a0 := by
  intro n
  induction n with
  | zero => intro _; rw [mxT, mxT]
  | succ n ih =>
    intro hn
    rw [mxT, mxT, ih (by omega), us n (by omega)]
    refine mxF_cg (fun j h1 h2 => ?_)
    have := hr.2 n (j - ((x.1 o 7).toInt.toNat + n * (x.1 o 8).toInt.toNat)) (by omega) (by omega)
    unfold pa at this
    rw [show (x.1 o 7).toInt.toNat + n * (x.1 o 8).toInt.toNat + (j - ((x.1 o 7).toInt.toNat + n * (x.1 o 8).toInt.toNat)) = j by omega] at this
    exact this.symm
theorem mx_sameS {S : Int32 → Int32 → Int32} (hM : MM x o) (e : gmE x y o) (hr : rwS x o (y.1 (o + 5))) : mxT S (y.1 (o + 5)) (y.1 o 7).toInt.toNat (y.1 o 8).toInt.toNat (usN y o) (y.1 60 10).toInt.toNat (mxF S (y.1 (o + 5)) (y.1 o 7).toInt.toNat 0 0) = mxT S (x.1 (o + 5)) (x.1 o 7).toInt.toNat (x.1 o 8).toInt.toNat (usN x o) (x.1 60 10).toInt.toNat (mxF S (x.1 (o + 5)) (x.1 o 7).toInt.toNat 0 0) := by
  obtain ⟨b1, b2, b3, b4, b5, b6, b7⟩ := MG_b hM.1 hM.2.1
  have us : ∀ t : Nat, (t : Int) < (x.1 60 10).toInt → usN y o t = usN x o t := fun t ht => by
    have := hr.2 t 7 ht (by unfold usN; omega)
    unfold usN rg
    rw [gm_pa e, e.2.2.2, this]
  rw [e.2.1, e.2.2.1, e.1.2.2.1]
  have a1 : mxF S (y.1 (o + 5)) (x.1 o 7).toInt.toNat 0 0 = mxF S (x.1 (o + 5)) (x.1 o 7).toInt.toNat 0 0 := mxF_cg (fun j _ hj => (hr.1 j (by omega)).symm)
  rw [a1]
  exact mxT_same hM us hr _ (Nat.le_refl _)
theorem mx_same (hM : MM x o) (e : gmE x y o) (hr : rwS x o (y.1 (o + 5))) : mxO y o = mxO x o := by
  unfold mxO
  exact mx_sameS hM e hr
end KON
