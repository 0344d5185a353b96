/-! rows that make, fused; what was made stays in order -/
theorem gokv_le {L L' : List Nat} (h : ∀ c ∈ L, c ∈ L') {v : gv} (hv : gokv L v = true) : gokv L' v = true := by
  rcases v with a | a | a
  · rfl
  · rfl
  · cases a with
    | none => rfl
    | some c =>
      have hv : (L.elem c || decide (900 ≤ c ∧ c < 905)) = true := hv
      show (L'.elem c || decide (900 ≤ c ∧ c < 905)) = true
      rcases Bool.or_eq_true _ _ ▸ hv with h1 | h1
      · rw [List.elem_iff.mpr (h c (List.elem_iff.mp h1)), Bool.true_or]
      · rw [h1, Bool.or_true]
theorem gok_le {L L' : List Nat} (h : ∀ c ∈ L, c ∈ L') {lv : List (Nat × gv)} {st : List gv} (hk : gok L lv st = true) : gok L' lv st = true := by
  have h1 := (Bool.and_eq_true _ _ ▸ hk).1
  have h2 := (Bool.and_eq_true _ _ ▸ hk).2
  refine gok_i (List.all_eq_true.mpr fun v hv => gokv_le h (List.all_eq_true.mp h1 v hv)) (List.all_eq_true.mpr fun v hv => gokv_le h (List.all_eq_true.mp h2 v hv))
theorem gok_l {L : List Nat} {lv : List (Nat × gv)} {st : List gv} (hk : gok L lv st = true) : lv.all (fun q => gokv L q.2) = true := (Bool.and_eq_true _ _ ▸ hk).1
theorem gok_s {L : List Nat} {lv : List (Nat × gv)} {st : List gv} (hk : gok L lv st = true) : st.all (gokv L) = true := (Bool.and_eq_true _ _ ▸ hk).2
theorem kmd_le {q q' : kP} {c : Nat} (h : kle q q') (hm : kmd q c) : kmd q' c := by
  rcases hm with g | ⟨e, g⟩ | ⟨e, g⟩ | ⟨e, g⟩ | ⟨e, g⟩ | ⟨k, hk, g⟩ | ⟨k, hk, g⟩ | ⟨k, hk, g⟩
  · exact Or.inl g
  · exact Or.inr (Or.inl ⟨h.2.1.1 e, g⟩)
  · exact Or.inr (Or.inr (Or.inl ⟨h.2.1.2.1 e, g⟩))
  · exact Or.inr (Or.inr (Or.inr (Or.inl ⟨h.2.1.2.2.1 e, g⟩)))
  · exact Or.inr (Or.inr (Or.inr (Or.inr (Or.inl ⟨h.2.1.2.2.2 e, g⟩))))
  · exact Or.inr (Or.inr (Or.inr (Or.inr (Or.inr (Or.inl ⟨k, Nat.lt_of_lt_of_le hk h.2.2.1.1, g⟩)))))
  · exact Or.inr (Or.inr (Or.inr (Or.inr (Or.inr (Or.inr (Or.inl ⟨k, Nat.lt_of_lt_of_le hk h.2.2.1.2.1, g⟩))))))
  · exact Or.inr (Or.inr (Or.inr (Or.inr (Or.inr (Or.inr (Or.inr ⟨k, Nat.lt_of_lt_of_le hk h.2.2.1.2.2, g⟩))))))
/-! each is more than before -/
theorem kKn_le (q : kP) : kle q (kKn q) := ⟨fun c h => List.mem_append_left _ h, ⟨id, id, id, id⟩, ⟨Nat.le_succ _, Nat.le_refl _, Nat.le_refl _⟩,
  by show q.ce + 1 + (q.kn + q.o0 + q.o1 + (cond q.hi 30 0) + (cond q.ex 30 0) + (cond q.t0 30 0) + cond q.t1 30 0) ≤ q.ce + (q.kn + 1 + q.o0 + q.o1 + (cond q.hi 30 0) + (cond q.ex 30 0) + (cond q.t0 30 0) + cond q.t1 30 0); omega,
  by show q.sl + 228 + (228 * q.kn + 24 * q.o0 + 24 * q.o1 + (cond q.hi 400 0) + (cond q.ex 20000 0) + (cond q.t0 20000 0) + cond q.t1 20000 0) ≤ q.sl + (228 * (q.kn + 1) + 24 * q.o0 + 24 * q.o1 + (cond q.hi 400 0) + (cond q.ex 20000 0) + (cond q.t0 20000 0) + cond q.t1 20000 0); omega⟩
theorem kO0_le (q : kP) : kle q (kO0 q) := ⟨fun c h => List.mem_append_left _ h, ⟨id, id, id, id⟩, ⟨Nat.le_refl _, Nat.le_succ _, Nat.le_refl _⟩,
  by show q.ce + 1 + (q.kn + q.o0 + q.o1 + (cond q.hi 30 0) + (cond q.ex 30 0) + (cond q.t0 30 0) + cond q.t1 30 0) ≤ q.ce + (q.kn + (q.o0 + 1) + q.o1 + (cond q.hi 30 0) + (cond q.ex 30 0) + (cond q.t0 30 0) + cond q.t1 30 0); omega,
  by show q.sl + 24 + (228 * q.kn + 24 * q.o0 + 24 * q.o1 + (cond q.hi 400 0) + (cond q.ex 20000 0) + (cond q.t0 20000 0) + cond q.t1 20000 0) ≤ q.sl + (228 * q.kn + 24 * (q.o0 + 1) + 24 * q.o1 + (cond q.hi 400 0) + (cond q.ex 20000 0) + (cond q.t0 20000 0) + cond q.t1 20000 0); omega⟩
theorem kO1_le (q : kP) : kle q (kO1 q) := ⟨fun c h => List.mem_append_left _ h, ⟨id, id, id, id⟩, ⟨Nat.le_refl _, Nat.le_refl _, Nat.le_succ _⟩,
  by show q.ce + 1 + (q.kn + q.o0 + q.o1 + (cond q.hi 30 0) + (cond q.ex 30 0) + (cond q.t0 30 0) + cond q.t1 30 0) ≤ q.ce + (q.kn + q.o0 + (q.o1 + 1) + (cond q.hi 30 0) + (cond q.ex 30 0) + (cond q.t0 30 0) + cond q.t1 30 0); omega,
  by show q.sl + 24 + (228 * q.kn + 24 * q.o0 + 24 * q.o1 + (cond q.hi 400 0) + (cond q.ex 20000 0) + (cond q.t0 20000 0) + cond q.t1 20000 0) ≤ q.sl + (228 * q.kn + 24 * q.o0 + 24 * (q.o1 + 1) + (cond q.hi 400 0) + (cond q.ex 20000 0) + (cond q.t0 20000 0) + cond q.t1 20000 0); omega⟩
theorem kEt_le (q : kP) (o : Nat) : kle q (kEt q o) := kle_rf q
theorem kHi_le {q : kP} (h : q.hi = false) : kle q (kHi q) := ⟨fun c h => List.mem_append_left _ h, ⟨fun _ => rfl, id, id, id⟩, ⟨Nat.le_refl _, Nat.le_refl _, Nat.le_refl _⟩,
  by unfold wC; rw [h]; show q.ce + 22 + (q.kn + q.o0 + q.o1 + 0 + (cond q.ex 30 0) + (cond q.t0 30 0) + cond q.t1 30 0) ≤ q.ce + (q.kn + q.o0 + q.o1 + 30 + (cond q.ex 30 0) + (cond q.t0 30 0) + cond q.t1 30 0); omega,
  by unfold wS; rw [h]; show q.sl + 286 + (228 * q.kn + 24 * q.o0 + 24 * q.o1 + 0 + (cond q.ex 20000 0) + (cond q.t0 20000 0) + cond q.t1 20000 0) ≤ q.sl + (228 * q.kn + 24 * q.o0 + 24 * q.o1 + 400 + (cond q.ex 20000 0) + (cond q.t0 20000 0) + cond q.t1 20000 0); omega⟩
theorem kEx_le {q : kP} (h : q.ex = false) : kle q (kEx q) := ⟨fun c h => List.mem_append_left _ h, ⟨id, fun _ => rfl, id, id⟩, ⟨Nat.le_refl _, Nat.le_refl _, Nat.le_refl _⟩,
  by unfold wC; rw [h]; show q.ce + 12 + (q.kn + q.o0 + q.o1 + (cond q.hi 30 0) + 0 + (cond q.t0 30 0) + cond q.t1 30 0) ≤ q.ce + (q.kn + q.o0 + q.o1 + (cond q.hi 30 0) + 30 + (cond q.t0 30 0) + cond q.t1 30 0); omega,
  by unfold wS; rw [h]; show q.sl + 14716 + (228 * q.kn + 24 * q.o0 + 24 * q.o1 + (cond q.hi 400 0) + 0 + (cond q.t0 20000 0) + cond q.t1 20000 0) ≤ q.sl + (228 * q.kn + 24 * q.o0 + 24 * q.o1 + (cond q.hi 400 0) + 20000 + (cond q.t0 20000 0) + cond q.t1 20000 0); omega⟩
theorem kT0_le {q : kP} (h : q.t0 = false) : kle q (kT0 q) := ⟨fun c h => List.mem_append_left _ h, ⟨id, id, fun _ => rfl, id⟩, ⟨Nat.le_refl _, Nat.le_refl _, Nat.le_refl _⟩,
  by unfold wC; rw [h]; show q.ce + 9 + (q.kn + q.o0 + q.o1 + (cond q.hi 30 0) + (cond q.ex 30 0) + 0 + cond q.t1 30 0) ≤ q.ce + (q.kn + q.o0 + q.o1 + (cond q.hi 30 0) + (cond q.ex 30 0) + 30 + cond q.t1 30 0); omega,
  by unfold wS; rw [h]; show q.sl + 15055 + (228 * q.kn + 24 * q.o0 + 24 * q.o1 + (cond q.hi 400 0) + (cond q.ex 20000 0) + 0 + cond q.t1 20000 0) ≤ q.sl + (228 * q.kn + 24 * q.o0 + 24 * q.o1 + (cond q.hi 400 0) + (cond q.ex 20000 0) + 20000 + cond q.t1 20000 0); omega⟩
theorem kT1_le {q : kP} (h : q.t1 = false) : kle q (kT1 q) := ⟨fun c h => List.mem_append_left _ h, ⟨id, id, id, fun _ => rfl⟩, ⟨Nat.le_refl _, Nat.le_refl _, Nat.le_refl _⟩,
  by unfold wC; rw [h]; show q.ce + 9 + (q.kn + q.o0 + q.o1 + (cond q.hi 30 0) + (cond q.ex 30 0) + (cond q.t0 30 0) + 0) ≤ q.ce + (q.kn + q.o0 + q.o1 + (cond q.hi 30 0) + (cond q.ex 30 0) + (cond q.t0 30 0) + 30); omega,
  by unfold wS; rw [h]; show q.sl + 15055 + (228 * q.kn + 24 * q.o0 + 24 * q.o1 + (cond q.hi 400 0) + (cond q.ex 20000 0) + (cond q.t0 20000 0) + 0) ≤ q.sl + (228 * q.kn + 24 * q.o0 + 24 * q.o1 + (cond q.hi 400 0) + (cond q.ex 20000 0) + (cond q.t0 20000 0) + 20000); omega⟩
/-! and in order -/
theorem kKn_U {q : kP} (hu : kU q) (he : q.ex = true) (hk : q.kn < 3000) : kU (kKn q) := by
  obtain ⟨⟨v1, v2, v3, v4, v5, v6, v7, v8⟩, hm, ⟨z1, z2, z3⟩, ht, b1, b2, b3⟩ := hu
  have L : ∀ {c}, c ∈ q.L → c ∈ (kKn q).L := fun h => List.mem_append_left _ h
  refine ⟨⟨fun c h => L (v1 c h), fun e c h => L (v2 e c h), fun e c h => L (v3 e c h), fun e c h => L (v4 e c h), fun e c h => L (v5 e c h), fun k hk => ?_, fun k hk => L (v7 k hk), fun k hk => L (v8 k hk)⟩, fun c hc => ?_, ⟨fun e => ?_, z2, z3⟩, fun o e => kle_T (kKn_le q) (ht o e), ?_, b2, b3⟩
  · have hk : k < q.kn + 1 := hk
    by_cases e : k < q.kn
    · exact L (v6 k e)
    · rw [show k = q.kn by omega]; exact List.mem_append_right _ (List.mem_singleton.mpr rfl)
  · rcases List.mem_append.mp hc with g | g
    · exact kmd_le (kKn_le q) (hm c g)
    · exact Or.inr (Or.inr (Or.inr (Or.inr (Or.inr (Or.inl ⟨q.kn, Nat.lt_succ_self _, List.mem_singleton.mp g⟩)))))
  · have e : q.ex = false := e
    rw [he] at e; cases e
  · show q.kn + 1 ≤ 3000
    omega
theorem kO0_U {q : kP} (hu : kU q) (he : q.t0 = true) (hk : q.o0 < 3000) : kU (kO0 q) := by
  obtain ⟨⟨v1, v2, v3, v4, v5, v6, v7, v8⟩, hm, ⟨z1, z2, z3⟩, ht, b1, b2, b3⟩ := hu
  have L : ∀ {c}, c ∈ q.L → c ∈ (kO0 q).L := fun h => List.mem_append_left _ h
  refine ⟨⟨fun c h => L (v1 c h), fun e c h => L (v2 e c h), fun e c h => L (v3 e c h), fun e c h => L (v4 e c h), fun e c h => L (v5 e c h), fun k hk => L (v6 k hk), fun k hk => ?_, fun k hk => L (v8 k hk)⟩, fun c hc => ?_, ⟨z1, fun e => ?_, z3⟩, fun o e => kle_T (kO0_le q) (ht o e), b1, ?_, b3⟩
  · have hk : k < q.o0 + 1 := hk
    by_cases e : k < q.o0
    · exact L (v7 k e)
    · rw [show k = q.o0 by omega]; exact List.mem_append_right _ (List.mem_singleton.mpr rfl)
  · rcases List.mem_append.mp hc with g | g
    · exact kmd_le (kO0_le q) (hm c g)
    · exact Or.inr (Or.inr (Or.inr (Or.inr (Or.inr (Or.inr (Or.inl ⟨q.o0, Nat.lt_succ_self _, List.mem_singleton.mp g⟩))))))
  · have e : q.t0 = false := e
    rw [he] at e; cases e
  · show q.o0 + 1 ≤ 3000
    omega
theorem kO1_U {q : kP} (hu : kU q) (he : q.t1 = true) (hk : q.o1 < 3000) : kU (kO1 q) := by
  obtain ⟨⟨v1, v2, v3, v4, v5, v6, v7, v8⟩, hm, ⟨z1, z2, z3⟩, ht, b1, b2, b3⟩ := hu
  have L : ∀ {c}, c ∈ q.L → c ∈ (kO1 q).L := fun h => List.mem_append_left _ h
  refine ⟨⟨fun c h => L (v1 c h), fun e c h => L (v2 e c h), fun e c h => L (v3 e c h), fun e c h => L (v4 e c h), fun e c h => L (v5 e c h), fun k hk => L (v6 k hk), fun k hk => L (v7 k hk), fun k hk => ?_⟩, fun c hc => ?_, ⟨z1, z2, fun e => ?_⟩, fun o e => kle_T (kO1_le q) (ht o e), b1, b2, ?_⟩
  · have hk : k < q.o1 + 1 := hk
    by_cases e : k < q.o1
    · exact L (v8 k e)
    · rw [show k = q.o1 by omega]; exact List.mem_append_right _ (List.mem_singleton.mpr rfl)
  · rcases List.mem_append.mp hc with g | g
    · exact kmd_le (kO1_le q) (hm c g)
    · exact Or.inr (Or.inr (Or.inr (Or.inr (Or.inr (Or.inr (Or.inr ⟨q.o1, Nat.lt_succ_self _, List.mem_singleton.mp g⟩))))))
  · have e : q.t1 = false := e
    rw [he] at e; cases e
  · show q.o1 + 1 ≤ 3000
    omega
theorem kEt_U {q : kP} {o : Nat} (hu : kU q) (he : q.ex = true) (ho : kiT q o) : kU (kEt q o) := by
  obtain ⟨hv, hm, ⟨z1, z2, z3⟩, ht, hb⟩ := hu
  refine ⟨hv, hm, ⟨fun e => ?_, z2, z3⟩, fun o' e => ?_, hb⟩
  · have e : q.ex = false := e
    rw [he] at e; cases e
  · have e : some o = some o' := e
    cases e; exact ho
theorem kHi_U {q : kP} (hu : kU q) (h0 : q.hi = false) : kU (kHi q) := by
  obtain ⟨⟨v1, v2, v3, v4, v5, v6, v7, v8⟩, hm, hz, ht, hb⟩ := hu
  have L : ∀ {c}, c ∈ q.L → c ∈ (kHi q).L := fun h => List.mem_append_left _ h
  refine ⟨⟨fun c h => L (v1 c h), fun e c h => List.mem_append_right _ ((by decide +kernel : ∀ c ∈ klH, c ∈ 180 :: news_180) c h), fun e c h => L (v3 e c h), fun e c h => L (v4 e c h), fun e c h => L (v5 e c h), fun k hk => L (v6 k hk), fun k hk => L (v7 k hk), fun k hk => L (v8 k hk)⟩, fun c hc => ?_, hz, fun o e => kle_T (kHi_le h0) (ht o e), hb⟩
  rcases List.mem_append.mp hc with g | g
  · exact kmd_le (kHi_le h0) (hm c g)
  · exact Or.inr (Or.inl ⟨rfl, (by decide +kernel : ∀ c ∈ 180 :: news_180, c ∈ klH) c g⟩)
theorem kEx_U {q : kP} (hu : kU q) (h0 : q.ex = false) : kU (kEx q) := by
  obtain ⟨⟨v1, v2, v3, v4, v5, v6, v7, v8⟩, hm, hz, ht, hb⟩ := hu
  have L : ∀ {c}, c ∈ q.L → c ∈ (kEx q).L := fun h => List.mem_append_left _ h
  refine ⟨⟨fun c h => L (v1 c h), fun e c h => L (v2 e c h), fun e c h => List.mem_append_right _ ((by decide +kernel : ∀ c ∈ klE, c ∈ 200 :: news_200) c h), fun e c h => L (v4 e c h), fun e c h => L (v5 e c h), fun k hk => L (v6 k hk), fun k hk => L (v7 k hk), fun k hk => L (v8 k hk)⟩, fun c hc => ?_, ⟨fun _ => hz.1 h0, hz.2⟩, fun o e => kle_T (kEx_le h0) (ht o e), hb⟩
  rcases List.mem_append.mp hc with g | g
  · exact kmd_le (kEx_le h0) (hm c g)
  · exact Or.inr (Or.inr (Or.inl ⟨rfl, (by decide +kernel : ∀ c ∈ 200 :: news_200, c ∈ klE) c g⟩))
theorem kT0_U {q : kP} (hu : kU q) (h0 : q.t0 = false) : kU (kT0 q) := by
  obtain ⟨⟨v1, v2, v3, v4, v5, v6, v7, v8⟩, hm, hz, ht, hb⟩ := hu
  have L : ∀ {c}, c ∈ q.L → c ∈ (kT0 q).L := fun h => List.mem_append_left _ h
  refine ⟨⟨fun c h => L (v1 c h), fun e c h => L (v2 e c h), fun e c h => L (v3 e c h), fun e c h => List.mem_append_right _ ((by decide +kernel : ∀ c ∈ klA, c ∈ 260 :: news_260) c h), fun e c h => L (v5 e c h), fun k hk => L (v6 k hk), fun k hk => L (v7 k hk), fun k hk => L (v8 k hk)⟩, fun c hc => ?_, ⟨hz.1, fun _ => hz.2.1 h0, hz.2.2⟩, fun o e => kle_T (kT0_le h0) (ht o e), hb⟩
  rcases List.mem_append.mp hc with g | g
  · exact kmd_le (kT0_le h0) (hm c g)
  · exact Or.inr (Or.inr (Or.inr (Or.inl ⟨rfl, (by decide +kernel : ∀ c ∈ 260 :: news_260, c ∈ klA) c g⟩)))
theorem kT1_U {q : kP} (hu : kU q) (h0 : q.t1 = false) : kU (kT1 q) := by
  obtain ⟨⟨v1, v2, v3, v4, v5, v6, v7, v8⟩, hm, hz, ht, hb⟩ := hu
  have L : ∀ {c}, c ∈ q.L → c ∈ (kT1 q).L := fun h => List.mem_append_left _ h
  refine ⟨⟨fun c h => L (v1 c h), fun e c h => L (v2 e c h), fun e c h => L (v3 e c h), fun e c h => L (v4 e c h), fun e c h => List.mem_append_right _ ((by decide +kernel : ∀ c ∈ klB, c ∈ 280 :: news_280) c h), fun k hk => L (v6 k hk), fun k hk => L (v7 k hk), fun k hk => L (v8 k hk)⟩, fun c hc => ?_, ⟨hz.1, hz.2.1, fun _ => hz.2.2 h0⟩, fun o e => kle_T (kT1_le h0) (ht o e), hb⟩
  rcases List.mem_append.mp hc with g | g
  · exact kmd_le (kT1_le h0) (hm c g)
  · exact Or.inr (Or.inr (Or.inr (Or.inr (Or.inl ⟨rfl, (by decide +kernel : ∀ c ∈ 280 :: news_280, c ∈ klB) c g⟩))))
/-! what is not made -/
theorem kmd_no {q : kP} {c : Nat} (h1 : c ∉ kl0) (h2 : q.hi = true → c ∉ klH) (h3 : q.ex = true → c ∉ klE) (h4 : q.t0 = true → c ∉ klA) (h5 : q.t1 = true → c ∉ klB) (h6 : c < 1000 + 0 ∨ 1000 + q.kn ≤ c) (h7 : c < 4000 ∨ 4000 + q.o0 ≤ c) (h8 : c < 7000 ∨ 7000 + q.o1 ≤ c) : ¬ kmd q c := by
  rintro (g | ⟨e, g⟩ | ⟨e, g⟩ | ⟨e, g⟩ | ⟨e, g⟩ | ⟨k, hk, g⟩ | ⟨k, hk, g⟩ | ⟨k, hk, g⟩)
  · exact h1 g
  · exact h2 e g
  · exact h3 e g
  · exact h4 e g
  · exact h5 e g
  · omega
  · omega
  · omega
theorem kl_far {c : Nat} (h : 1000 ≤ c) : c ∉ kl0 ∧ c ∉ klH ∧ c ∉ klE ∧ c ∉ klA ∧ c ∉ klB := by
  have b : ∀ l : List Nat, l.all (fun k => decide (k < 1000)) = true → c ∉ l := fun l hl hc => by
    have := of_decide_eq_true (List.all_eq_true.mp hl c hc)
    omega
  exact ⟨b _ (by decide +kernel), b _ (by decide +kernel), b _ (by decide +kernel), b _ (by decide +kernel), b _ (by decide +kernel)⟩
theorem aI_W : Cond.arrayClass .int ∈ W0 := W0_in (tp_1 (List.mem_of_getElem? (i := 82) (by decide +kernel))) rfl
def oM (q : kP) (o : Nat) : Nat := if o = 260 then q.o0 else q.o1
def oC (q : kP) (o : Nat) : Nat := if o = 260 then 4000 + q.o0 else 7000 + q.o1
def kOr (q : kP) (o : Nat) : kP := if o = 260 then kO0 q else kO1 q
theorem kOr_le (q : kP) (o : Nat) : kle q (kOr q o) := by
  unfold kOr; split
  · exact kO0_le q
  · exact kO1_le q
theorem kOr_U {q : kP} {o : Nat} (hu : kU q) (ho : kiT q o) (hk : oM q o < 3000) : kU (kOr q o) := by
  rcases ho with ⟨rfl, h⟩ | ⟨rfl, h⟩
  · exact kO0_U hu h hk
  · exact kO1_U hu h hk
section KFU
variable {G : kG} {d : Nat} {y : gy} {pc : Nat} {lv : List (Nat × gv)} {st : List gv} {x : gd} {q : kP} {Q : gr → gd → gf → Prop}
theorem T_krow {i : Int32} (hd1 : decode y.2.1 pc = .ok (.newarray .int, 2)) (hd2 : decode y.2.1 (pc + 2) = .ok (.aastore, 1)) (hu : kU q) (he : q.ex = true) (hi : i.toNatClampNeg = q.kn) (hin : vp_in i 3000) (hok : gok (kf q).2.1 lv st = true)
    (k : T (kE G) d y (pc + 3) lv st (znew x (1000 + q.kn)) (kf (kKn q)) Q) : T (kE G) d y pc lv (vi 228 :: vi i :: vr 203 :: st) x (kf q) Q := by
  have hk : q.kn < 3000 := by
    have h0 : ¬ i < 0 := fun z => hin (Or.inl z)
    have h1 : ¬ 3000 ≤ i.toNatClampNeg := fun z => hin (Or.inr z)
    omega
  obtain ⟨n0, nH, nE, nA, nB⟩ := kl_far (c := 1000 + q.kn) (by omega)
  have fr := kU_fr hu (c := 1000 + q.kn) (kmd_no n0 (fun _ => nH) (fun _ => nE) (fun _ => nA) (fun _ => nB) (by omega) (by omega) (by omega))
  have hK : kK (1000 + q.kn) = .inr (.int, 228) := by unfold kK; rw [if_neg (by omega), if_neg (by omega), if_pos (by omega)]
  have l203 : 203 ∈ (kf q).2.1 := kl_203 hu.1 he
  refine T_newI (1000 + q.kn) hd1 rfl (Or.inl rfl) aI_W hK (by decide) (by decide) (by decide) fr.1 (by omega) fr.2 (gok_i (gok_l hok) (as_c rfl (as_c (gkr l203) (gok_s hok)))) ?_
  refine T_aastA 203 (1000 + q.kn) (n := 3000) (n9 := 228) hd2 kk_203 (List.mem_append_left _ l203) hK (List.mem_append_right _ (List.mem_singleton.mpr rfl)) hin ?_
  refine T_refs (f2 := kf (kKn q)) rfl (fun c hc j g1 g2 => ?_) k
  show kR (kKn q) c j = (if c = 203 ∧ j = i.toNatClampNeg then some (1000 + q.kn) else if c = 1000 + q.kn then none else kR q c j)
  by_cases e1 : c = 1000 + q.kn
  · subst e1
    exact absurd (g2 _ _ hK) (by decide)
  by_cases e2 : c = 203
  · subst e2
    show (if j < q.kn + 1 then some (1000 + j) else none) = (if (203 : Nat) = 203 ∧ j = i.toNatClampNeg then some (1000 + q.kn) else if (203 : Nat) = 1000 + q.kn then none else (if j < q.kn then some (1000 + j) else none))
    by_cases e3 : j = q.kn
    · rw [if_pos (show j < q.kn + 1 by omega), if_pos ⟨rfl, e3.trans hi.symm⟩, e3]
    · by_cases e4 : j < q.kn
      · rw [if_pos (show j < q.kn + 1 by omega), if_neg (fun z => e3 (z.2.trans hi)), if_neg e1, if_pos e4]
      · rw [if_neg (show ¬ j < q.kn + 1 by omega), if_neg (fun z => e3 (z.2.trans hi)), if_neg e1, if_neg e4]
  · rw [if_neg (fun z => e2 z.1), if_neg e1]
    unfold kR
    rw [if_neg e2, if_neg e2]; rfl
theorem T_orow {i : Int32} {o : Nat} (hd1 : decode y.2.1 pc = .ok (.newarray .int, 2)) (hd2 : decode y.2.1 (pc + 2) = .ok (.aastore, 1)) (hu : kU q) (ho : kiT q o) (hi : i.toNatClampNeg = oM q o) (hin : vp_in i 3000) (hok : gok (kf q).2.1 lv st = true)
    (k : T (kE G) d y (pc + 3) lv st (znew x (oC q o)) (kf (kOr q o)) Q) : T (kE G) d y pc lv (vi 24 :: vi i :: vr (o + 13) :: st) x (kf q) Q := by
  have hk : oM q o < 3000 := by
    have h1 : ¬ 3000 ≤ i.toNatClampNeg := fun z => hin (Or.inr z)
    omega
  have l13 : (o + 13) ∈ (kf q).2.1 := kl_T13 hu.1 ho
  have hub := hu.2.2.2.2
  rcases ho with ⟨rfl, h⟩ | ⟨rfl, h⟩
  · have hk : q.o0 < 3000 := hk
    have hi : i.toNatClampNeg = q.o0 := hi
    have k : T (kE G) d y (pc + 3) lv st (znew x (4000 + q.o0)) (kf (kO0 q)) Q := k
    obtain ⟨n0, nH, nE, nA, nB⟩ := kl_far (c := 4000 + q.o0) (by omega)
    have fr := kU_fr hu (c := 4000 + q.o0) (kmd_no n0 (fun _ => nH) (fun _ => nE) (fun _ => nA) (fun _ => nB) (by omega) (by omega) (by omega))
    have hK : kK (4000 + q.o0) = .inr (.int, 24) := by unfold kK; rw [if_neg (by omega), if_neg (by omega), if_neg (by omega)]
    refine T_newI (4000 + q.o0) hd1 rfl (Or.inl rfl) aI_W hK (by decide) (by decide) (by decide) fr.1 (by omega) fr.2 (gok_i (gok_l hok) (as_c rfl (as_c (gkr l13) (gok_s hok)))) ?_
    refine T_aastA 273 (4000 + q.o0) (n := 3000) (n9 := 24) hd2 rfl (List.mem_append_left _ l13) hK (List.mem_append_right _ (List.mem_singleton.mpr rfl)) hin ?_
    refine T_refs (f2 := kf (kO0 q)) rfl (fun c hc j g1 g2 => ?_) k
    show kR (kO0 q) c j = (if c = 273 ∧ j = i.toNatClampNeg then some (4000 + q.o0) else if c = 4000 + q.o0 then none else kR q c j)
    by_cases e1 : c = 4000 + q.o0
    · subst e1
      exact absurd (g2 _ _ hK) (by decide)
    by_cases e2 : c = 273
    · subst e2
      show (if j < q.o0 + 1 then some (4000 + j) else none) = (if (273 : Nat) = 273 ∧ j = i.toNatClampNeg then some (4000 + q.o0) else if (273 : Nat) = 4000 + q.o0 then none else (if j < q.o0 then some (4000 + j) else none))
      by_cases e3 : j = q.o0
      · rw [if_pos (show j < q.o0 + 1 by omega), if_pos ⟨rfl, e3.trans hi.symm⟩, e3]
      · by_cases e4 : j < q.o0
        · rw [if_pos (show j < q.o0 + 1 by omega), if_neg (fun z => e3 (z.2.trans hi)), if_neg e1, if_pos e4]
        · rw [if_neg (show ¬ j < q.o0 + 1 by omega), if_neg (fun z => e3 (z.2.trans hi)), if_neg e1, if_neg e4]
    · rw [if_neg (fun z => e2 z.1), if_neg e1]
      unfold kR
      rw [if_neg e2, if_neg e2]; rfl
  · have hk : q.o1 < 3000 := hk
    have hi : i.toNatClampNeg = q.o1 := hi
    have k : T (kE G) d y (pc + 3) lv st (znew x (7000 + q.o1)) (kf (kO1 q)) Q := k
    obtain ⟨n0, nH, nE, nA, nB⟩ := kl_far (c := 7000 + q.o1) (by omega)
    have fr := kU_fr hu (c := 7000 + q.o1) (kmd_no n0 (fun _ => nH) (fun _ => nE) (fun _ => nA) (fun _ => nB) (by omega) (by omega) (by omega))
    have hK : kK (7000 + q.o1) = .inr (.int, 24) := by unfold kK; rw [if_neg (by omega), if_neg (by omega), if_neg (by omega)]
    refine T_newI (7000 + q.o1) hd1 rfl (Or.inl rfl) aI_W hK (by decide) (by decide) (by decide) fr.1 (by omega) fr.2 (gok_i (gok_l hok) (as_c rfl (as_c (gkr l13) (gok_s hok)))) ?_
    refine T_aastA 293 (7000 + q.o1) (n := 3000) (n9 := 24) hd2 rfl (List.mem_append_left _ l13) hK (List.mem_append_right _ (List.mem_singleton.mpr rfl)) hin ?_
    refine T_refs (f2 := kf (kO1 q)) rfl (fun c hc j g1 g2 => ?_) k
    show kR (kO1 q) c j = (if c = 293 ∧ j = i.toNatClampNeg then some (7000 + q.o1) else if c = 7000 + q.o1 then none else kR q c j)
    by_cases e1 : c = 7000 + q.o1
    · subst e1
      exact absurd (g2 _ _ hK) (by decide)
    by_cases e2 : c = 293
    · subst e2
      show (if j < q.o1 + 1 then some (7000 + j) else none) = (if (293 : Nat) = 293 ∧ j = i.toNatClampNeg then some (7000 + q.o1) else if (293 : Nat) = 7000 + q.o1 then none else (if j < q.o1 then some (7000 + j) else none))
      by_cases e3 : j = q.o1
      · rw [if_pos (show j < q.o1 + 1 by omega), if_pos ⟨rfl, e3.trans hi.symm⟩, e3]
      · by_cases e4 : j < q.o1
        · rw [if_pos (show j < q.o1 + 1 by omega), if_neg (fun z => e3 (z.2.trans hi)), if_neg e1, if_pos e4]
        · rw [if_neg (show ¬ j < q.o1 + 1 by omega), if_neg (fun z => e3 (z.2.trans hi)), if_neg e1, if_neg e4]
    · rw [if_neg (fun z => e2 z.1), if_neg e1]
      unfold kR
      rw [if_neg e2, if_neg e2]; rfl
theorem T_sett {o : Nat} (hd : decode zk_X2_explore.2.1 pc = .ok (.putfield 44, 3)) (hu : kU q) (he : q.ex = true)
    (k : T (kE G) d zk_X2_explore (pc + 3) lv st x (kf (kEt q o)) Q) : T (kE G) d zk_X2_explore pc lv (vr o :: vr 200 :: st) x (kf q) Q := by
  refine T_putR 200 7 o hd kfl_X2_44 kk_200 (kl_200 hu.1 he) (by decide) rfl (fun _ => ⟨rfl, rfl⟩) ?_
  refine T_refs (f2 := kf (kEt q o)) rfl (fun c hc j g1 g2 => ?_) k
  show kR (kEt q o) c j = (if c = 200 ∧ j = 7 then some o else kR q c j)
  by_cases e : c = 200 ∧ j = 7
  · obtain ⟨rfl, rfl⟩ := e
    rfl
  · rw [if_neg e]
    unfold kR
    rw [if_neg e, if_neg e]; rfl
theorem fr_H (hu : kU q) (h : q.hi = false) : ∀ c ∈ 180 :: news_180, c ∉ (kf q).2.1 ∧ NR (kf q) c := fun c hc =>
  kU_fr hu (kmd_no ((by decide +kernel : ∀ c ∈ 180 :: news_180, c ∉ kl0) c hc) (fun e => by rw [h] at e; cases e) (fun _ => (by decide +kernel : ∀ c ∈ 180 :: news_180, c ∉ klE) c hc) (fun _ => (by decide +kernel : ∀ c ∈ 180 :: news_180, c ∉ klA) c hc) (fun _ => (by decide +kernel : ∀ c ∈ 180 :: news_180, c ∉ klB) c hc) (Or.inl ((by decide +kernel : ∀ c ∈ 180 :: news_180, c < 1000) c hc)) (Or.inl ((by decide +kernel : ∀ c ∈ 180 :: news_180, c < 4000) c hc)) (Or.inl ((by decide +kernel : ∀ c ∈ 180 :: news_180, c < 7000) c hc)))
theorem fr_E (hu : kU q) (h : q.ex = false) : ∀ c ∈ 200 :: news_200, c ∉ (kf q).2.1 ∧ NR (kf q) c := fun c hc =>
  kU_fr hu (kmd_no ((by decide +kernel : ∀ c ∈ 200 :: news_200, c ∉ kl0) c hc) (fun _ => (by decide +kernel : ∀ c ∈ 200 :: news_200, c ∉ klH) c hc) (fun e => by rw [h] at e; cases e) (fun _ => (by decide +kernel : ∀ c ∈ 200 :: news_200, c ∉ klA) c hc) (fun _ => (by decide +kernel : ∀ c ∈ 200 :: news_200, c ∉ klB) c hc) (Or.inl ((by decide +kernel : ∀ c ∈ 200 :: news_200, c < 1000) c hc)) (Or.inl ((by decide +kernel : ∀ c ∈ 200 :: news_200, c < 4000) c hc)) (Or.inl ((by decide +kernel : ∀ c ∈ 200 :: news_200, c < 7000) c hc)))
theorem fr_A (hu : kU q) (h : q.t0 = false) : ∀ c ∈ 260 :: news_260, c ∉ (kf q).2.1 ∧ NR (kf q) c := fun c hc =>
  kU_fr hu (kmd_no ((by decide +kernel : ∀ c ∈ 260 :: news_260, c ∉ kl0) c hc) (fun _ => (by decide +kernel : ∀ c ∈ 260 :: news_260, c ∉ klH) c hc) (fun _ => (by decide +kernel : ∀ c ∈ 260 :: news_260, c ∉ klE) c hc) (fun e => by rw [h] at e; cases e) (fun _ => (by decide +kernel : ∀ c ∈ 260 :: news_260, c ∉ klB) c hc) (Or.inl ((by decide +kernel : ∀ c ∈ 260 :: news_260, c < 1000) c hc)) (Or.inl ((by decide +kernel : ∀ c ∈ 260 :: news_260, c < 4000) c hc)) (Or.inl ((by decide +kernel : ∀ c ∈ 260 :: news_260, c < 7000) c hc)))
theorem fr_B (hu : kU q) (h : q.t1 = false) : ∀ c ∈ 280 :: news_280, c ∉ (kf q).2.1 ∧ NR (kf q) c := fun c hc =>
  kU_fr hu (kmd_no ((by decide +kernel : ∀ c ∈ 280 :: news_280, c ∉ kl0) c hc) (fun _ => (by decide +kernel : ∀ c ∈ 280 :: news_280, c ∉ klH) c hc) (fun _ => (by decide +kernel : ∀ c ∈ 280 :: news_280, c ∉ klE) c hc) (fun _ => (by decide +kernel : ∀ c ∈ 280 :: news_280, c ∉ klA) c hc) (fun e => by rw [h] at e; cases e) (Or.inl ((by decide +kernel : ∀ c ∈ 280 :: news_280, c < 1000) c hc)) (Or.inl ((by decide +kernel : ∀ c ∈ 280 :: news_280, c < 4000) c hc)) (Or.inl ((by decide +kernel : ∀ c ∈ 280 :: news_280, c < 7000) c hc)))
theorem T_mkH (hu : kU q) (h0 : q.hi = false) (hok : gok (kf q).2.1 lv [vr 0] = true)
    (k : T (kE G) (d + 2) zk_X11_linear 56 lv [] (xops (znew x 180) ops_180) (kf (kHi q)) Q) : T (kE G) (d + 2) zk_X11_linear 46 lv [vr 0] x (kf q) Q := by
  have fr := fr_H hu h0
  have f0 := fr 180 List.mem_cons_self
  have l0 : 0 ∈ (kf q).2.1 := kl_0 hu.1
  refine T_newO 180 (dk dtk_X11_linear 23 rfl) kn_X11_278 kk_180 f0.1 (Or.inl (by decide)) f0.2 hok ?_
  refine T_dup (dk dtk_X11_linear 24 rfl) rfl ?_
  have l1 : 180 ∈ (fnew (kf q) 180 13).2.1 := List.mem_append_right _ (List.mem_singleton.mpr rfl)
  have ho1 : gok (fnew (kf q) 180 13).2.1 lv [vr 180, vr 0] = true := gok_i (gok_l (gok_le (fun c hc => List.mem_append_left _ hc) hok)) (as_c (gkr l1) (as_c (gkr (List.mem_append_left _ l0)) as_n))
  have hfr : ∀ c ∈ news_180, c ∉ (fnew (kf q) 180 13).2.1 ∧ NR (fnew (kf q) 180 13) c := ops_fr (l := [oN_ 180 13]) (N := 180 :: news_180) fr (by decide +kernel)
  refine T_callI [] [vr 180, vr 0] (d + 1) rfl (dk dtk_X11_linear 25 rfl) kci_X11_284 rfl (by omega) (Nat.le_of_ble_eq_true rfl) (Nat.le_of_ble_eq_true rfl) ho1 (kc_180 (d := d) l1 hfr ⟨rfl, ?_⟩)
  refine T_putR 0 8 180 (dk dtk_X11_linear 26 rfl) kfl_X11_280 kk_0 (ops_in (List.mem_append_left _ l0)) (by decide) rfl (fun _ => ⟨rfl, rfl⟩) ?_
  exact T_refs kHi_2 (fun c hc j g1 g2 => kHi_r rfl (Or.inr trivial) g1 g2) k
theorem T_mkE (hu : kU q) (h0 : q.ex = false) (hok : gok (kf q).2.1 lv [vr 0] = true) (hl0 : lv[0]? = some (0, vr 0))
    (k : T (kE G) (d + 4) zk_X11_attempt 53 lv [] (xops (znew x 200) ops_200) (kf (kEx q)) Q) : T (kE G) (d + 4) zk_X11_attempt 39 lv [vr 0] x (kf q) Q := by
  have fr := fr_E hu h0
  have f0 := fr 200 List.mem_cons_self
  have l0 : 0 ∈ (kf q).2.1 := kl_0 hu.1
  have l60 : 60 ∈ (kf q).2.1 := kl_60 hu.1
  refine T_newO 200 (dk dtk_X11_attempt 19 rfl) kn_X11_298 kk_200 f0.1 (Or.inl (by decide)) f0.2 hok ?_
  refine T_dup (dk dtk_X11_attempt 20 rfl) rfl ?_
  refine T_aload_n 0 (dk dtk_X11_attempt 21 rfl) rfl hl0 ?_
  refine T_getR 0 2 60 (dk dtk_X11_attempt 22 rfl) kfl_X11_28 kk_0 (List.mem_append_left _ l0) (by decide) rfl (show (if (0 : Nat) = 200 then none else kR q 0 2) = some 60 from rfl) ?_
  have l1 : 200 ∈ (fnew (kf q) 200 10).2.1 := List.mem_append_right _ (List.mem_singleton.mpr rfl)
  have ho1 : gok (fnew (kf q) 200 10).2.1 lv [vr 200, vr 0] = true := gok_i (gok_l (gok_le (fun c hc => List.mem_append_left _ hc) hok)) (as_c (gkr l1) (as_c (gkr (List.mem_append_left _ l0)) as_n))
  have hfr : ∀ c ∈ news_200, c ∉ (fnew (kf q) 200 10).2.1 ∧ NR (fnew (kf q) 200 10) c := ops_fr (l := [oN_ 200 10]) (N := 200 :: news_200) fr (by decide +kernel)
  refine T_callI [vr 60] [vr 200, vr 0] (d + 3) rfl (dk dtk_X11_attempt 23 rfl) kci_X11_300 rfl (by omega) (Nat.le_of_ble_eq_true rfl) (Nat.le_of_ble_eq_true rfl) ho1 (kc_200 (d := d) l1 (List.mem_append_left _ l60) hfr (show (if (60 : Nat) = 200 then none else kR q 60 0) = some 80 from rfl) ⟨rfl, ?_⟩)
  refine T_putR 0 7 200 (dk dtk_X11_attempt 24 rfl) kfl_X11_294 kk_0 (ops_in (List.mem_append_left _ l0)) (by decide) rfl (fun _ => ⟨rfl, rfl⟩) ?_
  exact T_refs kEx_2 (fun c hc j g1 g2 => kEx_r (hu.2.2.1.1 h0).1 (hu.2.2.1.1 h0).2 g1 g2) k
theorem T_mkT0 {i : Int32} (hu : kU q) (h0 : q.t0 = false) (hi : i.toNatClampNeg = 0) (hin : vp_in i 2) (hok : gok (kf q).2.1 lv [vi i, vr 7] = true)
    (k : T (kE G) (d + 2) zk_X11_attempt 75 lv [] (xops (znew x 260) ops_260) (kf (kT0 q)) Q) : T (kE G) (d + 2) zk_X11_attempt 67 lv [vi i, vr 7] x (kf q) Q := by
  have fr := fr_A hu h0
  have f0 := fr 260 List.mem_cons_self
  have l7 : 7 ∈ (kf q).2.1 := kl_7 hu.1
  refine T_newO 260 (dk dtk_X11_attempt 33 rfl) kn_X11_57 rfl f0.1 (Or.inl (by decide)) f0.2 hok ?_
  refine T_dup (dk dtk_X11_attempt 34 rfl) rfl ?_
  have l1 : 260 ∈ (fnew (kf q) 260 14).2.1 := List.mem_append_right _ (List.mem_singleton.mpr rfl)
  have ho1 : gok (fnew (kf q) 260 14).2.1 lv [vr 260, vi i, vr 7] = true := gok_i (gok_l (gok_le (fun c hc => List.mem_append_left _ hc) hok)) (as_c (gkr l1) (as_c rfl (as_c (gkr (List.mem_append_left _ l7)) as_n)))
  have hfr : ∀ c ∈ news_260, c ∉ (fnew (kf q) 260 14).2.1 ∧ NR (fnew (kf q) 260 14) c := ops_fr (l := [oN_ 260 14]) (N := 260 :: news_260) fr (by decide +kernel)
  refine T_callI [] [vr 260, vi i, vr 7] (d + 1) rfl (dk dtk_X11_attempt 35 rfl) kci_X11_301 rfl (by omega) (Nat.le_of_ble_eq_true rfl) (Nat.le_of_ble_eq_true rfl) ho1 (kc_260 (d := d) l1 hfr ⟨rfl, ?_⟩)
  refine T_aastT 7 260 (n := 2) (dk dtk_X11_attempt 36 rfl) kk_7 (ops_in (List.mem_append_left _ l7)) rfl (ops_in l1) hin ?_
  rw [hi]
  exact T_refs kT0_2 (fun c hc j g1 g2 => kT0_r (hu.2.2.1.2.1 h0) (Or.inr trivial) g1 g2) k
theorem T_mkT1 {i : Int32} (hu : kU q) (h0 : q.t1 = false) (hi : i.toNatClampNeg = 1) (hin : vp_in i 2) (hok : gok (kf q).2.1 lv [vi i, vr 7] = true)
    (k : T (kE G) (d + 2) zk_X11_attempt 75 lv [] (xops (znew x 280) ops_280) (kf (kT1 q)) Q) : T (kE G) (d + 2) zk_X11_attempt 67 lv [vi i, vr 7] x (kf q) Q := by
  have fr := fr_B hu h0
  have f0 := fr 280 List.mem_cons_self
  have l7 : 7 ∈ (kf q).2.1 := kl_7 hu.1
  refine T_newO 280 (dk dtk_X11_attempt 33 rfl) kn_X11_57 rfl f0.1 (Or.inl (by decide)) f0.2 hok ?_
  refine T_dup (dk dtk_X11_attempt 34 rfl) rfl ?_
  have l1 : 280 ∈ (fnew (kf q) 280 14).2.1 := List.mem_append_right _ (List.mem_singleton.mpr rfl)
  have ho1 : gok (fnew (kf q) 280 14).2.1 lv [vr 280, vi i, vr 7] = true := gok_i (gok_l (gok_le (fun c hc => List.mem_append_left _ hc) hok)) (as_c (gkr l1) (as_c rfl (as_c (gkr (List.mem_append_left _ l7)) as_n)))
  have hfr : ∀ c ∈ news_280, c ∉ (fnew (kf q) 280 14).2.1 ∧ NR (fnew (kf q) 280 14) c := ops_fr (l := [oN_ 280 14]) (N := 280 :: news_280) fr (by decide +kernel)
  refine T_callI [] [vr 280, vi i, vr 7] (d + 1) rfl (dk dtk_X11_attempt 35 rfl) kci_X11_301 rfl (by omega) (Nat.le_of_ble_eq_true rfl) (Nat.le_of_ble_eq_true rfl) ho1 (kc_280 (d := d) l1 hfr ⟨rfl, ?_⟩)
  refine T_aastT 7 280 (n := 2) (dk dtk_X11_attempt 36 rfl) kk_7 (ops_in (List.mem_append_left _ l7)) rfl (ops_in l1) hin ?_
  rw [hi]
  exact T_refs kT1_2 (fun c hc j g1 g2 => kT1_r (hu.2.2.1.2.2 h0) (Or.inr trivial) g1 g2) k
/-! makers: an end, with the shape that it leaves -/
def kmq (P : Option gv → gd → kP → Prop) (X : String → gd → kP → Prop) : gr → gd → gf → Prop := fun o x f => ∃ q, (f = kf q ∧ ∃ v, o = .inl v ∧ P v x q) ∨ (f = gth (kf q) ∧ ∃ c, o = .inr c ∧ X c x q)
abbrev KM (G : kG) (q : kP) (d : Nat) (y : gy) (pc : Nat) (lv : List (Nat × gv)) (st : List gv) (x : gd) (P : Option gv → gd → kP → Prop) (X : String → gd → kP → Prop) : Prop := T (kE G) d y pc lv st x (kf q) (kmq P X)
/-- no answer: the shape is in order, and more than before -/
def rm (q0 : kP) (F : gd → kP → Prop) : Option gv → gd → kP → Prop := fun v x q => v = none ∧ kU q ∧ kle q0 q ∧ F x q
variable {P P' : Option gv → gd → kP → Prop} {X X' : String → gd → kP → Prop} {z : gy}
theorem KM_iret {v : Int32} {ty : FieldType} (hd : decode y.2.1 pc = .ok (.ireturn, 1)) (hr : y.2.2.2.1 = some ty) (hn : narrow ty (.int v) = .int v) (hQ : P (some (vi v)) x q) : KM G q d y pc lv [vi v] x P X := T_iret hd hr hn ⟨q, Or.inl ⟨rfl, _, rfl, hQ⟩⟩
theorem KM_vret (hd : decode y.2.1 pc = .ok (.return_, 1)) (hr : y.2.2.2.1 = none) (hQ : P none x q) : KM G q d y pc lv [] x P X := T_vret hd hr ⟨q, Or.inl ⟨rfl, _, rfl, hQ⟩⟩
theorem KM_Vv {idx n c ci : Nat} {sl : List Bool} {F : gd → kP → Prop} (As rest : List gv) (hst : st = As.reverse ++ vr c :: rest) (hd : decode y.2.1 pc = .ok (.invokevirtual idx, 3)) (hM : gMv y.1.cls idx z n) (hn : As.length = n) (hK : kK c = .inl (ci, sl)) (hcl : (vwCl[ci]?).map (fun r => r.1) = some z.1.cls) (hc : c ∈ (kf q).2.1) (hfit : gsz (vr c :: As) ≤ z.2.2.1) (hcat : gsz rest ≤ 8) (hok : gok (kf q).2.1 lv rest = true) (hy : y.2.2.2.2 = [])
    (k : KM G q d z 0 (glv 0 (vr c :: As)) [] x (rm q F) X) (kk : ∀ x1 q1, kU q1 → kle q q1 → F x1 q1 → KM G q1 (d + 1) y (pc + 3) lv rest x1 P X) : KM G q (d + 1) y pc lv st x P X := by
  refine T_callV (E := kE G) As rest d hst hd hM hn hK hcl hc (Nat.le_refl _) hfit hcat hok (by rw [hy]; intro z hz; cases hz) ?_
  refine T_mono k (fun o x' f' w => ?_)
  obtain ⟨q', ⟨rfl, v, rfl, rfl, hU, hL, hF⟩ | ⟨rfl, s, rfl, hX⟩⟩ := w
  · exact kk x' q' hU hL hF
  · exact ⟨q', Or.inr ⟨rfl, s, rfl, hX⟩⟩
theorem KN_Vv {idx n c ci : Nat} {sl : List Bool} {F : gd → Prop} (As rest : List gv) (hst : st = As.reverse ++ vr c :: rest) (hd : decode y.2.1 pc = .ok (.invokevirtual idx, 3)) (hM : gMv y.1.cls idx z n) (hn : As.length = n) (hK : kK c = .inl (ci, sl)) (hcl : (vwCl[ci]?).map (fun r => r.1) = some z.1.cls) (hc : c ∈ (kf q).2.1) (hfit : gsz (vr c :: As) ≤ z.2.2.1) (hcat : gsz rest ≤ 8) (hok : gok (kf q).2.1 lv rest = true) (hy : y.2.2.2.2 = [])
    (k : KE G q d z 0 (glv 0 (vr c :: As)) [] x (rv F) (fun c9 x9 => X c9 x9 q)) (kk : ∀ x1, F x1 → KM G q (d + 1) y (pc + 3) lv rest x1 P X) : KM G q (d + 1) y pc lv st x P X := by
  refine T_callV (E := kE G) As rest d hst hd hM hn hK hcl hc (Nat.le_refl _) hfit hcat hok (by rw [hy]; intro z hz; cases hz) ?_
  refine T_mono k (fun o x' f' w => ?_)
  rcases w with ⟨rfl, v, rfl, rfl, hF⟩ | ⟨rfl, s, rfl, hX⟩
  · exact kk x' hF
  · exact ⟨q, Or.inr ⟨rfl, s, rfl, hX⟩⟩
theorem KN_Sv {idx n : Nat} {F : gd → Prop} (As rest : List gv) (hst : st = As.reverse ++ rest) (hd : decode y.2.1 pc = .ok (.invokestatic idx, 3)) (hM : gMs y.1.cls idx z n) (hn : As.length = n) (hfit : gsz As ≤ z.2.2.1) (hcat : gsz rest ≤ 8) (hok : gok (kf q).2.1 lv rest = true) (hy : y.2.2.2.2 = [])
    (k : KE G q d z 0 (glv 0 As) [] x (rv F) (fun c9 x9 => X c9 x9 q)) (kk : ∀ x1, F x1 → KM G q (d + 1) y (pc + 3) lv rest x1 P X) : KM G q (d + 1) y pc lv st x P X := by
  refine T_callS (E := kE G) As rest d hst hd hM hn (Nat.le_refl _) hfit hcat hok (by rw [hy]; intro z hz; cases hz) ?_
  refine T_mono k (fun o x' f' w => ?_)
  rcases w with ⟨rfl, v, rfl, rfl, hF⟩ | ⟨rfl, s, rfl, hX⟩
  · exact kk x' hF
  · exact ⟨q, Or.inr ⟨rfl, s, rfl, hX⟩⟩
end KFU
/-! a caught exception: one cell more was made -/
def kTh (q : kP) : kP := kmk q.hi q.ex q.t0 q.t1 q.et q.kn q.o0 q.o1 q.L (q.ce + 1) (q.sl + 6)
theorem kTh_U {q : kP} (h : kU q) : kU (kTh q) := h
def gcatch (E : gE) (d : Nat) (y : gy) (pc : Nat) (lv : List (Nat × gv)) (st : List gv) (hpc : Nat) (Q : gr → gd → gf → Prop) (o : gr) (x : gd) (f : gf) : Prop := match o with
  | .inl v => T E d y pc lv (v.toList ++ st) x f Q
  | .inr X => X = iSE ∧ T E d y hpc lv [] x f Q
section GCA
variable {E : gE} {d : Nat} {y : gy} {pc : Nat} {lv : List (Nat × gv)} {st : List gv} {x : gd} {f : gf} {Q : gr → gd → gf → Prop}
theorem T_catchV {z : gy} {c ci idx n : Nat} {sl : List Bool} (As rest : List gv) (d1 : Nat) (hst : st = As.reverse ++ vr c :: rest) (hd : decode y.2.1 pc = .ok (.invokevirtual idx, 3)) (hM : gMv y.1.cls idx z n) (hn : As.length = n) (hK : E.2.2.2.1 c = .inl (ci, sl)) (hcl : (vwCl[ci]?).map (fun r => r.1) = some z.1.cls) (hc : c ∈ f.2.1) (hd1 : d1 + 1 ≤ d)
    (hfit : gsz (vr c :: As) ≤ z.2.2.1) (hcat : gsz rest ≤ 8) (hok : gok f.2.1 lv rest = true) (hz : z.2.2.2.2 = []) (e9 : ExceptionTableEntry) (htab : tableOf y.2.2.2.2 = [e9]) (hcov : covers e9 pc = true) (h0 : e9.catchType ≠ 0) (hlink : Cond.classLink y.1.cls e9.catchType iSE ∈ W0) {n3 : Fin 4} {i3 : Nat} (hi3 : (n3 : Nat) = i3) (hd2 : decode y.2.1 e9.handlerPc = .ok (.astore_n n3, 1)) (hn3 : i3 < y.2.2.1) (h9 : gst1 i3 lv = lv)
    (k : T E d1 z 0 (glv 0 (vr c :: As)) [] x f (gcatch E d y (pc + 3) lv rest (e9.handlerPc + 1) Q)) : T E d y pc lv st x f Q := by
  obtain ⟨⟨m1, m2, m3, m4, m5⟩, m6, m7, m8⟩ := hM
  obtain ⟨o1, x1, f1, hk, hle, hw1⟩ := k
  have hlv : lv.all (fun q => gokv f.2.1 q.2) = true := (Bool.and_eq_true _ _ ▸ hok).1
  have hrs : rest.all (gokv f.2.1) = true := (Bool.and_eq_true _ _ ▸ hok).2
  have hrun : ∀ (p : Program) (e : Env) (R : Room) (s : State) (m : MethodId) (args : Array Value) (below : List Frame) (meth : Method) (c0 : Code) (A : Nat → Prop) (H : Heap) (locs : List Loc) (cells slots : Nat) (ls : Array Slot) (ad : Nat → Nat), gC E d y p R s m args meth c0 A → gP E x f ad A H → va_S A s.heap H locs → lv_has ls y.2.2.1 (glc ad lv) → cells + (f1.2.2.1 - f.2.2.1) ≤ R.cells → slots + (f1.2.2.2 - f.2.2.2) ≤ R.slots →
      vx_Run p E.1 e R s m args below meth c0 H locs cells slots (f1.2.2.1 - f.2.2.1) (f1.2.2.2 - f.2.2.2) (F0 m pc ls (st.map (gcv ad))) (rest.map (gcv ad)) (gQc E (gA f ad H.size) f ad o1 x1 f1 ((vr c :: As).map (gcv ad)).toArray) (gXC E (gA f ad H.size) f ad o1 x1 f1) (gA f ad H.size) := by
    intro p e R s m args below meth c0 A H locs cells slots ls ad C hP hS hl hc1 hs1
    obtain ⟨i, hi0, hi⟩ := gwl_at (E := E) (x := x) (ad := ad) hc
    rw [gce_obj hK] at hi
    have hr9 : ∃ r : vw_C, vwCl[ci]? = some r ∧ r.1 = z.1.cls := by
      cases h9 : vwCl[ci]? with
      | none => rw [h9] at hcl; cases hcl
      | some r => rw [h9] at hcl; exact ⟨r, rfl, Option.some.inj hcl⟩
    obtain ⟨r, hr1, hr2⟩ := hr9
    have hrec := va_recv C.2.2.2.1.1 hP.1.1 hr1 hi
    rw [hr2] at hrec
    have hG : GoodIn W0 (wsV y.1.cls idx z.1.cls z.1 (gws z)) := by
      intro w hw
      rcases List.mem_append.mp hw with h | h
      · refine W0_good w ?_
        simp only [List.mem_cons, List.not_mem_nil, or_false] at h
        rcases h with rfl | rfl | rfl | rfl
        · exact m1
        · exact m2
        · exact m3
        · exact m4
      · exact gwsz m5 w h
    have hroom : 8 + (z.2.2.1 + 11) + 41 * d1 ≤ R.locals := by
      have hq := C.2.2.1.2
      omega
    have hstk : st.map (gcv ad) = (As.map (gcv ad)).reverse ++ Value.ref (ad c) :: rest.map (gcv ad) := by
      rw [hst, List.map_append, List.map_reverse]
      rfl
    exact vx_runV (As := As.map (gcv ad)) (C := z.1.cls) (b := ad c) (Pc := va_Pc ((vr c :: As).map (gcv ad)) (gst E x f ad H.size)) ⟨C.1.1, C.1.2.1, C.1.2.2.1, C.1.2.2.2.1, C.1.2.2.2.2⟩ (gM_of C.2.2.2.1.2.2.2 m7 hfit hw1 ad H.size)
      (cwV (bytes := z.2.1) (maxL := z.2.2.1) (ret := z.2.2.2.1) (ws' := W0) n C.1.2.2.2.2 hG (by rw [gws, gcw, hz]) rfl rfl ⟨rfl, m6⟩ ⟨Nat.le_trans hd1 C.2.2.1.1, hroom⟩) ⟨gst_blind, hrec, fun U hU hW => ⟨rfl, gst_in C hP hS hU hW⟩⟩ rfl (by rw [List.length_map]; exact hn) hl.1 hstk (lv_room (by rw [gsz_c]; exact hcat)) hd ⟨hc1, hs1⟩
  cases o1 with
  | inl v =>
    obtain ⟨o, x', f', hQ, hle2, hw2⟩ := hk
    refine ⟨o, x', f', hQ, gle_tr hle hle2, ?_⟩
    intro p e R s m args below meth c0 A H locs cells slots ls ad C hP hS hl hc hs T9 hT X
    have a1 := hle.2.1
    have a2 := hle.2.2
    have b1 := hle2.2.1
    have b2 := hle2.2.2
    rcases hrun p e R s m args below meth c0 A H locs cells slots ls ad C hP hS hl (by omega) (by omega) T9 hT X with ⟨v', st₀, t, T', L, h0, X', hL, e1, e2, ⟨ad1, hex, ⟨v2, ev1, ev2⟩, hP1, hF⟩, stp⟩ | ⟨q, st₀, t, T', L, X0, ce, h0, X', hL, e1, e2, ⟨ad1, hex, hn, -⟩, -⟩
    · cases ev1
      cases ev2
      have hin := gA_in (sz := H.size) hP (fun q hq => C.2.2.2.2 q (Nat.le_trans hS.1 hq))
      obtain ⟨k1, k2, k3⟩ := vx_keep h0 e1 hS (fun q _ h => hin q h) hin hL hF
      have hP2 : gP E x1 f1 ad1 A T'.heap := by rw [e1]; exact gP_w hP1 hin
      have hl2 : lv_has ls y.2.2.1 (glc ad1 lv) := by rw [glc_live hex hlv]; exact hl
      have hw3 := hw2 p e R s m args below meth c0 A T'.heap (locs ++ L) (cells + (f1.2.2.1 - f.2.2.1)) (slots + (f1.2.2.2 - f.2.2.2)) ls ad1 C hP2 k3 hl2 (by omega) (by omega)
      rw [List.map_append, gst_live hex hrs] at hw3
      have hv : (v.toList).map (gcv ad1) = (v.map (gcv ad1)).toList := by cases v <;> rfl
      rw [hv] at hw3
      rw [show cells + (f1.2.2.1 - f.2.2.1) + (f'.2.2.1 - f1.2.2.1) = cells + (f'.2.2.1 - f.2.2.1) by omega, show slots + (f1.2.2.2 - f.2.2.2) + (f'.2.2.2 - f1.2.2.2) = slots + (f'.2.2.2 - f.2.2.2) by omega] at hw3
      obtain ⟨t2, s1, s2⟩ := hw3 T' rfl X'
      refine ⟨t2, stp t2 s1, vx_MQ_mono s2 (fun _ _ _ _ q => ?_) (fun _ _ _ q => ?_)⟩
      · obtain ⟨ad2, g1, g2⟩ := q; exact ⟨ad2, gex_tr hle hex g1, g2⟩
      · obtain ⟨ad2, g1, g2⟩ := q; exact ⟨ad2, gex_tr hle hex g1, g2⟩
    · cases hn
  | inr X1 =>
    obtain ⟨rfl, o, x', f', hQ, hle2, hw2⟩ := hk
    refine ⟨o, x', f', hQ, gle_tr hle hle2, ?_⟩
    intro p e R s m args below meth c0 A H locs cells slots ls ad C hP hS hl hc hs T9 hT X
    have a1 := hle.2.1
    have a2 := hle.2.2
    have b1 := hle2.2.1
    have b2 := hle2.2.2
    rcases hrun p e R s m args below meth c0 A H locs cells slots ls ad C hP hS hl (by omega) (by omega) T9 hT X with ⟨v', st₀, t, T', L, h0, X', hL, e1, e2, ⟨ad1, hex, ⟨v2, ev1, -⟩, -⟩, -⟩ | ⟨q, st₀, t, T', L, X0, ce, h00, X', hL, e1, e2, ⟨ad1, hex, hn, hP1, hF⟩, hce, hcv, hcl, stp⟩
    · cases ev1
    · cases hn
      have hin := gA_in (sz := H.size) hP (fun q hq => C.2.2.2.2 q (Nat.le_trans hS.1 hq))
      obtain ⟨k1, k2, k3⟩ := vx_keep h00 e1 hS (fun q _ h => hin q h) hin hL hF
      have hP2 : gP E x1 f1 ad1 A T'.heap := by rw [e1]; exact gP_w hP1 hin
      have hl2 : lv_has ls y.2.2.1 (glc ad1 lv) := by rw [glc_live hex hlv]; exact hl
      have hw3 := fun (ls2 : Array Slot) (hl3 : lv_has ls2 y.2.2.1 (glc ad1 lv)) => hw2 p e R s m args below meth c0 A T'.heap (locs ++ L) (cells + (f1.2.2.1 - f.2.2.1)) (slots + (f1.2.2.2 - f.2.2.2)) ls2 ad1 C hP2 k3 hl3 (by omega) (by omega)
      rw [show cells + (f1.2.2.1 - f.2.2.1) + (f'.2.2.1 - f1.2.2.1) = cells + (f'.2.2.1 - f.2.2.1) by omega, show slots + (f1.2.2.2 - f.2.2.2) + (f'.2.2.2 - f1.2.2.2) = slots + (f'.2.2.2 - f.2.2.2) by omega] at hw3
      have hfl : (i3, Value.ref q) :: (glc ad1 lv).filter (fun q => !(q.1 == i3) && !(q.1 + 1 == i3 && q.2.category == 2)) = (i3, Value.ref q) :: glc ad1 lv := by
        have := gst1_c (ad := ad1) (i := i3) (v := vi 0) (lv := lv) rfl
        rw [h9] at this
        have h5 := (List.cons.inj this).2
        rw [h5]; rfl
      have hcat9 := vx_catch (own := y.1.cls) (name := iSE) (E := iSE) (ce := ce) (q := q) (pc := pc) (ls := ls) (rest := rest.map (gcv ad)) C.1.2.2.2.1 [] e9 [] (by rw [C.2.1.2.2.1, htab]; rfl) (fun z hz => nomatch hz) hcov h0 (C.1.2.2.2.2 _ hlink) (show (Cond.castable iSE iSE).before args s = true from C.2.2.2.1.2.1.2.1 (.castable iSE iSE) (by decide)) (by rw [e1]; exact hce) hcv hcl (lv_astore_n (x := q) C.1.1 C.1.2.1 hd2 hi3 hl2 hn3 hfl (fun ls2 hl3 => hw3 ls2 ⟨hl3.1, hl3.2.1, fun z hz => hl3.2.2 z (List.mem_cons_of_mem _ hz)⟩))
      obtain ⟨t2, s1, s2⟩ := hcat9 T' rfl X'
      refine ⟨t2, stp.trans s1, vx_MQ_mono s2 (fun _ _ _ _ q => ?_) (fun _ _ _ q => ?_)⟩
      · obtain ⟨ad2, g1, g2⟩ := q; exact ⟨ad2, gex_tr hle hex g1, g2⟩
      · obtain ⟨ad2, g1, g2⟩ := q; exact ⟨ad2, gex_tr hle hex g1, g2⟩
end GCA
section KCA
variable {G : kG} {d : Nat} {z : gy} {pc : Nat} {lv : List (Nat × gv)} {st : List gv} {x : gd} {q : kP} {P : Option gv → gd → kP → Prop} {X : String → gd → kP → Prop} {Q : gr → gd → gf → Prop}
def kce : ExceptionTableEntry := ⟨15, 38, 41, 102⟩
theorem kce_l : Cond.classLink RX11 102 iSE ∈ W0 := W0_in (tp_3 (List.mem_of_getElem? (i := 104) (by decide +kernel))) rfl
theorem KH_Vv {idx n c ci : Nat} {sl : List Bool} {F : gd → Prop} {y : gy} (As rest : List gv) (hst : st = As.reverse ++ vr c :: rest) (hd : decode y.2.1 pc = .ok (.invokevirtual idx, 3)) (hM : gMv y.1.cls idx z n) (hn : As.length = n) (hK : kK c = .inl (ci, sl)) (hcl : (vwCl[ci]?).map (fun r => r.1) = some z.1.cls) (hc : c ∈ (kf q).2.1) (hfit : gsz (vr c :: As) ≤ z.2.2.1) (hcat : gsz rest ≤ 8) (hok : gok (kf q).2.1 lv rest = true) (hy : ∀ z ∈ tableOf y.2.2.2.2, covers z pc = false)
    (k : KT G q d z 0 (glv 0 (vr c :: As)) [] x (rv F)) (kk : ∀ x1, F x1 → T (kE G) (d + 1) y (pc + 3) lv rest x1 (kf q) Q) : T (kE G) (d + 1) y pc lv st x (kf q) Q :=
  T_callV As rest d hst hd hM hn hK hcl hc (Nat.le_refl _) hfit hcat hok hy (T_mono k (fun o x' f' w => by obtain ⟨rfl, v, rfl, rfl, hr⟩ := w; exact kk x' hr))
theorem KH_Vi {idx n c ci : Nat} {sl : List Bool} {F : Int32 → gd → Prop} {y : gy} (As rest : List gv) (hst : st = As.reverse ++ vr c :: rest) (hd : decode y.2.1 pc = .ok (.invokevirtual idx, 3)) (hM : gMv y.1.cls idx z n) (hn : As.length = n) (hK : kK c = .inl (ci, sl)) (hcl : (vwCl[ci]?).map (fun r => r.1) = some z.1.cls) (hc : c ∈ (kf q).2.1) (hfit : gsz (vr c :: As) ≤ z.2.2.1) (hcat : gsz rest ≤ 8) (hok : gok (kf q).2.1 lv rest = true) (hy : ∀ z ∈ tableOf y.2.2.2.2, covers z pc = false)
    (k : KT G q d z 0 (glv 0 (vr c :: As)) [] x (ri F)) (kk : ∀ r x1, F r x1 → T (kE G) (d + 1) y (pc + 3) lv (vi r :: rest) x1 (kf q) Q) : T (kE G) (d + 1) y pc lv st x (kf q) Q :=
  T_callV As rest d hst hd hM hn hK hcl hc (Nat.le_refl _) hfit hcat hok hy (T_mono k (fun o x' f' w => by obtain ⟨rfl, v, rfl, r, rfl, hr⟩ := w; exact kk r x' hr))
theorem KJ_Vi {idx n c ci : Nat} {sl : List Bool} {F : Int32 → gd → Prop} (As rest : List gv) (hst : st = As.reverse ++ vr c :: rest) (hd : decode zk_X11_compile.2.1 pc = .ok (.invokevirtual idx, 3)) (hM : gMv RX11 idx z n) (hn : As.length = n) (hK : kK c = .inl (ci, sl)) (hcl : (vwCl[ci]?).map (fun r => r.1) = some z.1.cls) (hc : c ∈ (kf q).2.1) (hfit : gsz (vr c :: As) ≤ z.2.2.1) (hcat : gsz rest ≤ 8) (hok : gok (kf q).2.1 lv rest = true) (hz : z.2.2.2.2 = []) (hcov : covers kce pc = true) (h9 : gst1 3 lv = lv)
    (k : KT G q d z 0 (glv 0 (vr c :: As)) [] x (ri F)) (kk : ∀ r x1, F r x1 → KM G q (d + 1) zk_X11_compile (pc + 3) lv (vi r :: rest) x1 P X) : KM G q (d + 1) zk_X11_compile pc lv st x P X :=
  T_catchV (y := zk_X11_compile) As rest d hst hd hM hn hK hcl hc (Nat.le_refl _) hfit hcat hok hz kce rfl hcov (by decide) kce_l rfl (dk dtk_X11_compile 21 rfl) (by decide) h9 (T_mono k (fun o x' f' w => by obtain ⟨rfl, v, rfl, r, rfl, hr⟩ := w; exact kk r x' hr))
theorem KJ_cat {idx n c ci : Nat} {sl : List Bool} {F : gd → Prop} (As rest : List gv) (hst : st = As.reverse ++ vr c :: rest) (hd : decode zk_X11_compile.2.1 pc = .ok (.invokevirtual idx, 3)) (hM : gMv RX11 idx z n) (hn : As.length = n) (hK : kK c = .inl (ci, sl)) (hcl : (vwCl[ci]?).map (fun r => r.1) = some z.1.cls) (hc : c ∈ (kf q).2.1) (hfit : gsz (vr c :: As) ≤ z.2.2.1) (hcat : gsz rest ≤ 8) (hok : gok (kf q).2.1 lv rest = true) (hz : z.2.2.2.2 = []) (hcov : covers kce pc = true) (h9 : gst1 3 lv = lv)
    (k : KE G q d z 0 (glv 0 (vr c :: As)) [] x (rv F) (fun c9 x9 => c9 = iSE ∧ KM G (kTh q) (d + 1) zk_X11_compile 42 lv [] x9 P X)) (kk : ∀ x1, F x1 → KM G q (d + 1) zk_X11_compile (pc + 3) lv rest x1 P X) : KM G q (d + 1) zk_X11_compile pc lv st x P X :=
  T_catchV (y := zk_X11_compile) As rest d hst hd hM hn hK hcl hc (Nat.le_refl _) hfit hcat hok hz kce rfl hcov (by decide) kce_l rfl (dk dtk_X11_compile 21 rfl) (by decide) h9 (T_mono k (fun o x' f' w => by
    rcases w with ⟨rfl, v, rfl, rfl, hr⟩ | ⟨rfl, s, rfl, rfl, hk⟩
    · exact kk x' hr
    · exact ⟨rfl, hk⟩))
end KCA
