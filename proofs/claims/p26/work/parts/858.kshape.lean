section
/-! the class's shape while it runs: what was made, no more; rows that make a history, an explorer, a trying, rows of states and outcomes -/
def kmd (q : kP) (c : Nat) : Prop := c ∈ kl0 ∨ (q.hi = true ∧ c ∈ klH) ∨ (q.ex = true ∧ c ∈ klE) ∨ (q.t0 = true ∧ c ∈ klA) ∨ (q.t1 = true ∧ c ∈ klB) ∨ (∃ k, k < q.kn ∧ c = 1000 + k) ∨ (∃ k, k < q.o0 ∧ c = 4000 + k) ∨ ∃ k, k < q.o1 ∧ c = 7000 + k
def kU (q : kP) : Prop := kV q ∧ (∀ c ∈ q.L, kmd q c) ∧ ((q.ex = false → q.kn = 0 ∧ q.et = none) ∧ (q.t0 = false → q.o0 = 0) ∧ (q.t1 = false → q.o1 = 0)) ∧ (∀ o, q.et = some o → kiT q o) ∧ (q.kn ≤ 3000 ∧ q.o0 ≤ 3000 ∧ q.o1 ≤ 3000)
theorem kmd_L {q : kP} {c : Nat} (hu : kV q) (h : kmd q c) : c ∈ q.L := by
  rcases h with h | ⟨e, h⟩ | ⟨e, h⟩ | ⟨e, h⟩ | ⟨e, h⟩ | ⟨k, hk, rfl⟩ | ⟨k, hk, rfl⟩ | ⟨k, hk, rfl⟩
  · exact hu.1 c h
  · exact hu.2.1 e c h
  · exact hu.2.2.1 e c h
  · exact hu.2.2.2.1 e c h
  · exact hu.2.2.2.2.1 e c h
  · exact hu.2.2.2.2.2.1 k hk
  · exact hu.2.2.2.2.2.2.1 k hk
  · exact hu.2.2.2.2.2.2.2 k hk
def tOk (A B : List Nat) : Bool := A.all (fun c' => (kRa.getD c' []).all (fun r => match r with
  | none => true
  | some c => B.contains c))
theorem tOk_u {A B : List Nat} (h : tOk A B = true) {c' j c : Nat} (hc : c' ∈ A) (hj : (kRa.getD c' []).getD j none = some c) : c ∈ B := by
  have h1 := List.all_eq_true.mp h c' hc
  have hm : some c ∈ kRa.getD c' [] := by
    rw [List.getD_eq_getElem?_getD] at hj
    cases hr : (kRa.getD c' [])[j]? with
    | none => rw [hr] at hj; cases hj
    | some r => rw [hr] at hj; cases hj; exact List.mem_of_getElem? hr
  have h2 := List.all_eq_true.mp h1 _ hm
  exact List.contains_iff_mem.mp h2
theorem tOk_0 : tOk kl0 kl0 = true := by decide +kernel
theorem tOk_H : tOk klH (klH ++ kl0) = true := by decide +kernel
theorem tOk_E : tOk klE (klE ++ kl0) = true := by decide +kernel
theorem tOk_A : tOk klA (klA ++ kl0) = true := by decide +kernel
theorem tOk_B : tOk klB (klB ++ kl0) = true := by decide +kernel
theorem kRa_len : kRa.length = 300 := by decide +kernel
theorem kRa_far {c j : Nat} (h : 300 ≤ c) : (kRa.getD c []).getD j none = none := by
  have : kRa[c]? = none := List.getElem?_eq_none (by rw [kRa_len]; exact h)
  rw [List.getD_eq_getElem?_getD (l := kRa), this]; rfl
/-- what live cells hold is live -/
theorem kU_cl {q : kP} (hu : kU q) {c' j c : Nat} (hc : c' ∈ q.L) (h : kR q c' j = some c) : c ∈ q.L := by
  refine kmd_L hu.1 ?_
  have hm := hu.2.1 c' hc
  unfold kR at h
  by_cases h1 : c' = 0 ∧ j = 7
  · rw [if_pos h1] at h
    by_cases e : q.ex = true
    · rw [if_pos e] at h; cases h; exact Or.inr (Or.inr (Or.inl ⟨e, by decide⟩))
    · rw [if_neg e] at h; cases h
  rw [if_neg h1] at h
  by_cases h2 : c' = 0 ∧ j = 8
  · rw [if_pos h2] at h
    by_cases e : q.hi = true
    · rw [if_pos e] at h; cases h; exact Or.inr (Or.inl ⟨e, by decide⟩)
    · rw [if_neg e] at h; cases h
  rw [if_neg h2] at h
  by_cases h3 : c' = 7
  · rw [if_pos h3] at h
    by_cases e0 : j = 0
    · rw [if_pos e0] at h
      by_cases e : q.t0 = true
      · rw [if_pos e] at h; cases h; exact Or.inr (Or.inr (Or.inr (Or.inl ⟨e, by decide⟩)))
      · rw [if_neg e] at h; cases h
    rw [if_neg e0] at h
    by_cases e1 : j = 1
    · rw [if_pos e1] at h
      by_cases e : q.t1 = true
      · rw [if_pos e] at h; cases h; exact Or.inr (Or.inr (Or.inr (Or.inr (Or.inl ⟨e, by decide⟩))))
      · rw [if_neg e] at h; cases h
    rw [if_neg e1] at h; cases h
  rw [if_neg h3] at h
  by_cases h4 : c' = 200 ∧ j = 7
  · rw [if_pos h4] at h
    rcases hu.2.2.2.1 c h with ⟨rfl, e⟩ | ⟨rfl, e⟩
    · exact Or.inr (Or.inr (Or.inr (Or.inl ⟨e, by decide⟩)))
    · exact Or.inr (Or.inr (Or.inr (Or.inr (Or.inl ⟨e, by decide⟩))))
  rw [if_neg h4] at h
  by_cases h5 : c' = 203
  · rw [if_pos h5] at h
    by_cases e : j < q.kn
    · rw [if_pos e] at h; cases h; exact Or.inr (Or.inr (Or.inr (Or.inr (Or.inr (Or.inl ⟨j, e, rfl⟩)))))
    · rw [if_neg e] at h; cases h
  rw [if_neg h5] at h
  by_cases h6 : c' = 273
  · rw [if_pos h6] at h
    by_cases e : j < q.o0
    · rw [if_pos e] at h; cases h; exact Or.inr (Or.inr (Or.inr (Or.inr (Or.inr (Or.inr (Or.inl ⟨j, e, rfl⟩))))))
    · rw [if_neg e] at h; cases h
  rw [if_neg h6] at h
  by_cases h7 : c' = 293
  · rw [if_pos h7] at h
    by_cases e : j < q.o1
    · rw [if_pos e] at h; cases h; exact Or.inr (Or.inr (Or.inr (Or.inr (Or.inr (Or.inr (Or.inr ⟨j, e, rfl⟩))))))
    · rw [if_neg e] at h; cases h
  rw [if_neg h7] at h
  by_cases h8 : c' = 190
  · rw [if_pos h8] at h
    by_cases e : j < 13
    · rw [if_pos e] at h
      cases h
      subst h8
      have hi : q.hi = true := by
        rcases hm with g | ⟨g, -⟩ | ⟨-, g⟩ | ⟨-, g⟩ | ⟨-, g⟩ | ⟨k, -, g⟩ | ⟨k, -, g⟩ | ⟨k, -, g⟩
        · exact absurd g (by decide)
        · exact g
        · exact absurd g (by decide)
        · exact absurd g (by decide)
        · exact absurd g (by decide)
        · omega
        · omega
        · omega
      exact Or.inr (Or.inl ⟨hi, (by decide : ∀ k, k < 13 → 300 + k ∈ klH) j e⟩)
    · rw [if_neg e] at h; cases h
  rw [if_neg h8] at h
  have spl : ∀ {B : List Nat}, c ∈ B ++ kl0 → c ∈ B ∨ c ∈ kl0 := fun hh => List.mem_append.mp hh
  rcases hm with g | ⟨e, g⟩ | ⟨e, g⟩ | ⟨e, g⟩ | ⟨e, g⟩ | ⟨k, -, g⟩ | ⟨k, -, g⟩ | ⟨k, -, g⟩
  · exact Or.inl (tOk_u tOk_0 g h)
  · rcases spl (tOk_u tOk_H g h) with z | z
    · exact Or.inr (Or.inl ⟨e, z⟩)
    · exact Or.inl z
  · rcases spl (tOk_u tOk_E g h) with z | z
    · exact Or.inr (Or.inr (Or.inl ⟨e, z⟩))
    · exact Or.inl z
  · rcases spl (tOk_u tOk_A g h) with z | z
    · exact Or.inr (Or.inr (Or.inr (Or.inl ⟨e, z⟩)))
    · exact Or.inl z
  · rcases spl (tOk_u tOk_B g h) with z | z
    · exact Or.inr (Or.inr (Or.inr (Or.inr (Or.inl ⟨e, z⟩))))
    · exact Or.inl z
  · rw [kRa_far (by omega)] at h; cases h
  · rw [kRa_far (by omega)] at h; cases h
  · rw [kRa_far (by omega)] at h; cases h
theorem kU_NR {q : kP} (hu : kU q) {c : Nat} (hc : c ∉ q.L) : NR (kf q) c := fun c' h' j h => hc (kU_cl hu h' h)
theorem kU_fr {q : kP} (hu : kU q) {c : Nat} (h : ¬ kmd q c) : c ∉ (kf q).2.1 ∧ NR (kf q) c := ⟨fun hc => h (hu.2.1 c hc), kU_NR hu (fun hc => h (hu.2.1 c hc))⟩
/-- how much was made -/
def wC (q : kP) : Nat := q.kn + q.o0 + q.o1 + (cond q.hi 30 0) + (cond q.ex 30 0) + (cond q.t0 30 0) + cond q.t1 30 0
def wS (q : kP) : Nat := 228 * q.kn + 24 * q.o0 + 24 * q.o1 + (cond q.hi 400 0) + (cond q.ex 20000 0) + (cond q.t0 20000 0) + cond q.t1 20000 0
def kle (q q' : kP) : Prop := (∀ c ∈ q.L, c ∈ q'.L) ∧ ((q.hi = true → q'.hi = true) ∧ (q.ex = true → q'.ex = true) ∧ (q.t0 = true → q'.t0 = true) ∧ (q.t1 = true → q'.t1 = true)) ∧ (q.kn ≤ q'.kn ∧ q.o0 ≤ q'.o0 ∧ q.o1 ≤ q'.o1) ∧ q'.ce + wC q ≤ q.ce + wC q' ∧ q'.sl + wS q ≤ q.sl + wS q'
theorem kle_rf (q : kP) : kle q q := ⟨fun _ h => h, ⟨fun h => h, fun h => h, fun h => h, fun h => h⟩, ⟨Nat.le_refl _, Nat.le_refl _, Nat.le_refl _⟩, Nat.le_refl _, Nat.le_refl _⟩
theorem kle_tr {a b c : kP} (h : kle a b) (g : kle b c) : kle a c := by
  obtain ⟨h1, ⟨h2, h3, h4, h5⟩, ⟨h6, h7, h8⟩, h9, h10⟩ := h
  obtain ⟨g1, ⟨g2, g3, g4, g5⟩, ⟨g6, g7, g8⟩, g9, g10⟩ := g
  exact ⟨fun c hc => g1 c (h1 c hc), ⟨fun z => g2 (h2 z), fun z => g3 (h3 z), fun z => g4 (h4 z), fun z => g5 (h5 z)⟩, ⟨by omega, by omega, by omega⟩, by omega, by omega⟩
theorem kle_T {q q' : kP} {o : Nat} (h : kle q q') (ho : kiT q o) : kiT q' o := by
  rcases ho with ⟨e, g⟩ | ⟨e, g⟩
  · exact Or.inl ⟨e, h.2.1.2.2.1 g⟩
  · exact Or.inr ⟨e, h.2.1.2.2.2 g⟩
def kHi (q : kP) : kP := kmk true q.ex q.t0 q.t1 q.et q.kn q.o0 q.o1 (q.L ++ 180 :: news_180) (q.ce + 22) (q.sl + 286)
def kEx (q : kP) : kP := kmk q.hi true q.t0 q.t1 q.et q.kn q.o0 q.o1 (q.L ++ 200 :: news_200) (q.ce + 12) (q.sl + 14716)
def kT0 (q : kP) : kP := kmk q.hi q.ex true q.t1 q.et q.kn q.o0 q.o1 (q.L ++ 260 :: news_260) (q.ce + 9) (q.sl + 15055)
def kT1 (q : kP) : kP := kmk q.hi q.ex q.t0 true q.et q.kn q.o0 q.o1 (q.L ++ 280 :: news_280) (q.ce + 9) (q.sl + 15055)
def kKn (q : kP) : kP := kmk q.hi q.ex q.t0 q.t1 q.et (q.kn + 1) q.o0 q.o1 (q.L ++ [1000 + q.kn]) (q.ce + 1) (q.sl + 228)
def kO0 (q : kP) : kP := kmk q.hi q.ex q.t0 q.t1 q.et q.kn (q.o0 + 1) q.o1 (q.L ++ [4000 + q.o0]) (q.ce + 1) (q.sl + 24)
def kO1 (q : kP) : kP := kmk q.hi q.ex q.t0 q.t1 q.et q.kn q.o0 (q.o1 + 1) (q.L ++ [7000 + q.o1]) (q.ce + 1) (q.sl + 24)
def kEt (q : kP) (o : Nat) : kP := kmk q.hi q.ex q.t0 q.t1 (some o) q.kn q.o0 q.o1 q.L q.ce q.sl
section GRF
variable {E : gE} {d : Nat} {y : gy} {pc : Nat} {lv : List (Nat × gv)} {st : List gv} {x : gd} {f : gf} {Q : gr → gd → gf → Prop}
/-- a shape that looks alike where it is looked at -/
theorem T_refs {f2 : gf} (h2 : f2.2 = f.2) (hr : ∀ c ∈ f.2.1, ∀ k, (∀ ci sl, E.2.2.2.1 c = .inl (ci, sl) → k < sl.length ∧ sl.getD k false = true) → (∀ ty n, E.2.2.2.1 c = .inr (ty, n) → ty.isReference = true) → f2.1 c k = f.1 c k) (k : T E d y pc lv st x f2 Q) : T E d y pc lv st x f Q :=
  T_stepR h2 (fun p e R s m args below meth c A H locs cells slots ls ad Q9 C hP hS hl kk => by
    have e : gwl E x f2 ad = gwl E x f ad := by
      unfold gwl
      rw [show f2.2.1 = f.2.1 by rw [h2]]
      apply List.map_congr_left
      intro c hc
      have hg : gce E x f2 ad c = gce E x f ad c := by
        cases hk : E.2.2.2.1 c with
        | inl o =>
          obtain ⟨ci, sl⟩ := o
          rw [gce_obj hk, gce_obj hk]
          congr 2
          unfold gfl
          apply List.map_congr_left
          intro j hj
          by_cases hs : sl.getD j false = true
          · rw [if_pos hs, if_pos hs, hr c hc j (fun ci' sl' h' => by rw [hk] at h'; cases h'; exact ⟨List.mem_range.mp hj, hs⟩) (fun ty n h' => by rw [hk] at h'; cases h')]
          · rw [if_neg hs, if_neg hs]
        | inr a =>
          obtain ⟨ty, n⟩ := a
          rw [gce_arr hk, gce_arr hk]
          congr 3
          have hz : ty.isReference = true → ∀ j, f2.1 c j = f.1 c j := fun ht j => hr c hc j (fun ci' sl' h' => by rw [hk] at h'; cases h') (fun ty' n' h' => by rw [hk] at h'; cases h'; exact ht)
          unfold gar
          cases ty <;> first | rfl | (simp only [hz rfl])
      rw [hg]
    exact kk H locs ⟨⟨by rw [e]; exact hP.1.1, by rw [e]; exact hP.1.2⟩, hP.2⟩ hS) k
end GRF
theorem kHi_2 {q : kP} {i : Nat} {v : Option Nat} : (kf (kHi q)).2 = (frf (fops (fnew (kf q) 180 13) ops_180) 0 i v).2 := by
  show ((kHi q).L, (kHi q).ce, (kHi q).sl) = (fops (fnew (kf q) 180 13) ops_180).2
  refine Prod.ext ?_ ?_
  · rw [ops_L]
    show q.L ++ 180 :: news_180 = (q.L ++ [180]) ++ ops_180.flatMap onew
    rw [show ops_180.flatMap onew = news_180 by decide +kernel, List.append_assoc]; rfl
  · rw [ops_ct, show (ops_180.map fun o => (ocel o).1).sum = 21 by decide +kernel, show (ops_180.map fun o => (ocel o).2).sum = 273 by decide +kernel]
    exact Prod.ext (by show q.ce + 22 = q.ce + 1 + 21; omega) (by show q.sl + 286 = q.sl + 13 + 273; omega)
theorem kHi_r {q : kP} (h0 : q.hi = q.hi) (het : q.et = none ∨ True) {c k : Nat} (g1 : ∀ ci sl, kK c = .inl (ci, sl) → k < sl.length ∧ sl.getD k false = true) (g2 : ∀ ty n, kK c = .inr (ty, n) → ty.isReference = true) : (kf (kHi q)).1 c k = (frf (fops (fnew (kf q) 180 13) ops_180) 0 8 (some 180)).1 c k := by
  by_cases hm : c ∈ 180 :: news_180
  · simp only [news_180, List.mem_cons, List.not_mem_nil, or_false] at hm
    rcases hm with rfl | rfl | rfl | rfl | rfl | rfl | rfl | rfl | rfl | rfl | rfl | rfl | rfl | rfl | rfl | rfl | rfl | rfl | rfl | rfl | rfl | rfl
    · have hk : k < 13 := (g1 _ _ kk_180).1
      have hk2 : k = 0 ∨ k = 1 ∨ k = 2 ∨ k = 3 ∨ k = 4 ∨ k = 5 ∨ k = 6 ∨ k = 7 ∨ k = 8 ∨ k = 9 ∨ k = 10 ∨ k = 11 ∨ k = 12 := by omega
      rcases hk2 with rfl | rfl | rfl | rfl | rfl | rfl | rfl | rfl | rfl | rfl | rfl | rfl | rfl <;> first | rfl
    · exact absurd (g2 _ _ kk_181) (by decide)
    · exact absurd (g2 _ _ kk_182) (by decide)
    · exact absurd (g2 _ _ kk_183) (by decide)
    · exact absurd (g2 _ _ kk_184) (by decide)
    · exact absurd (g2 _ _ kk_185) (by decide)
    · exact absurd (g2 _ _ kk_186) (by decide)
    · exact absurd (g2 _ _ kk_189) (by decide)
    · show (if k < 13 then some (300 + k) else none) = (if 190 = 190 ∧ k < 13 then some (300 + k) else none)
      by_cases h13 : k < 13
      · rw [if_pos h13, if_pos ⟨rfl, h13⟩]
      · rw [if_neg h13, if_neg (fun z => h13 z.2)]
    · exact absurd (g2 _ _ (rfl : kK 300 = _)) (by decide)
    · exact absurd (g2 _ _ (rfl : kK 301 = _)) (by decide)
    · exact absurd (g2 _ _ (rfl : kK 302 = _)) (by decide)
    · exact absurd (g2 _ _ (rfl : kK 303 = _)) (by decide)
    · exact absurd (g2 _ _ (rfl : kK 304 = _)) (by decide)
    · exact absurd (g2 _ _ (rfl : kK 305 = _)) (by decide)
    · exact absurd (g2 _ _ (rfl : kK 306 = _)) (by decide)
    · exact absurd (g2 _ _ (rfl : kK 307 = _)) (by decide)
    · exact absurd (g2 _ _ (rfl : kK 308 = _)) (by decide)
    · exact absurd (g2 _ _ (rfl : kK 309 = _)) (by decide)
    · exact absurd (g2 _ _ (rfl : kK 310 = _)) (by decide)
    · exact absurd (g2 _ _ (rfl : kK 311 = _)) (by decide)
    · exact absurd (g2 _ _ (rfl : kK 312 = _)) (by decide)
  · have h1 : (fops (fnew (kf q) 180 13) ops_180).1 c k = kR q c k := by
      rw [ops_same (fun z => hm ((by decide +kernel : ∀ c ∈ ops_180.flatMap otch, c ∈ 180 :: news_180) c z))]
      exact if_neg (fun e => hm (by rw [e]; exact List.mem_cons_self))
    show kR (kHi q) c k = (if c = 0 ∧ k = 8 then some 180 else (fops (fnew (kf q) 180 13) ops_180).1 c k)
    rw [h1]
    unfold kR
    by_cases e : c = 0 ∧ k = 8
    · rw [if_pos e, if_neg (by omega), if_pos e]; rfl
    · rw [if_neg e, if_neg e, if_neg e]; rfl
theorem kEx_2 {q : kP} {i : Nat} {v : Option Nat} : (kf (kEx q)).2 = (frf (fops (fnew (kf q) 200 10) ops_200) 0 i v).2 := by
  show ((kEx q).L, (kEx q).ce, (kEx q).sl) = (fops (fnew (kf q) 200 10) ops_200).2
  refine Prod.ext ?_ ?_
  · rw [ops_L]
    show q.L ++ 200 :: news_200 = (q.L ++ [200]) ++ ops_200.flatMap onew
    rw [show ops_200.flatMap onew = news_200 by decide +kernel, List.append_assoc]; rfl
  · rw [ops_ct, show (ops_200.map fun o => (ocel o).1).sum = 11 by decide +kernel, show (ops_200.map fun o => (ocel o).2).sum = 14706 by decide +kernel]
    exact Prod.ext (by show q.ce + 12 = q.ce + 1 + 11; omega) (by show q.sl + 14716 = q.sl + 10 + 14706; omega)
theorem kEx_r {q : kP} (h0 : q.kn = 0) (het : q.et = none) {c k : Nat} (g1 : ∀ ci sl, kK c = .inl (ci, sl) → k < sl.length ∧ sl.getD k false = true) (g2 : ∀ ty n, kK c = .inr (ty, n) → ty.isReference = true) : (kf (kEx q)).1 c k = (frf (fops (fnew (kf q) 200 10) ops_200) 0 7 (some 200)).1 c k := by
  by_cases hm : c ∈ 200 :: news_200
  · simp only [news_200, List.mem_cons, List.not_mem_nil, or_false] at hm
    rcases hm with rfl | rfl | rfl | rfl | rfl | rfl | rfl | rfl | rfl | rfl | rfl | rfl
    · have hk : k < 10 := (g1 _ _ kk_200).1
      have hk2 : k = 0 ∨ k = 1 ∨ k = 2 ∨ k = 3 ∨ k = 4 ∨ k = 5 ∨ k = 6 ∨ k = 7 ∨ k = 8 ∨ k = 9 := by omega
      rcases hk2 with rfl | rfl | rfl | rfl | rfl | rfl | rfl | rfl | rfl | rfl <;> first | rfl | exact het
    · have hk : k < 15 := (g1 _ _ kk_220).1
      have hk2 : k = 0 ∨ k = 1 ∨ k = 2 ∨ k = 3 ∨ k = 4 ∨ k = 5 ∨ k = 6 ∨ k = 7 ∨ k = 8 ∨ k = 9 ∨ k = 10 ∨ k = 11 ∨ k = 12 ∨ k = 13 ∨ k = 14 := by omega
      rcases hk2 with rfl | rfl | rfl | rfl | rfl | rfl | rfl | rfl | rfl | rfl | rfl | rfl | rfl | rfl | rfl <;> first | rfl
    · have hk : k < 7 := (g1 _ _ kk_240).1
      have hk2 : k = 0 ∨ k = 1 ∨ k = 2 ∨ k = 3 ∨ k = 4 ∨ k = 5 ∨ k = 6 := by omega
      rcases hk2 with rfl | rfl | rfl | rfl | rfl | rfl | rfl <;> first | rfl
    · exact absurd (g2 _ _ kk_225) (by decide)
    · exact absurd (g2 _ _ kk_231) (by decide)
    · exact absurd (g2 _ _ kk_232) (by decide)
    · exact absurd (g2 _ _ kk_233) (by decide)
    · show (if k < q.kn then some _ else none) = none
      rw [h0, if_neg (Nat.not_lt_zero _)]
    · exact absurd (g2 _ _ kk_204) (by decide)
    · exact absurd (g2 _ _ kk_205) (by decide)
    · exact absurd (g2 _ _ kk_209) (by decide)
    · exact absurd (g2 _ _ kk_210) (by decide)
  · have h1 : (fops (fnew (kf q) 200 10) ops_200).1 c k = kR q c k := by
      rw [ops_same (fun z => hm ((by decide +kernel : ∀ c ∈ ops_200.flatMap otch, c ∈ 200 :: news_200) c z))]
      exact if_neg (fun e => hm (by rw [e]; exact List.mem_cons_self))
    show kR (kEx q) c k = (if c = 0 ∧ k = 7 then some 200 else (fops (fnew (kf q) 200 10) ops_200).1 c k)
    rw [h1]
    unfold kR
    by_cases e : c = 0 ∧ k = 7
    · rw [if_pos e, if_pos e]; rfl
    · rw [if_neg e, if_neg e, if_neg e]; rfl
theorem kT0_2 {q : kP} {i : Nat} {v : Option Nat} : (kf (kT0 q)).2 = (frf (fops (fnew (kf q) 260 14) ops_260) 7 i v).2 := by
  show ((kT0 q).L, (kT0 q).ce, (kT0 q).sl) = (fops (fnew (kf q) 260 14) ops_260).2
  refine Prod.ext ?_ ?_
  · rw [ops_L]
    show q.L ++ 260 :: news_260 = (q.L ++ [260]) ++ ops_260.flatMap onew
    rw [show ops_260.flatMap onew = news_260 by decide +kernel, List.append_assoc]; rfl
  · rw [ops_ct, show (ops_260.map fun o => (ocel o).1).sum = 8 by decide +kernel, show (ops_260.map fun o => (ocel o).2).sum = 15041 by decide +kernel]
    exact Prod.ext (by show q.ce + 9 = q.ce + 1 + 8; omega) (by show q.sl + 15055 = q.sl + 14 + 15041; omega)
theorem kT0_r {q : kP} (h0 : q.o0 = 0) (het : q.et = none ∨ True) {c k : Nat} (g1 : ∀ ci sl, kK c = .inl (ci, sl) → k < sl.length ∧ sl.getD k false = true) (g2 : ∀ ty n, kK c = .inr (ty, n) → ty.isReference = true) : (kf (kT0 q)).1 c k = (frf (fops (fnew (kf q) 260 14) ops_260) 7 0 (some 260)).1 c k := by
  by_cases hm : c ∈ 260 :: news_260
  · simp only [news_260, List.mem_cons, List.not_mem_nil, or_false] at hm
    rcases hm with rfl | rfl | rfl | rfl | rfl | rfl | rfl | rfl | rfl
    · have hk : k < 14 := (g1 _ _ (rfl : kK 260 = _)).1
      have hk2 : k = 0 ∨ k = 1 ∨ k = 2 ∨ k = 3 ∨ k = 4 ∨ k = 5 ∨ k = 6 ∨ k = 7 ∨ k = 8 ∨ k = 9 ∨ k = 10 ∨ k = 11 ∨ k = 12 ∨ k = 13 := by omega
      rcases hk2 with rfl | rfl | rfl | rfl | rfl | rfl | rfl | rfl | rfl | rfl | rfl | rfl | rfl | rfl <;> first | rfl
    · exact absurd (g2 _ _ (rfl : kK 267 = _)) (by decide)
    · exact absurd (g2 _ _ (rfl : kK 268 = _)) (by decide)
    · exact absurd (g2 _ _ (rfl : kK 269 = _)) (by decide)
    · exact absurd (g2 _ _ (rfl : kK 270 = _)) (by decide)
    · exact absurd (g2 _ _ (rfl : kK 271 = _)) (by decide)
    · exact absurd (g2 _ _ (rfl : kK 272 = _)) (by decide)
    · show (if k < q.o0 then some _ else none) = none
      rw [h0, if_neg (Nat.not_lt_zero _)]
    · exact absurd (g2 _ _ (rfl : kK 274 = _)) (by decide)
  · have h1 : (fops (fnew (kf q) 260 14) ops_260).1 c k = kR q c k := by
      rw [ops_same (fun z => hm ((by decide +kernel : ∀ c ∈ ops_260.flatMap otch, c ∈ 260 :: news_260) c z))]
      exact if_neg (fun e => hm (by rw [e]; exact List.mem_cons_self))
    show kR (kT0 q) c k = (if c = 7 ∧ k = 0 then some 260 else (fops (fnew (kf q) 260 14) ops_260).1 c k)
    rw [h1]
    by_cases e : c = 7 ∧ k = 0
    · obtain ⟨rfl, rfl⟩ := e
      rfl
    rw [if_neg e]
    by_cases e7 : c = 7
    · subst e7
      have e0 : ¬ k = 0 := fun z => e ⟨rfl, z⟩
      show (if k = 0 then some 260 else if k = 1 then (if q.t1 = true then some 280 else none) else none) = (if k = 0 then (if q.t0 = true then some 260 else none) else if k = 1 then (if q.t1 = true then some 280 else none) else none)
      rw [if_neg e0, if_neg e0]
    · unfold kR
      rw [if_neg e7, if_neg e7]; rfl
theorem kT1_2 {q : kP} {i : Nat} {v : Option Nat} : (kf (kT1 q)).2 = (frf (fops (fnew (kf q) 280 14) ops_280) 7 i v).2 := by
  show ((kT1 q).L, (kT1 q).ce, (kT1 q).sl) = (fops (fnew (kf q) 280 14) ops_280).2
  refine Prod.ext ?_ ?_
  · rw [ops_L]
    show q.L ++ 280 :: news_280 = (q.L ++ [280]) ++ ops_280.flatMap onew
    rw [show ops_280.flatMap onew = news_280 by decide +kernel, List.append_assoc]; rfl
  · rw [ops_ct, show (ops_280.map fun o => (ocel o).1).sum = 8 by decide +kernel, show (ops_280.map fun o => (ocel o).2).sum = 15041 by decide +kernel]
    exact Prod.ext (by show q.ce + 9 = q.ce + 1 + 8; omega) (by show q.sl + 15055 = q.sl + 14 + 15041; omega)
theorem kT1_r {q : kP} (h0 : q.o1 = 0) (het : q.et = none ∨ True) {c k : Nat} (g1 : ∀ ci sl, kK c = .inl (ci, sl) → k < sl.length ∧ sl.getD k false = true) (g2 : ∀ ty n, kK c = .inr (ty, n) → ty.isReference = true) : (kf (kT1 q)).1 c k = (frf (fops (fnew (kf q) 280 14) ops_280) 7 1 (some 280)).1 c k := by
  by_cases hm : c ∈ 280 :: news_280
  · simp only [news_280, List.mem_cons, List.not_mem_nil, or_false] at hm
    rcases hm with rfl | rfl | rfl | rfl | rfl | rfl | rfl | rfl | rfl
    · have hk : k < 14 := (g1 _ _ (rfl : kK 280 = _)).1
      have hk2 : k = 0 ∨ k = 1 ∨ k = 2 ∨ k = 3 ∨ k = 4 ∨ k = 5 ∨ k = 6 ∨ k = 7 ∨ k = 8 ∨ k = 9 ∨ k = 10 ∨ k = 11 ∨ k = 12 ∨ k = 13 := by omega
      rcases hk2 with rfl | rfl | rfl | rfl | rfl | rfl | rfl | rfl | rfl | rfl | rfl | rfl | rfl | rfl <;> first | rfl
    · exact absurd (g2 _ _ (rfl : kK 287 = _)) (by decide)
    · exact absurd (g2 _ _ (rfl : kK 288 = _)) (by decide)
    · exact absurd (g2 _ _ (rfl : kK 289 = _)) (by decide)
    · exact absurd (g2 _ _ (rfl : kK 290 = _)) (by decide)
    · exact absurd (g2 _ _ (rfl : kK 291 = _)) (by decide)
    · exact absurd (g2 _ _ (rfl : kK 292 = _)) (by decide)
    · show (if k < q.o1 then some _ else none) = none
      rw [h0, if_neg (Nat.not_lt_zero _)]
    · exact absurd (g2 _ _ (rfl : kK 294 = _)) (by decide)
  · have h1 : (fops (fnew (kf q) 280 14) ops_280).1 c k = kR q c k := by
      rw [ops_same (fun z => hm ((by decide +kernel : ∀ c ∈ ops_280.flatMap otch, c ∈ 280 :: news_280) c z))]
      exact if_neg (fun e => hm (by rw [e]; exact List.mem_cons_self))
    show kR (kT1 q) c k = (if c = 7 ∧ k = 1 then some 280 else (fops (fnew (kf q) 280 14) ops_280).1 c k)
    rw [h1]
    by_cases e : c = 7 ∧ k = 1
    · obtain ⟨rfl, rfl⟩ := e
      rfl
    rw [if_neg e]
    by_cases e7 : c = 7
    · subst e7
      have e0 : ¬ k = 1 := fun z => e ⟨rfl, z⟩
      show (if k = 0 then (if q.t0 = true then some 260 else none) else if k = 1 then some 280 else none) = (if k = 0 then (if q.t0 = true then some 260 else none) else if k = 1 then (if q.t1 = true then some 280 else none) else none)
      rw [if_neg e0, if_neg e0]
    · unfold kR
      rw [if_neg e7, if_neg e7]; rfl
end
section
set_option maxRecDepth 100000 in
theorem dtk_X1_clear : dck cX1_clear [(0, .aload_n 0, 1), (1, .iload_n 1, 1), (2, .putfield 7, 3), (5, .aload_n 0, 1), (6, .iload_n 2, 1), (7, .putfield 13, 3), (10, .aload_n 0, 1), (11, .iload_n 3, 1), (12, .putfield 16, 3), (15, .aload_n 0, 1), (16, .iconst 0, 1), (17, .putfield 19, 3), (20, .aload_n 0, 1), (21, .iconst 0, 1), (22, .putfield 22, 3), (25, .aload_n 0, 1), (26, .iconst 0, 1), (27, .putfield 25, 3), (30, .aload_n 0, 1), (31, .iconst 0, 1), (32, .putfield 29, 3), (35, .return_, 1)] = true := by decide +kernel
set_option maxRecDepth 100000 in
set_option maxHeartbeats 4000000 in
theorem kg_X1_clear_0 {G : kG} {q : kP} {d : Nat} {x : gd} {P : Option gv → gd → Prop} (hq : kV q) {o : Nat} (ho : kiD q o) (l1 : Int32) (l2 : Int32) (l3 : Int32)
    (h : (∀ x1 : gd, x1 = si x o 0 l1 → (∀ x2 : gd, x2 = si x1 o 1 l2 → (∀ x3 : gd, x3 = si x2 o 2 l3 → (∀ x4 : gd, x4 = si x3 o 3 0 → (∀ x5 : gd, x5 = si x4 o 4 0 → (∀ x6 : gd, x6 = si x5 o 5 0 → (∀ x7 : gd, x7 = si x6 o 6 0 → P none x7)))))))) :
    KT G q d zk_X1_clear 0 [(0, vr o), (1, vi l1), (2, vi l2), (3, vi l3)] [] x P := by
  refine T_aload_n 0 (dk dtk_X1_clear 0 rfl) rfl rfl ?_
  refine T_iload_n 1 (dk dtk_X1_clear 1 rfl) rfl rfl ?_
  obtain ⟨x1, ex1⟩ : ∃ z, z = si x o 0 l1 := ⟨_, rfl⟩
  have h := h x1 ex1
  refine T_putI o 0 (dk dtk_X1_clear 2 rfl) kfl_X1_7 (kk_D0 ho) (kl_D0 hq ho) (by decide) rfl ⟨rfl, rfl⟩ ?_
  rw [← ex1]
  refine T_aload_n 0 (dk dtk_X1_clear 3 rfl) rfl rfl ?_
  refine T_iload_n 2 (dk dtk_X1_clear 4 rfl) rfl rfl ?_
  obtain ⟨x2, ex2⟩ : ∃ z, z = si x1 o 1 l2 := ⟨_, rfl⟩
  have h := h x2 ex2
  refine T_putI o 1 (dk dtk_X1_clear 5 rfl) kfl_X1_13 (kk_D0 ho) (kl_D0 hq ho) (by decide) rfl ⟨rfl, rfl⟩ ?_
  rw [← ex2]
  refine T_aload_n 0 (dk dtk_X1_clear 6 rfl) rfl rfl ?_
  refine T_iload_n 3 (dk dtk_X1_clear 7 rfl) rfl rfl ?_
  obtain ⟨x3, ex3⟩ : ∃ z, z = si x2 o 2 l3 := ⟨_, rfl⟩
  have h := h x3 ex3
  refine T_putI o 2 (dk dtk_X1_clear 8 rfl) kfl_X1_16 (kk_D0 ho) (kl_D0 hq ho) (by decide) rfl ⟨rfl, rfl⟩ ?_
  rw [← ex3]
  refine T_aload_n 0 (dk dtk_X1_clear 9 rfl) rfl rfl ?_
  refine T_iconst (v := 0) (dk dtk_X1_clear 10 rfl) (by decide +kernel) ?_
  obtain ⟨x4, ex4⟩ : ∃ z, z = si x3 o 3 0 := ⟨_, rfl⟩
  have h := h x4 ex4
  refine T_putI o 3 (dk dtk_X1_clear 11 rfl) kfl_X1_19 (kk_D0 ho) (kl_D0 hq ho) (by decide) rfl ⟨rfl, rfl⟩ ?_
  rw [← ex4]
  refine T_aload_n 0 (dk dtk_X1_clear 12 rfl) rfl rfl ?_
  refine T_iconst (v := 0) (dk dtk_X1_clear 13 rfl) (by decide +kernel) ?_
  obtain ⟨x5, ex5⟩ : ∃ z, z = si x4 o 4 0 := ⟨_, rfl⟩
  have h := h x5 ex5
  refine T_putI o 4 (dk dtk_X1_clear 14 rfl) kfl_X1_22 (kk_D0 ho) (kl_D0 hq ho) (by decide) rfl ⟨rfl, rfl⟩ ?_
  rw [← ex5]
  refine T_aload_n 0 (dk dtk_X1_clear 15 rfl) rfl rfl ?_
  refine T_iconst (v := 0) (dk dtk_X1_clear 16 rfl) (by decide +kernel) ?_
  obtain ⟨x6, ex6⟩ : ∃ z, z = si x5 o 5 0 := ⟨_, rfl⟩
  have h := h x6 ex6
  refine T_putI o 5 (dk dtk_X1_clear 17 rfl) kfl_X1_25 (kk_D0 ho) (kl_D0 hq ho) (by decide) rfl ⟨rfl, rfl⟩ ?_
  rw [← ex6]
  refine T_aload_n 0 (dk dtk_X1_clear 18 rfl) rfl rfl ?_
  refine T_iconst (v := 0) (dk dtk_X1_clear 19 rfl) (by decide +kernel) ?_
  obtain ⟨x7, ex7⟩ : ∃ z, z = si x6 o 6 0 := ⟨_, rfl⟩
  have h := h x7 ex7
  refine T_putI o 6 (dk dtk_X1_clear 20 rfl) kfl_X1_29 (kk_D0 ho) (kl_D0 hq ho) (by decide) rfl ⟨rfl, rfl⟩ ?_
  rw [← ex7]
  exact KT_vret (dk dtk_X1_clear 21 rfl) rfl h
set_option maxRecDepth 100000 in
theorem dtk_X8_add : dck cX8_add [(0, .aload_n 0, 1), (1, .getfield 39, 3), (4, .aload_n 0, 1), (5, .getfield 9, 3), (8, .arraylength, 1), (9, .if_icmp .ge 10, 3), (12, .aload_n 0, 1), (13, .getfield 39, 3), (16, .goto 10, 3), (19, .aload_n 0, 1), (20, .getfield 9, 3), (23, .arraylength, 1), (24, .iconst 1, 1), (25, .isub, 1), (26, .istore 4, 2), (28, .aload_n 0, 1), (29, .getfield 9, 3), (32, .iload 4, 2), (34, .iload_n 1, 1), (35, .iastore, 1), (36, .aload_n 0, 1), (37, .getfield 15, 3), (40, .iload 4, 2), (42, .iload_n 2, 1), (43, .iastore, 1), (44, .aload_n 0, 1), (45, .getfield 18, 3), (48, .iload 4, 2), (50, .iload_n 3, 1), (51, .iastore, 1), (52, .aload_n 0, 1), (53, .getfield 21, 3), (56, .iload 4, 2), (58, .iconst (-1), 1), (59, .iastore, 1), (60, .aload_n 0, 1), (61, .getfield 24, 3), (64, .iload 4, 2), (66, .iconst (-1), 1), (67, .iastore, 1), (68, .aload_n 0, 1), (69, .getfield 27, 3), (72, .iload 4, 2), (74, .iconst 0, 1), (75, .iastore, 1), (76, .aload_n 0, 1), (77, .getfield 30, 3), (80, .iload 4, 2), (82, .iconst (-1), 1), (83, .iastore, 1), (84, .aload_n 0, 1), (85, .getfield 33, 3), (88, .iload 4, 2), (90, .iconst (-1), 1), (91, .iastore, 1), (92, .aload_n 0, 1), (93, .getfield 36, 3), (96, .iload 4, 2), (98, .iconst (-1), 1), (99, .iastore, 1), (100, .aload_n 0, 1), (101, .iload 4, 2), (103, .iconst 1, 1), (104, .iadd, 1), (105, .putfield 39, 3), (108, .iload 4, 2), (110, .ireturn, 1)] = true := by decide +kernel
set_option maxRecDepth 100000 in
set_option maxHeartbeats 4000000 in
theorem kg_X8_add_0 {G : kG} {q : kP} {d : Nat} {x : gd} {P : Option gv → gd → Prop} (hq : kV q) (l1 : Int32) (l2 : Int32) (l3 : Int32)
    (h : (((Int32.ofNat 400) ≤ (x.1 80 9) → KT G q d zk_X8_add 26 [(0, vr 80), (1, vi l1), (2, vi l2), (3, vi l3)] [vi ((Int32.ofNat 400) - 1)] x P) ∧ (¬ ((Int32.ofNat 400) ≤ (x.1 80 9)) → KT G q d zk_X8_add 26 [(0, vr 80), (1, vi l1), (2, vi l2), (3, vi l3)] [vi (x.1 80 9)] x P))) :
    KT G q d zk_X8_add 0 [(0, vr 80), (1, vi l1), (2, vi l2), (3, vi l3)] [] x P := by
  refine T_aload_n 0 (dk dtk_X8_add 0 rfl) rfl rfl ?_
  refine T_getI 80 9 (dk dtk_X8_add 1 rfl) kfl_X8_39 kk_80 (kl_80 hq) (by decide) rfl ?_
  refine T_aload_n 0 (dk dtk_X8_add 2 rfl) rfl rfl ?_
  refine T_getR 80 0 81 (dk dtk_X8_add 3 rfl) kfl_X8_9 kk_80 (kl_80 hq) (by decide) rfl kr_80_0 ?_
  refine T_alen 81 400 0 (v := Int32.ofNat 400) (dk dtk_X8_add 4 rfl) kk_81 (kl_81 hq) rfl rfl ?_
  refine T_icmp_ge 19 (dk dtk_X8_add 5 rfl) (by decide) (fun c1 => ?_) (fun c1 => ?_)
  · have h := h.1 c1
    refine T_aload_n 0 (dk dtk_X8_add 9 rfl) rfl rfl ?_
    refine T_getR 80 0 81 (dk dtk_X8_add 10 rfl) kfl_X8_9 kk_80 (kl_80 hq) (by decide) rfl kr_80_0 ?_
    refine T_alen 81 400 0 (v := Int32.ofNat 400) (dk dtk_X8_add 11 rfl) kk_81 (kl_81 hq) rfl rfl ?_
    refine T_iconst (v := 1) (dk dtk_X8_add 12 rfl) (by decide +kernel) ?_
    refine T_isub (dk dtk_X8_add 13 rfl) ?_
    exact h
  · have h := h.2 c1
    refine T_aload_n 0 (dk dtk_X8_add 6 rfl) rfl rfl ?_
    refine T_getI 80 9 (dk dtk_X8_add 7 rfl) kfl_X8_39 kk_80 (kl_80 hq) (by decide) rfl ?_
    refine T_goto 26 (dk dtk_X8_add 8 rfl) (by decide) ?_
    exact h
set_option maxRecDepth 100000 in
set_option maxHeartbeats 4000000 in
theorem kg_X8_add_26 {G : kG} {q : kP} {d : Nat} {x : gd} {P : Option gv → gd → Prop} (hq : kV q) (l1 : Int32) (l2 : Int32) (l3 : Int32) (s0 : Int32)
    (h : vp_in s0 400 ∧ (∀ x2 : gd, x2 = si x 81 (s0 : Int32).toNatClampNeg l1 → vp_in s0 400 ∧ (∀ x4 : gd, x4 = si x2 82 (s0 : Int32).toNatClampNeg l2 → vp_in s0 400 ∧ (∀ x6 : gd, x6 = si x4 83 (s0 : Int32).toNatClampNeg l3 → vp_in s0 400 ∧ (∀ x8 : gd, x8 = si x6 84 (s0 : Int32).toNatClampNeg (-1) → vp_in s0 400 ∧ (∀ x10 : gd, x10 = si x8 85 (s0 : Int32).toNatClampNeg (-1) → vp_in s0 400 ∧ (∀ x12 : gd, x12 = si x10 86 (s0 : Int32).toNatClampNeg 0 → vp_in s0 400 ∧ (∀ x14 : gd, x14 = si x12 87 (s0 : Int32).toNatClampNeg (-1) → vp_in s0 400 ∧ (∀ x16 : gd, x16 = si x14 88 (s0 : Int32).toNatClampNeg (-1) → vp_in s0 400 ∧ (∀ x18 : gd, x18 = si x16 89 (s0 : Int32).toNatClampNeg (-1) → (∀ x19 : gd, x19 = si x18 80 9 (s0 + 1) → P (some (vi s0)) x19))))))))))) :
    KT G q d zk_X8_add 26 [(0, vr 80), (1, vi l1), (2, vi l2), (3, vi l3)] [vi s0] x P := by
  refine T_istore (lv2 := [(4, vi s0), (0, vr 80), (1, vi l1), (2, vi l2), (3, vi l3)]) (dk dtk_X8_add 14 rfl) (by decide) rfl ?_
  refine T_aload_n 1 (dk dtk_X8_add 15 rfl) rfl rfl ?_
  refine T_getR 80 0 81 (dk dtk_X8_add 16 rfl) kfl_X8_9 kk_80 (kl_80 hq) (by decide) rfl kr_80_0 ?_
  refine T_iload 0 (dk dtk_X8_add 17 rfl) rfl ?_
  refine T_iload_n 2 (dk dtk_X8_add 18 rfl) rfl rfl ?_
  obtain ⟨h1, h⟩ := h
  obtain ⟨x2, ex2⟩ : ∃ z, z = si x 81 (s0 : Int32).toNatClampNeg l1 := ⟨_, rfl⟩
  have h := h x2 ex2
  refine T_iast 81 400 (dk dtk_X8_add 19 rfl) kk_81 (kl_81 hq) h1 ?_
  rw [← ex2]
  refine T_aload_n 1 (dk dtk_X8_add 20 rfl) rfl rfl ?_
  refine T_getR 80 1 82 (dk dtk_X8_add 21 rfl) kfl_X8_15 kk_80 (kl_80 hq) (by decide) rfl kr_80_1 ?_
  refine T_iload 0 (dk dtk_X8_add 22 rfl) rfl ?_
  refine T_iload_n 3 (dk dtk_X8_add 23 rfl) rfl rfl ?_
  obtain ⟨h3, h⟩ := h
  obtain ⟨x4, ex4⟩ : ∃ z, z = si x2 82 (s0 : Int32).toNatClampNeg l2 := ⟨_, rfl⟩
  have h := h x4 ex4
  refine T_iast 82 400 (dk dtk_X8_add 24 rfl) kk_82 (kl_82 hq) h3 ?_
  rw [← ex4]
  refine T_aload_n 1 (dk dtk_X8_add 25 rfl) rfl rfl ?_
  refine T_getR 80 2 83 (dk dtk_X8_add 26 rfl) kfl_X8_18 kk_80 (kl_80 hq) (by decide) rfl kr_80_2 ?_
  refine T_iload 0 (dk dtk_X8_add 27 rfl) rfl ?_
  refine T_iload_n 4 (dk dtk_X8_add 28 rfl) rfl rfl ?_
  obtain ⟨h5, h⟩ := h
  obtain ⟨x6, ex6⟩ : ∃ z, z = si x4 83 (s0 : Int32).toNatClampNeg l3 := ⟨_, rfl⟩
  have h := h x6 ex6
  refine T_iast 83 400 (dk dtk_X8_add 29 rfl) kk_83 (kl_83 hq) h5 ?_
  rw [← ex6]
  refine T_aload_n 1 (dk dtk_X8_add 30 rfl) rfl rfl ?_
  refine T_getR 80 3 84 (dk dtk_X8_add 31 rfl) kfl_X8_21 kk_80 (kl_80 hq) (by decide) rfl kr_80_3 ?_
  refine T_iload 0 (dk dtk_X8_add 32 rfl) rfl ?_
  refine T_iconst (v := (-1)) (dk dtk_X8_add 33 rfl) (by decide +kernel) ?_
  obtain ⟨h7, h⟩ := h
  obtain ⟨x8, ex8⟩ : ∃ z, z = si x6 84 (s0 : Int32).toNatClampNeg (-1) := ⟨_, rfl⟩
  have h := h x8 ex8
  refine T_iast 84 400 (dk dtk_X8_add 34 rfl) kk_84 (kl_84 hq) h7 ?_
  rw [← ex8]
  refine T_aload_n 1 (dk dtk_X8_add 35 rfl) rfl rfl ?_
  refine T_getR 80 4 85 (dk dtk_X8_add 36 rfl) kfl_X8_24 kk_80 (kl_80 hq) (by decide) rfl kr_80_4 ?_
  refine T_iload 0 (dk dtk_X8_add 37 rfl) rfl ?_
  refine T_iconst (v := (-1)) (dk dtk_X8_add 38 rfl) (by decide +kernel) ?_
  obtain ⟨h9, h⟩ := h
  obtain ⟨x10, ex10⟩ : ∃ z, z = si x8 85 (s0 : Int32).toNatClampNeg (-1) := ⟨_, rfl⟩
  have h := h x10 ex10
  refine T_iast 85 400 (dk dtk_X8_add 39 rfl) kk_85 (kl_85 hq) h9 ?_
  rw [← ex10]
  refine T_aload_n 1 (dk dtk_X8_add 40 rfl) rfl rfl ?_
  refine T_getR 80 5 86 (dk dtk_X8_add 41 rfl) kfl_X8_27 kk_80 (kl_80 hq) (by decide) rfl kr_80_5 ?_
  refine T_iload 0 (dk dtk_X8_add 42 rfl) rfl ?_
  refine T_iconst (v := 0) (dk dtk_X8_add 43 rfl) (by decide +kernel) ?_
  obtain ⟨h11, h⟩ := h
  obtain ⟨x12, ex12⟩ : ∃ z, z = si x10 86 (s0 : Int32).toNatClampNeg 0 := ⟨_, rfl⟩
  have h := h x12 ex12
  refine T_iast 86 400 (dk dtk_X8_add 44 rfl) kk_86 (kl_86 hq) h11 ?_
  rw [← ex12]
  refine T_aload_n 1 (dk dtk_X8_add 45 rfl) rfl rfl ?_
  refine T_getR 80 6 87 (dk dtk_X8_add 46 rfl) kfl_X8_30 kk_80 (kl_80 hq) (by decide) rfl kr_80_6 ?_
  refine T_iload 0 (dk dtk_X8_add 47 rfl) rfl ?_
  refine T_iconst (v := (-1)) (dk dtk_X8_add 48 rfl) (by decide +kernel) ?_
  obtain ⟨h13, h⟩ := h
  obtain ⟨x14, ex14⟩ : ∃ z, z = si x12 87 (s0 : Int32).toNatClampNeg (-1) := ⟨_, rfl⟩
  have h := h x14 ex14
  refine T_iast 87 400 (dk dtk_X8_add 49 rfl) kk_87 (kl_87 hq) h13 ?_
  rw [← ex14]
  refine T_aload_n 1 (dk dtk_X8_add 50 rfl) rfl rfl ?_
  refine T_getR 80 7 88 (dk dtk_X8_add 51 rfl) kfl_X8_33 kk_80 (kl_80 hq) (by decide) rfl kr_80_7 ?_
  refine T_iload 0 (dk dtk_X8_add 52 rfl) rfl ?_
  refine T_iconst (v := (-1)) (dk dtk_X8_add 53 rfl) (by decide +kernel) ?_
  obtain ⟨h15, h⟩ := h
  obtain ⟨x16, ex16⟩ : ∃ z, z = si x14 88 (s0 : Int32).toNatClampNeg (-1) := ⟨_, rfl⟩
  have h := h x16 ex16
  refine T_iast 88 400 (dk dtk_X8_add 54 rfl) kk_88 (kl_88 hq) h15 ?_
  rw [← ex16]
  refine T_aload_n 1 (dk dtk_X8_add 55 rfl) rfl rfl ?_
  refine T_getR 80 8 89 (dk dtk_X8_add 56 rfl) kfl_X8_36 kk_80 (kl_80 hq) (by decide) rfl kr_80_8 ?_
  refine T_iload 0 (dk dtk_X8_add 57 rfl) rfl ?_
  refine T_iconst (v := (-1)) (dk dtk_X8_add 58 rfl) (by decide +kernel) ?_
  obtain ⟨h17, h⟩ := h
  obtain ⟨x18, ex18⟩ : ∃ z, z = si x16 89 (s0 : Int32).toNatClampNeg (-1) := ⟨_, rfl⟩
  have h := h x18 ex18
  refine T_iast 89 400 (dk dtk_X8_add 59 rfl) kk_89 (kl_89 hq) h17 ?_
  rw [← ex18]
  refine T_aload_n 1 (dk dtk_X8_add 60 rfl) rfl rfl ?_
  refine T_iload 0 (dk dtk_X8_add 61 rfl) rfl ?_
  refine T_iconst (v := 1) (dk dtk_X8_add 62 rfl) (by decide +kernel) ?_
  refine T_iadd (dk dtk_X8_add 63 rfl) ?_
  obtain ⟨x19, ex19⟩ : ∃ z, z = si x18 80 9 (s0 + 1) := ⟨_, rfl⟩
  have h := h x19 ex19
  refine T_putI 80 9 (dk dtk_X8_add 64 rfl) kfl_X8_39 kk_80 (kl_80 hq) (by decide) rfl ⟨rfl, rfl⟩ ?_
  rw [← ex19]
  refine T_iload 0 (dk dtk_X8_add 65 rfl) rfl ?_
  exact KT_iret (dk dtk_X8_add 66 rfl) rfl rfl h
set_option maxRecDepth 100000 in
theorem dtk_X9_addByte : dck cX9_addByte [(0, .aload_n 0, 1), (1, .getfield 31, 3), (4, .sipush 3000, 3), (7, .if_icmp .ge 24, 3), (10, .aload_n 0, 1), (11, .getfield 9, 3), (14, .aload_n 0, 1), (15, .getfield 31, 3), (18, .iload_n 1, 1), (19, .i2b, 1), (20, .bastore, 1), (21, .aload_n 0, 1), (22, .dup, 1), (23, .getfield 31, 3), (26, .iconst 1, 1), (27, .iadd, 1), (28, .putfield 31, 3), (31, .return_, 1)] = true := by decide +kernel
set_option maxRecDepth 100000 in
set_option maxHeartbeats 4000000 in
theorem kg_X9_addByte_0 {G : kG} {q : kP} {d : Nat} {x : gd} {P : Option gv → gd → Prop} (hq : kV q) (l1 : Int32)
    (h : (((3000 : Int32) ≤ (x.1 20 1) → P none x) ∧ (¬ ((3000 : Int32) ≤ (x.1 20 1)) → vp_in (x.1 20 1) 3000 ∧ (∀ x3 : gd, x3 = si x 21 (x.1 20 1 : Int32).toNatClampNeg (vp_nar .byte ((l1 : Int32).toInt8.toInt32)) → (∀ x4 : gd, x4 = si x3 20 1 ((x3.1 20 1) + 1) → P none x4))))) :
    KT G q d zk_X9_addByte 0 [(0, vr 20), (1, vi l1)] [] x P := by
  refine T_aload_n 0 (dk dtk_X9_addByte 0 rfl) rfl rfl ?_
  refine T_getI 20 1 (dk dtk_X9_addByte 1 rfl) kfl_X9_31 kk_20 (kl_20 hq) (by decide) rfl ?_
  refine T_sipush (v := 3000) (dk dtk_X9_addByte 2 rfl) (by decide +kernel) ?_
  refine T_icmp_ge 31 (dk dtk_X9_addByte 3 rfl) (by decide) (fun c1 => ?_) (fun c1 => ?_)
  · have h := h.1 c1
    exact KT_vret (dk dtk_X9_addByte 17 rfl) rfl h
  · have h := h.2 c1
    refine T_aload_n 0 (dk dtk_X9_addByte 4 rfl) rfl rfl ?_
    refine T_getR 20 0 21 (dk dtk_X9_addByte 5 rfl) kfl_X9_9 kk_20 (kl_20 hq) (by decide) rfl kr_20_0 ?_
    refine T_aload_n 0 (dk dtk_X9_addByte 6 rfl) rfl rfl ?_
    refine T_getI 20 1 (dk dtk_X9_addByte 7 rfl) kfl_X9_31 kk_20 (kl_20 hq) (by decide) rfl ?_
    refine T_iload_n 1 (dk dtk_X9_addByte 8 rfl) rfl rfl ?_
    refine T_i2b (dk dtk_X9_addByte 9 rfl) ?_
    obtain ⟨h2, h⟩ := h
    obtain ⟨x3, ex3⟩ : ∃ z, z = si x 21 (x.1 20 1 : Int32).toNatClampNeg (vp_nar .byte ((l1 : Int32).toInt8.toInt32)) := ⟨_, rfl⟩
    have h := h x3 ex3
    refine T_bast 21 3000 (dk dtk_X9_addByte 10 rfl) kk_21 (kl_21 hq) h2 ?_
    rw [← ex3]
    refine T_aload_n 0 (dk dtk_X9_addByte 11 rfl) rfl rfl ?_
    refine T_dup (dk dtk_X9_addByte 12 rfl) rfl ?_
    refine T_getI 20 1 (dk dtk_X9_addByte 13 rfl) kfl_X9_31 kk_20 (kl_20 hq) (by decide) rfl ?_
    refine T_iconst (v := 1) (dk dtk_X9_addByte 14 rfl) (by decide +kernel) ?_
    refine T_iadd (dk dtk_X9_addByte 15 rfl) ?_
    obtain ⟨x4, ex4⟩ : ∃ z, z = si x3 20 1 ((x3.1 20 1) + 1) := ⟨_, rfl⟩
    have h := h x4 ex4
    refine T_putI 20 1 (dk dtk_X9_addByte 16 rfl) kfl_X9_31 kk_20 (kl_20 hq) (by decide) rfl ⟨rfl, rfl⟩ ?_
    rw [← ex4]
    exact KT_vret (dk dtk_X9_addByte 17 rfl) rfl h
set_option maxRecDepth 100000 in
theorem dtk_X9_cut : dck cX9_cut [(0, .aload_n 0, 1), (1, .iconst 0, 1), (2, .putfield 35, 3), (5, .aload_n 0, 1), (6, .iconst 1, 1), (7, .putfield 38, 3), (10, .aload_n 0, 1), (11, .iconst 0, 1), (12, .putfield 41, 3), (15, .iconst 1, 1), (16, .istore_n 1, 1), (17, .iconst 0, 1), (18, .istore_n 2, 1), (19, .iload_n 2, 1), (20, .sipush 700, 3), (23, .if_icmp .gt 99, 3), (26, .iload_n 1, 1), (27, .ifCond .eq 95, 3), (30, .aload_n 0, 1), (31, .invokevirtual 44, 3), (34, .aload_n 0, 1), (35, .getfield 35, 3), (38, .aload_n 0, 1), (39, .getfield 31, 3), (42, .if_icmp .lt 6, 3), (45, .goto 77, 3), (48, .aload_n 0, 1), (49, .getfield 19, 3), (52, .aload_n 0, 1), (53, .getfield 41, 3), (56, .aload_n 0, 1), (57, .getfield 35, 3), (60, .iastore, 1), (61, .aload_n 0, 1), (62, .getfield 22, 3), (65, .aload_n 0, 1), (66, .getfield 41, 3), (69, .aload_n 0, 1), (70, .getfield 38, 3), (73, .iastore, 1), (74, .aload_n 0, 1), (75, .getfield 15, 3), (78, .aload_n 0, 1), (79, .getfield 41, 3), (82, .aload_n 0, 1), (83, .invokevirtual 47, 3), (86, .iastore, 1), (87, .aload_n 0, 1), (88, .getfield 15, 3), (91, .aload_n 0, 1), (92, .getfield 41, 3), (95, .iaload, 1), (96, .iconst 1, 1), (97, .if_icmp .eq 7, 3), (100, .iconst 1, 1), (101, .goto 4, 3), (104, .iconst 0, 1), (105, .istore_n 1, 1), (106, .aload_n 0, 1), (107, .dup, 1), (108, .getfield 41, 3), (111, .iconst 1, 1), (112, .iadd, 1), (113, .putfield 41, 3), (116, .iinc 2 1, 3), (119, .goto (-100), 3), (122, .aload_n 0, 1), (123, .getfield 15, 3), (126, .aload_n 0, 1), (127, .getfield 41, 3), (130, .iconst 0, 1), (131, .iastore, 1), (132, .aload_n 0, 1), (133, .getfield 19, 3), (136, .aload_n 0, 1), (137, .getfield 41, 3), (140, .aload_n 0, 1), (141, .getfield 31, 3), (144, .iastore, 1), (145, .aload_n 0, 1), (146, .getfield 22, 3), (149, .aload_n 0, 1), (150, .getfield 41, 3), (153, .aload_n 0, 1), (154, .getfield 38, 3), (157, .iastore, 1), (158, .return_, 1)] = true := by decide +kernel
set_option maxRecDepth 100000 in
set_option maxHeartbeats 4000000 in
theorem kg_X9_cut_0 {G : kG} {q : kP} {d : Nat} {x : gd} {P : Option gv → gd → Prop} (hq : kV q) 
    (h : (∀ x1 : gd, x1 = si x 20 8 0 → (∀ x2 : gd, x2 = si x1 20 9 1 → (∀ x3 : gd, x3 = si x2 20 7 0 → KT G q (d + 1) zk_X9_cut 19 [(0, vr 20), (1, vi 1), (2, vi 0)] [] x3 P)))) :
    KT G q (d + 1) zk_X9_cut 0 [(0, vr 20)] [] x P := by
  refine T_aload_n 0 (dk dtk_X9_cut 0 rfl) rfl rfl ?_
  refine T_iconst (v := 0) (dk dtk_X9_cut 1 rfl) (by decide +kernel) ?_
  obtain ⟨x1, ex1⟩ : ∃ z, z = si x 20 8 0 := ⟨_, rfl⟩
  have h := h x1 ex1
  refine T_putI 20 8 (dk dtk_X9_cut 2 rfl) kfl_X9_35 kk_20 (kl_20 hq) (by decide) rfl ⟨rfl, rfl⟩ ?_
  rw [← ex1]
  refine T_aload_n 0 (dk dtk_X9_cut 3 rfl) rfl rfl ?_
  refine T_iconst (v := 1) (dk dtk_X9_cut 4 rfl) (by decide +kernel) ?_
  obtain ⟨x2, ex2⟩ : ∃ z, z = si x1 20 9 1 := ⟨_, rfl⟩
  have h := h x2 ex2
  refine T_putI 20 9 (dk dtk_X9_cut 5 rfl) kfl_X9_38 kk_20 (kl_20 hq) (by decide) rfl ⟨rfl, rfl⟩ ?_
  rw [← ex2]
  refine T_aload_n 0 (dk dtk_X9_cut 6 rfl) rfl rfl ?_
  refine T_iconst (v := 0) (dk dtk_X9_cut 7 rfl) (by decide +kernel) ?_
  obtain ⟨x3, ex3⟩ : ∃ z, z = si x2 20 7 0 := ⟨_, rfl⟩
  have h := h x3 ex3
  refine T_putI 20 7 (dk dtk_X9_cut 8 rfl) kfl_X9_41 kk_20 (kl_20 hq) (by decide) rfl ⟨rfl, rfl⟩ ?_
  rw [← ex3]
  refine T_iconst (v := 1) (dk dtk_X9_cut 9 rfl) (by decide +kernel) ?_
  refine T_istore_n (lv2 := [(1, vi 1), (0, vr 20)]) (dk dtk_X9_cut 10 rfl) rfl (by decide) rfl ?_
  refine T_iconst (v := 0) (dk dtk_X9_cut 11 rfl) (by decide +kernel) ?_
  refine T_istore_n (lv2 := [(2, vi 0), (1, vi 1), (0, vr 20)]) (dk dtk_X9_cut 12 rfl) rfl (by decide) rfl ?_
  exact T_sub [2, 1, 0] rfl h
set_option maxRecDepth 100000 in
set_option maxHeartbeats 4000000 in
theorem kg_X9_cut_19 {G : kG} {q : kP} {d : Nat} {x : gd} {P : Option gv → gd → Prop} (hq : kV q) (l1 : Int32) (l2 : Int32)
    (h : (((700 : Int32) < l2 → KT G q (d + 1) zk_X9_cut 122 [(0, vr 20)] [] x P) ∧ (¬ ((700 : Int32) < l2) → ((l1 = (0 : Int32) → KT G q (d + 1) zk_X9_cut 122 [(0, vr 20)] [] x P) ∧ (¬ (l1 = (0 : Int32)) → KT G q d zk_X9_skipBlanks 0 [(0, vr 20)] [] x (rv (fun x3 => (((x3.1 20 8) < (x3.1 20 1) → vp_in (x3.1 20 7) 702 ∧ (∀ x6 : gd, x6 = si x3 24 (x3.1 20 7 : Int32).toNatClampNeg (x3.1 20 8) → vp_in (x6.1 20 7) 702 ∧ (∀ x8 : gd, x8 = si x6 25 (x6.1 20 7 : Int32).toNatClampNeg (x6.1 20 9) → KT G q d zk_X9_cutOne 0 [(0, vr 20)] [] x8 (ri (fun r10 x9 => vp_in (x8.1 20 7) 702 ∧ (∀ x12 : gd, x12 = si x9 23 (x8.1 20 7 : Int32).toNatClampNeg r10 → vp_in (x12.1 20 7) 702 ∧ (((x12.1 23 (x12.1 20 7 : Int32).toNatClampNeg) = (1 : Int32) → (∀ x15 : gd, x15 = si x12 20 7 ((x12.1 20 7) + 1) → KT G q (d + 1) zk_X9_cut 19 [(0, vr 20), (1, vi 0), (2, vi (l2 + 1))] [] x15 P)) ∧ (¬ ((x12.1 23 (x12.1 20 7 : Int32).toNatClampNeg) = (1 : Int32)) → (∀ x16 : gd, x16 = si x12 20 7 ((x12.1 20 7) + 1) → KT G q (d + 1) zk_X9_cut 19 [(0, vr 20), (1, vi 1), (2, vi (l2 + 1))] [] x16 P))))))))) ∧ (¬ ((x3.1 20 8) < (x3.1 20 1)) → KT G q (d + 1) zk_X9_cut 122 [(0, vr 20)] [] x3 P))))))))) :
    KT G q (d + 1) zk_X9_cut 19 [(0, vr 20), (1, vi l1), (2, vi l2)] [] x P := by
  refine T_iload_n 2 (dk dtk_X9_cut 13 rfl) rfl rfl ?_
  refine T_sipush (v := 700) (dk dtk_X9_cut 14 rfl) (by decide +kernel) ?_
  refine T_icmp_gt 122 (dk dtk_X9_cut 15 rfl) (by decide) (fun c1 => ?_) (fun c1 => ?_)
  · have h := h.1 c1
    exact T_sub [0] rfl h
  · have h := h.2 c1
    refine T_iload_n 1 (dk dtk_X9_cut 16 rfl) rfl rfl ?_
    refine T_if_eq 122 (dk dtk_X9_cut 17 rfl) (by decide) (fun c2 => ?_) (fun c2 => ?_)
    · have h := h.1 c2
      exact T_sub [0] rfl h
    · have h := h.2 c2
      refine T_aload_n 0 (dk dtk_X9_cut 18 rfl) rfl rfl ?_
      refine T_sub (lv2 := [(0, vr 20), (2, vi l2)]) [0, 2] rfl ?_
      refine KC_Vv [] [] rfl (dk dtk_X9_cut 19 rfl) kcv_X9_44 rfl kk_20 rfl (kl_20 hq) (Nat.le_of_ble_eq_true rfl) (Nat.le_of_ble_eq_true rfl) (gok_i (av_c (gkr (kl_20 hq)) (av_c rfl av_n)) as_n) rfl h (fun x3 h => ?_)
      refine T_aload_n 0 (dk dtk_X9_cut 20 rfl) rfl rfl ?_
      refine T_getI 20 8 (dk dtk_X9_cut 21 rfl) kfl_X9_35 kk_20 (kl_20 hq) (by decide) rfl ?_
      refine T_aload_n 0 (dk dtk_X9_cut 22 rfl) rfl rfl ?_
      refine T_getI 20 1 (dk dtk_X9_cut 23 rfl) kfl_X9_31 kk_20 (kl_20 hq) (by decide) rfl ?_
      refine T_icmp_lt 48 (dk dtk_X9_cut 24 rfl) (by decide) (fun c4 => ?_) (fun c4 => ?_)
      · have h := h.1 c4
        refine T_aload_n 0 (dk dtk_X9_cut 26 rfl) rfl rfl ?_
        refine T_getR 20 3 24 (dk dtk_X9_cut 27 rfl) kfl_X9_19 kk_20 (kl_20 hq) (by decide) rfl kr_20_3 ?_
        refine T_aload_n 0 (dk dtk_X9_cut 28 rfl) rfl rfl ?_
        refine T_getI 20 7 (dk dtk_X9_cut 29 rfl) kfl_X9_41 kk_20 (kl_20 hq) (by decide) rfl ?_
        refine T_aload_n 0 (dk dtk_X9_cut 30 rfl) rfl rfl ?_
        refine T_getI 20 8 (dk dtk_X9_cut 31 rfl) kfl_X9_35 kk_20 (kl_20 hq) (by decide) rfl ?_
        obtain ⟨h5, h⟩ := h
        obtain ⟨x6, ex6⟩ : ∃ z, z = si x3 24 (x3.1 20 7 : Int32).toNatClampNeg (x3.1 20 8) := ⟨_, rfl⟩
        have h := h x6 ex6
        refine T_iast 24 702 (dk dtk_X9_cut 32 rfl) kk_24 (kl_24 hq) h5 ?_
        rw [← ex6]
        refine T_aload_n 0 (dk dtk_X9_cut 33 rfl) rfl rfl ?_
        refine T_getR 20 4 25 (dk dtk_X9_cut 34 rfl) kfl_X9_22 kk_20 (kl_20 hq) (by decide) rfl kr_20_4 ?_
        refine T_aload_n 0 (dk dtk_X9_cut 35 rfl) rfl rfl ?_
        refine T_getI 20 7 (dk dtk_X9_cut 36 rfl) kfl_X9_41 kk_20 (kl_20 hq) (by decide) rfl ?_
        refine T_aload_n 0 (dk dtk_X9_cut 37 rfl) rfl rfl ?_
        refine T_getI 20 9 (dk dtk_X9_cut 38 rfl) kfl_X9_38 kk_20 (kl_20 hq) (by decide) rfl ?_
        obtain ⟨h7, h⟩ := h
        obtain ⟨x8, ex8⟩ : ∃ z, z = si x6 25 (x6.1 20 7 : Int32).toNatClampNeg (x6.1 20 9) := ⟨_, rfl⟩
        have h := h x8 ex8
        refine T_iast 25 702 (dk dtk_X9_cut 39 rfl) kk_25 (kl_25 hq) h7 ?_
        rw [← ex8]
        refine T_aload_n 0 (dk dtk_X9_cut 40 rfl) rfl rfl ?_
        refine T_getR 20 2 23 (dk dtk_X9_cut 41 rfl) kfl_X9_15 kk_20 (kl_20 hq) (by decide) rfl kr_20_2 ?_
        refine T_aload_n 0 (dk dtk_X9_cut 42 rfl) rfl rfl ?_
        refine T_getI 20 7 (dk dtk_X9_cut 43 rfl) kfl_X9_41 kk_20 (kl_20 hq) (by decide) rfl ?_
        refine T_aload_n 0 (dk dtk_X9_cut 44 rfl) rfl rfl ?_
        refine KC_Vi [] [vi (x8.1 20 7), vr 23] rfl (dk dtk_X9_cut 45 rfl) kcv_X9_47 rfl kk_20 rfl (kl_20 hq) (Nat.le_of_ble_eq_true rfl) (Nat.le_of_ble_eq_true rfl) (gok_i (av_c (gkr (kl_20 hq)) (av_c rfl av_n)) (as_c rfl (as_c (gkr (kl_23 hq)) as_n))) rfl h (fun r10 x9 h => ?_)
        obtain ⟨h11, h⟩ := h
        obtain ⟨x12, ex12⟩ : ∃ z, z = si x9 23 (x8.1 20 7 : Int32).toNatClampNeg r10 := ⟨_, rfl⟩
        have h := h x12 ex12
        refine T_iast 23 702 (dk dtk_X9_cut 46 rfl) kk_23 (kl_23 hq) h11 ?_
        rw [← ex12]
        refine T_aload_n 0 (dk dtk_X9_cut 47 rfl) rfl rfl ?_
        refine T_getR 20 2 23 (dk dtk_X9_cut 48 rfl) kfl_X9_15 kk_20 (kl_20 hq) (by decide) rfl kr_20_2 ?_
        refine T_aload_n 0 (dk dtk_X9_cut 49 rfl) rfl rfl ?_
        refine T_getI 20 7 (dk dtk_X9_cut 50 rfl) kfl_X9_41 kk_20 (kl_20 hq) (by decide) rfl ?_
        obtain ⟨h13, h⟩ := h
        refine T_iald 23 702 (dk dtk_X9_cut 51 rfl) kk_23 (kl_23 hq) h13 ?_
        refine T_iconst (v := 1) (dk dtk_X9_cut 52 rfl) (by decide +kernel) ?_
        refine T_icmp_eq 104 (dk dtk_X9_cut 53 rfl) (by decide) (fun c14 => ?_) (fun c14 => ?_)
        · have h := h.1 c14
          refine T_iconst (v := 0) (dk dtk_X9_cut 56 rfl) (by decide +kernel) ?_
          refine T_istore_n (lv2 := [(1, vi 0), (0, vr 20), (2, vi l2)]) (dk dtk_X9_cut 57 rfl) rfl (by decide) rfl ?_
          refine T_aload_n 1 (dk dtk_X9_cut 58 rfl) rfl rfl ?_
          refine T_dup (dk dtk_X9_cut 59 rfl) rfl ?_
          refine T_getI 20 7 (dk dtk_X9_cut 60 rfl) kfl_X9_41 kk_20 (kl_20 hq) (by decide) rfl ?_
          refine T_iconst (v := 1) (dk dtk_X9_cut 61 rfl) (by decide +kernel) ?_
          refine T_iadd (dk dtk_X9_cut 62 rfl) ?_
          obtain ⟨x15, ex15⟩ : ∃ z, z = si x12 20 7 ((x12.1 20 7) + 1) := ⟨_, rfl⟩
          have h := h x15 ex15
          refine T_putI 20 7 (dk dtk_X9_cut 63 rfl) kfl_X9_41 kk_20 (kl_20 hq) (by decide) rfl ⟨rfl, rfl⟩ ?_
          rw [← ex15]
          refine T_iinc (v := l2 + 1) (lv2 := [(2, vi (l2 + 1)), (1, vi 0), (0, vr 20)]) 2 (dk dtk_X9_cut 64 rfl) rfl rfl (by decide) rfl ?_
          refine T_goto 19 (dk dtk_X9_cut 65 rfl) (by decide) ?_
          exact T_sub [2, 1, 0] rfl h
        · have h := h.2 c14
          refine T_iconst (v := 1) (dk dtk_X9_cut 54 rfl) (by decide +kernel) ?_
          refine T_goto 105 (dk dtk_X9_cut 55 rfl) (by decide) ?_
          refine T_istore_n (lv2 := [(1, vi 1), (0, vr 20), (2, vi l2)]) (dk dtk_X9_cut 57 rfl) rfl (by decide) rfl ?_
          refine T_aload_n 1 (dk dtk_X9_cut 58 rfl) rfl rfl ?_
          refine T_dup (dk dtk_X9_cut 59 rfl) rfl ?_
          refine T_getI 20 7 (dk dtk_X9_cut 60 rfl) kfl_X9_41 kk_20 (kl_20 hq) (by decide) rfl ?_
          refine T_iconst (v := 1) (dk dtk_X9_cut 61 rfl) (by decide +kernel) ?_
          refine T_iadd (dk dtk_X9_cut 62 rfl) ?_
          obtain ⟨x16, ex16⟩ : ∃ z, z = si x12 20 7 ((x12.1 20 7) + 1) := ⟨_, rfl⟩
          have h := h x16 ex16
          refine T_putI 20 7 (dk dtk_X9_cut 63 rfl) kfl_X9_41 kk_20 (kl_20 hq) (by decide) rfl ⟨rfl, rfl⟩ ?_
          rw [← ex16]
          refine T_iinc (v := l2 + 1) (lv2 := [(2, vi (l2 + 1)), (1, vi 1), (0, vr 20)]) 2 (dk dtk_X9_cut 64 rfl) rfl rfl (by decide) rfl ?_
          refine T_goto 19 (dk dtk_X9_cut 65 rfl) (by decide) ?_
          exact T_sub [2, 1, 0] rfl h
      · have h := h.2 c4
        refine T_goto 122 (dk dtk_X9_cut 25 rfl) (by decide) ?_
        exact T_sub [0] rfl h
set_option maxRecDepth 100000 in
set_option maxHeartbeats 4000000 in
theorem kg_X9_cut_122 {G : kG} {q : kP} {d : Nat} {x : gd} {P : Option gv → gd → Prop} (hq : kV q) 
    (h : vp_in (x.1 20 7) 702 ∧ (∀ x2 : gd, x2 = si x 23 (x.1 20 7 : Int32).toNatClampNeg 0 → vp_in (x2.1 20 7) 702 ∧ (∀ x4 : gd, x4 = si x2 24 (x2.1 20 7 : Int32).toNatClampNeg (x2.1 20 1) → vp_in (x4.1 20 7) 702 ∧ (∀ x6 : gd, x6 = si x4 25 (x4.1 20 7 : Int32).toNatClampNeg (x4.1 20 9) → P none x6)))) :
    KT G q (d + 1) zk_X9_cut 122 [(0, vr 20)] [] x P := by
  refine T_aload_n 0 (dk dtk_X9_cut 66 rfl) rfl rfl ?_
  refine T_getR 20 2 23 (dk dtk_X9_cut 67 rfl) kfl_X9_15 kk_20 (kl_20 hq) (by decide) rfl kr_20_2 ?_
  refine T_aload_n 0 (dk dtk_X9_cut 68 rfl) rfl rfl ?_
  refine T_getI 20 7 (dk dtk_X9_cut 69 rfl) kfl_X9_41 kk_20 (kl_20 hq) (by decide) rfl ?_
  refine T_iconst (v := 0) (dk dtk_X9_cut 70 rfl) (by decide +kernel) ?_
  obtain ⟨h1, h⟩ := h
  obtain ⟨x2, ex2⟩ : ∃ z, z = si x 23 (x.1 20 7 : Int32).toNatClampNeg 0 := ⟨_, rfl⟩
  have h := h x2 ex2
  refine T_iast 23 702 (dk dtk_X9_cut 71 rfl) kk_23 (kl_23 hq) h1 ?_
  rw [← ex2]
  refine T_aload_n 0 (dk dtk_X9_cut 72 rfl) rfl rfl ?_
  refine T_getR 20 3 24 (dk dtk_X9_cut 73 rfl) kfl_X9_19 kk_20 (kl_20 hq) (by decide) rfl kr_20_3 ?_
  refine T_aload_n 0 (dk dtk_X9_cut 74 rfl) rfl rfl ?_
  refine T_getI 20 7 (dk dtk_X9_cut 75 rfl) kfl_X9_41 kk_20 (kl_20 hq) (by decide) rfl ?_
  refine T_aload_n 0 (dk dtk_X9_cut 76 rfl) rfl rfl ?_
  refine T_getI 20 1 (dk dtk_X9_cut 77 rfl) kfl_X9_31 kk_20 (kl_20 hq) (by decide) rfl ?_
  obtain ⟨h3, h⟩ := h
  obtain ⟨x4, ex4⟩ : ∃ z, z = si x2 24 (x2.1 20 7 : Int32).toNatClampNeg (x2.1 20 1) := ⟨_, rfl⟩
  have h := h x4 ex4
  refine T_iast 24 702 (dk dtk_X9_cut 78 rfl) kk_24 (kl_24 hq) h3 ?_
  rw [← ex4]
  refine T_aload_n 0 (dk dtk_X9_cut 79 rfl) rfl rfl ?_
  refine T_getR 20 4 25 (dk dtk_X9_cut 80 rfl) kfl_X9_22 kk_20 (kl_20 hq) (by decide) rfl kr_20_4 ?_
  refine T_aload_n 0 (dk dtk_X9_cut 81 rfl) rfl rfl ?_
  refine T_getI 20 7 (dk dtk_X9_cut 82 rfl) kfl_X9_41 kk_20 (kl_20 hq) (by decide) rfl ?_
  refine T_aload_n 0 (dk dtk_X9_cut 83 rfl) rfl rfl ?_
  refine T_getI 20 9 (dk dtk_X9_cut 84 rfl) kfl_X9_38 kk_20 (kl_20 hq) (by decide) rfl ?_
  obtain ⟨h5, h⟩ := h
  obtain ⟨x6, ex6⟩ : ∃ z, z = si x4 25 (x4.1 20 7 : Int32).toNatClampNeg (x4.1 20 9) := ⟨_, rfl⟩
  have h := h x6 ex6
  refine T_iast 25 702 (dk dtk_X9_cut 85 rfl) kk_25 (kl_25 hq) h5 ?_
  rw [← ex6]
  exact KT_vret (dk dtk_X9_cut 86 rfl) rfl h
set_option maxRecDepth 100000 in
theorem dtk_X9_sameName : dck cX9_sameName [(0, .aload_n 0, 1), (1, .getfield 28, 3), (4, .iload_n 1, 1), (5, .iaload, 1), (6, .aload_n 0, 1), (7, .getfield 28, 3), (10, .iload_n 2, 1), (11, .iaload, 1), (12, .if_icmp .ne 18, 3), (15, .aload_n 0, 1), (16, .getfield 25, 3), (19, .iload_n 1, 1), (20, .iaload, 1), (21, .aload_n 0, 1), (22, .getfield 25, 3), (25, .iload_n 2, 1), (26, .iaload, 1), (27, .if_icmp .eq 5, 3), (30, .iconst 0, 1), (31, .ireturn, 1), (32, .iconst 0, 1), (33, .istore_n 3, 1), (34, .iload_n 3, 1), (35, .aload_n 0, 1), (36, .getfield 25, 3), (39, .iload_n 1, 1), (40, .iaload, 1), (41, .if_icmp .ge 40, 3), (44, .aload_n 0, 1), (45, .getfield 9, 3), (48, .aload_n 0, 1), (49, .getfield 19, 3), (52, .iload_n 1, 1), (53, .iaload, 1), (54, .iload_n 3, 1), (55, .iadd, 1), (56, .baload, 1), (57, .aload_n 0, 1), (58, .getfield 9, 3), (61, .aload_n 0, 1), (62, .getfield 19, 3), (65, .iload_n 2, 1), (66, .iaload, 1), (67, .iload_n 3, 1), (68, .iadd, 1), (69, .baload, 1), (70, .if_icmp .eq 5, 3), (73, .iconst 0, 1), (74, .ireturn, 1), (75, .iinc 3 1, 3), (78, .goto (-44), 3), (81, .iconst 1, 1), (82, .ireturn, 1)] = true := by decide +kernel
set_option maxRecDepth 100000 in
set_option maxHeartbeats 4000000 in
theorem kg_X9_sameName_0 {G : kG} {q : kP} {d : Nat} {x : gd} {P : Option gv → gd → Prop} (hq : kV q) (l1 : Int32) (l2 : Int32)
    (h : vp_in l1 702 ∧ vp_in l2 702 ∧ ((¬ ((x.1 27 (l1 : Int32).toNatClampNeg) = (x.1 27 (l2 : Int32).toNatClampNeg)) → P (some (vi 0)) x) ∧ ((x.1 27 (l1 : Int32).toNatClampNeg) = (x.1 27 (l2 : Int32).toNatClampNeg) → vp_in l1 702 ∧ vp_in l2 702 ∧ (((x.1 26 (l1 : Int32).toNatClampNeg) = (x.1 26 (l2 : Int32).toNatClampNeg) → KT G q d zk_X9_sameName 34 [(0, vr 20), (1, vi l1), (2, vi l2), (3, vi 0)] [] x P) ∧ (¬ ((x.1 26 (l1 : Int32).toNatClampNeg) = (x.1 26 (l2 : Int32).toNatClampNeg)) → P (some (vi 0)) x))))) :
    KT G q d zk_X9_sameName 0 [(0, vr 20), (1, vi l1), (2, vi l2)] [] x P := by
  refine T_aload_n 0 (dk dtk_X9_sameName 0 rfl) rfl rfl ?_
  refine T_getR 20 6 27 (dk dtk_X9_sameName 1 rfl) kfl_X9_28 kk_20 (kl_20 hq) (by decide) rfl kr_20_6 ?_
  refine T_iload_n 1 (dk dtk_X9_sameName 2 rfl) rfl rfl ?_
  obtain ⟨h1, h⟩ := h
  refine T_iald 27 702 (dk dtk_X9_sameName 3 rfl) kk_27 (kl_27 hq) h1 ?_
  refine T_aload_n 0 (dk dtk_X9_sameName 4 rfl) rfl rfl ?_
  refine T_getR 20 6 27 (dk dtk_X9_sameName 5 rfl) kfl_X9_28 kk_20 (kl_20 hq) (by decide) rfl kr_20_6 ?_
  refine T_iload_n 2 (dk dtk_X9_sameName 6 rfl) rfl rfl ?_
  obtain ⟨h2, h⟩ := h
  refine T_iald 27 702 (dk dtk_X9_sameName 7 rfl) kk_27 (kl_27 hq) h2 ?_
  refine T_icmp_ne 30 (dk dtk_X9_sameName 8 rfl) (by decide) (fun c3 => ?_) (fun c3 => ?_)
  · have h := h.1 c3
    refine T_iconst (v := 0) (dk dtk_X9_sameName 18 rfl) (by decide +kernel) ?_
    exact KT_iret (dk dtk_X9_sameName 19 rfl) rfl rfl h
  · have h := h.2 c3
    refine T_aload_n 0 (dk dtk_X9_sameName 9 rfl) rfl rfl ?_
    refine T_getR 20 5 26 (dk dtk_X9_sameName 10 rfl) kfl_X9_25 kk_20 (kl_20 hq) (by decide) rfl kr_20_5 ?_
    refine T_iload_n 1 (dk dtk_X9_sameName 11 rfl) rfl rfl ?_
    obtain ⟨h4, h⟩ := h
    refine T_iald 26 702 (dk dtk_X9_sameName 12 rfl) kk_26 (kl_26 hq) h4 ?_
    refine T_aload_n 0 (dk dtk_X9_sameName 13 rfl) rfl rfl ?_
    refine T_getR 20 5 26 (dk dtk_X9_sameName 14 rfl) kfl_X9_25 kk_20 (kl_20 hq) (by decide) rfl kr_20_5 ?_
    refine T_iload_n 2 (dk dtk_X9_sameName 15 rfl) rfl rfl ?_
    obtain ⟨h5, h⟩ := h
    refine T_iald 26 702 (dk dtk_X9_sameName 16 rfl) kk_26 (kl_26 hq) h5 ?_
    refine T_icmp_eq 32 (dk dtk_X9_sameName 17 rfl) (by decide) (fun c6 => ?_) (fun c6 => ?_)
    · have h := h.1 c6
      refine T_iconst (v := 0) (dk dtk_X9_sameName 20 rfl) (by decide +kernel) ?_
      refine T_istore_n (lv2 := [(3, vi 0), (0, vr 20), (1, vi l1), (2, vi l2)]) (dk dtk_X9_sameName 21 rfl) rfl (by decide) rfl ?_
      exact T_sub [1, 2, 3, 0] rfl h
    · have h := h.2 c6
      refine T_iconst (v := 0) (dk dtk_X9_sameName 18 rfl) (by decide +kernel) ?_
      exact KT_iret (dk dtk_X9_sameName 19 rfl) rfl rfl h
set_option maxRecDepth 100000 in
set_option maxHeartbeats 4000000 in
theorem kg_X9_sameName_34 {G : kG} {q : kP} {d : Nat} {x : gd} {P : Option gv → gd → Prop} (hq : kV q) (l1 : Int32) (l2 : Int32) (l3 : Int32)
    (h : vp_in l1 702 ∧ (((x.1 26 (l1 : Int32).toNatClampNeg) ≤ l3 → P (some (vi 1)) x) ∧ (¬ ((x.1 26 (l1 : Int32).toNatClampNeg) ≤ l3) → vp_in l1 702 ∧ vp_in ((x.1 24 (l1 : Int32).toNatClampNeg) + l3) 3000 ∧ vp_in l2 702 ∧ vp_in ((x.1 24 (l2 : Int32).toNatClampNeg) + l3) 3000 ∧ (((x.1 21 ((x.1 24 (l1 : Int32).toNatClampNeg) + l3 : Int32).toNatClampNeg) = (x.1 21 ((x.1 24 (l2 : Int32).toNatClampNeg) + l3 : Int32).toNatClampNeg) → KT G q d zk_X9_sameName 34 [(0, vr 20), (1, vi l1), (2, vi l2), (3, vi (l3 + 1))] [] x P) ∧ (¬ ((x.1 21 ((x.1 24 (l1 : Int32).toNatClampNeg) + l3 : Int32).toNatClampNeg) = (x.1 21 ((x.1 24 (l2 : Int32).toNatClampNeg) + l3 : Int32).toNatClampNeg)) → P (some (vi 0)) x))))) :
    KT G q d zk_X9_sameName 34 [(0, vr 20), (1, vi l1), (2, vi l2), (3, vi l3)] [] x P := by
  refine T_iload_n 3 (dk dtk_X9_sameName 22 rfl) rfl rfl ?_
  refine T_aload_n 0 (dk dtk_X9_sameName 23 rfl) rfl rfl ?_
  refine T_getR 20 5 26 (dk dtk_X9_sameName 24 rfl) kfl_X9_25 kk_20 (kl_20 hq) (by decide) rfl kr_20_5 ?_
  refine T_iload_n 1 (dk dtk_X9_sameName 25 rfl) rfl rfl ?_
  obtain ⟨h1, h⟩ := h
  refine T_iald 26 702 (dk dtk_X9_sameName 26 rfl) kk_26 (kl_26 hq) h1 ?_
  refine T_icmp_ge 81 (dk dtk_X9_sameName 27 rfl) (by decide) (fun c2 => ?_) (fun c2 => ?_)
  · have h := h.1 c2
    refine T_iconst (v := 1) (dk dtk_X9_sameName 51 rfl) (by decide +kernel) ?_
    exact KT_iret (dk dtk_X9_sameName 52 rfl) rfl rfl h
  · have h := h.2 c2
    refine T_aload_n 0 (dk dtk_X9_sameName 28 rfl) rfl rfl ?_
    refine T_getR 20 0 21 (dk dtk_X9_sameName 29 rfl) kfl_X9_9 kk_20 (kl_20 hq) (by decide) rfl kr_20_0 ?_
    refine T_aload_n 0 (dk dtk_X9_sameName 30 rfl) rfl rfl ?_
    refine T_getR 20 3 24 (dk dtk_X9_sameName 31 rfl) kfl_X9_19 kk_20 (kl_20 hq) (by decide) rfl kr_20_3 ?_
    refine T_iload_n 1 (dk dtk_X9_sameName 32 rfl) rfl rfl ?_
    obtain ⟨h3, h⟩ := h
    refine T_iald 24 702 (dk dtk_X9_sameName 33 rfl) kk_24 (kl_24 hq) h3 ?_
    refine T_iload_n 3 (dk dtk_X9_sameName 34 rfl) rfl rfl ?_
    refine T_iadd (dk dtk_X9_sameName 35 rfl) ?_
    obtain ⟨h4, h⟩ := h
    refine T_bald 21 3000 (dk dtk_X9_sameName 36 rfl) kk_21 (kl_21 hq) h4 ?_
    refine T_aload_n 0 (dk dtk_X9_sameName 37 rfl) rfl rfl ?_
    refine T_getR 20 0 21 (dk dtk_X9_sameName 38 rfl) kfl_X9_9 kk_20 (kl_20 hq) (by decide) rfl kr_20_0 ?_
    refine T_aload_n 0 (dk dtk_X9_sameName 39 rfl) rfl rfl ?_
    refine T_getR 20 3 24 (dk dtk_X9_sameName 40 rfl) kfl_X9_19 kk_20 (kl_20 hq) (by decide) rfl kr_20_3 ?_
    refine T_iload_n 2 (dk dtk_X9_sameName 41 rfl) rfl rfl ?_
    obtain ⟨h5, h⟩ := h
    refine T_iald 24 702 (dk dtk_X9_sameName 42 rfl) kk_24 (kl_24 hq) h5 ?_
    refine T_iload_n 3 (dk dtk_X9_sameName 43 rfl) rfl rfl ?_
    refine T_iadd (dk dtk_X9_sameName 44 rfl) ?_
    obtain ⟨h6, h⟩ := h
    refine T_bald 21 3000 (dk dtk_X9_sameName 45 rfl) kk_21 (kl_21 hq) h6 ?_
    refine T_icmp_eq 75 (dk dtk_X9_sameName 46 rfl) (by decide) (fun c7 => ?_) (fun c7 => ?_)
    · have h := h.1 c7
      refine T_iinc (v := l3 + 1) (lv2 := [(3, vi (l3 + 1)), (0, vr 20), (1, vi l1), (2, vi l2)]) 3 (dk dtk_X9_sameName 49 rfl) rfl rfl (by decide) rfl ?_
      refine T_goto 34 (dk dtk_X9_sameName 50 rfl) (by decide) ?_
      exact T_sub [1, 2, 3, 0] rfl h
    · have h := h.2 c7
      refine T_iconst (v := 0) (dk dtk_X9_sameName 47 rfl) (by decide +kernel) ?_
      exact KT_iret (dk dtk_X9_sameName 48 rfl) rfl rfl h
set_option maxRecDepth 100000 in
theorem dtk_X9_byteAt : dck cX9_byteAt [(0, .iload_n 1, 1), (1, .aload_n 0, 1), (2, .getfield 31, 3), (5, .if_icmp .ge 16, 3), (8, .aload_n 0, 1), (9, .getfield 9, 3), (12, .iload_n 1, 1), (13, .baload, 1), (14, .sipush 255, 3), (17, .iand, 1), (18, .goto 4, 3), (21, .iconst 0, 1), (22, .ireturn, 1)] = true := by decide +kernel
set_option maxRecDepth 100000 in
set_option maxHeartbeats 4000000 in
theorem kg_X9_byteAt_0 {G : kG} {q : kP} {d : Nat} {x : gd} {P : Option gv → gd → Prop} (hq : kV q) (l1 : Int32)
    (h : (((x.1 20 1) ≤ l1 → P (some (vi 0)) x) ∧ (¬ ((x.1 20 1) ≤ l1) → vp_in l1 3000 ∧ P (some (vi ((x.1 21 (l1 : Int32).toNatClampNeg) &&& 255))) x))) :
    KT G q d zk_X9_byteAt 0 [(0, vr 20), (1, vi l1)] [] x P := by
  refine T_iload_n 1 (dk dtk_X9_byteAt 0 rfl) rfl rfl ?_
  refine T_aload_n 0 (dk dtk_X9_byteAt 1 rfl) rfl rfl ?_
  refine T_getI 20 1 (dk dtk_X9_byteAt 2 rfl) kfl_X9_31 kk_20 (kl_20 hq) (by decide) rfl ?_
  refine T_icmp_ge 21 (dk dtk_X9_byteAt 3 rfl) (by decide) (fun c1 => ?_) (fun c1 => ?_)
  · have h := h.1 c1
    refine T_iconst (v := 0) (dk dtk_X9_byteAt 11 rfl) (by decide +kernel) ?_
    exact KT_iret (dk dtk_X9_byteAt 12 rfl) rfl rfl h
  · have h := h.2 c1
    refine T_aload_n 0 (dk dtk_X9_byteAt 4 rfl) rfl rfl ?_
    refine T_getR 20 0 21 (dk dtk_X9_byteAt 5 rfl) kfl_X9_9 kk_20 (kl_20 hq) (by decide) rfl kr_20_0 ?_
    refine T_iload_n 1 (dk dtk_X9_byteAt 6 rfl) rfl rfl ?_
    obtain ⟨h2, h⟩ := h
    refine T_bald 21 3000 (dk dtk_X9_byteAt 7 rfl) kk_21 (kl_21 hq) h2 ?_
    refine T_sipush (v := 255) (dk dtk_X9_byteAt 8 rfl) (by decide +kernel) ?_
    refine T_iand (dk dtk_X9_byteAt 9 rfl) ?_
    refine T_goto 22 (dk dtk_X9_byteAt 10 rfl) (by decide) ?_
    exact KT_iret (dk dtk_X9_byteAt 12 rfl) rfl rfl h
set_option maxRecDepth 100000 in
theorem dtk_X9_skipBlanks : dck cX9_skipBlanks [(0, .iconst 0, 1), (1, .istore_n 1, 1), (2, .aload_n 0, 1), (3, .getfield 35, 3), (6, .aload_n 0, 1), (7, .getfield 31, 3), (10, .if_icmp .ge 95, 3), (13, .aload_n 0, 1), (14, .aload_n 0, 1), (15, .getfield 35, 3), (18, .invokevirtual 51, 3), (21, .istore_n 2, 1), (22, .iload_n 2, 1), (23, .bipush 10, 2), (25, .if_icmp .ne 18, 3), (28, .aload_n 0, 1), (29, .dup, 1), (30, .getfield 38, 3), (33, .iconst 1, 1), (34, .iadd, 1), (35, .putfield 38, 3), (38, .iconst 0, 1), (39, .istore_n 1, 1), (40, .goto 52, 3), (43, .iload_n 2, 1), (44, .bipush 47, 2), (46, .if_icmp .ne 23, 3), (49, .aload_n 0, 1), (50, .aload_n 0, 1), (51, .getfield 35, 3), (54, .iconst 1, 1), (55, .iadd, 1), (56, .invokevirtual 51, 3), (59, .bipush 47, 2), (61, .if_icmp .ne 8, 3), (64, .iconst 1, 1), (65, .istore_n 1, 1), (66, .goto 26, 3), (69, .iload_n 1, 1), (70, .ifCond .ne 22, 3), (73, .iload_n 2, 1), (74, .bipush 32, 2), (76, .if_icmp .eq 16, 3), (79, .iload_n 2, 1), (80, .bipush 9, 2), (82, .if_icmp .eq 10, 3), (85, .iload_n 2, 1), (86, .bipush 13, 2), (88, .if_icmp .eq 4, 3), (91, .return_, 1), (92, .aload_n 0, 1), (93, .dup, 1), (94, .getfield 35, 3), (97, .iconst 1, 1), (98, .iadd, 1), (99, .putfield 35, 3), (102, .goto (-100), 3), (105, .return_, 1)] = true := by decide +kernel
set_option maxRecDepth 100000 in
set_option maxHeartbeats 4000000 in
theorem kg_X9_skipBlanks_0 {G : kG} {q : kP} {d : Nat} {x : gd} {P : Option gv → gd → Prop} (hq : kV q) 
    (h : KT G q (d + 1) zk_X9_skipBlanks 2 [(0, vr 20), (1, vi 0)] [] x P) :
    KT G q (d + 1) zk_X9_skipBlanks 0 [(0, vr 20)] [] x P := by
  refine T_iconst (v := 0) (dk dtk_X9_skipBlanks 0 rfl) (by decide +kernel) ?_
  refine T_istore_n (lv2 := [(1, vi 0), (0, vr 20)]) (dk dtk_X9_skipBlanks 1 rfl) rfl (by decide) rfl ?_
  exact T_sub [1, 0] rfl h
set_option maxRecDepth 100000 in
set_option maxHeartbeats 4000000 in
theorem kg_X9_skipBlanks_2 {G : kG} {q : kP} {d : Nat} {x : gd} {P : Option gv → gd → Prop} (hq : kV q) (l1 : Int32)
    (h : (((x.1 20 1) ≤ (x.1 20 8) → P none x) ∧ (¬ ((x.1 20 1) ≤ (x.1 20 8)) → KT G q d zk_X9_byteAt 0 [(0, vr 20), (1, vi (x.1 20 8))] [] x (ri (fun r3 x2 => ((¬ (r3 = (10 : Int32)) → ((¬ (r3 = (47 : Int32)) → KT G q (d + 1) zk_X9_skipBlanks 69 [(0, vr 20), (1, vi l1), (2, vi r3)] [] x2 P) ∧ (r3 = (47 : Int32) → KT G q d zk_X9_byteAt 0 [(0, vr 20), (1, vi ((x2.1 20 8) + 1))] [] x2 (ri (fun r7 x6 => ((¬ (r7 = (47 : Int32)) → KT G q (d + 1) zk_X9_skipBlanks 69 [(0, vr 20), (1, vi l1), (2, vi r3)] [] x6 P) ∧ (r7 = (47 : Int32) → (∀ x9 : gd, x9 = si x6 20 8 ((x6.1 20 8) + 1) → KT G q (d + 1) zk_X9_skipBlanks 2 [(0, vr 20), (1, vi 1)] [] x9 P)))))))) ∧ (r3 = (10 : Int32) → (∀ x10 : gd, x10 = si x2 20 9 ((x2.1 20 9) + 1) → (∀ x11 : gd, x11 = si x10 20 8 ((x10.1 20 8) + 1) → KT G q (d + 1) zk_X9_skipBlanks 2 [(0, vr 20), (1, vi 0)] [] x11 P))))))))) :
    KT G q (d + 1) zk_X9_skipBlanks 2 [(0, vr 20), (1, vi l1)] [] x P := by
  refine T_aload_n 0 (dk dtk_X9_skipBlanks 2 rfl) rfl rfl ?_
  refine T_getI 20 8 (dk dtk_X9_skipBlanks 3 rfl) kfl_X9_35 kk_20 (kl_20 hq) (by decide) rfl ?_
  refine T_aload_n 0 (dk dtk_X9_skipBlanks 4 rfl) rfl rfl ?_
  refine T_getI 20 1 (dk dtk_X9_skipBlanks 5 rfl) kfl_X9_31 kk_20 (kl_20 hq) (by decide) rfl ?_
  refine T_icmp_ge 105 (dk dtk_X9_skipBlanks 6 rfl) (by decide) (fun c1 => ?_) (fun c1 => ?_)
  · have h := h.1 c1
    exact KT_vret (dk dtk_X9_skipBlanks 57 rfl) rfl h
  · have h := h.2 c1
    refine T_aload_n 0 (dk dtk_X9_skipBlanks 7 rfl) rfl rfl ?_
    refine T_aload_n 0 (dk dtk_X9_skipBlanks 8 rfl) rfl rfl ?_
    refine T_getI 20 8 (dk dtk_X9_skipBlanks 9 rfl) kfl_X9_35 kk_20 (kl_20 hq) (by decide) rfl ?_
    refine KC_Vi [vi (x.1 20 8)] [] rfl (dk dtk_X9_skipBlanks 10 rfl) kcv_X9_51 rfl kk_20 rfl (kl_20 hq) (Nat.le_of_ble_eq_true rfl) (Nat.le_of_ble_eq_true rfl) (gok_i (av_c (gkr (kl_20 hq)) (av_c rfl av_n)) as_n) rfl h (fun r3 x2 h => ?_)
    refine T_istore_n (lv2 := [(2, vi r3), (0, vr 20), (1, vi l1)]) (dk dtk_X9_skipBlanks 11 rfl) rfl (by decide) rfl ?_
    refine T_iload_n 0 (dk dtk_X9_skipBlanks 12 rfl) rfl rfl ?_
    refine T_bipush (v := 10) (dk dtk_X9_skipBlanks 13 rfl) (by decide +kernel) ?_
    refine T_icmp_ne 43 (dk dtk_X9_skipBlanks 14 rfl) (by decide) (fun c4 => ?_) (fun c4 => ?_)
    · have h := h.1 c4
      refine T_iload_n 0 (dk dtk_X9_skipBlanks 24 rfl) rfl rfl ?_
      refine T_bipush (v := 47) (dk dtk_X9_skipBlanks 25 rfl) (by decide +kernel) ?_
      refine T_icmp_ne 69 (dk dtk_X9_skipBlanks 26 rfl) (by decide) (fun c5 => ?_) (fun c5 => ?_)
      · have h := h.1 c5
        exact T_sub [1, 2, 0] rfl h
      · have h := h.2 c5
        refine T_aload_n 1 (dk dtk_X9_skipBlanks 27 rfl) rfl rfl ?_
        refine T_aload_n 1 (dk dtk_X9_skipBlanks 28 rfl) rfl rfl ?_
        refine T_getI 20 8 (dk dtk_X9_skipBlanks 29 rfl) kfl_X9_35 kk_20 (kl_20 hq) (by decide) rfl ?_
        refine T_iconst (v := 1) (dk dtk_X9_skipBlanks 30 rfl) (by decide +kernel) ?_
        refine T_iadd (dk dtk_X9_skipBlanks 31 rfl) ?_
        refine KC_Vi [vi ((x2.1 20 8) + 1)] [] rfl (dk dtk_X9_skipBlanks 32 rfl) kcv_X9_51 rfl kk_20 rfl (kl_20 hq) (Nat.le_of_ble_eq_true rfl) (Nat.le_of_ble_eq_true rfl) (gok_i (av_c rfl (av_c (gkr (kl_20 hq)) (av_c rfl av_n))) as_n) rfl h (fun r7 x6 h => ?_)
        refine T_bipush (v := 47) (dk dtk_X9_skipBlanks 33 rfl) (by decide +kernel) ?_
        refine T_icmp_ne 69 (dk dtk_X9_skipBlanks 34 rfl) (by decide) (fun c8 => ?_) (fun c8 => ?_)
        · have h := h.1 c8
          exact T_sub [1, 2, 0] rfl h
        · have h := h.2 c8
          refine T_iconst (v := 1) (dk dtk_X9_skipBlanks 35 rfl) (by decide +kernel) ?_
          refine T_istore_n (lv2 := [(1, vi 1), (2, vi r3), (0, vr 20)]) (dk dtk_X9_skipBlanks 36 rfl) rfl (by decide) rfl ?_
          refine T_goto 92 (dk dtk_X9_skipBlanks 37 rfl) (by decide) ?_
          refine T_aload_n 2 (dk dtk_X9_skipBlanks 50 rfl) rfl rfl ?_
          refine T_dup (dk dtk_X9_skipBlanks 51 rfl) rfl ?_
          refine T_getI 20 8 (dk dtk_X9_skipBlanks 52 rfl) kfl_X9_35 kk_20 (kl_20 hq) (by decide) rfl ?_
          refine T_iconst (v := 1) (dk dtk_X9_skipBlanks 53 rfl) (by decide +kernel) ?_
          refine T_iadd (dk dtk_X9_skipBlanks 54 rfl) ?_
          obtain ⟨x9, ex9⟩ : ∃ z, z = si x6 20 8 ((x6.1 20 8) + 1) := ⟨_, rfl⟩
          have h := h x9 ex9
          refine T_putI 20 8 (dk dtk_X9_skipBlanks 55 rfl) kfl_X9_35 kk_20 (kl_20 hq) (by decide) rfl ⟨rfl, rfl⟩ ?_
          rw [← ex9]
          refine T_goto 2 (dk dtk_X9_skipBlanks 56 rfl) (by decide) ?_
          exact T_sub [2, 0] rfl h
    · have h := h.2 c4
      refine T_aload_n 1 (dk dtk_X9_skipBlanks 15 rfl) rfl rfl ?_
      refine T_dup (dk dtk_X9_skipBlanks 16 rfl) rfl ?_
      refine T_getI 20 9 (dk dtk_X9_skipBlanks 17 rfl) kfl_X9_38 kk_20 (kl_20 hq) (by decide) rfl ?_
      refine T_iconst (v := 1) (dk dtk_X9_skipBlanks 18 rfl) (by decide +kernel) ?_
      refine T_iadd (dk dtk_X9_skipBlanks 19 rfl) ?_
      obtain ⟨x10, ex10⟩ : ∃ z, z = si x2 20 9 ((x2.1 20 9) + 1) := ⟨_, rfl⟩
      have h := h x10 ex10
      refine T_putI 20 9 (dk dtk_X9_skipBlanks 20 rfl) kfl_X9_38 kk_20 (kl_20 hq) (by decide) rfl ⟨rfl, rfl⟩ ?_
      rw [← ex10]
      refine T_iconst (v := 0) (dk dtk_X9_skipBlanks 21 rfl) (by decide +kernel) ?_
      refine T_istore_n (lv2 := [(1, vi 0), (2, vi r3), (0, vr 20)]) (dk dtk_X9_skipBlanks 22 rfl) rfl (by decide) rfl ?_
      refine T_goto 92 (dk dtk_X9_skipBlanks 23 rfl) (by decide) ?_
      refine T_aload_n 2 (dk dtk_X9_skipBlanks 50 rfl) rfl rfl ?_
      refine T_dup (dk dtk_X9_skipBlanks 51 rfl) rfl ?_
      refine T_getI 20 8 (dk dtk_X9_skipBlanks 52 rfl) kfl_X9_35 kk_20 (kl_20 hq) (by decide) rfl ?_
      refine T_iconst (v := 1) (dk dtk_X9_skipBlanks 53 rfl) (by decide +kernel) ?_
      refine T_iadd (dk dtk_X9_skipBlanks 54 rfl) ?_
      obtain ⟨x11, ex11⟩ : ∃ z, z = si x10 20 8 ((x10.1 20 8) + 1) := ⟨_, rfl⟩
      have h := h x11 ex11
      refine T_putI 20 8 (dk dtk_X9_skipBlanks 55 rfl) kfl_X9_35 kk_20 (kl_20 hq) (by decide) rfl ⟨rfl, rfl⟩ ?_
      rw [← ex11]
      refine T_goto 2 (dk dtk_X9_skipBlanks 56 rfl) (by decide) ?_
      exact T_sub [2, 0] rfl h
set_option maxRecDepth 100000 in
set_option maxHeartbeats 4000000 in
theorem kg_X9_skipBlanks_69 {G : kG} {q : kP} {d : Nat} {x : gd} {P : Option gv → gd → Prop} (hq : kV q) (l1 : Int32) (l2 : Int32)
    (h : ((¬ (l1 = (0 : Int32)) → (∀ x2 : gd, x2 = si x 20 8 ((x.1 20 8) + 1) → KT G q (d + 1) zk_X9_skipBlanks 2 [(0, vr 20), (1, vi l1)] [] x2 P)) ∧ (l1 = (0 : Int32) → ((l2 = (32 : Int32) → (∀ x4 : gd, x4 = si x 20 8 ((x.1 20 8) + 1) → KT G q (d + 1) zk_X9_skipBlanks 2 [(0, vr 20), (1, vi l1)] [] x4 P)) ∧ (¬ (l2 = (32 : Int32)) → ((l2 = (9 : Int32) → (∀ x6 : gd, x6 = si x 20 8 ((x.1 20 8) + 1) → KT G q (d + 1) zk_X9_skipBlanks 2 [(0, vr 20), (1, vi l1)] [] x6 P)) ∧ (¬ (l2 = (9 : Int32)) → ((l2 = (13 : Int32) → (∀ x8 : gd, x8 = si x 20 8 ((x.1 20 8) + 1) → KT G q (d + 1) zk_X9_skipBlanks 2 [(0, vr 20), (1, vi l1)] [] x8 P)) ∧ (¬ (l2 = (13 : Int32)) → P none x))))))))) :
    KT G q (d + 1) zk_X9_skipBlanks 69 [(0, vr 20), (1, vi l1), (2, vi l2)] [] x P := by
  refine T_iload_n 1 (dk dtk_X9_skipBlanks 38 rfl) rfl rfl ?_
  refine T_if_ne 92 (dk dtk_X9_skipBlanks 39 rfl) (by decide) (fun c1 => ?_) (fun c1 => ?_)
  · have h := h.1 c1
    refine T_aload_n 0 (dk dtk_X9_skipBlanks 50 rfl) rfl rfl ?_
    refine T_dup (dk dtk_X9_skipBlanks 51 rfl) rfl ?_
    refine T_getI 20 8 (dk dtk_X9_skipBlanks 52 rfl) kfl_X9_35 kk_20 (kl_20 hq) (by decide) rfl ?_
    refine T_iconst (v := 1) (dk dtk_X9_skipBlanks 53 rfl) (by decide +kernel) ?_
    refine T_iadd (dk dtk_X9_skipBlanks 54 rfl) ?_
    obtain ⟨x2, ex2⟩ : ∃ z, z = si x 20 8 ((x.1 20 8) + 1) := ⟨_, rfl⟩
    have h := h x2 ex2
    refine T_putI 20 8 (dk dtk_X9_skipBlanks 55 rfl) kfl_X9_35 kk_20 (kl_20 hq) (by decide) rfl ⟨rfl, rfl⟩ ?_
    rw [← ex2]
    refine T_goto 2 (dk dtk_X9_skipBlanks 56 rfl) (by decide) ?_
    exact T_sub [0, 1] rfl h
  · have h := h.2 c1
    refine T_iload_n 2 (dk dtk_X9_skipBlanks 40 rfl) rfl rfl ?_
    refine T_bipush (v := 32) (dk dtk_X9_skipBlanks 41 rfl) (by decide +kernel) ?_
    refine T_icmp_eq 92 (dk dtk_X9_skipBlanks 42 rfl) (by decide) (fun c3 => ?_) (fun c3 => ?_)
    · have h := h.1 c3
      refine T_aload_n 0 (dk dtk_X9_skipBlanks 50 rfl) rfl rfl ?_
      refine T_dup (dk dtk_X9_skipBlanks 51 rfl) rfl ?_
      refine T_getI 20 8 (dk dtk_X9_skipBlanks 52 rfl) kfl_X9_35 kk_20 (kl_20 hq) (by decide) rfl ?_
      refine T_iconst (v := 1) (dk dtk_X9_skipBlanks 53 rfl) (by decide +kernel) ?_
      refine T_iadd (dk dtk_X9_skipBlanks 54 rfl) ?_
      obtain ⟨x4, ex4⟩ : ∃ z, z = si x 20 8 ((x.1 20 8) + 1) := ⟨_, rfl⟩
      have h := h x4 ex4
      refine T_putI 20 8 (dk dtk_X9_skipBlanks 55 rfl) kfl_X9_35 kk_20 (kl_20 hq) (by decide) rfl ⟨rfl, rfl⟩ ?_
      rw [← ex4]
      refine T_goto 2 (dk dtk_X9_skipBlanks 56 rfl) (by decide) ?_
      exact T_sub [0, 1] rfl h
    · have h := h.2 c3
      refine T_iload_n 2 (dk dtk_X9_skipBlanks 43 rfl) rfl rfl ?_
      refine T_bipush (v := 9) (dk dtk_X9_skipBlanks 44 rfl) (by decide +kernel) ?_
      refine T_icmp_eq 92 (dk dtk_X9_skipBlanks 45 rfl) (by decide) (fun c5 => ?_) (fun c5 => ?_)
      · have h := h.1 c5
        refine T_aload_n 0 (dk dtk_X9_skipBlanks 50 rfl) rfl rfl ?_
        refine T_dup (dk dtk_X9_skipBlanks 51 rfl) rfl ?_
        refine T_getI 20 8 (dk dtk_X9_skipBlanks 52 rfl) kfl_X9_35 kk_20 (kl_20 hq) (by decide) rfl ?_
        refine T_iconst (v := 1) (dk dtk_X9_skipBlanks 53 rfl) (by decide +kernel) ?_
        refine T_iadd (dk dtk_X9_skipBlanks 54 rfl) ?_
        obtain ⟨x6, ex6⟩ : ∃ z, z = si x 20 8 ((x.1 20 8) + 1) := ⟨_, rfl⟩
        have h := h x6 ex6
        refine T_putI 20 8 (dk dtk_X9_skipBlanks 55 rfl) kfl_X9_35 kk_20 (kl_20 hq) (by decide) rfl ⟨rfl, rfl⟩ ?_
        rw [← ex6]
        refine T_goto 2 (dk dtk_X9_skipBlanks 56 rfl) (by decide) ?_
        exact T_sub [0, 1] rfl h
      · have h := h.2 c5
        refine T_iload_n 2 (dk dtk_X9_skipBlanks 46 rfl) rfl rfl ?_
        refine T_bipush (v := 13) (dk dtk_X9_skipBlanks 47 rfl) (by decide +kernel) ?_
        refine T_icmp_eq 92 (dk dtk_X9_skipBlanks 48 rfl) (by decide) (fun c7 => ?_) (fun c7 => ?_)
        · have h := h.1 c7
          refine T_aload_n 0 (dk dtk_X9_skipBlanks 50 rfl) rfl rfl ?_
          refine T_dup (dk dtk_X9_skipBlanks 51 rfl) rfl ?_
          refine T_getI 20 8 (dk dtk_X9_skipBlanks 52 rfl) kfl_X9_35 kk_20 (kl_20 hq) (by decide) rfl ?_
          refine T_iconst (v := 1) (dk dtk_X9_skipBlanks 53 rfl) (by decide +kernel) ?_
          refine T_iadd (dk dtk_X9_skipBlanks 54 rfl) ?_
          obtain ⟨x8, ex8⟩ : ∃ z, z = si x 20 8 ((x.1 20 8) + 1) := ⟨_, rfl⟩
          have h := h x8 ex8
          refine T_putI 20 8 (dk dtk_X9_skipBlanks 55 rfl) kfl_X9_35 kk_20 (kl_20 hq) (by decide) rfl ⟨rfl, rfl⟩ ?_
          rw [← ex8]
          refine T_goto 2 (dk dtk_X9_skipBlanks 56 rfl) (by decide) ?_
          exact T_sub [0, 1] rfl h
        · have h := h.2 c7
          exact KT_vret (dk dtk_X9_skipBlanks 49 rfl) rfl h
set_option maxRecDepth 100000 in
theorem dtk_X9_cutOne : dck cX9_cutOne [(0, .aload_n 0, 1), (1, .getfield 35, 3), (4, .istore_n 1, 1), (5, .aload_n 0, 1), (6, .aload_n 0, 1), (7, .getfield 35, 3), (10, .invokevirtual 51, 3), (13, .istore_n 2, 1), (14, .iload_n 2, 1), (15, .invokestatic 55, 3), (18, .ifCond .eq 13, 3), (21, .aload_n 0, 1), (22, .invokevirtual 59, 3), (25, .aload_n 0, 1), (26, .iload_n 1, 1), (27, .invokevirtual 62, 3), (30, .ireturn, 1), (31, .iload_n 2, 1), (32, .invokestatic 65, 3), (35, .ifCond .eq 13, 3), (38, .aload_n 0, 1), (39, .invokevirtual 59, 3), (42, .aload_n 0, 1), (43, .iload_n 1, 1), (44, .invokevirtual 68, 3), (47, .ireturn, 1), (48, .aload_n 0, 1), (49, .iload_n 2, 1), (50, .aload_n 0, 1), (51, .aload_n 0, 1), (52, .getfield 35, 3), (55, .iconst 1, 1), (56, .iadd, 1), (57, .invokevirtual 51, 3), (60, .invokevirtual 71, 3), (63, .ireturn, 1)] = true := by decide +kernel
set_option maxRecDepth 100000 in
set_option maxHeartbeats 4000000 in
theorem kg_X9_cutOne_0 {G : kG} {q : kP} {d : Nat} {x : gd} {P : Option gv → gd → Prop} (hq : kV q) 
    (h : KT G q d zk_X9_byteAt 0 [(0, vr 20), (1, vi (x.1 20 8))] [] x (ri (fun r2 x1 => KT G q d zk_X9_isLetter 0 [(0, vi r2)] [] x1 (ri (fun r4 x3 => ((r4 = (0 : Int32) → KT G q d zk_X9_isDigit 0 [(0, vi r2)] [] x3 (ri (fun r7 x6 => ((r7 = (0 : Int32) → KT G q d zk_X9_byteAt 0 [(0, vr 20), (1, vi ((x6.1 20 8) + 1))] [] x6 (ri (fun r10 x9 => KT G q d zk_X9_sign 0 [(0, vr 20), (1, vi r2), (2, vi r10)] [] x9 (ri (fun r12 x11 => P (some (vi r12)) x11))))) ∧ (¬ (r7 = (0 : Int32)) → KT G q d zk_X9_passLettersAndDigits 0 [(0, vr 20)] [] x6 (rv (fun x13 => KT G q d zk_X9_wholeOrBad 0 [(0, vr 20), (1, vi (x.1 20 8))] [] x13 (ri (fun r15 x14 => P (some (vi r15)) x14))))))))) ∧ (¬ (r4 = (0 : Int32)) → KT G q d zk_X9_passLettersAndDigits 0 [(0, vr 20)] [] x3 (rv (fun x16 => KT G q d zk_X9_nameOrWord 0 [(0, vr 20), (1, vi (x.1 20 8))] [] x16 (ri (fun r18 x17 => P (some (vi r18)) x17))))))))))) :
    KT G q (d + 1) zk_X9_cutOne 0 [(0, vr 20)] [] x P := by
  refine T_aload_n 0 (dk dtk_X9_cutOne 0 rfl) rfl rfl ?_
  refine T_getI 20 8 (dk dtk_X9_cutOne 1 rfl) kfl_X9_35 kk_20 (kl_20 hq) (by decide) rfl ?_
  refine T_istore_n (lv2 := [(1, vi (x.1 20 8)), (0, vr 20)]) (dk dtk_X9_cutOne 2 rfl) rfl (by decide) rfl ?_
  refine T_aload_n 1 (dk dtk_X9_cutOne 3 rfl) rfl rfl ?_
  refine T_aload_n 1 (dk dtk_X9_cutOne 4 rfl) rfl rfl ?_
  refine T_getI 20 8 (dk dtk_X9_cutOne 5 rfl) kfl_X9_35 kk_20 (kl_20 hq) (by decide) rfl ?_
  refine KC_Vi [vi (x.1 20 8)] [] rfl (dk dtk_X9_cutOne 6 rfl) kcv_X9_51 rfl kk_20 rfl (kl_20 hq) (Nat.le_of_ble_eq_true rfl) (Nat.le_of_ble_eq_true rfl) (gok_i (av_c rfl (av_c (gkr (kl_20 hq)) av_n)) as_n) rfl h (fun r2 x1 h => ?_)
  refine T_istore_n (lv2 := [(2, vi r2), (1, vi (x.1 20 8)), (0, vr 20)]) (dk dtk_X9_cutOne 7 rfl) rfl (by decide) rfl ?_
  refine T_iload_n 0 (dk dtk_X9_cutOne 8 rfl) rfl rfl ?_
  refine KC_Si [vi r2] [] rfl (dk dtk_X9_cutOne 9 rfl) kcs_X9_55 rfl (Nat.le_of_ble_eq_true rfl) (Nat.le_of_ble_eq_true rfl) (gok_i (av_c rfl (av_c rfl (av_c (gkr (kl_20 hq)) av_n))) as_n) rfl h (fun r4 x3 h => ?_)
  refine T_if_eq 31 (dk dtk_X9_cutOne 10 rfl) (by decide) (fun c5 => ?_) (fun c5 => ?_)
  · have h := h.1 c5
    refine T_iload_n 0 (dk dtk_X9_cutOne 17 rfl) rfl rfl ?_
    refine KC_Si [vi r2] [] rfl (dk dtk_X9_cutOne 18 rfl) kcs_X9_65 rfl (Nat.le_of_ble_eq_true rfl) (Nat.le_of_ble_eq_true rfl) (gok_i (av_c rfl (av_c rfl (av_c (gkr (kl_20 hq)) av_n))) as_n) rfl h (fun r7 x6 h => ?_)
    refine T_if_eq 48 (dk dtk_X9_cutOne 19 rfl) (by decide) (fun c8 => ?_) (fun c8 => ?_)
    · have h := h.1 c8
      refine T_aload_n 2 (dk dtk_X9_cutOne 26 rfl) rfl rfl ?_
      refine T_iload_n 0 (dk dtk_X9_cutOne 27 rfl) rfl rfl ?_
      refine T_aload_n 2 (dk dtk_X9_cutOne 28 rfl) rfl rfl ?_
      refine T_aload_n 2 (dk dtk_X9_cutOne 29 rfl) rfl rfl ?_
      refine T_getI 20 8 (dk dtk_X9_cutOne 30 rfl) kfl_X9_35 kk_20 (kl_20 hq) (by decide) rfl ?_
      refine T_iconst (v := 1) (dk dtk_X9_cutOne 31 rfl) (by decide +kernel) ?_
      refine T_iadd (dk dtk_X9_cutOne 32 rfl) ?_
      refine T_sub (lv2 := []) [] rfl ?_
      refine KC_Vi [vi ((x6.1 20 8) + 1)] [vi r2, vr 20] rfl (dk dtk_X9_cutOne 33 rfl) kcv_X9_51 rfl kk_20 rfl (kl_20 hq) (Nat.le_of_ble_eq_true rfl) (Nat.le_of_ble_eq_true rfl) (gok_i av_n (as_c rfl (as_c (gkr (kl_20 hq)) as_n))) rfl h (fun r10 x9 h => ?_)
      refine KC_Vi [vi r2, vi r10] [] rfl (dk dtk_X9_cutOne 34 rfl) kcv_X9_71 rfl kk_20 rfl (kl_20 hq) (Nat.le_of_ble_eq_true rfl) (Nat.le_of_ble_eq_true rfl) (gok_i av_n as_n) rfl h (fun r12 x11 h => ?_)
      exact KT_iret (dk dtk_X9_cutOne 35 rfl) rfl rfl h
    · have h := h.2 c8
      refine T_aload_n 2 (dk dtk_X9_cutOne 20 rfl) rfl rfl ?_
      refine T_sub (lv2 := [(1, vi (x.1 20 8)), (0, vr 20)]) [1, 2] rfl ?_
      refine KC_Vv [] [] rfl (dk dtk_X9_cutOne 21 rfl) kcv_X9_59 rfl kk_20 rfl (kl_20 hq) (Nat.le_of_ble_eq_true rfl) (Nat.le_of_ble_eq_true rfl) (gok_i (av_c rfl (av_c (gkr (kl_20 hq)) av_n)) as_n) rfl h (fun x13 h => ?_)
      refine T_aload_n 1 (dk dtk_X9_cutOne 22 rfl) rfl rfl ?_
      refine T_iload_n 0 (dk dtk_X9_cutOne 23 rfl) rfl rfl ?_
      refine T_sub (lv2 := []) [] rfl ?_
      refine KC_Vi [vi (x.1 20 8)] [] rfl (dk dtk_X9_cutOne 24 rfl) kcv_X9_68 rfl kk_20 rfl (kl_20 hq) (Nat.le_of_ble_eq_true rfl) (Nat.le_of_ble_eq_true rfl) (gok_i av_n as_n) rfl h (fun r15 x14 h => ?_)
      exact KT_iret (dk dtk_X9_cutOne 25 rfl) rfl rfl h
  · have h := h.2 c5
    refine T_aload_n 2 (dk dtk_X9_cutOne 11 rfl) rfl rfl ?_
    refine T_sub (lv2 := [(1, vi (x.1 20 8)), (0, vr 20)]) [1, 2] rfl ?_
    refine KC_Vv [] [] rfl (dk dtk_X9_cutOne 12 rfl) kcv_X9_59 rfl kk_20 rfl (kl_20 hq) (Nat.le_of_ble_eq_true rfl) (Nat.le_of_ble_eq_true rfl) (gok_i (av_c rfl (av_c (gkr (kl_20 hq)) av_n)) as_n) rfl h (fun x16 h => ?_)
    refine T_aload_n 1 (dk dtk_X9_cutOne 13 rfl) rfl rfl ?_
    refine T_iload_n 0 (dk dtk_X9_cutOne 14 rfl) rfl rfl ?_
    refine T_sub (lv2 := []) [] rfl ?_
    refine KC_Vi [vi (x.1 20 8)] [] rfl (dk dtk_X9_cutOne 15 rfl) kcv_X9_62 rfl kk_20 rfl (kl_20 hq) (Nat.le_of_ble_eq_true rfl) (Nat.le_of_ble_eq_true rfl) (gok_i av_n as_n) rfl h (fun r18 x17 h => ?_)
    exact KT_iret (dk dtk_X9_cutOne 16 rfl) rfl rfl h
set_option maxRecDepth 100000 in
theorem dtk_X9_passLettersAndDigits : dck cX9_passLettersAndDigits [(0, .aload_n 0, 1), (1, .getfield 35, 3), (4, .istore_n 1, 1), (5, .aload_n 0, 1), (6, .getfield 35, 3), (9, .aload_n 0, 1), (10, .getfield 31, 3), (13, .if_icmp .ge 42, 3), (16, .aload_n 0, 1), (17, .aload_n 0, 1), (18, .getfield 35, 3), (21, .invokevirtual 51, 3), (24, .istore_n 2, 1), (25, .iload_n 2, 1), (26, .invokestatic 55, 3), (29, .ifCond .ne 13, 3), (32, .iload_n 2, 1), (33, .invokestatic 65, 3), (36, .ifCond .ne 6, 3), (39, .goto 16, 3), (42, .aload_n 0, 1), (43, .dup, 1), (44, .getfield 35, 3), (47, .iconst 1, 1), (48, .iadd, 1), (49, .putfield 35, 3), (52, .goto (-47), 3), (55, .aload_n 0, 1), (56, .getfield 25, 3), (59, .aload_n 0, 1), (60, .getfield 41, 3), (63, .aload_n 0, 1), (64, .getfield 35, 3), (67, .iload_n 1, 1), (68, .isub, 1), (69, .iastore, 1), (70, .return_, 1)] = true := by decide +kernel
set_option maxRecDepth 100000 in
set_option maxHeartbeats 4000000 in
theorem kg_X9_passLettersAndDigits_0 {G : kG} {q : kP} {d : Nat} {x : gd} {P : Option gv → gd → Prop} (hq : kV q) 
    (h : KT G q (d + 1) zk_X9_passLettersAndDigits 5 [(0, vr 20), (1, vi (x.1 20 8))] [] x P) :
    KT G q (d + 1) zk_X9_passLettersAndDigits 0 [(0, vr 20)] [] x P := by
  refine T_aload_n 0 (dk dtk_X9_passLettersAndDigits 0 rfl) rfl rfl ?_
  refine T_getI 20 8 (dk dtk_X9_passLettersAndDigits 1 rfl) kfl_X9_35 kk_20 (kl_20 hq) (by decide) rfl ?_
  refine T_istore_n (lv2 := [(1, vi (x.1 20 8)), (0, vr 20)]) (dk dtk_X9_passLettersAndDigits 2 rfl) rfl (by decide) rfl ?_
  exact T_sub [1, 0] rfl h
set_option maxRecDepth 100000 in
set_option maxHeartbeats 4000000 in
theorem kg_X9_passLettersAndDigits_5 {G : kG} {q : kP} {d : Nat} {x : gd} {P : Option gv → gd → Prop} (hq : kV q) (l1 : Int32)
    (h : (((x.1 20 1) ≤ (x.1 20 8) → vp_in (x.1 20 7) 702 ∧ (∀ x3 : gd, x3 = si x 26 (x.1 20 7 : Int32).toNatClampNeg ((x.1 20 8) - l1) → P none x3)) ∧ (¬ ((x.1 20 1) ≤ (x.1 20 8)) → KT G q d zk_X9_byteAt 0 [(0, vr 20), (1, vi (x.1 20 8))] [] x (ri (fun r5 x4 => KT G q d zk_X9_isLetter 0 [(0, vi r5)] [] x4 (ri (fun r7 x6 => ((¬ (r7 = (0 : Int32)) → (∀ x9 : gd, x9 = si x6 20 8 ((x6.1 20 8) + 1) → KT G q (d + 1) zk_X9_passLettersAndDigits 5 [(0, vr 20), (1, vi l1)] [] x9 P)) ∧ (r7 = (0 : Int32) → KT G q d zk_X9_isDigit 0 [(0, vi r5)] [] x6 (ri (fun r11 x10 => ((¬ (r11 = (0 : Int32)) → (∀ x13 : gd, x13 = si x10 20 8 ((x10.1 20 8) + 1) → KT G q (d + 1) zk_X9_passLettersAndDigits 5 [(0, vr 20), (1, vi l1)] [] x13 P)) ∧ (r11 = (0 : Int32) → vp_in (x10.1 20 7) 702 ∧ (∀ x15 : gd, x15 = si x10 26 (x10.1 20 7 : Int32).toNatClampNeg ((x10.1 20 8) - l1) → P none x15)))))))))))))) :
    KT G q (d + 1) zk_X9_passLettersAndDigits 5 [(0, vr 20), (1, vi l1)] [] x P := by
  refine T_aload_n 0 (dk dtk_X9_passLettersAndDigits 3 rfl) rfl rfl ?_
  refine T_getI 20 8 (dk dtk_X9_passLettersAndDigits 4 rfl) kfl_X9_35 kk_20 (kl_20 hq) (by decide) rfl ?_
  refine T_aload_n 0 (dk dtk_X9_passLettersAndDigits 5 rfl) rfl rfl ?_
  refine T_getI 20 1 (dk dtk_X9_passLettersAndDigits 6 rfl) kfl_X9_31 kk_20 (kl_20 hq) (by decide) rfl ?_
  refine T_icmp_ge 55 (dk dtk_X9_passLettersAndDigits 7 rfl) (by decide) (fun c1 => ?_) (fun c1 => ?_)
  · have h := h.1 c1
    refine T_aload_n 0 (dk dtk_X9_passLettersAndDigits 27 rfl) rfl rfl ?_
    refine T_getR 20 5 26 (dk dtk_X9_passLettersAndDigits 28 rfl) kfl_X9_25 kk_20 (kl_20 hq) (by decide) rfl kr_20_5 ?_
    refine T_aload_n 0 (dk dtk_X9_passLettersAndDigits 29 rfl) rfl rfl ?_
    refine T_getI 20 7 (dk dtk_X9_passLettersAndDigits 30 rfl) kfl_X9_41 kk_20 (kl_20 hq) (by decide) rfl ?_
    refine T_aload_n 0 (dk dtk_X9_passLettersAndDigits 31 rfl) rfl rfl ?_
    refine T_getI 20 8 (dk dtk_X9_passLettersAndDigits 32 rfl) kfl_X9_35 kk_20 (kl_20 hq) (by decide) rfl ?_
    refine T_iload_n 1 (dk dtk_X9_passLettersAndDigits 33 rfl) rfl rfl ?_
    refine T_isub (dk dtk_X9_passLettersAndDigits 34 rfl) ?_
    obtain ⟨h2, h⟩ := h
    obtain ⟨x3, ex3⟩ : ∃ z, z = si x 26 (x.1 20 7 : Int32).toNatClampNeg ((x.1 20 8) - l1) := ⟨_, rfl⟩
    have h := h x3 ex3
    refine T_iast 26 702 (dk dtk_X9_passLettersAndDigits 35 rfl) kk_26 (kl_26 hq) h2 ?_
    rw [← ex3]
    exact KT_vret (dk dtk_X9_passLettersAndDigits 36 rfl) rfl h
  · have h := h.2 c1
    refine T_aload_n 0 (dk dtk_X9_passLettersAndDigits 8 rfl) rfl rfl ?_
    refine T_aload_n 0 (dk dtk_X9_passLettersAndDigits 9 rfl) rfl rfl ?_
    refine T_getI 20 8 (dk dtk_X9_passLettersAndDigits 10 rfl) kfl_X9_35 kk_20 (kl_20 hq) (by decide) rfl ?_
    refine KC_Vi [vi (x.1 20 8)] [] rfl (dk dtk_X9_passLettersAndDigits 11 rfl) kcv_X9_51 rfl kk_20 rfl (kl_20 hq) (Nat.le_of_ble_eq_true rfl) (Nat.le_of_ble_eq_true rfl) (gok_i (av_c (gkr (kl_20 hq)) (av_c rfl av_n)) as_n) rfl h (fun r5 x4 h => ?_)
    refine T_istore_n (lv2 := [(2, vi r5), (0, vr 20), (1, vi l1)]) (dk dtk_X9_passLettersAndDigits 12 rfl) rfl (by decide) rfl ?_
    refine T_iload_n 0 (dk dtk_X9_passLettersAndDigits 13 rfl) rfl rfl ?_
    refine KC_Si [vi r5] [] rfl (dk dtk_X9_passLettersAndDigits 14 rfl) kcs_X9_55 rfl (Nat.le_of_ble_eq_true rfl) (Nat.le_of_ble_eq_true rfl) (gok_i (av_c rfl (av_c (gkr (kl_20 hq)) (av_c rfl av_n))) as_n) rfl h (fun r7 x6 h => ?_)
    refine T_if_ne 42 (dk dtk_X9_passLettersAndDigits 15 rfl) (by decide) (fun c8 => ?_) (fun c8 => ?_)
    · have h := h.1 c8
      refine T_aload_n 1 (dk dtk_X9_passLettersAndDigits 20 rfl) rfl rfl ?_
      refine T_dup (dk dtk_X9_passLettersAndDigits 21 rfl) rfl ?_
      refine T_getI 20 8 (dk dtk_X9_passLettersAndDigits 22 rfl) kfl_X9_35 kk_20 (kl_20 hq) (by decide) rfl ?_
      refine T_iconst (v := 1) (dk dtk_X9_passLettersAndDigits 23 rfl) (by decide +kernel) ?_
      refine T_iadd (dk dtk_X9_passLettersAndDigits 24 rfl) ?_
      obtain ⟨x9, ex9⟩ : ∃ z, z = si x6 20 8 ((x6.1 20 8) + 1) := ⟨_, rfl⟩
      have h := h x9 ex9
      refine T_putI 20 8 (dk dtk_X9_passLettersAndDigits 25 rfl) kfl_X9_35 kk_20 (kl_20 hq) (by decide) rfl ⟨rfl, rfl⟩ ?_
      rw [← ex9]
      refine T_goto 5 (dk dtk_X9_passLettersAndDigits 26 rfl) (by decide) ?_
      exact T_sub [1, 2] rfl h
    · have h := h.2 c8
      refine T_iload_n 0 (dk dtk_X9_passLettersAndDigits 16 rfl) rfl rfl ?_
      refine T_sub (lv2 := [(0, vr 20), (1, vi l1)]) [1, 2] rfl ?_
      refine KC_Si [vi r5] [] rfl (dk dtk_X9_passLettersAndDigits 17 rfl) kcs_X9_65 rfl (Nat.le_of_ble_eq_true rfl) (Nat.le_of_ble_eq_true rfl) (gok_i (av_c (gkr (kl_20 hq)) (av_c rfl av_n)) as_n) rfl h (fun r11 x10 h => ?_)
      refine T_if_ne 42 (dk dtk_X9_passLettersAndDigits 18 rfl) (by decide) (fun c12 => ?_) (fun c12 => ?_)
      · have h := h.1 c12
        refine T_aload_n 0 (dk dtk_X9_passLettersAndDigits 20 rfl) rfl rfl ?_
        refine T_dup (dk dtk_X9_passLettersAndDigits 21 rfl) rfl ?_
        refine T_getI 20 8 (dk dtk_X9_passLettersAndDigits 22 rfl) kfl_X9_35 kk_20 (kl_20 hq) (by decide) rfl ?_
        refine T_iconst (v := 1) (dk dtk_X9_passLettersAndDigits 23 rfl) (by decide +kernel) ?_
        refine T_iadd (dk dtk_X9_passLettersAndDigits 24 rfl) ?_
        obtain ⟨x13, ex13⟩ : ∃ z, z = si x10 20 8 ((x10.1 20 8) + 1) := ⟨_, rfl⟩
        have h := h x13 ex13
        refine T_putI 20 8 (dk dtk_X9_passLettersAndDigits 25 rfl) kfl_X9_35 kk_20 (kl_20 hq) (by decide) rfl ⟨rfl, rfl⟩ ?_
        rw [← ex13]
        refine T_goto 5 (dk dtk_X9_passLettersAndDigits 26 rfl) (by decide) ?_
        exact h
      · have h := h.2 c12
        refine T_goto 55 (dk dtk_X9_passLettersAndDigits 19 rfl) (by decide) ?_
        refine T_aload_n 0 (dk dtk_X9_passLettersAndDigits 27 rfl) rfl rfl ?_
        refine T_getR 20 5 26 (dk dtk_X9_passLettersAndDigits 28 rfl) kfl_X9_25 kk_20 (kl_20 hq) (by decide) rfl kr_20_5 ?_
        refine T_aload_n 0 (dk dtk_X9_passLettersAndDigits 29 rfl) rfl rfl ?_
        refine T_getI 20 7 (dk dtk_X9_passLettersAndDigits 30 rfl) kfl_X9_41 kk_20 (kl_20 hq) (by decide) rfl ?_
        refine T_aload_n 0 (dk dtk_X9_passLettersAndDigits 31 rfl) rfl rfl ?_
        refine T_getI 20 8 (dk dtk_X9_passLettersAndDigits 32 rfl) kfl_X9_35 kk_20 (kl_20 hq) (by decide) rfl ?_
        refine T_iload_n 1 (dk dtk_X9_passLettersAndDigits 33 rfl) rfl rfl ?_
        refine T_isub (dk dtk_X9_passLettersAndDigits 34 rfl) ?_
        obtain ⟨h14, h⟩ := h
        obtain ⟨x15, ex15⟩ : ∃ z, z = si x10 26 (x10.1 20 7 : Int32).toNatClampNeg ((x10.1 20 8) - l1) := ⟨_, rfl⟩
        have h := h x15 ex15
        refine T_iast 26 702 (dk dtk_X9_passLettersAndDigits 35 rfl) kk_26 (kl_26 hq) h14 ?_
        rw [← ex15]
        exact KT_vret (dk dtk_X9_passLettersAndDigits 36 rfl) rfl h
end
section
set_option maxRecDepth 100000 in
theorem dtk_X9_nameOrWord : dck cX9_nameOrWord [(0, .aload_n 0, 1), (1, .getfield 25, 3), (4, .aload_n 0, 1), (5, .getfield 41, 3), (8, .iaload, 1), (9, .bipush 12, 2), (11, .if_icmp .le 5, 3), (14, .iconst 1, 1), (15, .ireturn, 1), (16, .iconst 0, 1), (17, .istore_n 2, 1), (18, .iload_n 2, 1), (19, .bipush 32, 2), (21, .if_icmp .ge 32, 3), (24, .aload_n 0, 1), (25, .iload_n 2, 1), (26, .iload_n 1, 1), (27, .aload_n 0, 1), (28, .getfield 25, 3), (31, .aload_n 0, 1), (32, .getfield 41, 3), (35, .iaload, 1), (36, .invokevirtual 75, 3), (39, .ifCond .eq 8, 3), (42, .bipush 40, 2), (44, .iload_n 2, 1), (45, .iadd, 1), (46, .ireturn, 1), (47, .iinc 2 1, 3), (50, .goto (-32), 3), (53, .iconst 0, 1), (54, .istore_n 2, 1), (55, .iconst 0, 1), (56, .istore_n 3, 1), (57, .iload_n 3, 1), (58, .aload_n 0, 1), (59, .getfield 25, 3), (62, .aload_n 0, 1), (63, .getfield 41, 3), (66, .iaload, 1), (67, .if_icmp .ge 22, 3), (70, .iload_n 2, 1), (71, .bipush 31, 2), (73, .imul, 1), (74, .aload_n 0, 1), (75, .iload_n 1, 1), (76, .iload_n 3, 1), (77, .iadd, 1), (78, .invokevirtual 51, 3), (81, .iadd, 1), (82, .istore_n 2, 1), (83, .iinc 3 1, 3), (86, .goto (-29), 3), (89, .aload_n 0, 1), (90, .getfield 28, 3), (93, .aload_n 0, 1), (94, .getfield 41, 3), (97, .iload_n 2, 1), (98, .iastore, 1), (99, .iconst 2, 1), (100, .ireturn, 1)] = true := by decide +kernel
set_option maxRecDepth 100000 in
set_option maxHeartbeats 4000000 in
theorem kg_X9_nameOrWord_0 {G : kG} {q : kP} {d : Nat} {x : gd} {P : Option gv → gd → Prop} (hq : kV q) (l1 : Int32)
    (h : vp_in (x.1 20 7) 702 ∧ (((x.1 26 (x.1 20 7 : Int32).toNatClampNeg) ≤ (12 : Int32) → KT G q (d + 1) zk_X9_nameOrWord 18 [(0, vr 20), (1, vi l1), (2, vi 0)] [] x P) ∧ (¬ ((x.1 26 (x.1 20 7 : Int32).toNatClampNeg) ≤ (12 : Int32)) → P (some (vi 1)) x))) :
    KT G q (d + 1) zk_X9_nameOrWord 0 [(0, vr 20), (1, vi l1)] [] x P := by
  refine T_aload_n 0 (dk dtk_X9_nameOrWord 0 rfl) rfl rfl ?_
  refine T_getR 20 5 26 (dk dtk_X9_nameOrWord 1 rfl) kfl_X9_25 kk_20 (kl_20 hq) (by decide) rfl kr_20_5 ?_
  refine T_aload_n 0 (dk dtk_X9_nameOrWord 2 rfl) rfl rfl ?_
  refine T_getI 20 7 (dk dtk_X9_nameOrWord 3 rfl) kfl_X9_41 kk_20 (kl_20 hq) (by decide) rfl ?_
  obtain ⟨h1, h⟩ := h
  refine T_iald 26 702 (dk dtk_X9_nameOrWord 4 rfl) kk_26 (kl_26 hq) h1 ?_
  refine T_bipush (v := 12) (dk dtk_X9_nameOrWord 5 rfl) (by decide +kernel) ?_
  refine T_icmp_le 16 (dk dtk_X9_nameOrWord 6 rfl) (by decide) (fun c2 => ?_) (fun c2 => ?_)
  · have h := h.1 c2
    refine T_iconst (v := 0) (dk dtk_X9_nameOrWord 9 rfl) (by decide +kernel) ?_
    refine T_istore_n (lv2 := [(2, vi 0), (0, vr 20), (1, vi l1)]) (dk dtk_X9_nameOrWord 10 rfl) rfl (by decide) rfl ?_
    exact T_sub [1, 2, 0] rfl h
  · have h := h.2 c2
    refine T_iconst (v := 1) (dk dtk_X9_nameOrWord 7 rfl) (by decide +kernel) ?_
    exact KT_iret (dk dtk_X9_nameOrWord 8 rfl) rfl rfl h
set_option maxRecDepth 100000 in
set_option maxHeartbeats 4000000 in
theorem kg_X9_nameOrWord_18 {G : kG} {q : kP} {d : Nat} {x : gd} {P : Option gv → gd → Prop} (hq : kV q) (l1 : Int32) (l2 : Int32)
    (h : (((32 : Int32) ≤ l2 → KT G q (d + 1) zk_X9_nameOrWord 57 [(0, vr 20), (1, vi l1), (2, vi 0), (3, vi 0)] [] x P) ∧ (¬ ((32 : Int32) ≤ l2) → vp_in (x.1 20 7) 702 ∧ KT G q d zk_X9_isWord 0 [(0, vr 20), (1, vi l2), (2, vi l1), (3, vi (x.1 26 (x.1 20 7 : Int32).toNatClampNeg))] [] x (ri (fun r4 x3 => ((r4 = (0 : Int32) → KT G q (d + 1) zk_X9_nameOrWord 18 [(0, vr 20), (1, vi l1), (2, vi (l2 + 1))] [] x3 P) ∧ (¬ (r4 = (0 : Int32)) → P (some (vi (40 + l2))) x3))))))) :
    KT G q (d + 1) zk_X9_nameOrWord 18 [(0, vr 20), (1, vi l1), (2, vi l2)] [] x P := by
  refine T_iload_n 2 (dk dtk_X9_nameOrWord 11 rfl) rfl rfl ?_
  refine T_bipush (v := 32) (dk dtk_X9_nameOrWord 12 rfl) (by decide +kernel) ?_
  refine T_icmp_ge 53 (dk dtk_X9_nameOrWord 13 rfl) (by decide) (fun c1 => ?_) (fun c1 => ?_)
  · have h := h.1 c1
    refine T_iconst (v := 0) (dk dtk_X9_nameOrWord 30 rfl) (by decide +kernel) ?_
    refine T_istore_n (lv2 := [(2, vi 0), (0, vr 20), (1, vi l1)]) (dk dtk_X9_nameOrWord 31 rfl) rfl (by decide) rfl ?_
    refine T_iconst (v := 0) (dk dtk_X9_nameOrWord 32 rfl) (by decide +kernel) ?_
    refine T_istore_n (lv2 := [(3, vi 0), (2, vi 0), (0, vr 20), (1, vi l1)]) (dk dtk_X9_nameOrWord 33 rfl) rfl (by decide) rfl ?_
    exact T_sub [2, 3, 1, 0] rfl h
  · have h := h.2 c1
    refine T_aload_n 0 (dk dtk_X9_nameOrWord 14 rfl) rfl rfl ?_
    refine T_iload_n 2 (dk dtk_X9_nameOrWord 15 rfl) rfl rfl ?_
    refine T_iload_n 1 (dk dtk_X9_nameOrWord 16 rfl) rfl rfl ?_
    refine T_aload_n 0 (dk dtk_X9_nameOrWord 17 rfl) rfl rfl ?_
    refine T_getR 20 5 26 (dk dtk_X9_nameOrWord 18 rfl) kfl_X9_25 kk_20 (kl_20 hq) (by decide) rfl kr_20_5 ?_
    refine T_aload_n 0 (dk dtk_X9_nameOrWord 19 rfl) rfl rfl ?_
    refine T_getI 20 7 (dk dtk_X9_nameOrWord 20 rfl) kfl_X9_41 kk_20 (kl_20 hq) (by decide) rfl ?_
    obtain ⟨h2, h⟩ := h
    refine T_iald 26 702 (dk dtk_X9_nameOrWord 21 rfl) kk_26 (kl_26 hq) h2 ?_
    refine KC_Vi [vi l2, vi l1, vi (x.1 26 (x.1 20 7 : Int32).toNatClampNeg)] [] rfl (dk dtk_X9_nameOrWord 22 rfl) kcv_X9_75 rfl kk_20 rfl (kl_20 hq) (Nat.le_of_ble_eq_true rfl) (Nat.le_of_ble_eq_true rfl) (gok_i (av_c (gkr (kl_20 hq)) (av_c rfl (av_c rfl av_n))) as_n) rfl h (fun r4 x3 h => ?_)
    refine T_if_eq 47 (dk dtk_X9_nameOrWord 23 rfl) (by decide) (fun c5 => ?_) (fun c5 => ?_)
    · have h := h.1 c5
      refine T_iinc (v := l2 + 1) (lv2 := [(2, vi (l2 + 1)), (0, vr 20), (1, vi l1)]) 2 (dk dtk_X9_nameOrWord 28 rfl) rfl rfl (by decide) rfl ?_
      refine T_goto 18 (dk dtk_X9_nameOrWord 29 rfl) (by decide) ?_
      exact T_sub [1, 2, 0] rfl h
    · have h := h.2 c5
      refine T_bipush (v := 40) (dk dtk_X9_nameOrWord 24 rfl) (by decide +kernel) ?_
      refine T_iload_n 2 (dk dtk_X9_nameOrWord 25 rfl) rfl rfl ?_
      refine T_iadd (dk dtk_X9_nameOrWord 26 rfl) ?_
      exact KT_iret (dk dtk_X9_nameOrWord 27 rfl) rfl rfl h
set_option maxRecDepth 100000 in
set_option maxHeartbeats 4000000 in
theorem kg_X9_nameOrWord_57 {G : kG} {q : kP} {d : Nat} {x : gd} {P : Option gv → gd → Prop} (hq : kV q) (l1 : Int32) (l2 : Int32) (l3 : Int32)
    (h : vp_in (x.1 20 7) 702 ∧ (((x.1 26 (x.1 20 7 : Int32).toNatClampNeg) ≤ l3 → vp_in (x.1 20 7) 702 ∧ (∀ x4 : gd, x4 = si x 27 (x.1 20 7 : Int32).toNatClampNeg l2 → P (some (vi 2)) x4)) ∧ (¬ ((x.1 26 (x.1 20 7 : Int32).toNatClampNeg) ≤ l3) → KT G q d zk_X9_byteAt 0 [(0, vr 20), (1, vi (l1 + l3))] [] x (ri (fun r6 x5 => KT G q (d + 1) zk_X9_nameOrWord 57 [(0, vr 20), (1, vi l1), (2, vi ((l2 * 31) + r6)), (3, vi (l3 + 1))] [] x5 P))))) :
    KT G q (d + 1) zk_X9_nameOrWord 57 [(0, vr 20), (1, vi l1), (2, vi l2), (3, vi l3)] [] x P := by
  refine T_iload_n 3 (dk dtk_X9_nameOrWord 34 rfl) rfl rfl ?_
  refine T_aload_n 0 (dk dtk_X9_nameOrWord 35 rfl) rfl rfl ?_
  refine T_getR 20 5 26 (dk dtk_X9_nameOrWord 36 rfl) kfl_X9_25 kk_20 (kl_20 hq) (by decide) rfl kr_20_5 ?_
  refine T_aload_n 0 (dk dtk_X9_nameOrWord 37 rfl) rfl rfl ?_
  refine T_getI 20 7 (dk dtk_X9_nameOrWord 38 rfl) kfl_X9_41 kk_20 (kl_20 hq) (by decide) rfl ?_
  obtain ⟨h1, h⟩ := h
  refine T_iald 26 702 (dk dtk_X9_nameOrWord 39 rfl) kk_26 (kl_26 hq) h1 ?_
  refine T_icmp_ge 89 (dk dtk_X9_nameOrWord 40 rfl) (by decide) (fun c2 => ?_) (fun c2 => ?_)
  · have h := h.1 c2
    refine T_aload_n 0 (dk dtk_X9_nameOrWord 53 rfl) rfl rfl ?_
    refine T_getR 20 6 27 (dk dtk_X9_nameOrWord 54 rfl) kfl_X9_28 kk_20 (kl_20 hq) (by decide) rfl kr_20_6 ?_
    refine T_aload_n 0 (dk dtk_X9_nameOrWord 55 rfl) rfl rfl ?_
    refine T_getI 20 7 (dk dtk_X9_nameOrWord 56 rfl) kfl_X9_41 kk_20 (kl_20 hq) (by decide) rfl ?_
    refine T_iload_n 2 (dk dtk_X9_nameOrWord 57 rfl) rfl rfl ?_
    obtain ⟨h3, h⟩ := h
    obtain ⟨x4, ex4⟩ : ∃ z, z = si x 27 (x.1 20 7 : Int32).toNatClampNeg l2 := ⟨_, rfl⟩
    have h := h x4 ex4
    refine T_iast 27 702 (dk dtk_X9_nameOrWord 58 rfl) kk_27 (kl_27 hq) h3 ?_
    rw [← ex4]
    refine T_iconst (v := 2) (dk dtk_X9_nameOrWord 59 rfl) (by decide +kernel) ?_
    exact KT_iret (dk dtk_X9_nameOrWord 60 rfl) rfl rfl h
  · have h := h.2 c2
    refine T_iload_n 2 (dk dtk_X9_nameOrWord 41 rfl) rfl rfl ?_
    refine T_bipush (v := 31) (dk dtk_X9_nameOrWord 42 rfl) (by decide +kernel) ?_
    refine T_imul (dk dtk_X9_nameOrWord 43 rfl) ?_
    refine T_aload_n 0 (dk dtk_X9_nameOrWord 44 rfl) rfl rfl ?_
    refine T_iload_n 1 (dk dtk_X9_nameOrWord 45 rfl) rfl rfl ?_
    refine T_iload_n 3 (dk dtk_X9_nameOrWord 46 rfl) rfl rfl ?_
    refine T_iadd (dk dtk_X9_nameOrWord 47 rfl) ?_
    refine T_sub (lv2 := [(0, vr 20), (1, vi l1), (3, vi l3)]) [0, 1, 3] rfl ?_
    refine KC_Vi [vi (l1 + l3)] [vi (l2 * 31)] rfl (dk dtk_X9_nameOrWord 48 rfl) kcv_X9_51 rfl kk_20 rfl (kl_20 hq) (Nat.le_of_ble_eq_true rfl) (Nat.le_of_ble_eq_true rfl) (gok_i (av_c (gkr (kl_20 hq)) (av_c rfl (av_c rfl av_n))) (as_c rfl as_n)) rfl h (fun r6 x5 h => ?_)
    refine T_iadd (dk dtk_X9_nameOrWord 49 rfl) ?_
    refine T_istore_n (lv2 := [(2, vi ((l2 * 31) + r6)), (0, vr 20), (1, vi l1), (3, vi l3)]) (dk dtk_X9_nameOrWord 50 rfl) rfl (by decide) rfl ?_
    refine T_iinc (v := l3 + 1) (lv2 := [(3, vi (l3 + 1)), (2, vi ((l2 * 31) + r6)), (0, vr 20), (1, vi l1)]) 3 (dk dtk_X9_nameOrWord 51 rfl) rfl rfl (by decide) rfl ?_
    refine T_goto 57 (dk dtk_X9_nameOrWord 52 rfl) (by decide) ?_
    exact T_sub [2, 3, 1, 0] rfl h
set_option maxRecDepth 100000 in
theorem dtk_X9_isWord : dck cX9_isWord [(0, .iload_n 3, 1), (1, .bipush 7, 2), (3, .if_icmp .le 5, 3), (6, .iconst 0, 1), (7, .ireturn, 1), (8, .iconst 0, 1), (9, .istore 4, 2), (11, .iload 4, 2), (13, .bipush 7, 2), (15, .if_icmp .ge 49, 3), (18, .iload 4, 2), (20, .iload_n 3, 1), (21, .if_icmp .ge 14, 3), (24, .aload_n 0, 1), (25, .iload_n 2, 1), (26, .iload 4, 2), (28, .iadd, 1), (29, .invokevirtual 51, 3), (32, .goto 5, 3), (35, .bipush 32, 2), (37, .istore 5, 2), (39, .ldc 79, 2), (41, .iload_n 1, 1), (42, .bipush 7, 2), (44, .imul, 1), (45, .iload 4, 2), (47, .iadd, 1), (48, .invokevirtual 81, 3), (51, .iload 5, 2), (53, .if_icmp .eq 5, 3), (56, .iconst 0, 1), (57, .ireturn, 1), (58, .iinc 4 1, 3), (61, .goto (-50), 3), (64, .iconst 1, 1), (65, .ireturn, 1)] = true := by decide +kernel
set_option maxRecDepth 100000 in
set_option maxHeartbeats 4000000 in
theorem kg_X9_isWord_0 {G : kG} {q : kP} {d : Nat} {x : gd} {P : Option gv → gd → Prop} (hq : kV q) (l1 : Int32) (l2 : Int32) (l3 : Int32)
    (h : ((l3 ≤ (7 : Int32) → KT G q (d + 7) zk_X9_isWord 11 [(0, vr 20), (1, vi l1), (2, vi l2), (3, vi l3), (4, vi 0)] [] x P) ∧ (¬ (l3 ≤ (7 : Int32)) → P (some (vi 0)) x))) :
    KT G q (d + 7) zk_X9_isWord 0 [(0, vr 20), (1, vi l1), (2, vi l2), (3, vi l3)] [] x P := by
  refine T_iload_n 3 (dk dtk_X9_isWord 0 rfl) rfl rfl ?_
  refine T_bipush (v := 7) (dk dtk_X9_isWord 1 rfl) (by decide +kernel) ?_
  refine T_icmp_le 8 (dk dtk_X9_isWord 2 rfl) (by decide) (fun c1 => ?_) (fun c1 => ?_)
  · have h := h.1 c1
    refine T_iconst (v := 0) (dk dtk_X9_isWord 5 rfl) (by decide +kernel) ?_
    refine T_istore (lv2 := [(4, vi 0), (0, vr 20), (1, vi l1), (2, vi l2), (3, vi l3)]) (dk dtk_X9_isWord 6 rfl) (by decide) rfl ?_
    exact T_sub [1, 2, 3, 4, 0] rfl h
  · have h := h.2 c1
    refine T_iconst (v := 0) (dk dtk_X9_isWord 3 rfl) (by decide +kernel) ?_
    exact KT_iret (dk dtk_X9_isWord 4 rfl) rfl rfl h
set_option maxRecDepth 100000 in
set_option maxHeartbeats 4000000 in
theorem kg_X9_isWord_11 {G : kG} {q : kP} {d : Nat} {x : gd} {P : Option gv → gd → Prop} (hq : kV q) (l1 : Int32) (l2 : Int32) (l3 : Int32) (l4 : Int32)
    (h : (((7 : Int32) ≤ l4 → P (some (vi 1)) x) ∧ (¬ ((7 : Int32) ≤ l4) → ((l3 ≤ l4 → KT G q (d + 7) zk_X9_isWord 37 [(0, vr 20), (1, vi l1), (2, vi l2), (3, vi l3), (4, vi l4)] [vi 32] x P) ∧ (¬ (l3 ≤ l4) → KT G q (d + 6) zk_X9_byteAt 0 [(0, vr 20), (1, vi (l2 + l4))] [] x (ri (fun r4 x3 => KT G q (d + 7) zk_X9_isWord 37 [(0, vr 20), (1, vi l1), (2, vi l2), (3, vi l3), (4, vi l4)] [vi r4] x3 P))))))) :
    KT G q (d + 7) zk_X9_isWord 11 [(0, vr 20), (1, vi l1), (2, vi l2), (3, vi l3), (4, vi l4)] [] x P := by
  refine T_iload 4 (dk dtk_X9_isWord 7 rfl) rfl ?_
  refine T_bipush (v := 7) (dk dtk_X9_isWord 8 rfl) (by decide +kernel) ?_
  refine T_icmp_ge 64 (dk dtk_X9_isWord 9 rfl) (by decide) (fun c1 => ?_) (fun c1 => ?_)
  · have h := h.1 c1
    refine T_iconst (v := 1) (dk dtk_X9_isWord 34 rfl) (by decide +kernel) ?_
    exact KT_iret (dk dtk_X9_isWord 35 rfl) rfl rfl h
  · have h := h.2 c1
    refine T_iload 4 (dk dtk_X9_isWord 10 rfl) rfl ?_
    refine T_iload_n 3 (dk dtk_X9_isWord 11 rfl) rfl rfl ?_
    refine T_icmp_ge 35 (dk dtk_X9_isWord 12 rfl) (by decide) (fun c2 => ?_) (fun c2 => ?_)
    · have h := h.1 c2
      refine T_bipush (v := 32) (dk dtk_X9_isWord 19 rfl) (by decide +kernel) ?_
      exact h
    · have h := h.2 c2
      refine T_aload_n 0 (dk dtk_X9_isWord 13 rfl) rfl rfl ?_
      refine T_iload_n 2 (dk dtk_X9_isWord 14 rfl) rfl rfl ?_
      refine T_iload 4 (dk dtk_X9_isWord 15 rfl) rfl ?_
      refine T_iadd (dk dtk_X9_isWord 16 rfl) ?_
      refine KC_Vi [vi (l2 + l4)] [] rfl (dk dtk_X9_isWord 17 rfl) kcv_X9_51 rfl kk_20 rfl (kl_20 hq) (Nat.le_of_ble_eq_true rfl) (Nat.le_of_ble_eq_true rfl) (gok_i (av_c (gkr (kl_20 hq)) (av_c rfl (av_c rfl (av_c rfl (av_c rfl av_n))))) as_n) rfl h (fun r4 x3 h => ?_)
      refine T_goto 37 (dk dtk_X9_isWord 18 rfl) (by decide) ?_
      exact h
set_option maxRecDepth 100000 in
set_option maxHeartbeats 4000000 in
theorem kg_X9_isWord_37 {G : kG} {q : kP} {d : Nat} {x : gd} {P : Option gv → gd → Prop} (hq : kV q) (l1 : Int32) (l2 : Int32) (l3 : Int32) (l4 : Int32) (s0 : Int32)
    (h : vp_in ((l1 * 7) + l4) 224 ∧ (((cch 0 ((l1 * 7) + l4 : Int32).toNatClampNeg) = s0 → KT G q (d + 7) zk_X9_isWord 11 [(0, vr 20), (1, vi l1), (2, vi l2), (3, vi l3), (4, vi (l4 + 1))] [] x P) ∧ (¬ ((cch 0 ((l1 * 7) + l4 : Int32).toNatClampNeg) = s0) → P (some (vi 0)) x))) :
    KT G q (d + 7) zk_X9_isWord 37 [(0, vr 20), (1, vi l1), (2, vi l2), (3, vi l3), (4, vi l4)] [vi s0] x P := by
  refine T_istore (lv2 := [(5, vi s0), (0, vr 20), (1, vi l1), (2, vi l2), (3, vi l3), (4, vi l4)]) (dk dtk_X9_isWord 20 rfl) (by decide) rfl ?_
  refine T_ldcS 0 (by decide) (dk dtk_X9_isWord 21 rfl) rfl ?_
  refine T_iload_n 2 (dk dtk_X9_isWord 22 rfl) rfl rfl ?_
  refine T_bipush (v := 7) (dk dtk_X9_isWord 23 rfl) (by decide +kernel) ?_
  refine T_imul (dk dtk_X9_isWord 24 rfl) ?_
  refine T_iload 5 (dk dtk_X9_isWord 25 rfl) rfl ?_
  refine T_iadd (dk dtk_X9_isWord 26 rfl) ?_
  obtain ⟨h1, h⟩ := h
  refine T_chat 0 (by decide) (by rw [es_l0]; exact h1) (by rw [es_l0]; decide) (dk dtk_X9_isWord 27 rfl) kcv_X9_81 (by omega) (Nat.le_of_ble_eq_true rfl) (gok_i (av_c rfl (av_c (gkr (kl_20 hq)) (av_c rfl (av_c rfl (av_c rfl (av_c rfl av_n)))))) as_n) rfl ?_
  refine T_iload 0 (dk dtk_X9_isWord 28 rfl) rfl ?_
  refine T_icmp_eq 58 (dk dtk_X9_isWord 29 rfl) (by decide) (fun c2 => ?_) (fun c2 => ?_)
  · have h := h.1 c2
    refine T_iinc (v := l4 + 1) (lv2 := [(4, vi (l4 + 1)), (5, vi s0), (0, vr 20), (1, vi l1), (2, vi l2), (3, vi l3)]) 5 (dk dtk_X9_isWord 32 rfl) rfl rfl (by decide) rfl ?_
    refine T_goto 11 (dk dtk_X9_isWord 33 rfl) (by decide) ?_
    exact T_sub [2, 3, 4, 5, 0] rfl h
  · have h := h.2 c2
    refine T_iconst (v := 0) (dk dtk_X9_isWord 30 rfl) (by decide +kernel) ?_
    exact KT_iret (dk dtk_X9_isWord 31 rfl) rfl rfl h
set_option maxRecDepth 100000 in
theorem dtk_X9_wholeOrBad : dck cX9_wholeOrBad [(0, .aload_n 0, 1), (1, .getfield 25, 3), (4, .aload_n 0, 1), (5, .getfield 41, 3), (8, .iaload, 1), (9, .bipush 9, 2), (11, .if_icmp .le 5, 3), (14, .iconst 1, 1), (15, .ireturn, 1), (16, .iconst 0, 1), (17, .istore_n 2, 1), (18, .iconst 0, 1), (19, .istore_n 3, 1), (20, .iload_n 3, 1), (21, .aload_n 0, 1), (22, .getfield 25, 3), (25, .aload_n 0, 1), (26, .getfield 41, 3), (29, .iaload, 1), (30, .if_icmp .ge 39, 3), (33, .aload_n 0, 1), (34, .iload_n 1, 1), (35, .iload_n 3, 1), (36, .iadd, 1), (37, .invokevirtual 51, 3), (40, .istore 4, 2), (42, .iload 4, 2), (44, .invokestatic 65, 3), (47, .ifCond .ne 5, 3), (50, .iconst 1, 1), (51, .ireturn, 1), (52, .iload_n 2, 1), (53, .bipush 10, 2), (55, .imul, 1), (56, .iload 4, 2), (58, .bipush 48, 2), (60, .isub, 1), (61, .iadd, 1), (62, .istore_n 2, 1), (63, .iinc 3 1, 3), (66, .goto (-46), 3), (69, .aload_n 0, 1), (70, .getfield 28, 3), (73, .aload_n 0, 1), (74, .getfield 41, 3), (77, .iload_n 2, 1), (78, .iastore, 1), (79, .iconst 3, 1), (80, .ireturn, 1)] = true := by decide +kernel
set_option maxRecDepth 100000 in
set_option maxHeartbeats 4000000 in
theorem kg_X9_wholeOrBad_0 {G : kG} {q : kP} {d : Nat} {x : gd} {P : Option gv → gd → Prop} (hq : kV q) (l1 : Int32)
    (h : vp_in (x.1 20 7) 702 ∧ (((x.1 26 (x.1 20 7 : Int32).toNatClampNeg) ≤ (9 : Int32) → KT G q (d + 1) zk_X9_wholeOrBad 20 [(0, vr 20), (1, vi l1), (2, vi 0), (3, vi 0)] [] x P) ∧ (¬ ((x.1 26 (x.1 20 7 : Int32).toNatClampNeg) ≤ (9 : Int32)) → P (some (vi 1)) x))) :
    KT G q (d + 1) zk_X9_wholeOrBad 0 [(0, vr 20), (1, vi l1)] [] x P := by
  refine T_aload_n 0 (dk dtk_X9_wholeOrBad 0 rfl) rfl rfl ?_
  refine T_getR 20 5 26 (dk dtk_X9_wholeOrBad 1 rfl) kfl_X9_25 kk_20 (kl_20 hq) (by decide) rfl kr_20_5 ?_
  refine T_aload_n 0 (dk dtk_X9_wholeOrBad 2 rfl) rfl rfl ?_
  refine T_getI 20 7 (dk dtk_X9_wholeOrBad 3 rfl) kfl_X9_41 kk_20 (kl_20 hq) (by decide) rfl ?_
  obtain ⟨h1, h⟩ := h
  refine T_iald 26 702 (dk dtk_X9_wholeOrBad 4 rfl) kk_26 (kl_26 hq) h1 ?_
  refine T_bipush (v := 9) (dk dtk_X9_wholeOrBad 5 rfl) (by decide +kernel) ?_
  refine T_icmp_le 16 (dk dtk_X9_wholeOrBad 6 rfl) (by decide) (fun c2 => ?_) (fun c2 => ?_)
  · have h := h.1 c2
    refine T_iconst (v := 0) (dk dtk_X9_wholeOrBad 9 rfl) (by decide +kernel) ?_
    refine T_istore_n (lv2 := [(2, vi 0), (0, vr 20), (1, vi l1)]) (dk dtk_X9_wholeOrBad 10 rfl) rfl (by decide) rfl ?_
    refine T_iconst (v := 0) (dk dtk_X9_wholeOrBad 11 rfl) (by decide +kernel) ?_
    refine T_istore_n (lv2 := [(3, vi 0), (2, vi 0), (0, vr 20), (1, vi l1)]) (dk dtk_X9_wholeOrBad 12 rfl) rfl (by decide) rfl ?_
    exact T_sub [2, 3, 1, 0] rfl h
  · have h := h.2 c2
    refine T_iconst (v := 1) (dk dtk_X9_wholeOrBad 7 rfl) (by decide +kernel) ?_
    exact KT_iret (dk dtk_X9_wholeOrBad 8 rfl) rfl rfl h
set_option maxRecDepth 100000 in
set_option maxHeartbeats 4000000 in
theorem kg_X9_wholeOrBad_20 {G : kG} {q : kP} {d : Nat} {x : gd} {P : Option gv → gd → Prop} (hq : kV q) (l1 : Int32) (l2 : Int32) (l3 : Int32)
    (h : vp_in (x.1 20 7) 702 ∧ (((x.1 26 (x.1 20 7 : Int32).toNatClampNeg) ≤ l3 → vp_in (x.1 20 7) 702 ∧ (∀ x4 : gd, x4 = si x 27 (x.1 20 7 : Int32).toNatClampNeg l2 → P (some (vi 3)) x4)) ∧ (¬ ((x.1 26 (x.1 20 7 : Int32).toNatClampNeg) ≤ l3) → KT G q d zk_X9_byteAt 0 [(0, vr 20), (1, vi (l1 + l3))] [] x (ri (fun r6 x5 => KT G q d zk_X9_isDigit 0 [(0, vi r6)] [] x5 (ri (fun r8 x7 => ((¬ (r8 = (0 : Int32)) → KT G q (d + 1) zk_X9_wholeOrBad 20 [(0, vr 20), (1, vi l1), (2, vi ((l2 * 10) + (r6 - 48))), (3, vi (l3 + 1))] [] x7 P) ∧ (r8 = (0 : Int32) → P (some (vi 1)) x7))))))))) :
    KT G q (d + 1) zk_X9_wholeOrBad 20 [(0, vr 20), (1, vi l1), (2, vi l2), (3, vi l3)] [] x P := by
  refine T_iload_n 3 (dk dtk_X9_wholeOrBad 13 rfl) rfl rfl ?_
  refine T_aload_n 0 (dk dtk_X9_wholeOrBad 14 rfl) rfl rfl ?_
  refine T_getR 20 5 26 (dk dtk_X9_wholeOrBad 15 rfl) kfl_X9_25 kk_20 (kl_20 hq) (by decide) rfl kr_20_5 ?_
  refine T_aload_n 0 (dk dtk_X9_wholeOrBad 16 rfl) rfl rfl ?_
  refine T_getI 20 7 (dk dtk_X9_wholeOrBad 17 rfl) kfl_X9_41 kk_20 (kl_20 hq) (by decide) rfl ?_
  obtain ⟨h1, h⟩ := h
  refine T_iald 26 702 (dk dtk_X9_wholeOrBad 18 rfl) kk_26 (kl_26 hq) h1 ?_
  refine T_icmp_ge 69 (dk dtk_X9_wholeOrBad 19 rfl) (by decide) (fun c2 => ?_) (fun c2 => ?_)
  · have h := h.1 c2
    refine T_aload_n 0 (dk dtk_X9_wholeOrBad 41 rfl) rfl rfl ?_
    refine T_getR 20 6 27 (dk dtk_X9_wholeOrBad 42 rfl) kfl_X9_28 kk_20 (kl_20 hq) (by decide) rfl kr_20_6 ?_
    refine T_aload_n 0 (dk dtk_X9_wholeOrBad 43 rfl) rfl rfl ?_
    refine T_getI 20 7 (dk dtk_X9_wholeOrBad 44 rfl) kfl_X9_41 kk_20 (kl_20 hq) (by decide) rfl ?_
    refine T_iload_n 2 (dk dtk_X9_wholeOrBad 45 rfl) rfl rfl ?_
    obtain ⟨h3, h⟩ := h
    obtain ⟨x4, ex4⟩ : ∃ z, z = si x 27 (x.1 20 7 : Int32).toNatClampNeg l2 := ⟨_, rfl⟩
    have h := h x4 ex4
    refine T_iast 27 702 (dk dtk_X9_wholeOrBad 46 rfl) kk_27 (kl_27 hq) h3 ?_
    rw [← ex4]
    refine T_iconst (v := 3) (dk dtk_X9_wholeOrBad 47 rfl) (by decide +kernel) ?_
    exact KT_iret (dk dtk_X9_wholeOrBad 48 rfl) rfl rfl h
  · have h := h.2 c2
    refine T_aload_n 0 (dk dtk_X9_wholeOrBad 20 rfl) rfl rfl ?_
    refine T_iload_n 1 (dk dtk_X9_wholeOrBad 21 rfl) rfl rfl ?_
    refine T_iload_n 3 (dk dtk_X9_wholeOrBad 22 rfl) rfl rfl ?_
    refine T_iadd (dk dtk_X9_wholeOrBad 23 rfl) ?_
    refine KC_Vi [vi (l1 + l3)] [] rfl (dk dtk_X9_wholeOrBad 24 rfl) kcv_X9_51 rfl kk_20 rfl (kl_20 hq) (Nat.le_of_ble_eq_true rfl) (Nat.le_of_ble_eq_true rfl) (gok_i (av_c (gkr (kl_20 hq)) (av_c rfl (av_c rfl (av_c rfl av_n)))) as_n) rfl h (fun r6 x5 h => ?_)
    refine T_istore (lv2 := [(4, vi r6), (0, vr 20), (1, vi l1), (2, vi l2), (3, vi l3)]) (dk dtk_X9_wholeOrBad 25 rfl) (by decide) rfl ?_
    refine T_iload 0 (dk dtk_X9_wholeOrBad 26 rfl) rfl ?_
    refine KC_Si [vi r6] [] rfl (dk dtk_X9_wholeOrBad 27 rfl) kcs_X9_65 rfl (Nat.le_of_ble_eq_true rfl) (Nat.le_of_ble_eq_true rfl) (gok_i (av_c rfl (av_c (gkr (kl_20 hq)) (av_c rfl (av_c rfl (av_c rfl av_n))))) as_n) rfl h (fun r8 x7 h => ?_)
    refine T_if_ne 52 (dk dtk_X9_wholeOrBad 28 rfl) (by decide) (fun c9 => ?_) (fun c9 => ?_)
    · have h := h.1 c9
      refine T_iload_n 3 (dk dtk_X9_wholeOrBad 31 rfl) rfl rfl ?_
      refine T_bipush (v := 10) (dk dtk_X9_wholeOrBad 32 rfl) (by decide +kernel) ?_
      refine T_imul (dk dtk_X9_wholeOrBad 33 rfl) ?_
      refine T_iload 0 (dk dtk_X9_wholeOrBad 34 rfl) rfl ?_
      refine T_bipush (v := 48) (dk dtk_X9_wholeOrBad 35 rfl) (by decide +kernel) ?_
      refine T_isub (dk dtk_X9_wholeOrBad 36 rfl) ?_
      refine T_iadd (dk dtk_X9_wholeOrBad 37 rfl) ?_
      refine T_istore_n (lv2 := [(2, vi ((l2 * 10) + (r6 - 48))), (4, vi r6), (0, vr 20), (1, vi l1), (3, vi l3)]) (dk dtk_X9_wholeOrBad 38 rfl) rfl (by decide) rfl ?_
      refine T_iinc (v := l3 + 1) (lv2 := [(3, vi (l3 + 1)), (2, vi ((l2 * 10) + (r6 - 48))), (4, vi r6), (0, vr 20), (1, vi l1)]) 4 (dk dtk_X9_wholeOrBad 39 rfl) rfl rfl (by decide) rfl ?_
      refine T_goto 20 (dk dtk_X9_wholeOrBad 40 rfl) (by decide) ?_
      exact T_sub [3, 4, 1, 0] rfl h
    · have h := h.2 c9
      refine T_iconst (v := 1) (dk dtk_X9_wholeOrBad 29 rfl) (by decide +kernel) ?_
      exact KT_iret (dk dtk_X9_wholeOrBad 30 rfl) rfl rfl h
set_option maxRecDepth 100000 in
theorem dtk_X9_sign : dck cX9_sign [(0, .iload_n 2, 1), (1, .bipush 61, 2), (3, .if_icmp .ne 31, 3), (6, .iload_n 1, 1), (7, .bipush 61, 2), (9, .if_icmp .eq 21, 3), (12, .iload_n 1, 1), (13, .bipush 33, 2), (15, .if_icmp .eq 15, 3), (18, .iload_n 1, 1), (19, .bipush 60, 2), (21, .if_icmp .eq 9, 3), (24, .iload_n 1, 1), (25, .bipush 62, 2), (27, .if_icmp .ne 7, 3), (30, .iconst 1, 1), (31, .goto 4, 3), (34, .iconst 0, 1), (35, .istore_n 3, 1), (36, .aload_n 0, 1), (37, .getfield 25, 3), (40, .aload_n 0, 1), (41, .getfield 41, 3), (44, .iload_n 3, 1), (45, .ifCond .eq 7, 3), (48, .iconst 2, 1), (49, .goto 4, 3), (52, .iconst 1, 1), (53, .iastore, 1), (54, .aload_n 0, 1), (55, .dup, 1), (56, .getfield 35, 3), (59, .aload_n 0, 1), (60, .getfield 25, 3), (63, .aload_n 0, 1), (64, .getfield 41, 3), (67, .iaload, 1), (68, .iadd, 1), (69, .putfield 35, 3), (72, .iload_n 1, 1), (73, .lookupswitch 90 #[(33, 55), (60, 66), (61, 43), (62, 78)], 43), (116, .iload_n 3, 1), (117, .ifCond .eq 8, 3), (120, .bipush 11, 2), (122, .goto 5, 3), (125, .bipush 10, 2), (127, .ireturn, 1), (128, .iload_n 3, 1), (129, .ifCond .eq 8, 3), (132, .bipush 12, 2), (134, .goto 4, 3), (137, .iconst 1, 1), (138, .ireturn, 1), (139, .iload_n 3, 1), (140, .ifCond .eq 8, 3), (143, .bipush 14, 2), (145, .goto 5, 3), (148, .bipush 13, 2), (150, .ireturn, 1), (151, .iload_n 3, 1), (152, .ifCond .eq 8, 3), (155, .bipush 16, 2), (157, .goto 5, 3), (160, .bipush 15, 2), (162, .ireturn, 1), (163, .iload_n 1, 1), (164, .invokestatic 87, 3), (167, .ireturn, 1)] = true := by decide +kernel
set_option maxRecDepth 100000 in
set_option maxHeartbeats 4000000 in
theorem kg_X9_sign_0 {G : kG} {q : kP} {d : Nat} {x : gd} {P : Option gv → gd → Prop} (hq : kV q) (l1 : Int32) (l2 : Int32)
    (h : ((¬ (l2 = (61 : Int32)) → KT G q (d + 1) zk_X9_sign 35 [(0, vr 20), (1, vi l1)] [vi 0] x P) ∧ (l2 = (61 : Int32) → ((l1 = (61 : Int32) → KT G q (d + 1) zk_X9_sign 35 [(0, vr 20), (1, vi l1)] [vi 1] x P) ∧ (¬ (l1 = (61 : Int32)) → ((l1 = (33 : Int32) → KT G q (d + 1) zk_X9_sign 35 [(0, vr 20), (1, vi l1)] [vi 1] x P) ∧ (¬ (l1 = (33 : Int32)) → ((l1 = (60 : Int32) → KT G q (d + 1) zk_X9_sign 35 [(0, vr 20), (1, vi l1)] [vi 1] x P) ∧ (¬ (l1 = (60 : Int32)) → ((¬ (l1 = (62 : Int32)) → KT G q (d + 1) zk_X9_sign 35 [(0, vr 20), (1, vi l1)] [vi 0] x P) ∧ (l1 = (62 : Int32) → KT G q (d + 1) zk_X9_sign 35 [(0, vr 20), (1, vi l1)] [vi 1] x P))))))))))) :
    KT G q (d + 1) zk_X9_sign 0 [(0, vr 20), (1, vi l1), (2, vi l2)] [] x P := by
  refine T_iload_n 2 (dk dtk_X9_sign 0 rfl) rfl rfl ?_
  refine T_bipush (v := 61) (dk dtk_X9_sign 1 rfl) (by decide +kernel) ?_
  refine T_icmp_ne 34 (dk dtk_X9_sign 2 rfl) (by decide) (fun c1 => ?_) (fun c1 => ?_)
  · have h := h.1 c1
    refine T_iconst (v := 0) (dk dtk_X9_sign 17 rfl) (by decide +kernel) ?_
    exact T_sub [0, 1] rfl h
  · have h := h.2 c1
    refine T_iload_n 1 (dk dtk_X9_sign 3 rfl) rfl rfl ?_
    refine T_bipush (v := 61) (dk dtk_X9_sign 4 rfl) (by decide +kernel) ?_
    refine T_icmp_eq 30 (dk dtk_X9_sign 5 rfl) (by decide) (fun c2 => ?_) (fun c2 => ?_)
    · have h := h.1 c2
      refine T_iconst (v := 1) (dk dtk_X9_sign 15 rfl) (by decide +kernel) ?_
      refine T_goto 35 (dk dtk_X9_sign 16 rfl) (by decide) ?_
      exact T_sub [0, 1] rfl h
    · have h := h.2 c2
      refine T_iload_n 1 (dk dtk_X9_sign 6 rfl) rfl rfl ?_
      refine T_bipush (v := 33) (dk dtk_X9_sign 7 rfl) (by decide +kernel) ?_
      refine T_icmp_eq 30 (dk dtk_X9_sign 8 rfl) (by decide) (fun c3 => ?_) (fun c3 => ?_)
      · have h := h.1 c3
        refine T_iconst (v := 1) (dk dtk_X9_sign 15 rfl) (by decide +kernel) ?_
        refine T_goto 35 (dk dtk_X9_sign 16 rfl) (by decide) ?_
        exact T_sub [0, 1] rfl h
      · have h := h.2 c3
        refine T_iload_n 1 (dk dtk_X9_sign 9 rfl) rfl rfl ?_
        refine T_bipush (v := 60) (dk dtk_X9_sign 10 rfl) (by decide +kernel) ?_
        refine T_icmp_eq 30 (dk dtk_X9_sign 11 rfl) (by decide) (fun c4 => ?_) (fun c4 => ?_)
        · have h := h.1 c4
          refine T_iconst (v := 1) (dk dtk_X9_sign 15 rfl) (by decide +kernel) ?_
          refine T_goto 35 (dk dtk_X9_sign 16 rfl) (by decide) ?_
          exact T_sub [0, 1] rfl h
        · have h := h.2 c4
          refine T_iload_n 1 (dk dtk_X9_sign 12 rfl) rfl rfl ?_
          refine T_bipush (v := 62) (dk dtk_X9_sign 13 rfl) (by decide +kernel) ?_
          refine T_icmp_ne 34 (dk dtk_X9_sign 14 rfl) (by decide) (fun c5 => ?_) (fun c5 => ?_)
          · have h := h.1 c5
            refine T_iconst (v := 0) (dk dtk_X9_sign 17 rfl) (by decide +kernel) ?_
            exact T_sub [0, 1] rfl h
          · have h := h.2 c5
            refine T_iconst (v := 1) (dk dtk_X9_sign 15 rfl) (by decide +kernel) ?_
            refine T_goto 35 (dk dtk_X9_sign 16 rfl) (by decide) ?_
            exact T_sub [0, 1] rfl h
set_option maxRecDepth 100000 in
set_option maxHeartbeats 4000000 in
theorem kg_X9_sign_35 {G : kG} {q : kP} {d : Nat} {x : gd} {P : Option gv → gd → Prop} (hq : kV q) (l1 : Int32) (s0 : Int32)
    (h : ((s0 = (0 : Int32) → KT G q (d + 1) zk_X9_sign 53 [(0, vr 20), (1, vi l1), (3, vi s0)] [vi 1, vi (x.1 20 7), vr 26] x P) ∧ (¬ (s0 = (0 : Int32)) → KT G q (d + 1) zk_X9_sign 53 [(0, vr 20), (1, vi l1), (3, vi s0)] [vi 2, vi (x.1 20 7), vr 26] x P))) :
    KT G q (d + 1) zk_X9_sign 35 [(0, vr 20), (1, vi l1)] [vi s0] x P := by
  refine T_istore_n (lv2 := [(3, vi s0), (0, vr 20), (1, vi l1)]) (dk dtk_X9_sign 18 rfl) rfl (by decide) rfl ?_
  refine T_aload_n 1 (dk dtk_X9_sign 19 rfl) rfl rfl ?_
  refine T_getR 20 5 26 (dk dtk_X9_sign 20 rfl) kfl_X9_25 kk_20 (kl_20 hq) (by decide) rfl kr_20_5 ?_
  refine T_aload_n 1 (dk dtk_X9_sign 21 rfl) rfl rfl ?_
  refine T_getI 20 7 (dk dtk_X9_sign 22 rfl) kfl_X9_41 kk_20 (kl_20 hq) (by decide) rfl ?_
  refine T_iload_n 0 (dk dtk_X9_sign 23 rfl) rfl rfl ?_
  refine T_if_eq 52 (dk dtk_X9_sign 24 rfl) (by decide) (fun c1 => ?_) (fun c1 => ?_)
  · have h := h.1 c1
    refine T_iconst (v := 1) (dk dtk_X9_sign 27 rfl) (by decide +kernel) ?_
    exact T_sub [1, 2, 0] rfl h
  · have h := h.2 c1
    refine T_iconst (v := 2) (dk dtk_X9_sign 25 rfl) (by decide +kernel) ?_
    refine T_goto 53 (dk dtk_X9_sign 26 rfl) (by decide) ?_
    exact T_sub [1, 2, 0] rfl h
set_option maxRecDepth 100000 in
set_option maxHeartbeats 4000000 in
theorem kg_X9_sign_53 {G : kG} {q : kP} {d : Nat} {x : gd} {P : Option gv → gd → Prop} (hq : kV q) (l1 : Int32) (l3 : Int32) (s0 : Int32) (s1 : Int32)
    (h : vp_in s1 702 ∧ (∀ x2 : gd, x2 = si x 26 (s1 : Int32).toNatClampNeg s0 → vp_in (x2.1 20 7) 702 ∧ (∀ x4 : gd, x4 = si x2 20 8 ((x2.1 20 8) + (x2.1 26 (x2.1 20 7 : Int32).toNatClampNeg)) → (((l1 = 61) → ((l3 = (0 : Int32) → P (some (vi 10)) x4) ∧ (¬ (l3 = (0 : Int32)) → P (some (vi 11)) x4))) ∧ ((l1 = 33) → ((l3 = (0 : Int32) → P (some (vi 1)) x4) ∧ (¬ (l3 = (0 : Int32)) → P (some (vi 12)) x4))) ∧ ((l1 = 60) → ((l3 = (0 : Int32) → P (some (vi 13)) x4) ∧ (¬ (l3 = (0 : Int32)) → P (some (vi 14)) x4))) ∧ ((l1 = 62) → ((l3 = (0 : Int32) → P (some (vi 15)) x4) ∧ (¬ (l3 = (0 : Int32)) → P (some (vi 16)) x4))) ∧ ((∀ k ∈ [(61 : Int32), (33 : Int32), (60 : Int32), (62 : Int32)], ¬ l1 = k) → KT G q d zk_X9_singleSign 0 [(0, vi l1)] [] x4 (ri (fun r15 x14 => P (some (vi r15)) x14))))))) :
    KT G q (d + 1) zk_X9_sign 53 [(0, vr 20), (1, vi l1), (3, vi l3)] [vi s0, vi s1, vr 26] x P := by
  obtain ⟨h1, h⟩ := h
  obtain ⟨x2, ex2⟩ : ∃ z, z = si x 26 (s1 : Int32).toNatClampNeg s0 := ⟨_, rfl⟩
  have h := h x2 ex2
  refine T_iast 26 702 (dk dtk_X9_sign 28 rfl) kk_26 (kl_26 hq) h1 ?_
  rw [← ex2]
  refine T_aload_n 0 (dk dtk_X9_sign 29 rfl) rfl rfl ?_
  refine T_dup (dk dtk_X9_sign 30 rfl) rfl ?_
  refine T_getI 20 8 (dk dtk_X9_sign 31 rfl) kfl_X9_35 kk_20 (kl_20 hq) (by decide) rfl ?_
  refine T_aload_n 0 (dk dtk_X9_sign 32 rfl) rfl rfl ?_
  refine T_getR 20 5 26 (dk dtk_X9_sign 33 rfl) kfl_X9_25 kk_20 (kl_20 hq) (by decide) rfl kr_20_5 ?_
  refine T_aload_n 0 (dk dtk_X9_sign 34 rfl) rfl rfl ?_
  refine T_getI 20 7 (dk dtk_X9_sign 35 rfl) kfl_X9_41 kk_20 (kl_20 hq) (by decide) rfl ?_
  obtain ⟨h3, h⟩ := h
  refine T_iald 26 702 (dk dtk_X9_sign 36 rfl) kk_26 (kl_26 hq) h3 ?_
  refine T_iadd (dk dtk_X9_sign 37 rfl) ?_
  obtain ⟨x4, ex4⟩ : ∃ z, z = si x2 20 8 ((x2.1 20 8) + (x2.1 26 (x2.1 20 7 : Int32).toNatClampNeg)) := ⟨_, rfl⟩
  have h := h x4 ex4
  refine T_putI 20 8 (dk dtk_X9_sign 38 rfl) kfl_X9_35 kk_20 (kl_20 hq) (by decide) rfl ⟨rfl, rfl⟩ ?_
  rw [← ex4]
  refine T_iload_n 1 (dk dtk_X9_sign 39 rfl) rfl rfl ?_
  by_cases c5 : l1 = 61
  · have h := h.1 c5
    refine T_lookup 43 116 (dk dtk_X9_sign 40 rfl) (by decide +kernel) (by rw [c5]; decide +kernel) (by decide) ?_
    refine T_iload_n 2 (dk dtk_X9_sign 41 rfl) rfl rfl ?_
    refine T_if_eq 125 (dk dtk_X9_sign 42 rfl) (by decide) (fun c6 => ?_) (fun c6 => ?_)
    · have h := h.1 c6
      refine T_bipush (v := 10) (dk dtk_X9_sign 45 rfl) (by decide +kernel) ?_
      exact KT_iret (dk dtk_X9_sign 46 rfl) rfl rfl h
    · have h := h.2 c6
      refine T_bipush (v := 11) (dk dtk_X9_sign 43 rfl) (by decide +kernel) ?_
      refine T_goto 127 (dk dtk_X9_sign 44 rfl) (by decide) ?_
      exact KT_iret (dk dtk_X9_sign 46 rfl) rfl rfl h
  · have h := h.2
    by_cases c7 : l1 = 33
    · have h := h.1 c7
      refine T_lookup 55 128 (dk dtk_X9_sign 40 rfl) (by decide +kernel) (by rw [c7]; decide +kernel) (by decide) ?_
      refine T_iload_n 2 (dk dtk_X9_sign 47 rfl) rfl rfl ?_
      refine T_if_eq 137 (dk dtk_X9_sign 48 rfl) (by decide) (fun c8 => ?_) (fun c8 => ?_)
      · have h := h.1 c8
        refine T_iconst (v := 1) (dk dtk_X9_sign 51 rfl) (by decide +kernel) ?_
        exact KT_iret (dk dtk_X9_sign 52 rfl) rfl rfl h
      · have h := h.2 c8
        refine T_bipush (v := 12) (dk dtk_X9_sign 49 rfl) (by decide +kernel) ?_
        refine T_goto 138 (dk dtk_X9_sign 50 rfl) (by decide) ?_
        exact KT_iret (dk dtk_X9_sign 52 rfl) rfl rfl h
    · have h := h.2
      by_cases c9 : l1 = 60
      · have h := h.1 c9
        refine T_lookup 66 139 (dk dtk_X9_sign 40 rfl) (by decide +kernel) (by rw [c9]; decide +kernel) (by decide) ?_
        refine T_iload_n 2 (dk dtk_X9_sign 53 rfl) rfl rfl ?_
        refine T_if_eq 148 (dk dtk_X9_sign 54 rfl) (by decide) (fun c10 => ?_) (fun c10 => ?_)
        · have h := h.1 c10
          refine T_bipush (v := 13) (dk dtk_X9_sign 57 rfl) (by decide +kernel) ?_
          exact KT_iret (dk dtk_X9_sign 58 rfl) rfl rfl h
        · have h := h.2 c10
          refine T_bipush (v := 14) (dk dtk_X9_sign 55 rfl) (by decide +kernel) ?_
          refine T_goto 150 (dk dtk_X9_sign 56 rfl) (by decide) ?_
          exact KT_iret (dk dtk_X9_sign 58 rfl) rfl rfl h
      · have h := h.2
        by_cases c11 : l1 = 62
        · have h := h.1 c11
          refine T_lookup 78 151 (dk dtk_X9_sign 40 rfl) (by decide +kernel) (by rw [c11]; decide +kernel) (by decide) ?_
          refine T_iload_n 2 (dk dtk_X9_sign 59 rfl) rfl rfl ?_
          refine T_if_eq 160 (dk dtk_X9_sign 60 rfl) (by decide) (fun c12 => ?_) (fun c12 => ?_)
          · have h := h.1 c12
            refine T_bipush (v := 15) (dk dtk_X9_sign 63 rfl) (by decide +kernel) ?_
            exact KT_iret (dk dtk_X9_sign 64 rfl) rfl rfl h
          · have h := h.2 c12
            refine T_bipush (v := 16) (dk dtk_X9_sign 61 rfl) (by decide +kernel) ?_
            refine T_goto 162 (dk dtk_X9_sign 62 rfl) (by decide) ?_
            exact KT_iret (dk dtk_X9_sign 64 rfl) rfl rfl h
        · have h := h.2
          have n13 : ∀ k ∈ [(61 : Int32), (33 : Int32), (60 : Int32), (62 : Int32)], ¬ l1 = k := (gno c5 (gno c7 (gno c9 (gno c11 gno0))))
          have h := h n13
          refine T_lookup 90 163 (dk dtk_X9_sign 40 rfl) (by decide +kernel) (glk_d [(61 : Int32), (33 : Int32), (60 : Int32), (62 : Int32)] (by decide +kernel) n13) (by decide) ?_
          refine T_iload_n 1 (dk dtk_X9_sign 65 rfl) rfl rfl ?_
          refine T_sub (lv2 := []) [] rfl ?_
          refine KC_Si [vi l1] [] rfl (dk dtk_X9_sign 66 rfl) kcs_X9_87 rfl (Nat.le_of_ble_eq_true rfl) (Nat.le_of_ble_eq_true rfl) (gok_i av_n as_n) rfl h (fun r15 x14 h => ?_)
          exact KT_iret (dk dtk_X9_sign 67 rfl) rfl rfl h
set_option maxRecDepth 100000 in
theorem dtk_X9_singleSign : dck cX9_singleSign [(0, .iload_n 0, 1), (1, .lookupswitch 143 #[(40, 119), (41, 122), (42, 113), (43, 107), (44, 140), (45, 110), (47, 116), (59, 137), (91, 131), (93, 134), (123, 125), (125, 128)], 107), (108, .bipush 17, 2), (110, .ireturn, 1), (111, .bipush 18, 2), (113, .ireturn, 1), (114, .bipush 19, 2), (116, .ireturn, 1), (117, .bipush 20, 2), (119, .ireturn, 1), (120, .bipush 21, 2), (122, .ireturn, 1), (123, .bipush 22, 2), (125, .ireturn, 1), (126, .bipush 23, 2), (128, .ireturn, 1), (129, .bipush 24, 2), (131, .ireturn, 1), (132, .bipush 25, 2), (134, .ireturn, 1), (135, .bipush 26, 2), (137, .ireturn, 1), (138, .bipush 27, 2), (140, .ireturn, 1), (141, .bipush 28, 2), (143, .ireturn, 1), (144, .iconst 1, 1), (145, .ireturn, 1)] = true := by decide +kernel
set_option maxRecDepth 100000 in
set_option maxHeartbeats 4000000 in
theorem kg_X9_singleSign_0 {G : kG} {q : kP} {d : Nat} {x : gd} {P : Option gv → gd → Prop} (hq : kV q) (l0 : Int32)
    (h : (((l0 = 43) → P (some (vi 17)) x) ∧ ((l0 = 45) → P (some (vi 18)) x) ∧ ((l0 = 42) → P (some (vi 19)) x) ∧ ((l0 = 47) → P (some (vi 20)) x) ∧ ((l0 = 40) → P (some (vi 21)) x) ∧ ((l0 = 41) → P (some (vi 22)) x) ∧ ((l0 = 123) → P (some (vi 23)) x) ∧ ((l0 = 125) → P (some (vi 24)) x) ∧ ((l0 = 91) → P (some (vi 25)) x) ∧ ((l0 = 93) → P (some (vi 26)) x) ∧ ((l0 = 59) → P (some (vi 27)) x) ∧ ((l0 = 44) → P (some (vi 28)) x) ∧ ((∀ k ∈ [(43 : Int32), (45 : Int32), (42 : Int32), (47 : Int32), (40 : Int32), (41 : Int32), (123 : Int32), (125 : Int32), (91 : Int32), (93 : Int32), (59 : Int32), (44 : Int32)], ¬ l0 = k) → P (some (vi 1)) x))) :
    KT G q d zk_X9_singleSign 0 [(0, vi l0)] [] x P := by
  refine T_iload_n 0 (dk dtk_X9_singleSign 0 rfl) rfl rfl ?_
  by_cases c1 : l0 = 43
  · have h := h.1 c1
    refine T_lookup 107 108 (dk dtk_X9_singleSign 1 rfl) (by decide +kernel) (by rw [c1]; decide +kernel) (by decide) ?_
    refine T_bipush (v := 17) (dk dtk_X9_singleSign 2 rfl) (by decide +kernel) ?_
    exact KT_iret (dk dtk_X9_singleSign 3 rfl) rfl rfl h
  · have h := h.2
    by_cases c2 : l0 = 45
    · have h := h.1 c2
      refine T_lookup 110 111 (dk dtk_X9_singleSign 1 rfl) (by decide +kernel) (by rw [c2]; decide +kernel) (by decide) ?_
      refine T_bipush (v := 18) (dk dtk_X9_singleSign 4 rfl) (by decide +kernel) ?_
      exact KT_iret (dk dtk_X9_singleSign 5 rfl) rfl rfl h
    · have h := h.2
      by_cases c3 : l0 = 42
      · have h := h.1 c3
        refine T_lookup 113 114 (dk dtk_X9_singleSign 1 rfl) (by decide +kernel) (by rw [c3]; decide +kernel) (by decide) ?_
        refine T_bipush (v := 19) (dk dtk_X9_singleSign 6 rfl) (by decide +kernel) ?_
        exact KT_iret (dk dtk_X9_singleSign 7 rfl) rfl rfl h
      · have h := h.2
        by_cases c4 : l0 = 47
        · have h := h.1 c4
          refine T_lookup 116 117 (dk dtk_X9_singleSign 1 rfl) (by decide +kernel) (by rw [c4]; decide +kernel) (by decide) ?_
          refine T_bipush (v := 20) (dk dtk_X9_singleSign 8 rfl) (by decide +kernel) ?_
          exact KT_iret (dk dtk_X9_singleSign 9 rfl) rfl rfl h
        · have h := h.2
          by_cases c5 : l0 = 40
          · have h := h.1 c5
            refine T_lookup 119 120 (dk dtk_X9_singleSign 1 rfl) (by decide +kernel) (by rw [c5]; decide +kernel) (by decide) ?_
            refine T_bipush (v := 21) (dk dtk_X9_singleSign 10 rfl) (by decide +kernel) ?_
            exact KT_iret (dk dtk_X9_singleSign 11 rfl) rfl rfl h
          · have h := h.2
            by_cases c6 : l0 = 41
            · have h := h.1 c6
              refine T_lookup 122 123 (dk dtk_X9_singleSign 1 rfl) (by decide +kernel) (by rw [c6]; decide +kernel) (by decide) ?_
              refine T_bipush (v := 22) (dk dtk_X9_singleSign 12 rfl) (by decide +kernel) ?_
              exact KT_iret (dk dtk_X9_singleSign 13 rfl) rfl rfl h
            · have h := h.2
              by_cases c7 : l0 = 123
              · have h := h.1 c7
                refine T_lookup 125 126 (dk dtk_X9_singleSign 1 rfl) (by decide +kernel) (by rw [c7]; decide +kernel) (by decide) ?_
                refine T_bipush (v := 23) (dk dtk_X9_singleSign 14 rfl) (by decide +kernel) ?_
                exact KT_iret (dk dtk_X9_singleSign 15 rfl) rfl rfl h
              · have h := h.2
                by_cases c8 : l0 = 125
                · have h := h.1 c8
                  refine T_lookup 128 129 (dk dtk_X9_singleSign 1 rfl) (by decide +kernel) (by rw [c8]; decide +kernel) (by decide) ?_
                  refine T_bipush (v := 24) (dk dtk_X9_singleSign 16 rfl) (by decide +kernel) ?_
                  exact KT_iret (dk dtk_X9_singleSign 17 rfl) rfl rfl h
                · have h := h.2
                  by_cases c9 : l0 = 91
                  · have h := h.1 c9
                    refine T_lookup 131 132 (dk dtk_X9_singleSign 1 rfl) (by decide +kernel) (by rw [c9]; decide +kernel) (by decide) ?_
                    refine T_bipush (v := 25) (dk dtk_X9_singleSign 18 rfl) (by decide +kernel) ?_
                    exact KT_iret (dk dtk_X9_singleSign 19 rfl) rfl rfl h
                  · have h := h.2
                    by_cases c10 : l0 = 93
                    · have h := h.1 c10
                      refine T_lookup 134 135 (dk dtk_X9_singleSign 1 rfl) (by decide +kernel) (by rw [c10]; decide +kernel) (by decide) ?_
                      refine T_bipush (v := 26) (dk dtk_X9_singleSign 20 rfl) (by decide +kernel) ?_
                      exact KT_iret (dk dtk_X9_singleSign 21 rfl) rfl rfl h
                    · have h := h.2
                      by_cases c11 : l0 = 59
                      · have h := h.1 c11
                        refine T_lookup 137 138 (dk dtk_X9_singleSign 1 rfl) (by decide +kernel) (by rw [c11]; decide +kernel) (by decide) ?_
                        refine T_bipush (v := 27) (dk dtk_X9_singleSign 22 rfl) (by decide +kernel) ?_
                        exact KT_iret (dk dtk_X9_singleSign 23 rfl) rfl rfl h
                      · have h := h.2
                        by_cases c12 : l0 = 44
                        · have h := h.1 c12
                          refine T_lookup 140 141 (dk dtk_X9_singleSign 1 rfl) (by decide +kernel) (by rw [c12]; decide +kernel) (by decide) ?_
                          refine T_bipush (v := 28) (dk dtk_X9_singleSign 24 rfl) (by decide +kernel) ?_
                          exact KT_iret (dk dtk_X9_singleSign 25 rfl) rfl rfl h
                        · have h := h.2
                          have n13 : ∀ k ∈ [(43 : Int32), (45 : Int32), (42 : Int32), (47 : Int32), (40 : Int32), (41 : Int32), (123 : Int32), (125 : Int32), (91 : Int32), (93 : Int32), (59 : Int32), (44 : Int32)], ¬ l0 = k := (gno c1 (gno c2 (gno c3 (gno c4 (gno c5 (gno c6 (gno c7 (gno c8 (gno c9 (gno c10 (gno c11 (gno c12 gno0))))))))))))
                          have h := h n13
                          refine T_lookup 143 144 (dk dtk_X9_singleSign 1 rfl) (by decide +kernel) (glk_d [(43 : Int32), (45 : Int32), (42 : Int32), (47 : Int32), (40 : Int32), (41 : Int32), (123 : Int32), (125 : Int32), (91 : Int32), (93 : Int32), (59 : Int32), (44 : Int32)] (by decide +kernel) n13) (by decide) ?_
                          refine T_iconst (v := 1) (dk dtk_X9_singleSign 26 rfl) (by decide +kernel) ?_
                          exact KT_iret (dk dtk_X9_singleSign 27 rfl) rfl rfl h
set_option maxRecDepth 100000 in
theorem dtk_X9_isLetter : dck cX9_isLetter [(0, .iload_n 0, 1), (1, .bipush 97, 2), (3, .if_icmp .lt 9, 3), (6, .iload_n 0, 1), (7, .bipush 122, 2), (9, .if_icmp .le 15, 3), (12, .iload_n 0, 1), (13, .bipush 65, 2), (15, .if_icmp .lt 13, 3), (18, .iload_n 0, 1), (19, .bipush 90, 2), (21, .if_icmp .gt 7, 3), (24, .iconst 1, 1), (25, .goto 4, 3), (28, .iconst 0, 1), (29, .ireturn, 1)] = true := by decide +kernel
set_option maxRecDepth 100000 in
set_option maxHeartbeats 4000000 in
theorem kg_X9_isLetter_0 {G : kG} {q : kP} {d : Nat} {x : gd} {P : Option gv → gd → Prop} (hq : kV q) (l0 : Int32)
    (h : ((l0 < (97 : Int32) → KT G q d zk_X9_isLetter 12 [(0, vi l0)] [] x P) ∧ (¬ (l0 < (97 : Int32)) → ((l0 ≤ (122 : Int32) → P (some (vi 1)) x) ∧ (¬ (l0 ≤ (122 : Int32)) → KT G q d zk_X9_isLetter 12 [(0, vi l0)] [] x P))))) :
    KT G q d zk_X9_isLetter 0 [(0, vi l0)] [] x P := by
  refine T_iload_n 0 (dk dtk_X9_isLetter 0 rfl) rfl rfl ?_
  refine T_bipush (v := 97) (dk dtk_X9_isLetter 1 rfl) (by decide +kernel) ?_
  refine T_icmp_lt 12 (dk dtk_X9_isLetter 2 rfl) (by decide) (fun c1 => ?_) (fun c1 => ?_)
  · have h := h.1 c1
    exact h
  · have h := h.2 c1
    refine T_iload_n 0 (dk dtk_X9_isLetter 3 rfl) rfl rfl ?_
    refine T_bipush (v := 122) (dk dtk_X9_isLetter 4 rfl) (by decide +kernel) ?_
    refine T_icmp_le 24 (dk dtk_X9_isLetter 5 rfl) (by decide) (fun c2 => ?_) (fun c2 => ?_)
    · have h := h.1 c2
      refine T_iconst (v := 1) (dk dtk_X9_isLetter 12 rfl) (by decide +kernel) ?_
      refine T_goto 29 (dk dtk_X9_isLetter 13 rfl) (by decide) ?_
      exact KT_iret (dk dtk_X9_isLetter 15 rfl) rfl rfl h
    · have h := h.2 c2
      exact h
set_option maxRecDepth 100000 in
set_option maxHeartbeats 4000000 in
theorem kg_X9_isLetter_12 {G : kG} {q : kP} {d : Nat} {x : gd} {P : Option gv → gd → Prop} (hq : kV q) (l0 : Int32)
    (h : ((l0 < (65 : Int32) → P (some (vi 0)) x) ∧ (¬ (l0 < (65 : Int32)) → (((90 : Int32) < l0 → P (some (vi 0)) x) ∧ (¬ ((90 : Int32) < l0) → P (some (vi 1)) x))))) :
    KT G q d zk_X9_isLetter 12 [(0, vi l0)] [] x P := by
  refine T_iload_n 0 (dk dtk_X9_isLetter 6 rfl) rfl rfl ?_
  refine T_bipush (v := 65) (dk dtk_X9_isLetter 7 rfl) (by decide +kernel) ?_
  refine T_icmp_lt 28 (dk dtk_X9_isLetter 8 rfl) (by decide) (fun c1 => ?_) (fun c1 => ?_)
  · have h := h.1 c1
    refine T_iconst (v := 0) (dk dtk_X9_isLetter 14 rfl) (by decide +kernel) ?_
    exact KT_iret (dk dtk_X9_isLetter 15 rfl) rfl rfl h
  · have h := h.2 c1
    refine T_iload_n 0 (dk dtk_X9_isLetter 9 rfl) rfl rfl ?_
    refine T_bipush (v := 90) (dk dtk_X9_isLetter 10 rfl) (by decide +kernel) ?_
    refine T_icmp_gt 28 (dk dtk_X9_isLetter 11 rfl) (by decide) (fun c2 => ?_) (fun c2 => ?_)
    · have h := h.1 c2
      refine T_iconst (v := 0) (dk dtk_X9_isLetter 14 rfl) (by decide +kernel) ?_
      exact KT_iret (dk dtk_X9_isLetter 15 rfl) rfl rfl h
    · have h := h.2 c2
      refine T_iconst (v := 1) (dk dtk_X9_isLetter 12 rfl) (by decide +kernel) ?_
      refine T_goto 29 (dk dtk_X9_isLetter 13 rfl) (by decide) ?_
      exact KT_iret (dk dtk_X9_isLetter 15 rfl) rfl rfl h
set_option maxRecDepth 100000 in
theorem dtk_X9_isDigit : dck cX9_isDigit [(0, .iload_n 0, 1), (1, .bipush 48, 2), (3, .if_icmp .lt 13, 3), (6, .iload_n 0, 1), (7, .bipush 57, 2), (9, .if_icmp .gt 7, 3), (12, .iconst 1, 1), (13, .goto 4, 3), (16, .iconst 0, 1), (17, .ireturn, 1)] = true := by decide +kernel
set_option maxRecDepth 100000 in
set_option maxHeartbeats 4000000 in
theorem kg_X9_isDigit_0 {G : kG} {q : kP} {d : Nat} {x : gd} {P : Option gv → gd → Prop} (hq : kV q) (l0 : Int32)
    (h : ((l0 < (48 : Int32) → P (some (vi 0)) x) ∧ (¬ (l0 < (48 : Int32)) → (((57 : Int32) < l0 → P (some (vi 0)) x) ∧ (¬ ((57 : Int32) < l0) → P (some (vi 1)) x))))) :
    KT G q d zk_X9_isDigit 0 [(0, vi l0)] [] x P := by
  refine T_iload_n 0 (dk dtk_X9_isDigit 0 rfl) rfl rfl ?_
  refine T_bipush (v := 48) (dk dtk_X9_isDigit 1 rfl) (by decide +kernel) ?_
  refine T_icmp_lt 16 (dk dtk_X9_isDigit 2 rfl) (by decide) (fun c1 => ?_) (fun c1 => ?_)
  · have h := h.1 c1
    refine T_iconst (v := 0) (dk dtk_X9_isDigit 8 rfl) (by decide +kernel) ?_
    exact KT_iret (dk dtk_X9_isDigit 9 rfl) rfl rfl h
  · have h := h.2 c1
    refine T_iload_n 0 (dk dtk_X9_isDigit 3 rfl) rfl rfl ?_
    refine T_bipush (v := 57) (dk dtk_X9_isDigit 4 rfl) (by decide +kernel) ?_
    refine T_icmp_gt 16 (dk dtk_X9_isDigit 5 rfl) (by decide) (fun c2 => ?_) (fun c2 => ?_)
    · have h := h.1 c2
      refine T_iconst (v := 0) (dk dtk_X9_isDigit 8 rfl) (by decide +kernel) ?_
      exact KT_iret (dk dtk_X9_isDigit 9 rfl) rfl rfl h
    · have h := h.2 c2
      refine T_iconst (v := 1) (dk dtk_X9_isDigit 6 rfl) (by decide +kernel) ?_
      refine T_goto 17 (dk dtk_X9_isDigit 7 rfl) (by decide) ?_
      exact KT_iret (dk dtk_X9_isDigit 9 rfl) rfl rfl h
set_option maxRecDepth 100000 in
theorem dtk_X6_clear : dck cX6_clear [(0, .aload_n 0, 1), (1, .iconst 0, 1), (2, .putfield 39, 3), (5, .aload_n 0, 1), (6, .iconst 0, 1), (7, .putfield 43, 3), (10, .aload_n 0, 1), (11, .iconst 0, 1), (12, .putfield 46, 3), (15, .aload_n 0, 1), (16, .getfield 17, 3), (19, .iconst 0, 1), (20, .invokestatic 49, 3), (23, .aload_n 0, 1), (24, .getfield 21, 3), (27, .iconst (-1), 1), (28, .invokestatic 49, 3), (31, .return_, 1)] = true := by decide +kernel
set_option maxRecDepth 100000 in
set_option maxHeartbeats 4000000 in
theorem kg_X6_clear_0 {G : kG} {q : kP} {d : Nat} {x : gd} {P : Option gv → gd → Prop} (hq : kV q) 
    (h : (∀ x1 : gd, x1 = si x 40 6 0 → (∀ x2 : gd, x2 = si x1 40 8 0 → (∀ x3 : gd, x3 = si x2 40 10 0 → (∀ x4 : gd, x4 = sfl x3 42 0 702 → (∀ x5 : gd, x5 = sfl x4 43 (-1) 702 → P none x5)))))) :
    KT G q (d + 1) zk_X6_clear 0 [(0, vr 40)] [] x P := by
  refine T_aload_n 0 (dk dtk_X6_clear 0 rfl) rfl rfl ?_
  refine T_iconst (v := 0) (dk dtk_X6_clear 1 rfl) (by decide +kernel) ?_
  obtain ⟨x1, ex1⟩ : ∃ z, z = si x 40 6 0 := ⟨_, rfl⟩
  have h := h x1 ex1
  refine T_putI 40 6 (dk dtk_X6_clear 2 rfl) kfl_X6_39 kk_40 (kl_40 hq) (by decide) rfl ⟨rfl, rfl⟩ ?_
  rw [← ex1]
  refine T_aload_n 0 (dk dtk_X6_clear 3 rfl) rfl rfl ?_
  refine T_iconst (v := 0) (dk dtk_X6_clear 4 rfl) (by decide +kernel) ?_
  obtain ⟨x2, ex2⟩ : ∃ z, z = si x1 40 8 0 := ⟨_, rfl⟩
  have h := h x2 ex2
  refine T_putI 40 8 (dk dtk_X6_clear 5 rfl) kfl_X6_43 kk_40 (kl_40 hq) (by decide) rfl ⟨rfl, rfl⟩ ?_
  rw [← ex2]
  refine T_aload_n 0 (dk dtk_X6_clear 6 rfl) rfl rfl ?_
  refine T_iconst (v := 0) (dk dtk_X6_clear 7 rfl) (by decide +kernel) ?_
  obtain ⟨x3, ex3⟩ : ∃ z, z = si x2 40 10 0 := ⟨_, rfl⟩
  have h := h x3 ex3
  refine T_putI 40 10 (dk dtk_X6_clear 8 rfl) kfl_X6_46 kk_40 (kl_40 hq) (by decide) rfl ⟨rfl, rfl⟩ ?_
  rw [← ex3]
  refine T_aload_n 0 (dk dtk_X6_clear 9 rfl) rfl rfl ?_
  refine T_getR 40 1 42 (dk dtk_X6_clear 10 rfl) kfl_X6_17 kk_40 (kl_40 hq) (by decide) rfl kr_40_1 ?_
  refine T_iconst (v := 0) (dk dtk_X6_clear 11 rfl) (by decide +kernel) ?_
  refine KC_Sv (F := fun z => z = sfl x3 42 0 702) [vr 42, vi 0] [] rfl (dk dtk_X6_clear 12 rfl) kcs_X6_49 rfl (Nat.le_of_ble_eq_true rfl) (Nat.le_of_ble_eq_true rfl) (gok_i (av_c (gkr (kl_40 hq)) av_n) as_n) rfl (tj_fill 42 702 0 kk_42 (kl_42 hq) (by decide) ⟨rfl, none, rfl, rfl, rfl⟩) (fun x4 ex4 => ?_)
  have h := h x4 ex4
  refine T_aload_n 0 (dk dtk_X6_clear 13 rfl) rfl rfl ?_
  refine T_getR 40 2 43 (dk dtk_X6_clear 14 rfl) kfl_X6_21 kk_40 (kl_40 hq) (by decide) rfl kr_40_2 ?_
  refine T_iconst (v := (-1)) (dk dtk_X6_clear 15 rfl) (by decide +kernel) ?_
  refine T_sub (lv2 := []) [] rfl ?_
  refine KC_Sv (F := fun z => z = sfl x4 43 (-1) 702) [vr 43, vi (-1)] [] rfl (dk dtk_X6_clear 16 rfl) kcs_X6_49 rfl (Nat.le_of_ble_eq_true rfl) (Nat.le_of_ble_eq_true rfl) (gok_i av_n as_n) rfl (tj_fill 43 702 (-1) kk_43 (kl_43 hq) (by decide) ⟨rfl, none, rfl, rfl, rfl⟩) (fun x5 ex5 => ?_)
  have h := h x5 ex5
  exact KT_vret (dk dtk_X6_clear 17 rfl) rfl h
set_option maxRecDepth 100000 in
theorem dtk_X6_tellCell : dck cX6_tellCell [(0, .aload_n 0, 1), (1, .getfield 39, 3), (4, .bipush 24, 2), (6, .if_icmp .ge 43, 3), (9, .aload_n 0, 1), (10, .getfield 24, 3), (13, .aload_n 0, 1), (14, .getfield 39, 3), (17, .iload_n 1, 1), (18, .iastore, 1), (19, .aload_n 0, 1), (20, .getfield 27, 3), (23, .aload_n 0, 1), (24, .getfield 39, 3), (27, .iload_n 2, 1), (28, .iastore, 1), (29, .aload_n 0, 1), (30, .getfield 30, 3), (33, .aload_n 0, 1), (34, .getfield 39, 3), (37, .iload_n 3, 1), (38, .iastore, 1), (39, .aload_n 0, 1), (40, .dup, 1), (41, .getfield 39, 3), (44, .iconst 1, 1), (45, .iadd, 1), (46, .putfield 39, 3), (49, .return_, 1)] = true := by decide +kernel
set_option maxRecDepth 100000 in
set_option maxHeartbeats 4000000 in
theorem kg_X6_tellCell_0 {G : kG} {q : kP} {d : Nat} {x : gd} {P : Option gv → gd → Prop} (hq : kV q) (l1 : Int32) (l2 : Int32) (l3 : Int32)
    (h : (((24 : Int32) ≤ (x.1 40 6) → P none x) ∧ (¬ ((24 : Int32) ≤ (x.1 40 6)) → vp_in (x.1 40 6) 24 ∧ (∀ x3 : gd, x3 = si x 44 (x.1 40 6 : Int32).toNatClampNeg l1 → vp_in (x3.1 40 6) 24 ∧ (∀ x5 : gd, x5 = si x3 45 (x3.1 40 6 : Int32).toNatClampNeg l2 → vp_in (x5.1 40 6) 24 ∧ (∀ x7 : gd, x7 = si x5 46 (x5.1 40 6 : Int32).toNatClampNeg l3 → (∀ x8 : gd, x8 = si x7 40 6 ((x7.1 40 6) + 1) → P none x8))))))) :
    KT G q d zk_X6_tellCell 0 [(0, vr 40), (1, vi l1), (2, vi l2), (3, vi l3)] [] x P := by
  refine T_aload_n 0 (dk dtk_X6_tellCell 0 rfl) rfl rfl ?_
  refine T_getI 40 6 (dk dtk_X6_tellCell 1 rfl) kfl_X6_39 kk_40 (kl_40 hq) (by decide) rfl ?_
  refine T_bipush (v := 24) (dk dtk_X6_tellCell 2 rfl) (by decide +kernel) ?_
  refine T_icmp_ge 49 (dk dtk_X6_tellCell 3 rfl) (by decide) (fun c1 => ?_) (fun c1 => ?_)
  · have h := h.1 c1
    exact KT_vret (dk dtk_X6_tellCell 28 rfl) rfl h
  · have h := h.2 c1
    refine T_aload_n 0 (dk dtk_X6_tellCell 4 rfl) rfl rfl ?_
    refine T_getR 40 3 44 (dk dtk_X6_tellCell 5 rfl) kfl_X6_24 kk_40 (kl_40 hq) (by decide) rfl kr_40_3 ?_
    refine T_aload_n 0 (dk dtk_X6_tellCell 6 rfl) rfl rfl ?_
    refine T_getI 40 6 (dk dtk_X6_tellCell 7 rfl) kfl_X6_39 kk_40 (kl_40 hq) (by decide) rfl ?_
    refine T_iload_n 1 (dk dtk_X6_tellCell 8 rfl) rfl rfl ?_
    obtain ⟨h2, h⟩ := h
    obtain ⟨x3, ex3⟩ : ∃ z, z = si x 44 (x.1 40 6 : Int32).toNatClampNeg l1 := ⟨_, rfl⟩
    have h := h x3 ex3
    refine T_iast 44 24 (dk dtk_X6_tellCell 9 rfl) kk_44 (kl_44 hq) h2 ?_
    rw [← ex3]
    refine T_aload_n 0 (dk dtk_X6_tellCell 10 rfl) rfl rfl ?_
    refine T_getR 40 4 45 (dk dtk_X6_tellCell 11 rfl) kfl_X6_27 kk_40 (kl_40 hq) (by decide) rfl kr_40_4 ?_
    refine T_aload_n 0 (dk dtk_X6_tellCell 12 rfl) rfl rfl ?_
    refine T_getI 40 6 (dk dtk_X6_tellCell 13 rfl) kfl_X6_39 kk_40 (kl_40 hq) (by decide) rfl ?_
    refine T_iload_n 2 (dk dtk_X6_tellCell 14 rfl) rfl rfl ?_
    obtain ⟨h4, h⟩ := h
    obtain ⟨x5, ex5⟩ : ∃ z, z = si x3 45 (x3.1 40 6 : Int32).toNatClampNeg l2 := ⟨_, rfl⟩
    have h := h x5 ex5
    refine T_iast 45 24 (dk dtk_X6_tellCell 15 rfl) kk_45 (kl_45 hq) h4 ?_
    rw [← ex5]
    refine T_aload_n 0 (dk dtk_X6_tellCell 16 rfl) rfl rfl ?_
    refine T_getR 40 5 46 (dk dtk_X6_tellCell 17 rfl) kfl_X6_30 kk_40 (kl_40 hq) (by decide) rfl kr_40_5 ?_
    refine T_aload_n 0 (dk dtk_X6_tellCell 18 rfl) rfl rfl ?_
    refine T_getI 40 6 (dk dtk_X6_tellCell 19 rfl) kfl_X6_39 kk_40 (kl_40 hq) (by decide) rfl ?_
    refine T_iload_n 3 (dk dtk_X6_tellCell 20 rfl) rfl rfl ?_
    obtain ⟨h6, h⟩ := h
    obtain ⟨x7, ex7⟩ : ∃ z, z = si x5 46 (x5.1 40 6 : Int32).toNatClampNeg l3 := ⟨_, rfl⟩
    have h := h x7 ex7
    refine T_iast 46 24 (dk dtk_X6_tellCell 21 rfl) kk_46 (kl_46 hq) h6 ?_
    rw [← ex7]
    refine T_aload_n 0 (dk dtk_X6_tellCell 22 rfl) rfl rfl ?_
    refine T_dup (dk dtk_X6_tellCell 23 rfl) rfl ?_
    refine T_getI 40 6 (dk dtk_X6_tellCell 24 rfl) kfl_X6_39 kk_40 (kl_40 hq) (by decide) rfl ?_
    refine T_iconst (v := 1) (dk dtk_X6_tellCell 25 rfl) (by decide +kernel) ?_
    refine T_iadd (dk dtk_X6_tellCell 26 rfl) ?_
    obtain ⟨x8, ex8⟩ : ∃ z, z = si x7 40 6 ((x7.1 40 6) + 1) := ⟨_, rfl⟩
    have h := h x8 ex8
    refine T_putI 40 6 (dk dtk_X6_tellCell 27 rfl) kfl_X6_39 kk_40 (kl_40 hq) (by decide) rfl ⟨rfl, rfl⟩ ?_
    rw [← ex8]
    exact KT_vret (dk dtk_X6_tellCell 28 rfl) rfl h
set_option maxRecDepth 100000 in
theorem dtk_X6_tellLock : dck cX6_tellLock [(0, .aload_n 0, 1), (1, .getfield 43, 3), (4, .bipush 6, 2), (6, .if_icmp .ge 23, 3), (9, .aload_n 0, 1), (10, .getfield 33, 3), (13, .aload_n 0, 1), (14, .getfield 43, 3), (17, .iload_n 1, 1), (18, .iastore, 1), (19, .aload_n 0, 1), (20, .dup, 1), (21, .getfield 43, 3), (24, .iconst 1, 1), (25, .iadd, 1), (26, .putfield 43, 3), (29, .return_, 1)] = true := by decide +kernel
set_option maxRecDepth 100000 in
set_option maxHeartbeats 4000000 in
theorem kg_X6_tellLock_0 {G : kG} {q : kP} {d : Nat} {x : gd} {P : Option gv → gd → Prop} (hq : kV q) (l1 : Int32)
    (h : (((6 : Int32) ≤ (x.1 40 8) → P none x) ∧ (¬ ((6 : Int32) ≤ (x.1 40 8)) → vp_in (x.1 40 8) 6 ∧ (∀ x3 : gd, x3 = si x 48 (x.1 40 8 : Int32).toNatClampNeg l1 → (∀ x4 : gd, x4 = si x3 40 8 ((x3.1 40 8) + 1) → P none x4))))) :
    KT G q d zk_X6_tellLock 0 [(0, vr 40), (1, vi l1)] [] x P := by
  refine T_aload_n 0 (dk dtk_X6_tellLock 0 rfl) rfl rfl ?_
  refine T_getI 40 8 (dk dtk_X6_tellLock 1 rfl) kfl_X6_43 kk_40 (kl_40 hq) (by decide) rfl ?_
  refine T_bipush (v := 6) (dk dtk_X6_tellLock 2 rfl) (by decide +kernel) ?_
  refine T_icmp_ge 29 (dk dtk_X6_tellLock 3 rfl) (by decide) (fun c1 => ?_) (fun c1 => ?_)
  · have h := h.1 c1
    exact KT_vret (dk dtk_X6_tellLock 16 rfl) rfl h
  · have h := h.2 c1
    refine T_aload_n 0 (dk dtk_X6_tellLock 4 rfl) rfl rfl ?_
    refine T_getR 40 7 48 (dk dtk_X6_tellLock 5 rfl) kfl_X6_33 kk_40 (kl_40 hq) (by decide) rfl kr_40_7 ?_
    refine T_aload_n 0 (dk dtk_X6_tellLock 6 rfl) rfl rfl ?_
    refine T_getI 40 8 (dk dtk_X6_tellLock 7 rfl) kfl_X6_43 kk_40 (kl_40 hq) (by decide) rfl ?_
    refine T_iload_n 1 (dk dtk_X6_tellLock 8 rfl) rfl rfl ?_
    obtain ⟨h2, h⟩ := h
    obtain ⟨x3, ex3⟩ : ∃ z, z = si x 48 (x.1 40 8 : Int32).toNatClampNeg l1 := ⟨_, rfl⟩
    have h := h x3 ex3
    refine T_iast 48 6 (dk dtk_X6_tellLock 9 rfl) kk_48 (kl_48 hq) h2 ?_
    rw [← ex3]
    refine T_aload_n 0 (dk dtk_X6_tellLock 10 rfl) rfl rfl ?_
    refine T_dup (dk dtk_X6_tellLock 11 rfl) rfl ?_
    refine T_getI 40 8 (dk dtk_X6_tellLock 12 rfl) kfl_X6_43 kk_40 (kl_40 hq) (by decide) rfl ?_
    refine T_iconst (v := 1) (dk dtk_X6_tellLock 13 rfl) (by decide +kernel) ?_
    refine T_iadd (dk dtk_X6_tellLock 14 rfl) ?_
    obtain ⟨x4, ex4⟩ : ∃ z, z = si x3 40 8 ((x3.1 40 8) + 1) := ⟨_, rfl⟩
    have h := h x4 ex4
    refine T_putI 40 8 (dk dtk_X6_tellLock 15 rfl) kfl_X6_43 kk_40 (kl_40 hq) (by decide) rfl ⟨rfl, rfl⟩ ?_
    rw [← ex4]
    exact KT_vret (dk dtk_X6_tellLock 16 rfl) rfl h
set_option maxRecDepth 100000 in
theorem dtk_X6_tellThread : dck cX6_tellThread [(0, .aload_n 0, 1), (1, .getfield 46, 3), (4, .bipush 6, 2), (6, .if_icmp .ge 23, 3), (9, .aload_n 0, 1), (10, .getfield 36, 3), (13, .aload_n 0, 1), (14, .getfield 46, 3), (17, .iload_n 1, 1), (18, .iastore, 1), (19, .aload_n 0, 1), (20, .dup, 1), (21, .getfield 46, 3), (24, .iconst 1, 1), (25, .iadd, 1), (26, .putfield 46, 3), (29, .return_, 1)] = true := by decide +kernel
set_option maxRecDepth 100000 in
set_option maxHeartbeats 4000000 in
theorem kg_X6_tellThread_0 {G : kG} {q : kP} {d : Nat} {x : gd} {P : Option gv → gd → Prop} (hq : kV q) (l1 : Int32)
    (h : (((6 : Int32) ≤ (x.1 40 10) → P none x) ∧ (¬ ((6 : Int32) ≤ (x.1 40 10)) → vp_in (x.1 40 10) 6 ∧ (∀ x3 : gd, x3 = si x 50 (x.1 40 10 : Int32).toNatClampNeg l1 → (∀ x4 : gd, x4 = si x3 40 10 ((x3.1 40 10) + 1) → P none x4))))) :
    KT G q d zk_X6_tellThread 0 [(0, vr 40), (1, vi l1)] [] x P := by
  refine T_aload_n 0 (dk dtk_X6_tellThread 0 rfl) rfl rfl ?_
  refine T_getI 40 10 (dk dtk_X6_tellThread 1 rfl) kfl_X6_46 kk_40 (kl_40 hq) (by decide) rfl ?_
  refine T_bipush (v := 6) (dk dtk_X6_tellThread 2 rfl) (by decide +kernel) ?_
  refine T_icmp_ge 29 (dk dtk_X6_tellThread 3 rfl) (by decide) (fun c1 => ?_) (fun c1 => ?_)
  · have h := h.1 c1
    exact KT_vret (dk dtk_X6_tellThread 16 rfl) rfl h
  · have h := h.2 c1
    refine T_aload_n 0 (dk dtk_X6_tellThread 4 rfl) rfl rfl ?_
    refine T_getR 40 9 50 (dk dtk_X6_tellThread 5 rfl) kfl_X6_36 kk_40 (kl_40 hq) (by decide) rfl kr_40_9 ?_
    refine T_aload_n 0 (dk dtk_X6_tellThread 6 rfl) rfl rfl ?_
    refine T_getI 40 10 (dk dtk_X6_tellThread 7 rfl) kfl_X6_46 kk_40 (kl_40 hq) (by decide) rfl ?_
    refine T_iload_n 1 (dk dtk_X6_tellThread 8 rfl) rfl rfl ?_
    obtain ⟨h2, h⟩ := h
    obtain ⟨x3, ex3⟩ : ∃ z, z = si x 50 (x.1 40 10 : Int32).toNatClampNeg l1 := ⟨_, rfl⟩
    have h := h x3 ex3
    refine T_iast 50 6 (dk dtk_X6_tellThread 9 rfl) kk_50 (kl_50 hq) h2 ?_
    rw [← ex3]
    refine T_aload_n 0 (dk dtk_X6_tellThread 10 rfl) rfl rfl ?_
    refine T_dup (dk dtk_X6_tellThread 11 rfl) rfl ?_
    refine T_getI 40 10 (dk dtk_X6_tellThread 12 rfl) kfl_X6_46 kk_40 (kl_40 hq) (by decide) rfl ?_
    refine T_iconst (v := 1) (dk dtk_X6_tellThread 13 rfl) (by decide +kernel) ?_
    refine T_iadd (dk dtk_X6_tellThread 14 rfl) ?_
    obtain ⟨x4, ex4⟩ : ∃ z, z = si x3 40 10 ((x3.1 40 10) + 1) := ⟨_, rfl⟩
    have h := h x4 ex4
    refine T_putI 40 10 (dk dtk_X6_tellThread 15 rfl) kfl_X6_46 kk_40 (kl_40 hq) (by decide) rfl ⟨rfl, rfl⟩ ?_
    rw [← ex4]
    exact KT_vret (dk dtk_X6_tellThread 16 rfl) rfl h
set_option maxRecDepth 100000 in
theorem dtk_X6_isRowSize : dck cX6_isRowSize [(0, .iload_n 0, 1), (1, .iconst 1, 1), (2, .if_icmp .lt 13, 3), (5, .iload_n 0, 1), (6, .bipush 8, 2), (8, .if_icmp .gt 7, 3), (11, .iconst 1, 1), (12, .goto 4, 3), (15, .iconst 0, 1), (16, .ireturn, 1)] = true := by decide +kernel
set_option maxRecDepth 100000 in
set_option maxHeartbeats 4000000 in
theorem kg_X6_isRowSize_0 {G : kG} {q : kP} {d : Nat} {x : gd} {P : Option gv → gd → Prop} (hq : kV q) (l0 : Int32)
    (h : ((l0 < (1 : Int32) → P (some (vi 0)) x) ∧ (¬ (l0 < (1 : Int32)) → (((8 : Int32) < l0 → P (some (vi 0)) x) ∧ (¬ ((8 : Int32) < l0) → P (some (vi 1)) x))))) :
    KT G q d zk_X6_isRowSize 0 [(0, vi l0)] [] x P := by
  refine T_iload_n 0 (dk dtk_X6_isRowSize 0 rfl) rfl rfl ?_
  refine T_iconst (v := 1) (dk dtk_X6_isRowSize 1 rfl) (by decide +kernel) ?_
  refine T_icmp_lt 15 (dk dtk_X6_isRowSize 2 rfl) (by decide) (fun c1 => ?_) (fun c1 => ?_)
  · have h := h.1 c1
    refine T_iconst (v := 0) (dk dtk_X6_isRowSize 8 rfl) (by decide +kernel) ?_
    exact KT_iret (dk dtk_X6_isRowSize 9 rfl) rfl rfl h
  · have h := h.2 c1
    refine T_iload_n 0 (dk dtk_X6_isRowSize 3 rfl) rfl rfl ?_
    refine T_bipush (v := 8) (dk dtk_X6_isRowSize 4 rfl) (by decide +kernel) ?_
    refine T_icmp_gt 15 (dk dtk_X6_isRowSize 5 rfl) (by decide) (fun c2 => ?_) (fun c2 => ?_)
    · have h := h.1 c2
      refine T_iconst (v := 0) (dk dtk_X6_isRowSize 8 rfl) (by decide +kernel) ?_
      exact KT_iret (dk dtk_X6_isRowSize 9 rfl) rfl rfl h
    · have h := h.2 c2
      refine T_iconst (v := 1) (dk dtk_X6_isRowSize 6 rfl) (by decide +kernel) ?_
      refine T_goto 16 (dk dtk_X6_isRowSize 7 rfl) (by decide) ?_
      exact KT_iret (dk dtk_X6_isRowSize 9 rfl) rfl rfl h
set_option maxRecDepth 100000 in
theorem dtk_X6_judge : dck cX6_judge [(0, .iconst 0, 1), (1, .istore_n 1, 1), (2, .iload_n 1, 1), (3, .aload_n 0, 1), (4, .getfield 9, 3), (7, .getfield 55, 3), (10, .if_icmp .ge 39, 3), (13, .aload_n 0, 1), (14, .getfield 17, 3), (17, .iload_n 1, 1), (18, .iaload, 1), (19, .ifCond .ne 7, 3), (22, .iconst 0, 1), (23, .goto 8, 3), (26, .aload_n 0, 1), (27, .iload_n 1, 1), (28, .invokevirtual 58, 3), (31, .istore_n 2, 1), (32, .iload_n 2, 1), (33, .ifCond .eq 10, 3), (36, .aload_n 0, 1), (37, .iload_n 1, 1), (38, .putfield 62, 3), (41, .iload_n 2, 1), (42, .ireturn, 1), (43, .iinc 1 1, 3), (46, .goto (-44), 3), (49, .iconst 0, 1), (50, .ireturn, 1)] = true := by decide +kernel
set_option maxRecDepth 100000 in
set_option maxHeartbeats 4000000 in
theorem kg_X6_judge_0 {G : kG} {q : kP} {d : Nat} {x : gd} {P : Option gv → gd → Prop} (hq : kV q) 
    (h : KT G q (d + 1) zk_X6_judge 2 [(0, vr 40), (1, vi 0)] [] x P) :
    KT G q (d + 1) zk_X6_judge 0 [(0, vr 40)] [] x P := by
  refine T_iconst (v := 0) (dk dtk_X6_judge 0 rfl) (by decide +kernel) ?_
  refine T_istore_n (lv2 := [(1, vi 0), (0, vr 40)]) (dk dtk_X6_judge 1 rfl) rfl (by decide) rfl ?_
  exact T_sub [1, 0] rfl h
set_option maxRecDepth 100000 in
set_option maxHeartbeats 4000000 in
theorem kg_X6_judge_2 {G : kG} {q : kP} {d : Nat} {x : gd} {P : Option gv → gd → Prop} (hq : kV q) (l1 : Int32)
    (h : (((x.1 20 7) ≤ l1 → P (some (vi 0)) x) ∧ (¬ ((x.1 20 7) ≤ l1) → vp_in l1 702 ∧ ((¬ ((x.1 42 (l1 : Int32).toNatClampNeg) = (0 : Int32)) → KT G q d zk_X6_faultOf 0 [(0, vr 40), (1, vi l1)] [] x (ri (fun r5 x4 => KT G q (d + 1) zk_X6_judge 31 [(0, vr 40), (1, vi l1)] [vi r5] x4 P))) ∧ ((x.1 42 (l1 : Int32).toNatClampNeg) = (0 : Int32) → KT G q (d + 1) zk_X6_judge 31 [(0, vr 40), (1, vi l1)] [vi 0] x P))))) :
    KT G q (d + 1) zk_X6_judge 2 [(0, vr 40), (1, vi l1)] [] x P := by
  refine T_iload_n 1 (dk dtk_X6_judge 2 rfl) rfl rfl ?_
  refine T_aload_n 0 (dk dtk_X6_judge 3 rfl) rfl rfl ?_
  refine T_getR 40 0 20 (dk dtk_X6_judge 4 rfl) kfl_X6_9 kk_40 (kl_40 hq) (by decide) rfl kr_40_0 ?_
  refine T_getI 20 7 (dk dtk_X6_judge 5 rfl) kfl_X6_55 kk_20 (kl_20 hq) (by decide) rfl ?_
  refine T_icmp_ge 49 (dk dtk_X6_judge 6 rfl) (by decide) (fun c1 => ?_) (fun c1 => ?_)
  · have h := h.1 c1
    refine T_iconst (v := 0) (dk dtk_X6_judge 27 rfl) (by decide +kernel) ?_
    exact KT_iret (dk dtk_X6_judge 28 rfl) rfl rfl h
  · have h := h.2 c1
    refine T_aload_n 0 (dk dtk_X6_judge 7 rfl) rfl rfl ?_
    refine T_getR 40 1 42 (dk dtk_X6_judge 8 rfl) kfl_X6_17 kk_40 (kl_40 hq) (by decide) rfl kr_40_1 ?_
    refine T_iload_n 1 (dk dtk_X6_judge 9 rfl) rfl rfl ?_
    obtain ⟨h2, h⟩ := h
    refine T_iald 42 702 (dk dtk_X6_judge 10 rfl) kk_42 (kl_42 hq) h2 ?_
    refine T_if_ne 26 (dk dtk_X6_judge 11 rfl) (by decide) (fun c3 => ?_) (fun c3 => ?_)
    · have h := h.1 c3
      refine T_aload_n 0 (dk dtk_X6_judge 14 rfl) rfl rfl ?_
      refine T_iload_n 1 (dk dtk_X6_judge 15 rfl) rfl rfl ?_
      refine KC_Vi [vi l1] [] rfl (dk dtk_X6_judge 16 rfl) kcv_X6_58 rfl kk_40 rfl (kl_40 hq) (Nat.le_of_ble_eq_true rfl) (Nat.le_of_ble_eq_true rfl) (gok_i (av_c (gkr (kl_40 hq)) (av_c rfl av_n)) as_n) rfl h (fun r5 x4 h => ?_)
      exact h
    · have h := h.2 c3
      refine T_iconst (v := 0) (dk dtk_X6_judge 12 rfl) (by decide +kernel) ?_
      refine T_goto 31 (dk dtk_X6_judge 13 rfl) (by decide) ?_
      exact h
set_option maxRecDepth 100000 in
set_option maxHeartbeats 4000000 in
theorem kg_X6_judge_31 {G : kG} {q : kP} {d : Nat} {x : gd} {P : Option gv → gd → Prop} (hq : kV q) (l1 : Int32) (s0 : Int32)
    (h : ((s0 = (0 : Int32) → KT G q (d + 1) zk_X6_judge 2 [(0, vr 40), (1, vi (l1 + 1))] [] x P) ∧ (¬ (s0 = (0 : Int32)) → (∀ x2 : gd, x2 = si x 40 11 l1 → P (some (vi s0)) x2)))) :
    KT G q (d + 1) zk_X6_judge 31 [(0, vr 40), (1, vi l1)] [vi s0] x P := by
  refine T_istore_n (lv2 := [(2, vi s0), (0, vr 40), (1, vi l1)]) (dk dtk_X6_judge 17 rfl) rfl (by decide) rfl ?_
  refine T_iload_n 0 (dk dtk_X6_judge 18 rfl) rfl rfl ?_
  refine T_if_eq 43 (dk dtk_X6_judge 19 rfl) (by decide) (fun c1 => ?_) (fun c1 => ?_)
  · have h := h.1 c1
    refine T_iinc (v := l1 + 1) (lv2 := [(1, vi (l1 + 1)), (2, vi s0), (0, vr 40)]) 2 (dk dtk_X6_judge 25 rfl) rfl rfl (by decide) rfl ?_
    refine T_goto 2 (dk dtk_X6_judge 26 rfl) (by decide) ?_
    exact T_sub [2, 0] rfl h
  · have h := h.2 c1
    refine T_aload_n 1 (dk dtk_X6_judge 20 rfl) rfl rfl ?_
    refine T_iload_n 2 (dk dtk_X6_judge 21 rfl) rfl rfl ?_
    obtain ⟨x2, ex2⟩ : ∃ z, z = si x 40 11 l1 := ⟨_, rfl⟩
    have h := h x2 ex2
    refine T_putI 40 11 (dk dtk_X6_judge 22 rfl) kfl_X6_62 kk_40 (kl_40 hq) (by decide) rfl ⟨rfl, rfl⟩ ?_
    rw [← ex2]
    refine T_iload_n 0 (dk dtk_X6_judge 23 rfl) rfl rfl ?_
    exact KT_iret (dk dtk_X6_judge 24 rfl) rfl rfl h
end
