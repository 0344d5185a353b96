/-! the class's shape while it runs: what was made, no more; rows that make a history, an explorer, a trying, rows of states and outcomes -/
def kmd (q : kP) (c : Nat) : Prop := c ∈ kl0 ∨ (q.hi = true ∧ c ∈ klH) ∨ (q.ex = true ∧ c ∈ klE) ∨ (q.t0 = true ∧ c ∈ klA) ∨ (q.t1 = true ∧ c ∈ klB) ∨ (∃ k, k < q.kn ∧ c = 1000 + k) ∨ (∃ k, k < q.o0 ∧ c = 4000 + k) ∨ ∃ k, k < q.o1 ∧ c = 7000 + k
def kU (q : kP) : Prop := kV q ∧ (∀ c ∈ q.L, kmd q c) ∧ ((q.ex = false → q.kn = 0 ∧ q.et = none) ∧ (q.t0 = false → q.o0 = 0) ∧ (q.t1 = false → q.o1 = 0)) ∧ (∀ o, q.et = some o → kiT q o) ∧ (q.kn ≤ 3000 ∧ q.o0 ≤ 3000 ∧ q.o1 ≤ 3000)
theorem kmd_L {q : kP} {c : Nat} (hu : kV q) (h : kmd q c) : c ∈ q.L := by
  rcases h with h | ⟨e, h⟩ | ⟨e, h⟩ | ⟨e, h⟩ | ⟨e, h⟩ | ⟨k, hk, rfl⟩ | ⟨k, hk, rfl⟩ | ⟨k, hk, rfl⟩
  · exact hu.1 c h
  · exact hu.2.1 e c h
  · exact hu.2.2.1 e c h
  · exact hu.2.2.2.1 e c h
  · exact hu.2.2.2.2.1 e c h
  · exact hu.2.2.2.2.2.1 k hk
  · exact hu.2.2.2.2.2.2.1 k hk
  · exact hu.2.2.2.2.2.2.2 k hk
def tOk (A B : List Nat) : Bool := A.all (fun c' => (kRa.getD c' []).all (fun r => match r with
  | none => true
  | some c => B.contains c))
theorem tOk_u {A B : List Nat} (h : tOk A B = true) {c' j c : Nat} (hc : c' ∈ A) (hj : (kRa.getD c' []).getD j none = some c) : c ∈ B := by
  have h1 := List.all_eq_true.mp h c' hc
  have hm : some c ∈ kRa.getD c' [] := by
    rw [List.getD_eq_getElem?_getD] at hj
    cases hr : (kRa.getD c' [])[j]? with
    | none => rw [hr] at hj; cases hj
    | some r => rw [hr] at hj; cases hj; exact List.mem_of_getElem? hr
  have h2 := List.all_eq_true.mp h1 _ hm
  exact List.contains_iff_mem.mp h2
theorem tOk_0 : tOk kl0 kl0 = true := by decide +kernel
theorem tOk_H : tOk klH (klH ++ kl0) = true := by decide +kernel
theorem tOk_E : tOk klE (klE ++ kl0) = true := by decide +kernel
theorem tOk_A : tOk klA (klA ++ kl0) = true := by decide +kernel
theorem tOk_B : tOk klB (klB ++ kl0) = true := by decide +kernel
theorem kRa_len : kRa.length = 300 := by decide +kernel
theorem kRa_far {c j : Nat} (h : 300 ≤ c) : (kRa.getD c []).getD j none = none := by
  have : kRa[c]? = none := List.getElem?_eq_none (by rw [kRa_len]; exact h)
  rw [List.getD_eq_getElem?_getD (l := kRa), this]; rfl
/-- what live cells hold is live -/
theorem kU_cl {q : kP} (hu : kU q) {c' j c : Nat} (hc : c' ∈ q.L) (h : kR q c' j = some c) : c ∈ q.L := by
  refine kmd_L hu.1 ?_
  have hm := hu.2.1 c' hc
  unfold kR at h
  by_cases h1 : c' = 0 ∧ j = 7
  · rw [if_pos h1] at h
    by_cases e : q.ex = true
    · rw [if_pos e] at h; cases h; exact Or.inr (Or.inr (Or.inl ⟨e, by decide⟩))
    · rw [if_neg e] at h; cases h
  rw [if_neg h1] at h
  by_cases h2 : c' = 0 ∧ j = 8
  · rw [if_pos h2] at h
    by_cases e : q.hi = true
    · rw [if_pos e] at h; cases h; exact Or.inr (Or.inl ⟨e, by decide⟩)
    · rw [if_neg e] at h; cases h
  rw [if_neg h2] at h
  by_cases h3 : c' = 7
  · rw [if_pos h3] at h
    by_cases e0 : j = 0
    · rw [if_pos e0] at h
      by_cases e : q.t0 = true
      · rw [if_pos e] at h; cases h; exact Or.inr (Or.inr (Or.inr (Or.inl ⟨e, by decide⟩)))
      · rw [if_neg e] at h; cases h
    rw [if_neg e0] at h
    by_cases e1 : j = 1
    · rw [if_pos e1] at h
      by_cases e : q.t1 = true
      · rw [if_pos e] at h; cases h; exact Or.inr (Or.inr (Or.inr (Or.inr (Or.inl ⟨e, by decide⟩))))
      · rw [if_neg e] at h; cases h
    rw [if_neg e1] at h; cases h
  rw [if_neg h3] at h
  by_cases h4 : c' = 200 ∧ j = 7
  · rw [if_pos h4] at h
    rcases hu.2.2.2.1 c h with ⟨rfl, e⟩ | ⟨rfl, e⟩
    · exact Or.inr (Or.inr (Or.inr (Or.inl ⟨e, by decide⟩)))
    · exact Or.inr (Or.inr (Or.inr (Or.inr (Or.inl ⟨e, by decide⟩))))
  rw [if_neg h4] at h
  by_cases h5 : c' = 203
  · rw [if_pos h5] at h
    by_cases e : j < q.kn
    · rw [if_pos e] at h; cases h; exact Or.inr (Or.inr (Or.inr (Or.inr (Or.inr (Or.inl ⟨j, e, rfl⟩)))))
    · rw [if_neg e] at h; cases h
  rw [if_neg h5] at h
  by_cases h6 : c' = 273
  · rw [if_pos h6] at h
    by_cases e : j < q.o0
    · rw [if_pos e] at h; cases h; exact Or.inr (Or.inr (Or.inr (Or.inr (Or.inr (Or.inr (Or.inl ⟨j, e, rfl⟩))))))
    · rw [if_neg e] at h; cases h
  rw [if_neg h6] at h
  by_cases h7 : c' = 293
  · rw [if_pos h7] at h
    by_cases e : j < q.o1
    · rw [if_pos e] at h; cases h; exact Or.inr (Or.inr (Or.inr (Or.inr (Or.inr (Or.inr (Or.inr ⟨j, e, rfl⟩))))))
    · rw [if_neg e] at h; cases h
  rw [if_neg h7] at h
  by_cases h8 : c' = 190
  · rw [if_pos h8] at h
    by_cases e : j < 13
    · rw [if_pos e] at h
      cases h
      subst h8
      have hi : q.hi = true := by
        rcases hm with g | ⟨g, -⟩ | ⟨-, g⟩ | ⟨-, g⟩ | ⟨-, g⟩ | ⟨k, -, g⟩ | ⟨k, -, g⟩ | ⟨k, -, g⟩
        · exact absurd g (by decide)
        · exact g
        · exact absurd g (by decide)
        · exact absurd g (by decide)
        · exact absurd g (by decide)
        · omega
        · omega
        · omega
      exact Or.inr (Or.inl ⟨hi, (by decide : ∀ k, k < 13 → 300 + k ∈ klH) j e⟩)
    · rw [if_neg e] at h; cases h
  rw [if_neg h8] at h
  have spl : ∀ {B : List Nat}, c ∈ B ++ kl0 → c ∈ B ∨ c ∈ kl0 := fun hh => List.mem_append.mp hh
  rcases hm with g | ⟨e, g⟩ | ⟨e, g⟩ | ⟨e, g⟩ | ⟨e, g⟩ | ⟨k, -, g⟩ | ⟨k, -, g⟩ | ⟨k, -, g⟩
  · exact Or.inl (tOk_u tOk_0 g h)
  · rcases spl (tOk_u tOk_H g h) with z | z
    · exact Or.inr (Or.inl ⟨e, z⟩)
    · exact Or.inl z
  · rcases spl (tOk_u tOk_E g h) with z | z
    · exact Or.inr (Or.inr (Or.inl ⟨e, z⟩))
    · exact Or.inl z
  · rcases spl (tOk_u tOk_A g h) with z | z
    · exact Or.inr (Or.inr (Or.inr (Or.inl ⟨e, z⟩)))
    · exact Or.inl z
  · rcases spl (tOk_u tOk_B g h) with z | z
    · exact Or.inr (Or.inr (Or.inr (Or.inr (Or.inl ⟨e, z⟩))))
    · exact Or.inl z
  · rw [kRa_far (by omega)] at h; cases h
  · rw [kRa_far (by omega)] at h; cases h
  · rw [kRa_far (by omega)] at h; cases h
theorem kU_NR {q : kP} (hu : kU q) {c : Nat} (hc : c ∉ q.L) : NR (kf q) c := fun c' h' j h => hc (kU_cl hu h' h)
theorem kU_fr {q : kP} (hu : kU q) {c : Nat} (h : ¬ kmd q c) : c ∉ (kf q).2.1 ∧ NR (kf q) c := ⟨fun hc => h (hu.2.1 c hc), kU_NR hu (fun hc => h (hu.2.1 c hc))⟩
/-- how much was made -/
def wC (q : kP) : Nat := q.kn + q.o0 + q.o1 + (cond q.hi 30 0) + (cond q.ex 30 0) + (cond q.t0 30 0) + cond q.t1 30 0
def wS (q : kP) : Nat := 228 * q.kn + 24 * q.o0 + 24 * q.o1 + (cond q.hi 400 0) + (cond q.ex 20000 0) + (cond q.t0 20000 0) + cond q.t1 20000 0
def kle (q q' : kP) : Prop := (∀ c ∈ q.L, c ∈ q'.L) ∧ ((q.hi = true → q'.hi = true) ∧ (q.ex = true → q'.ex = true) ∧ (q.t0 = true → q'.t0 = true) ∧ (q.t1 = true → q'.t1 = true)) ∧ (q.kn ≤ q'.kn ∧ q.o0 ≤ q'.o0 ∧ q.o1 ≤ q'.o1) ∧ q'.ce + wC q ≤ q.ce + wC q' ∧ q'.sl + wS q ≤ q.sl + wS q'
theorem kle_rf (q : kP) : kle q q := ⟨fun _ h => h, ⟨fun h => h, fun h => h, fun h => h, fun h => h⟩, ⟨Nat.le_refl _, Nat.le_refl _, Nat.le_refl _⟩, Nat.le_refl _, Nat.le_refl _⟩
theorem kle_tr {a b c : kP} (h : kle a b) (g : kle b c) : kle a c := by
  obtain ⟨h1, ⟨h2, h3, h4, h5⟩, ⟨h6, h7, h8⟩, h9, h10⟩ := h
  obtain ⟨g1, ⟨g2, g3, g4, g5⟩, ⟨g6, g7, g8⟩, g9, g10⟩ := g
  exact ⟨fun c hc => g1 c (h1 c hc), ⟨fun z => g2 (h2 z), fun z => g3 (h3 z), fun z => g4 (h4 z), fun z => g5 (h5 z)⟩, ⟨by omega, by omega, by omega⟩, by omega, by omega⟩
theorem kle_T {q q' : kP} {o : Nat} (h : kle q q') (ho : kiT q o) : kiT q' o := by
  rcases ho with ⟨e, g⟩ | ⟨e, g⟩
  · exact Or.inl ⟨e, h.2.1.2.2.1 g⟩
  · exact Or.inr ⟨e, h.2.1.2.2.2 g⟩
def kHi (q : kP) : kP := kmk true q.ex q.t0 q.t1 q.et q.kn q.o0 q.o1 (q.L ++ 180 :: news_180) (q.ce + 22) (q.sl + 286)
def kEx (q : kP) : kP := kmk q.hi true q.t0 q.t1 q.et q.kn q.o0 q.o1 (q.L ++ 200 :: news_200) (q.ce + 12) (q.sl + 14716)
def kT0 (q : kP) : kP := kmk q.hi q.ex true q.t1 q.et q.kn q.o0 q.o1 (q.L ++ 260 :: news_260) (q.ce + 9) (q.sl + 15055)
def kT1 (q : kP) : kP := kmk q.hi q.ex q.t0 true q.et q.kn q.o0 q.o1 (q.L ++ 280 :: news_280) (q.ce + 9) (q.sl + 15055)
def kKn (q : kP) : kP := kmk q.hi q.ex q.t0 q.t1 q.et (q.kn + 1) q.o0 q.o1 (q.L ++ [1000 + q.kn]) (q.ce + 1) (q.sl + 228)
def kO0 (q : kP) : kP := kmk q.hi q.ex q.t0 q.t1 q.et q.kn (q.o0 + 1) q.o1 (q.L ++ [4000 + q.o0]) (q.ce + 1) (q.sl + 24)
def kO1 (q : kP) : kP := kmk q.hi q.ex q.t0 q.t1 q.et q.kn q.o0 (q.o1 + 1) (q.L ++ [7000 + q.o1]) (q.ce + 1) (q.sl + 24)
def kEt (q : kP) (o : Nat) : kP := kmk q.hi q.ex q.t0 q.t1 (some o) q.kn q.o0 q.o1 q.L q.ce q.sl
section GRF
variable {E : gE} {d : Nat} {y : gy} {pc : Nat} {lv : List (Nat × gv)} {st : List gv} {x : gd} {f : gf} {Q : gr → gd → gf → Prop}
/-- a shape that looks alike where it is looked at -/
theorem T_refs {f2 : gf} (h2 : f2.2 = f.2) (hr : ∀ c ∈ f.2.1, ∀ k, (∀ ci sl, E.2.2.2.1 c = .inl (ci, sl) → k < sl.length ∧ sl.getD k false = true) → (∀ ty n, E.2.2.2.1 c = .inr (ty, n) → ty.isReference = true) → f2.1 c k = f.1 c k) (k : T E d y pc lv st x f2 Q) : T E d y pc lv st x f Q :=
  T_stepR h2 (fun p e R s m args below meth c A H locs cells slots ls ad Q9 C hP hS hl kk => by
    have e : gwl E x f2 ad = gwl E x f ad := by
      unfold gwl
      rw [show f2.2.1 = f.2.1 by rw [h2]]
      apply List.map_congr_left
      intro c hc
      have hg : gce E x f2 ad c = gce E x f ad c := by
        cases hk : E.2.2.2.1 c with
        | inl o =>
          obtain ⟨ci, sl⟩ := o
          rw [gce_obj hk, gce_obj hk]
          congr 2
          unfold gfl
          apply List.map_congr_left
          intro j hj
          by_cases hs : sl.getD j false = true
          · rw [if_pos hs, if_pos hs, hr c hc j (fun ci' sl' h' => by rw [hk] at h'; cases h'; exact ⟨List.mem_range.mp hj, hs⟩) (fun ty n h' => by rw [hk] at h'; cases h')]
          · rw [if_neg hs, if_neg hs]
        | inr a =>
          obtain ⟨ty, n⟩ := a
          rw [gce_arr hk, gce_arr hk]
          congr 3
          have hz : ty.isReference = true → ∀ j, f2.1 c j = f.1 c j := fun ht j => hr c hc j (fun ci' sl' h' => by rw [hk] at h'; cases h') (fun ty' n' h' => by rw [hk] at h'; cases h'; exact ht)
          unfold gar
          cases ty <;> first | rfl | (simp only [hz rfl])
      rw [hg]
    exact kk H locs ⟨⟨by rw [e]; exact hP.1.1, by rw [e]; exact hP.1.2⟩, hP.2⟩ hS) k
end GRF
theorem kHi_2 {q : kP} {i : Nat} {v : Option Nat} : (kf (kHi q)).2 = (frf (fops (fnew (kf q) 180 13) ops_180) 0 i v).2 := by
  show ((kHi q).L, (kHi q).ce, (kHi q).sl) = (fops (fnew (kf q) 180 13) ops_180).2
  refine Prod.ext ?_ ?_
  · rw [ops_L]
    show q.L ++ 180 :: news_180 = (q.L ++ [180]) ++ ops_180.flatMap onew
    rw [show ops_180.flatMap onew = news_180 by decide +kernel, List.append_assoc]; rfl
  · rw [ops_ct, show (ops_180.map fun o => (ocel o).1).sum = 21 by decide +kernel, show (ops_180.map fun o => (ocel o).2).sum = 273 by decide +kernel]
    exact Prod.ext (by show q.ce + 22 = q.ce + 1 + 21; omega) (by show q.sl + 286 = q.sl + 13 + 273; omega)
theorem kHi_r {q : kP} (h0 : q.hi = q.hi) (het : q.et = none ∨ True) {c k : Nat} (g1 : ∀ ci sl, kK c = .inl (ci, sl) → k < sl.length ∧ sl.getD k false = true) (g2 : ∀ ty n, kK c = .inr (ty, n) → ty.isReference = true) : (kf (kHi q)).1 c k = (frf (fops (fnew (kf q) 180 13) ops_180) 0 8 (some 180)).1 c k := by
  by_cases hm : c ∈ 180 :: news_180
  · simp only [news_180, List.mem_cons, List.not_mem_nil, or_false] at hm
    rcases hm with rfl | rfl | rfl | rfl | rfl | rfl | rfl | rfl | rfl | rfl | rfl | rfl | rfl | rfl | rfl | rfl | rfl | rfl | rfl | rfl | rfl | rfl
    · have hk : k < 13 := (g1 _ _ kk_180).1
      have hk2 : k = 0 ∨ k = 1 ∨ k = 2 ∨ k = 3 ∨ k = 4 ∨ k = 5 ∨ k = 6 ∨ k = 7 ∨ k = 8 ∨ k = 9 ∨ k = 10 ∨ k = 11 ∨ k = 12 := by omega
      rcases hk2 with rfl | rfl | rfl | rfl | rfl | rfl | rfl | rfl | rfl | rfl | rfl | rfl | rfl <;> first | rfl
    · exact absurd (g2 _ _ kk_181) (by decide)
    · exact absurd (g2 _ _ kk_182) (by decide)
    · exact absurd (g2 _ _ kk_183) (by decide)
    · exact absurd (g2 _ _ kk_184) (by decide)
    · exact absurd (g2 _ _ kk_185) (by decide)
    · exact absurd (g2 _ _ kk_186) (by decide)
    · exact absurd (g2 _ _ kk_189) (by decide)
    · show (if k < 13 then some (300 + k) else none) = (if 190 = 190 ∧ k < 13 then some (300 + k) else none)
      by_cases h13 : k < 13
      · rw [if_pos h13, if_pos ⟨rfl, h13⟩]
      · rw [if_neg h13, if_neg (fun z => h13 z.2)]
    · exact absurd (g2 _ _ (rfl : kK 300 = _)) (by decide)
    · exact absurd (g2 _ _ (rfl : kK 301 = _)) (by decide)
    · exact absurd (g2 _ _ (rfl : kK 302 = _)) (by decide)
    · exact absurd (g2 _ _ (rfl : kK 303 = _)) (by decide)
    · exact absurd (g2 _ _ (rfl : kK 304 = _)) (by decide)
    · exact absurd (g2 _ _ (rfl : kK 305 = _)) (by decide)
    · exact absurd (g2 _ _ (rfl : kK 306 = _)) (by decide)
    · exact absurd (g2 _ _ (rfl : kK 307 = _)) (by decide)
    · exact absurd (g2 _ _ (rfl : kK 308 = _)) (by decide)
    · exact absurd (g2 _ _ (rfl : kK 309 = _)) (by decide)
    · exact absurd (g2 _ _ (rfl : kK 310 = _)) (by decide)
    · exact absurd (g2 _ _ (rfl : kK 311 = _)) (by decide)
    · exact absurd (g2 _ _ (rfl : kK 312 = _)) (by decide)
  · have h1 : (fops (fnew (kf q) 180 13) ops_180).1 c k = kR q c k := by
      rw [ops_same (fun z => hm ((by decide +kernel : ∀ c ∈ ops_180.flatMap otch, c ∈ 180 :: news_180) c z))]
      exact if_neg (fun e => hm (by rw [e]; exact List.mem_cons_self))
    show kR (kHi q) c k = (if c = 0 ∧ k = 8 then some 180 else (fops (fnew (kf q) 180 13) ops_180).1 c k)
    rw [h1]
    unfold kR
    by_cases e : c = 0 ∧ k = 8
    · rw [if_pos e, if_neg (by omega), if_pos e]; rfl
    · rw [if_neg e, if_neg e, if_neg e]; rfl
theorem kEx_2 {q : kP} {i : Nat} {v : Option Nat} : (kf (kEx q)).2 = (frf (fops (fnew (kf q) 200 10) ops_200) 0 i v).2 := by
  show ((kEx q).L, (kEx q).ce, (kEx q).sl) = (fops (fnew (kf q) 200 10) ops_200).2
  refine Prod.ext ?_ ?_
  · rw [ops_L]
    show q.L ++ 200 :: news_200 = (q.L ++ [200]) ++ ops_200.flatMap onew
    rw [show ops_200.flatMap onew = news_200 by decide +kernel, List.append_assoc]; rfl
  · rw [ops_ct, show (ops_200.map fun o => (ocel o).1).sum = 11 by decide +kernel, show (ops_200.map fun o => (ocel o).2).sum = 14706 by decide +kernel]
    exact Prod.ext (by show q.ce + 12 = q.ce + 1 + 11; omega) (by show q.sl + 14716 = q.sl + 10 + 14706; omega)
theorem kEx_r {q : kP} (h0 : q.kn = 0) (het : q.et = none) {c k : Nat} (g1 : ∀ ci sl, kK c = .inl (ci, sl) → k < sl.length ∧ sl.getD k false = true) (g2 : ∀ ty n, kK c = .inr (ty, n) → ty.isReference = true) : (kf (kEx q)).1 c k = (frf (fops (fnew (kf q) 200 10) ops_200) 0 7 (some 200)).1 c k := by
  by_cases hm : c ∈ 200 :: news_200
  · simp only [news_200, List.mem_cons, List.not_mem_nil, or_false] at hm
    rcases hm with rfl | rfl | rfl | rfl | rfl | rfl | rfl | rfl | rfl | rfl | rfl | rfl
    · have hk : k < 10 := (g1 _ _ kk_200).1
      have hk2 : k = 0 ∨ k = 1 ∨ k = 2 ∨ k = 3 ∨ k = 4 ∨ k = 5 ∨ k = 6 ∨ k = 7 ∨ k = 8 ∨ k = 9 := by omega
      rcases hk2 with rfl | rfl | rfl | rfl | rfl | rfl | rfl | rfl | rfl | rfl <;> first | rfl | exact het
    · have hk : k < 15 := (g1 _ _ kk_220).1
      have hk2 : k = 0 ∨ k = 1 ∨ k = 2 ∨ k = 3 ∨ k = 4 ∨ k = 5 ∨ k = 6 ∨ k = 7 ∨ k = 8 ∨ k = 9 ∨ k = 10 ∨ k = 11 ∨ k = 12 ∨ k = 13 ∨ k = 14 := by omega
      rcases hk2 with rfl | rfl | rfl | rfl | rfl | rfl | rfl | rfl | rfl | rfl | rfl | rfl | rfl | rfl | rfl <;> first | rfl
    · have hk : k < 7 := (g1 _ _ kk_240).1
      have hk2 : k = 0 ∨ k = 1 ∨ k = 2 ∨ k = 3 ∨ k = 4 ∨ k = 5 ∨ k = 6 := by omega
      rcases hk2 with rfl | rfl | rfl | rfl | rfl | rfl | rfl <;> first | rfl
    · exact absurd (g2 _ _ kk_225) (by decide)
    · exact absurd (g2 _ _ kk_231) (by decide)
    · exact absurd (g2 _ _ kk_232) (by decide)
    · exact absurd (g2 _ _ kk_233) (by decide)
    · show (if k < q.kn then some _ else none) = none
      rw [h0, if_neg (Nat.not_lt_zero _)]
    · exact absurd (g2 _ _ kk_204) (by decide)
    · exact absurd (g2 _ _ kk_205) (by decide)
    · exact absurd (g2 _ _ kk_209) (by decide)
    · exact absurd (g2 _ _ kk_210) (by decide)
  · have h1 : (fops (fnew (kf q) 200 10) ops_200).1 c k = kR q c k := by
      rw [ops_same (fun z => hm ((by decide +kernel : ∀ c ∈ ops_200.flatMap otch, c ∈ 200 :: news_200) c z))]
      exact if_neg (fun e => hm (by rw [e]; exact List.mem_cons_self))
    show kR (kEx q) c k = (if c = 0 ∧ k = 7 then some 200 else (fops (fnew (kf q) 200 10) ops_200).1 c k)
    rw [h1]
    unfold kR
    by_cases e : c = 0 ∧ k = 7
    · rw [if_pos e, if_pos e]; rfl
    · rw [if_neg e, if_neg e, if_neg e]; rfl
theorem kT0_2 {q : kP} {i : Nat} {v : Option Nat} : (kf (kT0 q)).2 = (frf (fops (fnew (kf q) 260 14) ops_260) 7 i v).2 := by
  show ((kT0 q).L, (kT0 q).ce, (kT0 q).sl) = (fops (fnew (kf q) 260 14) ops_260).2
  refine Prod.ext ?_ ?_
  · rw [ops_L]
    show q.L ++ 260 :: news_260 = (q.L ++ [260]) ++ ops_260.flatMap onew
    rw [show ops_260.flatMap onew = news_260 by decide +kernel, List.append_assoc]; rfl
  · rw [ops_ct, show (ops_260.map fun o => (ocel o).1).sum = 8 by decide +kernel, show (ops_260.map fun o => (ocel o).2).sum = 15041 by decide +kernel]
    exact Prod.ext (by show q.ce + 9 = q.ce + 1 + 8; omega) (by show q.sl + 15055 = q.sl + 14 + 15041; omega)
theorem kT0_r {q : kP} (h0 : q.o0 = 0) (het : q.et = none ∨ True) {c k : Nat} (g1 : ∀ ci sl, kK c = .inl (ci, sl) → k < sl.length ∧ sl.getD k false = true) (g2 : ∀ ty n, kK c = .inr (ty, n) → ty.isReference = true) : (kf (kT0 q)).1 c k = (frf (fops (fnew (kf q) 260 14) ops_260) 7 0 (some 260)).1 c k := by
  by_cases hm : c ∈ 260 :: news_260
  · simp only [news_260, List.mem_cons, List.not_mem_nil, or_false] at hm
    rcases hm with rfl | rfl | rfl | rfl | rfl | rfl | rfl | rfl | rfl
    · have hk : k < 14 := (g1 _ _ (rfl : kK 260 = _)).1
      have hk2 : k = 0 ∨ k = 1 ∨ k = 2 ∨ k = 3 ∨ k = 4 ∨ k = 5 ∨ k = 6 ∨ k = 7 ∨ k = 8 ∨ k = 9 ∨ k = 10 ∨ k = 11 ∨ k = 12 ∨ k = 13 := by omega
      rcases hk2 with rfl | rfl | rfl | rfl | rfl | rfl | rfl | rfl | rfl | rfl | rfl | rfl | rfl | rfl <;> first | rfl
    · exact absurd (g2 _ _ (rfl : kK 267 = _)) (by decide)
    · exact absurd (g2 _ _ (rfl : kK 268 = _)) (by decide)
    · exact absurd (g2 _ _ (rfl : kK 269 = _)) (by decide)
    · exact absurd (g2 _ _ (rfl : kK 270 = _)) (by decide)
    · exact absurd (g2 _ _ (rfl : kK 271 = _)) (by decide)
    · exact absurd (g2 _ _ (rfl : kK 272 = _)) (by decide)
    · show (if k < q.o0 then some _ else none) = none
      rw [h0, if_neg (Nat.not_lt_zero _)]
    · exact absurd (g2 _ _ (rfl : kK 274 = _)) (by decide)
  · have h1 : (fops (fnew (kf q) 260 14) ops_260).1 c k = kR q c k := by
      rw [ops_same (fun z => hm ((by decide +kernel : ∀ c ∈ ops_260.flatMap otch, c ∈ 260 :: news_260) c z))]
      exact if_neg (fun e => hm (by rw [e]; exact List.mem_cons_self))
    show kR (kT0 q) c k = (if c = 7 ∧ k = 0 then some 260 else (fops (fnew (kf q) 260 14) ops_260).1 c k)
    rw [h1]
    by_cases e : c = 7 ∧ k = 0
    · obtain ⟨rfl, rfl⟩ := e
      rfl
    rw [if_neg e]
    by_cases e7 : c = 7
    · subst e7
      have e0 : ¬ k = 0 := fun z => e ⟨rfl, z⟩
      show (if k = 0 then some 260 else if k = 1 then (if q.t1 = true then some 280 else none) else none) = (if k = 0 then (if q.t0 = true then some 260 else none) else if k = 1 then (if q.t1 = true then some 280 else none) else none)
      rw [if_neg e0, if_neg e0]
    · unfold kR
      rw [if_neg e7, if_neg e7]; rfl
theorem kT1_2 {q : kP} {i : Nat} {v : Option Nat} : (kf (kT1 q)).2 = (frf (fops (fnew (kf q) 280 14) ops_280) 7 i v).2 := by
  show ((kT1 q).L, (kT1 q).ce, (kT1 q).sl) = (fops (fnew (kf q) 280 14) ops_280).2
  refine Prod.ext ?_ ?_
  · rw [ops_L]
    show q.L ++ 280 :: news_280 = (q.L ++ [280]) ++ ops_280.flatMap onew
    rw [show ops_280.flatMap onew = news_280 by decide +kernel, List.append_assoc]; rfl
  · rw [ops_ct, show (ops_280.map fun o => (ocel o).1).sum = 8 by decide +kernel, show (ops_280.map fun o => (ocel o).2).sum = 15041 by decide +kernel]
    exact Prod.ext (by show q.ce + 9 = q.ce + 1 + 8; omega) (by show q.sl + 15055 = q.sl + 14 + 15041; omega)
theorem kT1_r {q : kP} (h0 : q.o1 = 0) (het : q.et = none ∨ True) {c k : Nat} (g1 : ∀ ci sl, kK c = .inl (ci, sl) → k < sl.length ∧ sl.getD k false = true) (g2 : ∀ ty n, kK c = .inr (ty, n) → ty.isReference = true) : (kf (kT1 q)).1 c k = (frf (fops (fnew (kf q) 280 14) ops_280) 7 1 (some 280)).1 c k := by
  by_cases hm : c ∈ 280 :: news_280
  · simp only [news_280, List.mem_cons, List.not_mem_nil, or_false] at hm
    rcases hm with rfl | rfl | rfl | rfl | rfl | rfl | rfl | rfl | rfl
    · have hk : k < 14 := (g1 _ _ (rfl : kK 280 = _)).1
      have hk2 : k = 0 ∨ k = 1 ∨ k = 2 ∨ k = 3 ∨ k = 4 ∨ k = 5 ∨ k = 6 ∨ k = 7 ∨ k = 8 ∨ k = 9 ∨ k = 10 ∨ k = 11 ∨ k = 12 ∨ k = 13 := by omega
      rcases hk2 with rfl | rfl | rfl | rfl | rfl | rfl | rfl | rfl | rfl | rfl | rfl | rfl | rfl | rfl <;> first | rfl
    · exact absurd (g2 _ _ (rfl : kK 287 = _)) (by decide)
    · exact absurd (g2 _ _ (rfl : kK 288 = _)) (by decide)
    · exact absurd (g2 _ _ (rfl : kK 289 = _)) (by decide)
    · exact absurd (g2 _ _ (rfl : kK 290 = _)) (by decide)
    · exact absurd (g2 _ _ (rfl : kK 291 = _)) (by decide)
    · exact absurd (g2 _ _ (rfl : kK 292 = _)) (by decide)
    · show (if k < q.o1 then some _ else none) = none
      rw [h0, if_neg (Nat.not_lt_zero _)]
    · exact absurd (g2 _ _ (rfl : kK 294 = _)) (by decide)
  · have h1 : (fops (fnew (kf q) 280 14) ops_280).1 c k = kR q c k := by
      rw [ops_same (fun z => hm ((by decide +kernel : ∀ c ∈ ops_280.flatMap otch, c ∈ 280 :: news_280) c z))]
      exact if_neg (fun e => hm (by rw [e]; exact List.mem_cons_self))
    show kR (kT1 q) c k = (if c = 7 ∧ k = 1 then some 280 else (fops (fnew (kf q) 280 14) ops_280).1 c k)
    rw [h1]
    by_cases e : c = 7 ∧ k = 1
    · obtain ⟨rfl, rfl⟩ := e
      rfl
    rw [if_neg e]
    by_cases e7 : c = 7
    · subst e7
      have e0 : ¬ k = 1 := fun z => e ⟨rfl, z⟩
      show (if k = 0 then (if q.t0 = true then some 260 else none) else if k = 1 then some 280 else none) = (if k = 0 then (if q.t0 = true then some 260 else none) else if k = 1 then (if q.t1 = true then some 280 else none) else none)
      rw [if_neg e0, if_neg e0]
    · unfold kR
      rw [if_neg e7, if_neg e7]; rfl
