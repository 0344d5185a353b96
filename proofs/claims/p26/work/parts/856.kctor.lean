section
/-! constructors: what is made, step by step. An op: a new cell (number, slots), a reference put, an int put, the grid -/
abbrev gop : Type := (Nat × Nat) ⊕ ((Nat × Nat × Nat) ⊕ ((Nat × Nat × Int32) ⊕ Unit))
abbrev oN_ (c n : Nat) : gop := .inl (c, n)
abbrev oR_ (b k c : Nat) : gop := .inr (.inl (b, k, c))
abbrev oI_ (b k : Nat) (v : Int32) : gop := .inr (.inr (.inl (b, k, v)))
abbrev oG_ : gop := .inr (.inr (.inr ()))
def fop (f : gf) (o : gop) : gf := match o with
  | .inl a => fnew f a.1 a.2
  | .inr (.inl a) => frf f a.1 a.2.1 (some a.2.2)
  | .inr (.inr (.inl _)) => f
  | .inr (.inr (.inr _)) => fgrid f
def xop (x : gd) (o : gop) : gd := match o with
  | .inl a => znew x a.1
  | .inr (.inl _) => x
  | .inr (.inr (.inl a)) => si x a.1 a.2.1 a.2.2
  | .inr (.inr (.inr _)) => zgrid x
def fops (f : gf) (l : List gop) : gf := l.foldl fop f
def xops (x : gd) (l : List gop) : gd := l.foldl xop x
def onew (o : gop) : List Nat := match o with
  | .inl a => [a.1]
  | .inr (.inl _) => []
  | .inr (.inr (.inl _)) => []
  | .inr (.inr (.inr _)) => (List.range 14).map gcl
def oput (o : gop) : List Nat := match o with
  | .inl _ => []
  | .inr (.inl a) => [a.2.2]
  | .inr (.inr (.inl _)) => []
  | .inr (.inr (.inr _)) => (List.range 14).map gcl
def ocel (o : gop) : Nat × Nat := match o with
  | .inl a => (1, a.2)
  | .inr (.inl _) => (0, 0)
  | .inr (.inr (.inl _)) => (0, 0)
  | .inr (.inr (.inr _)) => (14, 195)
theorem ops_L : ∀ (l : List gop) (f : gf), (fops f l).2.1 = f.2.1 ++ l.flatMap onew := by
  intro l
  induction l with
  | nil => intro f; show f.2.1 = _; rw [List.flatMap_nil, List.append_nil]
  | cons o r ih =>
    intro f
    show (fops (fop f o) r).2.1 = _
    rw [ih, List.flatMap_cons, ← List.append_assoc]
    congr 1
    rcases o with a | a | a | a
    · rfl
    · show f.2.1 = f.2.1 ++ []; rw [List.append_nil]
    · show f.2.1 = f.2.1 ++ []; rw [List.append_nil]
    · rfl
theorem ops_ct : ∀ (l : List gop) (f : gf), (fops f l).2.2 = (f.2.2.1 + (l.map fun o => (ocel o).1).sum, f.2.2.2 + (l.map fun o => (ocel o).2).sum) := by
  intro l
  induction l with
  | nil => intro f; rfl
  | cons o r ih =>
    intro f
    show (fops (fop f o) r).2.2 = _
    rw [ih, List.map_cons, List.map_cons, List.sum_cons, List.sum_cons]
    rcases o with a | a | a | a
    · show (f.2.2.1 + 1 + _, f.2.2.2 + a.2 + _) = (f.2.2.1 + (1 + _), f.2.2.2 + (a.2 + _)); rw [Nat.add_assoc, Nat.add_assoc]
    · show (f.2.2.1 + _, f.2.2.2 + _) = (f.2.2.1 + (0 + _), f.2.2.2 + (0 + _)); rw [Nat.zero_add, Nat.zero_add]
    · show (f.2.2.1 + _, f.2.2.2 + _) = (f.2.2.1 + (0 + _), f.2.2.2 + (0 + _)); rw [Nat.zero_add, Nat.zero_add]
    · show (f.2.2.1 + 14 + _, f.2.2.2 + 195 + _) = (f.2.2.1 + (14 + _), f.2.2.2 + (195 + _)); rw [Nat.add_assoc, Nat.add_assoc]
theorem isG_m {c : Nat} (h : isG c) : c ∈ (List.range 14).map gcl := by
  refine List.mem_map.mpr ?_
  rcases h with h | h
  · exact ⟨0, List.mem_range.mpr (by omega), by rw [h]; rfl⟩
  · exact ⟨c - 299, List.mem_range.mpr (by omega), by unfold gcl; rw [if_neg (by omega)]; omega⟩
theorem NR_op {f : gf} {o : gop} {c : Nat} (h : NR f c) (hn : c ∉ oput o) : NR (fop f o) c := by
  rcases o with a | a | a | a
  · intro c' hc' j
    show (if c' = a.1 then none else f.1 c' j) ≠ some c
    by_cases e : c' = a.1
    · rw [if_pos e]; intro q; cases q
    · rw [if_neg e]
      rcases List.mem_append.mp hc' with q | q
      · exact h c' q j
      · exact absurd (List.mem_singleton.mp q) e
  · intro c' hc' j
    show (if c' = a.1 ∧ j = a.2.1 then some a.2.2 else f.1 c' j) ≠ some c
    by_cases e : c' = a.1 ∧ j = a.2.1
    · rw [if_pos e]; intro q; exact hn (List.mem_singleton.mpr (Option.some.inj q).symm)
    · rw [if_neg e]; exact h c' hc' j
  · exact h
  · intro c' hc' j
    show (if isG c' then (if c' = 190 ∧ j < 13 then some (300 + j) else none) else f.1 c' j) ≠ some c
    by_cases e : isG c'
    · rw [if_pos e]
      by_cases e2 : c' = 190 ∧ j < 13
      · rw [if_pos e2]; intro q; exact hn (isG_m (by rw [← Option.some.inj q]; exact Or.inr (by omega)))
      · rw [if_neg e2]; intro q; cases q
    · rw [if_neg e]
      rcases List.mem_append.mp hc' with q | q
      · exact h c' q j
      · obtain ⟨i, hi, e9⟩ := List.mem_map.mp q
        exact absurd (e9 ▸ gcl_G (List.mem_range.mp hi)) e
theorem ops_nr {f : gf} {l : List gop} {c : Nat} (h : NR f c) (hn : c ∉ l.flatMap oput) : NR (fops f l) c := by
  induction l generalizing f with
  | nil => exact h
  | cons o r ih =>
    rw [List.flatMap_cons] at hn
    exact ih (NR_op h (fun q => hn (List.mem_append_left _ q))) (fun q => hn (List.mem_append_right _ q))
theorem ops_nd {f : gf} {l : List gop} {c : Nat} (h : c ∉ f.2.1) (hn : c ∉ l.flatMap onew) : c ∉ (fops f l).2.1 := by
  rw [ops_L]; intro q
  rcases List.mem_append.mp q with q | q
  · exact h q
  · exact hn q
theorem ops_in {f : gf} {l : List gop} {c : Nat} (h : c ∈ f.2.1) : c ∈ (fops f l).2.1 := by rw [ops_L]; exact List.mem_append_left _ h
theorem ops_i2 {f : gf} {l : List gop} {c : Nat} (h : c ∈ l.flatMap onew) : c ∈ (fops f l).2.1 := by rw [ops_L]; exact List.mem_append_right _ h
theorem ops_fr {f : gf} {l : List gop} {N M : List Nat} (hfr : ∀ c ∈ N, c ∉ f.2.1 ∧ NR f c) (hs : ∀ c ∈ M, c ∈ N ∧ c ∉ l.flatMap onew ∧ c ∉ l.flatMap oput) : ∀ c ∈ M, c ∉ (fops f l).2.1 ∧ NR (fops f l) c := fun c hc => by
  obtain ⟨a, b, d⟩ := hs c hc
  exact ⟨ops_nd (hfr c a).1 b, ops_nr (hfr c a).2 d⟩
theorem ops_li {f : gf} {l : List gop} {A B : List Nat} (h : ∀ c ∈ A, c ∈ f.2.1) (hs : ∀ c ∈ B, c ∈ A ∨ c ∈ l.flatMap onew) : ∀ c ∈ B, c ∈ (fops f l).2.1 := fun c hc => by
  rcases hs c hc with q | q
  · exact ops_in (h c q)
  · exact ops_i2 q
/-- what the ops leave alone -/
def otch (o : gop) : List Nat := match o with
  | .inl a => [a.1]
  | .inr (.inl a) => [a.1]
  | .inr (.inr (.inl _)) => []
  | .inr (.inr (.inr _)) => (List.range 14).map gcl
theorem ops_same {l : List gop} {f : gf} {c k : Nat} (h : c ∉ l.flatMap otch) : (fops f l).1 c k = f.1 c k := by
  induction l generalizing f with
  | nil => rfl
  | cons o r ih =>
    rw [List.flatMap_cons] at h
    show (fops (fop f o) r).1 c k = _
    rw [ih (fun q => h (List.mem_append_right _ q))]
    have h0 : c ∉ otch o := fun q => h (List.mem_append_left _ q)
    rcases o with a | a | a | a
    · exact if_neg (fun e => h0 (List.mem_singleton.mpr e))
    · exact if_neg (fun e => h0 (List.mem_singleton.mpr e.1))
    · rfl
    · exact if_neg (fun e => h0 (isG_m e))
abbrev zk_X0_init : gy := (yX0_init, cX0_init, 1, none, [])
set_option maxRecDepth 100000 in
theorem kca_X0_init : tables_1_1[135]? = some (Cond.code yX0_init cX0_init 1 none) := rfl
theorem kcw_X0_init : Cond.code yX0_init cX0_init 1 none ∈ W0 := W0_in (tp_1 (List.mem_of_getElem? kca_X0_init)) rfl
set_option maxRecDepth 100000 in
theorem dtk_X0_init : dck cX0_init [(0, .aload_n 0, 1), (1, .invokespecial 1, 3), (4, .aload_n 0, 1), (5, .new 7, 3), (8, .dup, 1), (9, .sipush 400, 3), (12, .invokespecial 11, 3), (15, .putfield 14, 3), (18, .aload_n 0, 1), (19, .sipush 800, 3), (22, .newarray .int, 2), (24, .putfield 18, 3), (27, .aload_n 0, 1), (28, .sipush 800, 3), (31, .newarray .int, 2), (33, .putfield 22, 3), (36, .aload_n 0, 1), (37, .bipush 40, 2), (39, .newarray .int, 2), (41, .putfield 25, 3), (44, .aload_n 0, 1), (45, .bipush 24, 2), (47, .newarray .int, 2), (49, .putfield 30, 3), (52, .aload_n 0, 1), (53, .bipush 24, 2), (55, .newarray .boolean, 2), (57, .putfield 33, 3), (60, .aload_n 0, 1), (61, .bipush 6, 2), (63, .newarray .int, 2), (65, .putfield 37, 3), (68, .aload_n 0, 1), (69, .bipush 6, 2), (71, .newarray .boolean, 2), (73, .putfield 40, 3), (76, .aload_n 0, 1), (77, .iconst 4, 1), (78, .newarray .int, 2), (80, .putfield 43, 3), (83, .aload_n 0, 1), (84, .iconst 4, 1), (85, .newarray .int, 2), (87, .putfield 46, 3), (90, .return_, 1)] = true := by decide +kernel
abbrev zk_X1_init : gy := (yX1_init, cX1_init, 1, none, [])
set_option maxRecDepth 100000 in
theorem kca_X1_init : tables_1_2[120]? = some (Cond.code yX1_init cX1_init 1 none) := rfl
theorem kcw_X1_init : Cond.code yX1_init cX1_init 1 none ∈ W0 := W0_in (tp_2 (List.mem_of_getElem? kca_X1_init)) rfl
set_option maxRecDepth 100000 in
theorem dtk_X1_init : dck cX1_init [(0, .aload_n 0, 1), (1, .invokespecial 1, 3), (4, .return_, 1)] = true := by decide +kernel
abbrev zk_X2_init : gy := (yX2_init, cX2_init, 2, none, [])
set_option maxRecDepth 100000 in
theorem kca_X2_init : tables_1_7[138]? = some (Cond.code yX2_init cX2_init 2 none) := rfl
theorem kcw_X2_init : Cond.code yX2_init cX2_init 2 none ∈ W0 := W0_in (tp_7 (List.mem_of_getElem? kca_X2_init)) rfl
set_option maxRecDepth 100000 in
theorem dtk_X2_init : dck cX2_init [(0, .aload_n 0, 1), (1, .invokespecial 3, 3), (4, .aload_n 0, 1), (5, .aload_n 1, 1), (6, .putfield 9, 3), (9, .aload_n 0, 1), (10, .new 15, 3), (13, .dup, 1), (14, .aload_n 1, 1), (15, .invokespecial 17, 3), (18, .putfield 20, 3), (21, .aload_n 0, 1), (22, .sipush 3000, 3), (25, .anewarray 24, 3), (28, .putfield 26, 3), (31, .aload_n 0, 1), (32, .sipush 3000, 3), (35, .newarray .int, 2), (37, .putfield 30, 3), (40, .aload_n 0, 1), (41, .sipush 8192, 3), (44, .newarray .int, 2), (46, .putfield 33, 3), (49, .aload_n 0, 1), (50, .bipush 6, 2), (52, .newarray .int, 2), (54, .putfield 38, 3), (57, .aload_n 0, 1), (58, .bipush 6, 2), (60, .newarray .int, 2), (62, .putfield 41, 3), (65, .return_, 1)] = true := by decide +kernel
abbrev zk_X3_init : gy := (yX3_init, cX3_init, 1, none, [])
set_option maxRecDepth 100000 in
theorem kca_X3_init : tables_1_7[30]? = some (Cond.code yX3_init cX3_init 1 none) := rfl
theorem kcw_X3_init : Cond.code yX3_init cX3_init 1 none ∈ W0 := W0_in (tp_7 (List.mem_of_getElem? kca_X3_init)) rfl
set_option maxRecDepth 100000 in
theorem dtk_X3_init : dck cX3_init [(0, .aload_n 0, 1), (1, .invokespecial 3, 3), (4, .aload_n 0, 1), (5, .bipush 12, 2), (7, .newarray .int, 2), (9, .putfield 11, 3), (12, .aload_n 0, 1), (13, .bipush 12, 2), (15, .newarray .int, 2), (17, .putfield 15, 3), (20, .aload_n 0, 1), (21, .bipush 12, 2), (23, .newarray .int, 2), (25, .putfield 18, 3), (28, .aload_n 0, 1), (29, .bipush 12, 2), (31, .newarray .int, 2), (33, .putfield 21, 3), (36, .aload_n 0, 1), (37, .bipush 12, 2), (39, .newarray .int, 2), (41, .putfield 24, 3), (44, .aload_n 0, 1), (45, .bipush 12, 2), (47, .newarray .int, 2), (49, .putfield 27, 3), (52, .aload_n 0, 1), (53, .bipush 6, 2), (55, .newarray .int, 2), (57, .putfield 32, 3), (60, .aload_n 0, 1), (61, .bipush 13, 2), (63, .bipush 14, 2), (65, .multianewarray 35 2, 4), (69, .putfield 37, 3), (72, .return_, 1)] = true := by decide +kernel
abbrev zk_X4_init : gy := (yX4_init, cX4_init, 2, none, [])
set_option maxRecDepth 100000 in
theorem kca_X4_init : tables_1_2[218]? = some (Cond.code yX4_init cX4_init 2 none) := rfl
theorem kcw_X4_init : Cond.code yX4_init cX4_init 2 none ∈ W0 := W0_in (tp_2 (List.mem_of_getElem? kca_X4_init)) rfl
set_option maxRecDepth 100000 in
theorem dtk_X4_init : dck cX4_init [(0, .aload_n 0, 1), (1, .invokespecial 5, 3), (4, .aload_n 0, 1), (5, .aload_n 1, 1), (6, .putfield 11, 3), (9, .aload_n 0, 1), (10, .sipush 400, 3), (13, .newarray .int, 2), (15, .putfield 17, 3), (18, .aload_n 0, 1), (19, .sipush 400, 3), (22, .newarray .int, 2), (24, .putfield 21, 3), (27, .aload_n 0, 1), (28, .sipush 400, 3), (31, .newarray .int, 2), (33, .putfield 24, 3), (36, .aload_n 0, 1), (37, .sipush 400, 3), (40, .newarray .int, 2), (42, .putfield 27, 3), (45, .aload_n 0, 1), (46, .sipush 400, 3), (49, .newarray .int, 2), (51, .putfield 30, 3), (54, .aload_n 0, 1), (55, .sipush 400, 3), (58, .newarray .int, 2), (60, .putfield 33, 3), (63, .aload_n 0, 1), (64, .sipush 400, 3), (67, .newarray .boolean, 2), (69, .putfield 36, 3), (72, .aload_n 0, 1), (73, .sipush 400, 3), (76, .newarray .int, 2), (78, .putfield 40, 3), (81, .aload_n 0, 1), (82, .sipush 2400, 3), (85, .newarray .int, 2), (87, .putfield 43, 3), (90, .aload_n 0, 1), (91, .bipush 6, 2), (93, .newarray .int, 2), (95, .putfield 46, 3), (98, .aload_n 0, 1), (99, .bipush 36, 2), (101, .newarray .int, 2), (103, .putfield 49, 3), (106, .aload_n 0, 1), (107, .bipush 36, 2), (109, .newarray .int, 2), (111, .putfield 52, 3), (114, .aload_n 0, 1), (115, .sipush 144, 3), (118, .newarray .int, 2), (120, .putfield 55, 3), (123, .aload_n 0, 1), (124, .bipush 36, 2), (126, .newarray .int, 2), (128, .putfield 58, 3), (131, .return_, 1)] = true := by decide +kernel
abbrev zk_X5_init : gy := (yX5_init, cX5_init, 2, none, [])
set_option maxRecDepth 100000 in
theorem kca_X5_init : tables_1_2[114]? = some (Cond.code yX5_init cX5_init 2 none) := rfl
theorem kcw_X5_init : Cond.code yX5_init cX5_init 2 none ∈ W0 := W0_in (tp_2 (List.mem_of_getElem? kca_X5_init)) rfl
set_option maxRecDepth 100000 in
theorem dtk_X5_init : dck cX5_init [(0, .aload_n 0, 1), (1, .invokespecial 5, 3), (4, .aload_n 0, 1), (5, .aload_n 1, 1), (6, .putfield 11, 3), (9, .aload_n 0, 1), (10, .aload_n 1, 1), (11, .getfield 15, 3), (14, .putfield 21, 3), (17, .aload_n 0, 1), (18, .new 22, 3), (21, .dup, 1), (22, .invokespecial 24, 3), (25, .putfield 25, 3), (28, .aload_n 0, 1), (29, .sipush 228, 3), (32, .newarray .int, 2), (34, .putfield 29, 3), (37, .aload_n 0, 1), (38, .bipush 84, 2), (40, .newarray .int, 2), (42, .putfield 33, 3), (45, .aload_n 0, 1), (46, .bipush 84, 2), (48, .newarray .int, 2), (50, .putfield 36, 3), (53, .aload_n 0, 1), (54, .bipush 84, 2), (56, .newarray .int, 2), (58, .putfield 39, 3), (61, .return_, 1)] = true := by decide +kernel
abbrev zk_X6_init : gy := (yX6_init, cX6_init, 2, none, [])
set_option maxRecDepth 100000 in
theorem kca_X6_init : tables_1_1[87]? = some (Cond.code yX6_init cX6_init 2 none) := rfl
theorem kcw_X6_init : Cond.code yX6_init cX6_init 2 none ∈ W0 := W0_in (tp_1 (List.mem_of_getElem? kca_X6_init)) rfl
set_option maxRecDepth 100000 in
theorem dtk_X6_init : dck cX6_init [(0, .aload_n 0, 1), (1, .invokespecial 3, 3), (4, .aload_n 0, 1), (5, .aload_n 1, 1), (6, .putfield 9, 3), (9, .aload_n 0, 1), (10, .sipush 702, 3), (13, .newarray .int, 2), (15, .putfield 17, 3), (18, .aload_n 0, 1), (19, .sipush 702, 3), (22, .newarray .int, 2), (24, .putfield 21, 3), (27, .aload_n 0, 1), (28, .bipush 24, 2), (30, .newarray .int, 2), (32, .putfield 24, 3), (35, .aload_n 0, 1), (36, .bipush 24, 2), (38, .newarray .int, 2), (40, .putfield 27, 3), (43, .aload_n 0, 1), (44, .bipush 24, 2), (46, .newarray .int, 2), (48, .putfield 30, 3), (51, .aload_n 0, 1), (52, .bipush 6, 2), (54, .newarray .int, 2), (56, .putfield 33, 3), (59, .aload_n 0, 1), (60, .bipush 6, 2), (62, .newarray .int, 2), (64, .putfield 36, 3), (67, .return_, 1)] = true := by decide +kernel
abbrev zk_X7_init : gy := (yX7_init, cX7_init, 4, none, [])
set_option maxRecDepth 100000 in
theorem kca_X7_init : tables_1_2[52]? = some (Cond.code yX7_init cX7_init 4 none) := rfl
theorem kcw_X7_init : Cond.code yX7_init cX7_init 4 none ∈ W0 := W0_in (tp_2 (List.mem_of_getElem? kca_X7_init)) rfl
set_option maxRecDepth 100000 in
theorem dtk_X7_init : dck cX7_init [(0, .aload_n 0, 1), (1, .invokespecial 5, 3), (4, .aload_n 0, 1), (5, .aload_n 1, 1), (6, .putfield 11, 3), (9, .aload_n 0, 1), (10, .aload_n 2, 1), (11, .putfield 15, 3), (14, .aload_n 0, 1), (15, .aload_n 3, 1), (16, .putfield 19, 3), (19, .aload_n 0, 1), (20, .aload_n 3, 1), (21, .getfield 23, 3), (24, .putfield 29, 3), (27, .aload_n 0, 1), (28, .bipush 8, 2), (30, .newarray .int, 2), (32, .putfield 30, 3), (35, .aload_n 0, 1), (36, .bipush 20, 2), (38, .newarray .int, 2), (40, .putfield 34, 3), (43, .aload_n 0, 1), (44, .bipush 20, 2), (46, .newarray .int, 2), (48, .putfield 37, 3), (51, .aload_n 0, 1), (52, .bipush 20, 2), (54, .newarray .int, 2), (56, .putfield 40, 3), (59, .aload_n 0, 1), (60, .bipush 20, 2), (62, .newarray .int, 2), (64, .putfield 43, 3), (67, .aload_n 0, 1), (68, .bipush 20, 2), (70, .newarray .int, 2), (72, .putfield 46, 3), (75, .aload_n 0, 1), (76, .bipush 20, 2), (78, .newarray .int, 2), (80, .putfield 49, 3), (83, .return_, 1)] = true := by decide +kernel
abbrev zk_X8_init : gy := (yX8_init, cX8_init, 2, none, [])
set_option maxRecDepth 100000 in
theorem kca_X8_init : tables_1_1[141]? = some (Cond.code yX8_init cX8_init 2 none) := rfl
theorem kcw_X8_init : Cond.code yX8_init cX8_init 2 none ∈ W0 := W0_in (tp_1 (List.mem_of_getElem? kca_X8_init)) rfl
set_option maxRecDepth 100000 in
theorem dtk_X8_init : dck cX8_init [(0, .aload_n 0, 1), (1, .invokespecial 3, 3), (4, .aload_n 0, 1), (5, .iload_n 1, 1), (6, .newarray .int, 2), (8, .putfield 9, 3), (11, .aload_n 0, 1), (12, .iload_n 1, 1), (13, .newarray .int, 2), (15, .putfield 15, 3), (18, .aload_n 0, 1), (19, .iload_n 1, 1), (20, .newarray .int, 2), (22, .putfield 18, 3), (25, .aload_n 0, 1), (26, .iload_n 1, 1), (27, .newarray .int, 2), (29, .putfield 21, 3), (32, .aload_n 0, 1), (33, .iload_n 1, 1), (34, .newarray .int, 2), (36, .putfield 24, 3), (39, .aload_n 0, 1), (40, .iload_n 1, 1), (41, .newarray .int, 2), (43, .putfield 27, 3), (46, .aload_n 0, 1), (47, .iload_n 1, 1), (48, .newarray .int, 2), (50, .putfield 30, 3), (53, .aload_n 0, 1), (54, .iload_n 1, 1), (55, .newarray .int, 2), (57, .putfield 33, 3), (60, .aload_n 0, 1), (61, .iload_n 1, 1), (62, .newarray .int, 2), (64, .putfield 36, 3), (67, .return_, 1)] = true := by decide +kernel
abbrev zk_X9_init : gy := (yX9_init, cX9_init, 1, none, [])
set_option maxRecDepth 100000 in
theorem kca_X9_init : tables_1_1[40]? = some (Cond.code yX9_init cX9_init 1 none) := rfl
theorem kcw_X9_init : Cond.code yX9_init cX9_init 1 none ∈ W0 := W0_in (tp_1 (List.mem_of_getElem? kca_X9_init)) rfl
set_option maxRecDepth 100000 in
theorem dtk_X9_init : dck cX9_init [(0, .aload_n 0, 1), (1, .invokespecial 3, 3), (4, .aload_n 0, 1), (5, .sipush 3000, 3), (8, .newarray .byte, 2), (10, .putfield 9, 3), (13, .aload_n 0, 1), (14, .sipush 702, 3), (17, .newarray .int, 2), (19, .putfield 15, 3), (22, .aload_n 0, 1), (23, .sipush 702, 3), (26, .newarray .int, 2), (28, .putfield 19, 3), (31, .aload_n 0, 1), (32, .sipush 702, 3), (35, .newarray .int, 2), (37, .putfield 22, 3), (40, .aload_n 0, 1), (41, .sipush 702, 3), (44, .newarray .int, 2), (46, .putfield 25, 3), (49, .aload_n 0, 1), (50, .sipush 702, 3), (53, .newarray .int, 2), (55, .putfield 28, 3), (58, .return_, 1)] = true := by decide +kernel
abbrev zk_X10_init : gy := (yX10_init, cX10_init, 1, none, [])
set_option maxRecDepth 100000 in
theorem kca_X10_init : tables_1_7[177]? = some (Cond.code yX10_init cX10_init 1 none) := rfl
theorem kcw_X10_init : Cond.code yX10_init cX10_init 1 none ∈ W0 := W0_in (tp_7 (List.mem_of_getElem? kca_X10_init)) rfl
set_option maxRecDepth 100000 in
theorem dtk_X10_init : dck cX10_init [(0, .aload_n 0, 1), (1, .invokespecial 3, 3), (4, .aload_n 0, 1), (5, .bipush 11, 2), (7, .newarray .int, 2), (9, .putfield 11, 3), (12, .aload_n 0, 1), (13, .bipush 24, 2), (15, .newarray .int, 2), (17, .putfield 17, 3), (20, .aload_n 0, 1), (21, .bipush 6, 2), (23, .newarray .int, 2), (25, .putfield 20, 3), (28, .aload_n 0, 1), (29, .sipush 3000, 3), (32, .newarray .int, 2), (34, .putfield 23, 3), (37, .aload_n 0, 1), (38, .sipush 3000, 3), (41, .newarray .int, 2), (43, .putfield 26, 3), (46, .aload_n 0, 1), (47, .sipush 3000, 3), (50, .newarray .int, 2), (52, .putfield 29, 3), (55, .aload_n 0, 1), (56, .sipush 3000, 3), (59, .anewarray 32, 3), (62, .putfield 33, 3), (65, .aload_n 0, 1), (66, .sipush 3000, 3), (69, .newarray .int, 2), (71, .putfield 37, 3), (74, .return_, 1)] = true := by decide +kernel
abbrev zk_X11_init : gy := (yX11_init, cX11_init, 1, none, [])
set_option maxRecDepth 100000 in
theorem kca_X11_init : tables_1_1[32]? = some (Cond.code yX11_init cX11_init 1 none) := rfl
theorem kcw_X11_init : Cond.code yX11_init cX11_init 1 none ∈ W0 := W0_in (tp_1 (List.mem_of_getElem? kca_X11_init)) rfl
set_option maxRecDepth 100000 in
theorem dtk_X11_init : dck cX11_init [(0, .aload_n 0, 1), (1, .invokespecial 1, 3), (4, .aload_n 0, 1), (5, .new 7, 3), (8, .dup, 1), (9, .invokespecial 9, 3), (12, .putfield 10, 3), (15, .aload_n 0, 1), (16, .new 16, 3), (19, .dup, 1), (20, .aload_n 0, 1), (21, .getfield 10, 3), (24, .invokespecial 18, 3), (27, .putfield 21, 3), (30, .aload_n 0, 1), (31, .new 25, 3), (34, .dup, 1), (35, .invokespecial 27, 3), (38, .putfield 28, 3), (41, .aload_n 0, 1), (42, .new 32, 3), (45, .dup, 1), (46, .aload_n 0, 1), (47, .getfield 10, 3), (50, .aload_n 0, 1), (51, .getfield 21, 3), (54, .aload_n 0, 1), (55, .getfield 28, 3), (58, .invokespecial 34, 3), (61, .putfield 37, 3), (64, .aload_n 0, 1), (65, .new 41, 3), (68, .dup, 1), (69, .aload_n 0, 1), (70, .getfield 28, 3), (73, .invokespecial 43, 3), (76, .putfield 46, 3), (79, .aload_n 0, 1), (80, .new 50, 3), (83, .dup, 1), (84, .aload_n 0, 1), (85, .getfield 28, 3), (88, .invokespecial 52, 3), (91, .putfield 53, 3), (94, .aload_n 0, 1), (95, .iconst 2, 1), (96, .anewarray 57, 3), (99, .putfield 59, 3), (102, .aload_n 0, 1), (103, .iconst (-1), 1), (104, .putfield 63, 3), (107, .aload_n 0, 1), (108, .iconst (-1), 1), (109, .putfield 67, 3), (112, .return_, 1)] = true := by decide +kernel
theorem kn_X0_7 : gNw RX0 7 8 ks_X8 := ⟨RX8, TX8, tyX8, rfl, kw_X8, (W0_in (tp_1 (List.mem_of_getElem? (i := 137) (by decide +kernel))) rfl), (W0_in (tp_1 (List.mem_of_getElem? (i := 138) (by decide +kernel))) rfl), (W0_in (tp_1 (List.mem_of_getElem? (i := 5) (by decide +kernel))) rfl), tyX8_ok, by decide⟩
theorem kn_X11_7 : gNw RX11 7 9 ks_X9 := ⟨RX9, TX9, tyX9, rfl, kw_X9, (W0_in (tp_1 (List.mem_of_getElem? (i := 36) (by decide +kernel))) rfl), (W0_in (tp_1 (List.mem_of_getElem? (i := 37) (by decide +kernel))) rfl), (W0_in (tp_1 (List.mem_of_getElem? (i := 2) (by decide +kernel))) rfl), tyX9_ok, by decide⟩
theorem kn_X11_16 : gNw RX11 16 6 ks_X6 := ⟨RX6, TX6, tyX6, rfl, kw_X6, (W0_in (tp_1 (List.mem_of_getElem? (i := 83) (by decide +kernel))) rfl), (W0_in (tp_1 (List.mem_of_getElem? (i := 84) (by decide +kernel))) rfl), (W0_in (tp_1 (List.mem_of_getElem? (i := 3) (by decide +kernel))) rfl), tyX6_ok, by decide⟩
theorem kn_X11_25 : gNw RX11 25 0 ks_X0 := ⟨RX0, TX0, tyX0, rfl, kw_X0, (W0_in (tp_1 (List.mem_of_getElem? (i := 131) (by decide +kernel))) rfl), (W0_in (tp_1 (List.mem_of_getElem? (i := 132) (by decide +kernel))) rfl), (W0_in (tp_1 (List.mem_of_getElem? (i := 4) (by decide +kernel))) rfl), tyX0_ok, by decide⟩
theorem kn_X11_32 : gNw RX11 32 7 ks_X7 := ⟨RX7, TX7, tyX7, rfl, kw_X7, (W0_in (tp_2 (List.mem_of_getElem? (i := 48) (by decide +kernel))) rfl), (W0_in (tp_2 (List.mem_of_getElem? (i := 49) (by decide +kernel))) rfl), (W0_in (tp_1 (List.mem_of_getElem? (i := 6) (by decide +kernel))) rfl), tyX7_ok, by decide⟩
theorem kn_X11_41 : gNw RX11 41 5 ks_X5 := ⟨RX5, TX5, tyX5, rfl, kw_X5, (W0_in (tp_2 (List.mem_of_getElem? (i := 110) (by decide +kernel))) rfl), (W0_in (tp_2 (List.mem_of_getElem? (i := 111) (by decide +kernel))) rfl), (W0_in (tp_1 (List.mem_of_getElem? (i := 7) (by decide +kernel))) rfl), tyX5_ok, by decide⟩
theorem kn_X11_50 : gNw RX11 50 4 ks_X4 := ⟨RX4, TX4, tyX4, rfl, kw_X4, (W0_in (tp_2 (List.mem_of_getElem? (i := 214) (by decide +kernel))) rfl), (W0_in (tp_2 (List.mem_of_getElem? (i := 215) (by decide +kernel))) rfl), (W0_in (tp_1 (List.mem_of_getElem? (i := 9) (by decide +kernel))) rfl), tyX4_ok, by decide⟩
theorem kn_X11_57 : gNw RX11 57 10 ks_X10 := ⟨RX10, TX10, tyX10, rfl, kw_X10, (W0_in (tp_3 (List.mem_of_getElem? (i := 50) (by decide +kernel))) rfl), (W0_in (tp_7 (List.mem_of_getElem? (i := 174) (by decide +kernel))) rfl), (W0_in (tp_1 (List.mem_of_getElem? (i := 27) (by decide +kernel))) rfl), tyX10_ok, by decide⟩
theorem kn_X11_278 : gNw RX11 278 3 ks_X3 := ⟨RX3, TX3, tyX3, rfl, kw_X3, (W0_in (tp_7 (List.mem_of_getElem? (i := 26) (by decide +kernel))) rfl), (W0_in (tp_7 (List.mem_of_getElem? (i := 27) (by decide +kernel))) rfl), (W0_in (tp_1 (List.mem_of_getElem? (i := 24) (by decide +kernel))) rfl), tyX3_ok, by decide⟩
theorem kn_X11_298 : gNw RX11 298 2 ks_X2 := ⟨RX2, TX2, tyX2, rfl, kw_X2, (W0_in (tp_7 (List.mem_of_getElem? (i := 134) (by decide +kernel))) rfl), (W0_in (tp_7 (List.mem_of_getElem? (i := 135) (by decide +kernel))) rfl), (W0_in (tp_1 (List.mem_of_getElem? (i := 26) (by decide +kernel))) rfl), tyX2_ok, by decide⟩
theorem kn_X2_15 : gNw RX2 15 5 ks_X5 := ⟨RX5, TX5, tyX5, rfl, kw_X5, (W0_in (tp_7 (List.mem_of_getElem? (i := 140) (by decide +kernel))) rfl), (W0_in (tp_2 (List.mem_of_getElem? (i := 111) (by decide +kernel))) rfl), (W0_in (tp_1 (List.mem_of_getElem? (i := 7) (by decide +kernel))) rfl), tyX5_ok, by decide⟩
theorem kn_X5_22 : gNw RX5 22 1 ks_X1 := ⟨RX1, TX1, tyX1, rfl, kw_X1, (W0_in (tp_2 (List.mem_of_getElem? (i := 116) (by decide +kernel))) rfl), (W0_in (tp_2 (List.mem_of_getElem? (i := 117) (by decide +kernel))) rfl), (W0_in (tp_1 (List.mem_of_getElem? (i := 8) (by decide +kernel))) rfl), tyX1_ok, by decide⟩
theorem kci_X0_11 : gMi RX0 11 zk_X8_init 1 := ⟨⟨(W0_in (tp_1 (List.mem_of_getElem? (i := 139) (by decide +kernel))) rfl), (W0_in (tp_1 (List.mem_of_getElem? (i := 140) (by decide +kernel))) rfl), (W0_in (tp_1 (List.mem_of_getElem? (i := 5) (by decide +kernel))) rfl), kcw_X8_init⟩, ⟨by decide, by decide, by decide +kernel⟩, ⟨by decide, rfl⟩, by decide, rfl⟩
theorem kci_X11_9 : gMi RX11 9 zk_X9_init 0 := ⟨⟨(W0_in (tp_1 (List.mem_of_getElem? (i := 38) (by decide +kernel))) rfl), (W0_in (tp_1 (List.mem_of_getElem? (i := 39) (by decide +kernel))) rfl), (W0_in (tp_1 (List.mem_of_getElem? (i := 2) (by decide +kernel))) rfl), kcw_X9_init⟩, ⟨by decide, by decide, by decide +kernel⟩, ⟨by decide, rfl⟩, by decide, rfl⟩
theorem kci_X11_18 : gMi RX11 18 zk_X6_init 1 := ⟨⟨(W0_in (tp_1 (List.mem_of_getElem? (i := 85) (by decide +kernel))) rfl), (W0_in (tp_1 (List.mem_of_getElem? (i := 86) (by decide +kernel))) rfl), (W0_in (tp_1 (List.mem_of_getElem? (i := 3) (by decide +kernel))) rfl), kcw_X6_init⟩, ⟨by decide, by decide, by decide +kernel⟩, ⟨by decide, rfl⟩, by decide, rfl⟩
theorem kci_X11_27 : gMi RX11 27 zk_X0_init 0 := ⟨⟨(W0_in (tp_1 (List.mem_of_getElem? (i := 133) (by decide +kernel))) rfl), (W0_in (tp_1 (List.mem_of_getElem? (i := 134) (by decide +kernel))) rfl), (W0_in (tp_1 (List.mem_of_getElem? (i := 4) (by decide +kernel))) rfl), kcw_X0_init⟩, ⟨by decide, by decide, by decide +kernel⟩, ⟨by decide, rfl⟩, by decide, rfl⟩
theorem kci_X11_34 : gMi RX11 34 zk_X7_init 3 := ⟨⟨(W0_in (tp_2 (List.mem_of_getElem? (i := 50) (by decide +kernel))) rfl), (W0_in (tp_2 (List.mem_of_getElem? (i := 51) (by decide +kernel))) rfl), (W0_in (tp_1 (List.mem_of_getElem? (i := 6) (by decide +kernel))) rfl), kcw_X7_init⟩, ⟨by decide, by decide, by decide +kernel⟩, ⟨by decide, rfl⟩, by decide, rfl⟩
theorem kci_X11_43 : gMi RX11 43 zk_X5_init 1 := ⟨⟨(W0_in (tp_2 (List.mem_of_getElem? (i := 112) (by decide +kernel))) rfl), (W0_in (tp_2 (List.mem_of_getElem? (i := 113) (by decide +kernel))) rfl), (W0_in (tp_1 (List.mem_of_getElem? (i := 7) (by decide +kernel))) rfl), kcw_X5_init⟩, ⟨by decide, by decide, by decide +kernel⟩, ⟨by decide, rfl⟩, by decide, rfl⟩
theorem kci_X11_52 : gMi RX11 52 zk_X4_init 1 := ⟨⟨(W0_in (tp_2 (List.mem_of_getElem? (i := 216) (by decide +kernel))) rfl), (W0_in (tp_2 (List.mem_of_getElem? (i := 217) (by decide +kernel))) rfl), (W0_in (tp_1 (List.mem_of_getElem? (i := 9) (by decide +kernel))) rfl), kcw_X4_init⟩, ⟨by decide, by decide, by decide +kernel⟩, ⟨by decide, rfl⟩, by decide, rfl⟩
theorem kci_X11_284 : gMi RX11 284 zk_X3_init 0 := ⟨⟨(W0_in (tp_7 (List.mem_of_getElem? (i := 28) (by decide +kernel))) rfl), (W0_in (tp_7 (List.mem_of_getElem? (i := 29) (by decide +kernel))) rfl), (W0_in (tp_1 (List.mem_of_getElem? (i := 24) (by decide +kernel))) rfl), kcw_X3_init⟩, ⟨by decide, by decide, by decide +kernel⟩, ⟨by decide, rfl⟩, by decide, rfl⟩
theorem kci_X11_300 : gMi RX11 300 zk_X2_init 1 := ⟨⟨(W0_in (tp_7 (List.mem_of_getElem? (i := 136) (by decide +kernel))) rfl), (W0_in (tp_7 (List.mem_of_getElem? (i := 137) (by decide +kernel))) rfl), (W0_in (tp_1 (List.mem_of_getElem? (i := 26) (by decide +kernel))) rfl), kcw_X2_init⟩, ⟨by decide, by decide, by decide +kernel⟩, ⟨by decide, rfl⟩, by decide, rfl⟩
theorem kci_X11_301 : gMi RX11 301 zk_X10_init 0 := ⟨⟨(W0_in (tp_7 (List.mem_of_getElem? (i := 175) (by decide +kernel))) rfl), (W0_in (tp_7 (List.mem_of_getElem? (i := 176) (by decide +kernel))) rfl), (W0_in (tp_1 (List.mem_of_getElem? (i := 27) (by decide +kernel))) rfl), kcw_X10_init⟩, ⟨by decide, by decide, by decide +kernel⟩, ⟨by decide, rfl⟩, by decide, rfl⟩
theorem kci_X2_17 : gMi RX2 17 zk_X5_init 1 := ⟨⟨(W0_in (tp_7 (List.mem_of_getElem? (i := 141) (by decide +kernel))) rfl), (W0_in (tp_2 (List.mem_of_getElem? (i := 113) (by decide +kernel))) rfl), (W0_in (tp_1 (List.mem_of_getElem? (i := 7) (by decide +kernel))) rfl), kcw_X5_init⟩, ⟨by decide, by decide, by decide +kernel⟩, ⟨by decide, rfl⟩, by decide, rfl⟩
theorem kci_deed : (Cond.instanceMethod zk_X1_init.1 ∈ W0 ∧ Cond.initialized zk_X1_init.1.cls ∈ W0 ∧ gcw zk_X1_init ∈ W0) ∧ (zk_X1_init.1.cls ≠ "java/lang/invoke/MethodHandle" ∧ zk_X1_init.1.cls ≠ "java/lang/invoke/VarHandle" ∧ (parseMethodDescriptor zk_X1_init.1.desc).map (fun d => d.parameters.length) = some 0) ∧ (plainName zk_X1_init.1.cls = true ∧ zk_X1_init.1.name = "<init>") ∧ zk_X1_init.2.2.1 ≤ 22 ∧ zk_X1_init.2.2.2 = (none, []) := ⟨⟨(W0_in (tp_2 (List.mem_of_getElem? (i := 119) (by decide +kernel))) rfl), (W0_in (tp_1 (List.mem_of_getElem? (i := 8) (by decide +kernel))) rfl), kcw_X1_init⟩, ⟨by decide, by decide, by decide +kernel⟩, ⟨by decide, rfl⟩, by decide, rfl⟩
theorem kg_k {G : kG} : ∀ j, j < 13 → (kE G).2.2.2.1 (300 + j) = .inr (.int, 14) := fun j h => by
  show kK (300 + j) = _
  unfold kK; rw [if_neg (by omega), if_pos (by omega)]
def ops_20 : List gop := [oN_ 21 3000, oR_ 20 0 21, oN_ 23 702, oR_ 20 2 23, oN_ 24 702, oR_ 20 3 24, oN_ 25 702, oR_ 20 4 25, oN_ 26 702, oR_ 20 5 26, oN_ 27 702, oR_ 20 6 27]
def news_20 : List Nat := [21, 23, 24, 25, 26, 27]
set_option maxRecDepth 100000 in
set_option maxHeartbeats 4000000 in
theorem kc_20 {G : kG} {d : Nat} {x : gd} {f : gf} {Q : gr → gd → gf → Prop} (hB : 20 ∈ f.2.1) (hfr : ∀ c ∈ news_20, c ∉ f.2.1 ∧ NR f c) (h : Q (.inl none) (xops x ops_20) (fops f ops_20)) : T (kE G) (d + 1) zk_X9_init 0 [(0, vr 20)] [] x f Q := by
  refine T_aload_n 0 (dk dtk_X9_init 0 rfl) rfl rfl ?_
  refine T_objInit (dk dtk_X9_init 1 rfl) ⟨(W0_in (tp_1 (List.mem_of_getElem? (i := 41) (by decide +kernel))) rfl), (W0_in (tp_1 (List.mem_of_getElem? (i := 34) (by decide +kernel))) rfl), (W0_in (tp_1 (List.mem_of_getElem? (i := 35) (by decide +kernel))) rfl)⟩ (by omega) (Nat.le_of_ble_eq_true rfl) ?_
  refine T_aload_n 0 (dk dtk_X9_init 2 rfl) rfl rfl ?_
  refine T_sipush (v := 3000) (dk dtk_X9_init 3 rfl) (by decide +kernel) ?_
  refine T_newI 21 (dk dtk_X9_init 4 rfl) rfl (Or.inr (Or.inl rfl)) (W0_in (tp_1 (List.mem_of_getElem? (i := 81) (by decide +kernel))) rfl) kk_21 (by decide) (by decide) (by decide) (ops_nd (l := List.take 0 ops_20) (hfr 21 (by decide)).1 (by decide)) (Or.inl (by decide)) (ops_nr (l := List.take 0 ops_20) (hfr 21 (by decide)).2 (by decide)) (gok_i (av_c (gkr (ops_in (l := List.take 0 ops_20) hB)) av_n) (as_c (gkr (ops_in (l := List.take 0 ops_20) hB)) as_n)) ?_
  refine T_putRF 20 0 21 (dk dtk_X9_init 5 rfl) rfl kfl_X9_9 kk_20 (ops_in (l := List.take 1 ops_20) hB) (by decide) rfl (fun _ => ⟨rfl, rfl⟩) (fun r h => by cases h; rfl) ?_
  refine T_aload_n 0 (dk dtk_X9_init 6 rfl) rfl rfl ?_
  refine T_sipush (v := 702) (dk dtk_X9_init 7 rfl) (by decide +kernel) ?_
  refine T_newI 23 (dk dtk_X9_init 8 rfl) rfl (Or.inl rfl) (W0_in (tp_1 (List.mem_of_getElem? (i := 82) (by decide +kernel))) rfl) kk_23 (by decide) (by decide) (by decide) (ops_nd (l := List.take 2 ops_20) (hfr 23 (by decide)).1 (by decide)) (Or.inl (by decide)) (ops_nr (l := List.take 2 ops_20) (hfr 23 (by decide)).2 (by decide)) (gok_i (av_c (gkr (ops_in (l := List.take 2 ops_20) hB)) av_n) (as_c (gkr (ops_in (l := List.take 2 ops_20) hB)) as_n)) ?_
  refine T_putRF 20 2 23 (dk dtk_X9_init 9 rfl) rfl kfl_X9_15 kk_20 (ops_in (l := List.take 3 ops_20) hB) (by decide) rfl (fun _ => ⟨rfl, rfl⟩) (fun r h => by cases h; rfl) ?_
  refine T_aload_n 0 (dk dtk_X9_init 10 rfl) rfl rfl ?_
  refine T_sipush (v := 702) (dk dtk_X9_init 11 rfl) (by decide +kernel) ?_
  refine T_newI 24 (dk dtk_X9_init 12 rfl) rfl (Or.inl rfl) (W0_in (tp_1 (List.mem_of_getElem? (i := 82) (by decide +kernel))) rfl) kk_24 (by decide) (by decide) (by decide) (ops_nd (l := List.take 4 ops_20) (hfr 24 (by decide)).1 (by decide)) (Or.inl (by decide)) (ops_nr (l := List.take 4 ops_20) (hfr 24 (by decide)).2 (by decide)) (gok_i (av_c (gkr (ops_in (l := List.take 4 ops_20) hB)) av_n) (as_c (gkr (ops_in (l := List.take 4 ops_20) hB)) as_n)) ?_
  refine T_putRF 20 3 24 (dk dtk_X9_init 13 rfl) rfl kfl_X9_19 kk_20 (ops_in (l := List.take 5 ops_20) hB) (by decide) rfl (fun _ => ⟨rfl, rfl⟩) (fun r h => by cases h; rfl) ?_
  refine T_aload_n 0 (dk dtk_X9_init 14 rfl) rfl rfl ?_
  refine T_sipush (v := 702) (dk dtk_X9_init 15 rfl) (by decide +kernel) ?_
  refine T_newI 25 (dk dtk_X9_init 16 rfl) rfl (Or.inl rfl) (W0_in (tp_1 (List.mem_of_getElem? (i := 82) (by decide +kernel))) rfl) kk_25 (by decide) (by decide) (by decide) (ops_nd (l := List.take 6 ops_20) (hfr 25 (by decide)).1 (by decide)) (Or.inl (by decide)) (ops_nr (l := List.take 6 ops_20) (hfr 25 (by decide)).2 (by decide)) (gok_i (av_c (gkr (ops_in (l := List.take 6 ops_20) hB)) av_n) (as_c (gkr (ops_in (l := List.take 6 ops_20) hB)) as_n)) ?_
  refine T_putRF 20 4 25 (dk dtk_X9_init 17 rfl) rfl kfl_X9_22 kk_20 (ops_in (l := List.take 7 ops_20) hB) (by decide) rfl (fun _ => ⟨rfl, rfl⟩) (fun r h => by cases h; rfl) ?_
  refine T_aload_n 0 (dk dtk_X9_init 18 rfl) rfl rfl ?_
  refine T_sipush (v := 702) (dk dtk_X9_init 19 rfl) (by decide +kernel) ?_
  refine T_newI 26 (dk dtk_X9_init 20 rfl) rfl (Or.inl rfl) (W0_in (tp_1 (List.mem_of_getElem? (i := 82) (by decide +kernel))) rfl) kk_26 (by decide) (by decide) (by decide) (ops_nd (l := List.take 8 ops_20) (hfr 26 (by decide)).1 (by decide)) (Or.inl (by decide)) (ops_nr (l := List.take 8 ops_20) (hfr 26 (by decide)).2 (by decide)) (gok_i (av_c (gkr (ops_in (l := List.take 8 ops_20) hB)) av_n) (as_c (gkr (ops_in (l := List.take 8 ops_20) hB)) as_n)) ?_
  refine T_putRF 20 5 26 (dk dtk_X9_init 21 rfl) rfl kfl_X9_25 kk_20 (ops_in (l := List.take 9 ops_20) hB) (by decide) rfl (fun _ => ⟨rfl, rfl⟩) (fun r h => by cases h; rfl) ?_
  refine T_aload_n 0 (dk dtk_X9_init 22 rfl) rfl rfl ?_
  refine T_sipush (v := 702) (dk dtk_X9_init 23 rfl) (by decide +kernel) ?_
  refine T_newI 27 (dk dtk_X9_init 24 rfl) rfl (Or.inl rfl) (W0_in (tp_1 (List.mem_of_getElem? (i := 82) (by decide +kernel))) rfl) kk_27 (by decide) (by decide) (by decide) (ops_nd (l := List.take 10 ops_20) (hfr 27 (by decide)).1 (by decide)) (Or.inl (by decide)) (ops_nr (l := List.take 10 ops_20) (hfr 27 (by decide)).2 (by decide)) (gok_i (av_c (gkr (ops_in (l := List.take 10 ops_20) hB)) av_n) (as_c (gkr (ops_in (l := List.take 10 ops_20) hB)) as_n)) ?_
  refine T_putRF 20 6 27 (dk dtk_X9_init 25 rfl) rfl kfl_X9_28 kk_20 (ops_in (l := List.take 11 ops_20) hB) (by decide) rfl (fun _ => ⟨rfl, rfl⟩) (fun r h => by cases h; rfl) ?_
  exact T_vret (dk dtk_X9_init 26 rfl) rfl h
def ops_40 : List gop := [oR_ 40 0 20, oN_ 42 702, oR_ 40 1 42, oN_ 43 702, oR_ 40 2 43, oN_ 44 24, oR_ 40 3 44, oN_ 45 24, oR_ 40 4 45, oN_ 46 24, oR_ 40 5 46, oN_ 48 6, oR_ 40 7 48, oN_ 50 6, oR_ 40 9 50]
def news_40 : List Nat := [42, 43, 44, 45, 46, 48, 50]
set_option maxRecDepth 100000 in
set_option maxHeartbeats 4000000 in
theorem kc_40 {G : kG} {d : Nat} {x : gd} {f : gf} {Q : gr → gd → gf → Prop} (hB : 40 ∈ f.2.1) (ha_20 : 20 ∈ f.2.1) (hfr : ∀ c ∈ news_40, c ∉ f.2.1 ∧ NR f c) (h : Q (.inl none) (xops x ops_40) (fops f ops_40)) : T (kE G) (d + 1) zk_X6_init 0 [(0, vr 40), (1, vr 20)] [] x f Q := by
  refine T_aload_n 0 (dk dtk_X6_init 0 rfl) rfl rfl ?_
  refine T_objInit (dk dtk_X6_init 1 rfl) ⟨(W0_in (tp_1 (List.mem_of_getElem? (i := 88) (by decide +kernel))) rfl), (W0_in (tp_1 (List.mem_of_getElem? (i := 34) (by decide +kernel))) rfl), (W0_in (tp_1 (List.mem_of_getElem? (i := 35) (by decide +kernel))) rfl)⟩ (by omega) (Nat.le_of_ble_eq_true rfl) ?_
  refine T_aload_n 0 (dk dtk_X6_init 2 rfl) rfl rfl ?_
  refine T_aload_n 1 (dk dtk_X6_init 3 rfl) rfl rfl ?_
  refine T_putRF 40 0 20 (dk dtk_X6_init 4 rfl) rfl kfl_X6_9 kk_40 (ops_in (l := List.take 0 ops_40) hB) (by decide) rfl (fun _ => ⟨rfl, rfl⟩) (fun r h => by cases h; rfl) ?_
  refine T_aload_n 0 (dk dtk_X6_init 5 rfl) rfl rfl ?_
  refine T_sipush (v := 702) (dk dtk_X6_init 6 rfl) (by decide +kernel) ?_
  refine T_newI 42 (dk dtk_X6_init 7 rfl) rfl (Or.inl rfl) (W0_in (tp_1 (List.mem_of_getElem? (i := 82) (by decide +kernel))) rfl) kk_42 (by decide) (by decide) (by decide) (ops_nd (l := List.take 1 ops_40) (hfr 42 (by decide)).1 (by decide)) (Or.inl (by decide)) (ops_nr (l := List.take 1 ops_40) (hfr 42 (by decide)).2 (by decide)) (gok_i (av_c (gkr (ops_in (l := List.take 1 ops_40) hB)) (av_c (gkr (ops_in (l := List.take 1 ops_40) ha_20)) av_n)) (as_c (gkr (ops_in (l := List.take 1 ops_40) hB)) as_n)) ?_
  refine T_putRF 40 1 42 (dk dtk_X6_init 8 rfl) rfl kfl_X6_17 kk_40 (ops_in (l := List.take 2 ops_40) hB) (by decide) rfl (fun _ => ⟨rfl, rfl⟩) (fun r h => by cases h; rfl) ?_
  refine T_aload_n 0 (dk dtk_X6_init 9 rfl) rfl rfl ?_
  refine T_sipush (v := 702) (dk dtk_X6_init 10 rfl) (by decide +kernel) ?_
  refine T_newI 43 (dk dtk_X6_init 11 rfl) rfl (Or.inl rfl) (W0_in (tp_1 (List.mem_of_getElem? (i := 82) (by decide +kernel))) rfl) kk_43 (by decide) (by decide) (by decide) (ops_nd (l := List.take 3 ops_40) (hfr 43 (by decide)).1 (by decide)) (Or.inl (by decide)) (ops_nr (l := List.take 3 ops_40) (hfr 43 (by decide)).2 (by decide)) (gok_i (av_c (gkr (ops_in (l := List.take 3 ops_40) hB)) (av_c (gkr (ops_in (l := List.take 3 ops_40) ha_20)) av_n)) (as_c (gkr (ops_in (l := List.take 3 ops_40) hB)) as_n)) ?_
  refine T_putRF 40 2 43 (dk dtk_X6_init 12 rfl) rfl kfl_X6_21 kk_40 (ops_in (l := List.take 4 ops_40) hB) (by decide) rfl (fun _ => ⟨rfl, rfl⟩) (fun r h => by cases h; rfl) ?_
  refine T_aload_n 0 (dk dtk_X6_init 13 rfl) rfl rfl ?_
  refine T_bipush (v := 24) (dk dtk_X6_init 14 rfl) (by decide +kernel) ?_
  refine T_newI 44 (dk dtk_X6_init 15 rfl) rfl (Or.inl rfl) (W0_in (tp_1 (List.mem_of_getElem? (i := 82) (by decide +kernel))) rfl) kk_44 (by decide) (by decide) (by decide) (ops_nd (l := List.take 5 ops_40) (hfr 44 (by decide)).1 (by decide)) (Or.inl (by decide)) (ops_nr (l := List.take 5 ops_40) (hfr 44 (by decide)).2 (by decide)) (gok_i (av_c (gkr (ops_in (l := List.take 5 ops_40) hB)) (av_c (gkr (ops_in (l := List.take 5 ops_40) ha_20)) av_n)) (as_c (gkr (ops_in (l := List.take 5 ops_40) hB)) as_n)) ?_
  refine T_putRF 40 3 44 (dk dtk_X6_init 16 rfl) rfl kfl_X6_24 kk_40 (ops_in (l := List.take 6 ops_40) hB) (by decide) rfl (fun _ => ⟨rfl, rfl⟩) (fun r h => by cases h; rfl) ?_
  refine T_aload_n 0 (dk dtk_X6_init 17 rfl) rfl rfl ?_
  refine T_bipush (v := 24) (dk dtk_X6_init 18 rfl) (by decide +kernel) ?_
  refine T_newI 45 (dk dtk_X6_init 19 rfl) rfl (Or.inl rfl) (W0_in (tp_1 (List.mem_of_getElem? (i := 82) (by decide +kernel))) rfl) kk_45 (by decide) (by decide) (by decide) (ops_nd (l := List.take 7 ops_40) (hfr 45 (by decide)).1 (by decide)) (Or.inl (by decide)) (ops_nr (l := List.take 7 ops_40) (hfr 45 (by decide)).2 (by decide)) (gok_i (av_c (gkr (ops_in (l := List.take 7 ops_40) hB)) (av_c (gkr (ops_in (l := List.take 7 ops_40) ha_20)) av_n)) (as_c (gkr (ops_in (l := List.take 7 ops_40) hB)) as_n)) ?_
  refine T_putRF 40 4 45 (dk dtk_X6_init 20 rfl) rfl kfl_X6_27 kk_40 (ops_in (l := List.take 8 ops_40) hB) (by decide) rfl (fun _ => ⟨rfl, rfl⟩) (fun r h => by cases h; rfl) ?_
  refine T_aload_n 0 (dk dtk_X6_init 21 rfl) rfl rfl ?_
  refine T_bipush (v := 24) (dk dtk_X6_init 22 rfl) (by decide +kernel) ?_
  refine T_newI 46 (dk dtk_X6_init 23 rfl) rfl (Or.inl rfl) (W0_in (tp_1 (List.mem_of_getElem? (i := 82) (by decide +kernel))) rfl) kk_46 (by decide) (by decide) (by decide) (ops_nd (l := List.take 9 ops_40) (hfr 46 (by decide)).1 (by decide)) (Or.inl (by decide)) (ops_nr (l := List.take 9 ops_40) (hfr 46 (by decide)).2 (by decide)) (gok_i (av_c (gkr (ops_in (l := List.take 9 ops_40) hB)) (av_c (gkr (ops_in (l := List.take 9 ops_40) ha_20)) av_n)) (as_c (gkr (ops_in (l := List.take 9 ops_40) hB)) as_n)) ?_
  refine T_putRF 40 5 46 (dk dtk_X6_init 24 rfl) rfl kfl_X6_30 kk_40 (ops_in (l := List.take 10 ops_40) hB) (by decide) rfl (fun _ => ⟨rfl, rfl⟩) (fun r h => by cases h; rfl) ?_
  refine T_aload_n 0 (dk dtk_X6_init 25 rfl) rfl rfl ?_
  refine T_bipush (v := 6) (dk dtk_X6_init 26 rfl) (by decide +kernel) ?_
  refine T_newI 48 (dk dtk_X6_init 27 rfl) rfl (Or.inl rfl) (W0_in (tp_1 (List.mem_of_getElem? (i := 82) (by decide +kernel))) rfl) kk_48 (by decide) (by decide) (by decide) (ops_nd (l := List.take 11 ops_40) (hfr 48 (by decide)).1 (by decide)) (Or.inl (by decide)) (ops_nr (l := List.take 11 ops_40) (hfr 48 (by decide)).2 (by decide)) (gok_i (av_c (gkr (ops_in (l := List.take 11 ops_40) hB)) (av_c (gkr (ops_in (l := List.take 11 ops_40) ha_20)) av_n)) (as_c (gkr (ops_in (l := List.take 11 ops_40) hB)) as_n)) ?_
  refine T_putRF 40 7 48 (dk dtk_X6_init 28 rfl) rfl kfl_X6_33 kk_40 (ops_in (l := List.take 12 ops_40) hB) (by decide) rfl (fun _ => ⟨rfl, rfl⟩) (fun r h => by cases h; rfl) ?_
  refine T_aload_n 0 (dk dtk_X6_init 29 rfl) rfl rfl ?_
  refine T_bipush (v := 6) (dk dtk_X6_init 30 rfl) (by decide +kernel) ?_
  refine T_newI 50 (dk dtk_X6_init 31 rfl) rfl (Or.inl rfl) (W0_in (tp_1 (List.mem_of_getElem? (i := 82) (by decide +kernel))) rfl) kk_50 (by decide) (by decide) (by decide) (ops_nd (l := List.take 13 ops_40) (hfr 50 (by decide)).1 (by decide)) (Or.inl (by decide)) (ops_nr (l := List.take 13 ops_40) (hfr 50 (by decide)).2 (by decide)) (gok_i (av_c (gkr (ops_in (l := List.take 13 ops_40) hB)) (av_c (gkr (ops_in (l := List.take 13 ops_40) ha_20)) av_n)) (as_c (gkr (ops_in (l := List.take 13 ops_40) hB)) as_n)) ?_
  refine T_putRF 40 9 50 (dk dtk_X6_init 32 rfl) rfl kfl_X6_36 kk_40 (ops_in (l := List.take 14 ops_40) hB) (by decide) rfl (fun _ => ⟨rfl, rfl⟩) (fun r h => by cases h; rfl) ?_
  exact T_vret (dk dtk_X6_init 33 rfl) rfl h
def ops_80 : List gop := [oN_ 81 400, oR_ 80 0 81, oN_ 82 400, oR_ 80 1 82, oN_ 83 400, oR_ 80 2 83, oN_ 84 400, oR_ 80 3 84, oN_ 85 400, oR_ 80 4 85, oN_ 86 400, oR_ 80 5 86, oN_ 87 400, oR_ 80 6 87, oN_ 88 400, oR_ 80 7 88, oN_ 89 400, oR_ 80 8 89]
def news_80 : List Nat := [81, 82, 83, 84, 85, 86, 87, 88, 89]
set_option maxRecDepth 100000 in
set_option maxHeartbeats 4000000 in
theorem kc_80 {G : kG} {d : Nat} {x : gd} {f : gf} {Q : gr → gd → gf → Prop} (hB : 80 ∈ f.2.1) (hfr : ∀ c ∈ news_80, c ∉ f.2.1 ∧ NR f c) (h : Q (.inl none) (xops x ops_80) (fops f ops_80)) : T (kE G) (d + 1) zk_X8_init 0 [(0, vr 80), (1, vi 400)] [] x f Q := by
  refine T_aload_n 0 (dk dtk_X8_init 0 rfl) rfl rfl ?_
  refine T_objInit (dk dtk_X8_init 1 rfl) ⟨(W0_in (tp_1 (List.mem_of_getElem? (i := 142) (by decide +kernel))) rfl), (W0_in (tp_1 (List.mem_of_getElem? (i := 34) (by decide +kernel))) rfl), (W0_in (tp_1 (List.mem_of_getElem? (i := 35) (by decide +kernel))) rfl)⟩ (by omega) (Nat.le_of_ble_eq_true rfl) ?_
  refine T_aload_n 0 (dk dtk_X8_init 2 rfl) rfl rfl ?_
  refine T_iload_n 1 (dk dtk_X8_init 3 rfl) rfl rfl ?_
  refine T_newI 81 (dk dtk_X8_init 4 rfl) rfl (Or.inl rfl) (W0_in (tp_1 (List.mem_of_getElem? (i := 82) (by decide +kernel))) rfl) kk_81 (by decide) (by decide) (by decide) (ops_nd (l := List.take 0 ops_80) (hfr 81 (by decide)).1 (by decide)) (Or.inl (by decide)) (ops_nr (l := List.take 0 ops_80) (hfr 81 (by decide)).2 (by decide)) (gok_i (av_c (gkr (ops_in (l := List.take 0 ops_80) hB)) (av_c rfl av_n)) (as_c (gkr (ops_in (l := List.take 0 ops_80) hB)) as_n)) ?_
  refine T_putRF 80 0 81 (dk dtk_X8_init 5 rfl) rfl kfl_X8_9 kk_80 (ops_in (l := List.take 1 ops_80) hB) (by decide) rfl (fun _ => ⟨rfl, rfl⟩) (fun r h => by cases h; rfl) ?_
  refine T_aload_n 0 (dk dtk_X8_init 6 rfl) rfl rfl ?_
  refine T_iload_n 1 (dk dtk_X8_init 7 rfl) rfl rfl ?_
  refine T_newI 82 (dk dtk_X8_init 8 rfl) rfl (Or.inl rfl) (W0_in (tp_1 (List.mem_of_getElem? (i := 82) (by decide +kernel))) rfl) kk_82 (by decide) (by decide) (by decide) (ops_nd (l := List.take 2 ops_80) (hfr 82 (by decide)).1 (by decide)) (Or.inl (by decide)) (ops_nr (l := List.take 2 ops_80) (hfr 82 (by decide)).2 (by decide)) (gok_i (av_c (gkr (ops_in (l := List.take 2 ops_80) hB)) (av_c rfl av_n)) (as_c (gkr (ops_in (l := List.take 2 ops_80) hB)) as_n)) ?_
  refine T_putRF 80 1 82 (dk dtk_X8_init 9 rfl) rfl kfl_X8_15 kk_80 (ops_in (l := List.take 3 ops_80) hB) (by decide) rfl (fun _ => ⟨rfl, rfl⟩) (fun r h => by cases h; rfl) ?_
  refine T_aload_n 0 (dk dtk_X8_init 10 rfl) rfl rfl ?_
  refine T_iload_n 1 (dk dtk_X8_init 11 rfl) rfl rfl ?_
  refine T_newI 83 (dk dtk_X8_init 12 rfl) rfl (Or.inl rfl) (W0_in (tp_1 (List.mem_of_getElem? (i := 82) (by decide +kernel))) rfl) kk_83 (by decide) (by decide) (by decide) (ops_nd (l := List.take 4 ops_80) (hfr 83 (by decide)).1 (by decide)) (Or.inl (by decide)) (ops_nr (l := List.take 4 ops_80) (hfr 83 (by decide)).2 (by decide)) (gok_i (av_c (gkr (ops_in (l := List.take 4 ops_80) hB)) (av_c rfl av_n)) (as_c (gkr (ops_in (l := List.take 4 ops_80) hB)) as_n)) ?_
  refine T_putRF 80 2 83 (dk dtk_X8_init 13 rfl) rfl kfl_X8_18 kk_80 (ops_in (l := List.take 5 ops_80) hB) (by decide) rfl (fun _ => ⟨rfl, rfl⟩) (fun r h => by cases h; rfl) ?_
  refine T_aload_n 0 (dk dtk_X8_init 14 rfl) rfl rfl ?_
  refine T_iload_n 1 (dk dtk_X8_init 15 rfl) rfl rfl ?_
  refine T_newI 84 (dk dtk_X8_init 16 rfl) rfl (Or.inl rfl) (W0_in (tp_1 (List.mem_of_getElem? (i := 82) (by decide +kernel))) rfl) kk_84 (by decide) (by decide) (by decide) (ops_nd (l := List.take 6 ops_80) (hfr 84 (by decide)).1 (by decide)) (Or.inl (by decide)) (ops_nr (l := List.take 6 ops_80) (hfr 84 (by decide)).2 (by decide)) (gok_i (av_c (gkr (ops_in (l := List.take 6 ops_80) hB)) (av_c rfl av_n)) (as_c (gkr (ops_in (l := List.take 6 ops_80) hB)) as_n)) ?_
  refine T_putRF 80 3 84 (dk dtk_X8_init 17 rfl) rfl kfl_X8_21 kk_80 (ops_in (l := List.take 7 ops_80) hB) (by decide) rfl (fun _ => ⟨rfl, rfl⟩) (fun r h => by cases h; rfl) ?_
  refine T_aload_n 0 (dk dtk_X8_init 18 rfl) rfl rfl ?_
  refine T_iload_n 1 (dk dtk_X8_init 19 rfl) rfl rfl ?_
  refine T_newI 85 (dk dtk_X8_init 20 rfl) rfl (Or.inl rfl) (W0_in (tp_1 (List.mem_of_getElem? (i := 82) (by decide +kernel))) rfl) kk_85 (by decide) (by decide) (by decide) (ops_nd (l := List.take 8 ops_80) (hfr 85 (by decide)).1 (by decide)) (Or.inl (by decide)) (ops_nr (l := List.take 8 ops_80) (hfr 85 (by decide)).2 (by decide)) (gok_i (av_c (gkr (ops_in (l := List.take 8 ops_80) hB)) (av_c rfl av_n)) (as_c (gkr (ops_in (l := List.take 8 ops_80) hB)) as_n)) ?_
  refine T_putRF 80 4 85 (dk dtk_X8_init 21 rfl) rfl kfl_X8_24 kk_80 (ops_in (l := List.take 9 ops_80) hB) (by decide) rfl (fun _ => ⟨rfl, rfl⟩) (fun r h => by cases h; rfl) ?_
  refine T_aload_n 0 (dk dtk_X8_init 22 rfl) rfl rfl ?_
  refine T_iload_n 1 (dk dtk_X8_init 23 rfl) rfl rfl ?_
  refine T_newI 86 (dk dtk_X8_init 24 rfl) rfl (Or.inl rfl) (W0_in (tp_1 (List.mem_of_getElem? (i := 82) (by decide +kernel))) rfl) kk_86 (by decide) (by decide) (by decide) (ops_nd (l := List.take 10 ops_80) (hfr 86 (by decide)).1 (by decide)) (Or.inl (by decide)) (ops_nr (l := List.take 10 ops_80) (hfr 86 (by decide)).2 (by decide)) (gok_i (av_c (gkr (ops_in (l := List.take 10 ops_80) hB)) (av_c rfl av_n)) (as_c (gkr (ops_in (l := List.take 10 ops_80) hB)) as_n)) ?_
  refine T_putRF 80 5 86 (dk dtk_X8_init 25 rfl) rfl kfl_X8_27 kk_80 (ops_in (l := List.take 11 ops_80) hB) (by decide) rfl (fun _ => ⟨rfl, rfl⟩) (fun r h => by cases h; rfl) ?_
  refine T_aload_n 0 (dk dtk_X8_init 26 rfl) rfl rfl ?_
  refine T_iload_n 1 (dk dtk_X8_init 27 rfl) rfl rfl ?_
  refine T_newI 87 (dk dtk_X8_init 28 rfl) rfl (Or.inl rfl) (W0_in (tp_1 (List.mem_of_getElem? (i := 82) (by decide +kernel))) rfl) kk_87 (by decide) (by decide) (by decide) (ops_nd (l := List.take 12 ops_80) (hfr 87 (by decide)).1 (by decide)) (Or.inl (by decide)) (ops_nr (l := List.take 12 ops_80) (hfr 87 (by decide)).2 (by decide)) (gok_i (av_c (gkr (ops_in (l := List.take 12 ops_80) hB)) (av_c rfl av_n)) (as_c (gkr (ops_in (l := List.take 12 ops_80) hB)) as_n)) ?_
  refine T_putRF 80 6 87 (dk dtk_X8_init 29 rfl) rfl kfl_X8_30 kk_80 (ops_in (l := List.take 13 ops_80) hB) (by decide) rfl (fun _ => ⟨rfl, rfl⟩) (fun r h => by cases h; rfl) ?_
  refine T_aload_n 0 (dk dtk_X8_init 30 rfl) rfl rfl ?_
  refine T_iload_n 1 (dk dtk_X8_init 31 rfl) rfl rfl ?_
  refine T_newI 88 (dk dtk_X8_init 32 rfl) rfl (Or.inl rfl) (W0_in (tp_1 (List.mem_of_getElem? (i := 82) (by decide +kernel))) rfl) kk_88 (by decide) (by decide) (by decide) (ops_nd (l := List.take 14 ops_80) (hfr 88 (by decide)).1 (by decide)) (Or.inl (by decide)) (ops_nr (l := List.take 14 ops_80) (hfr 88 (by decide)).2 (by decide)) (gok_i (av_c (gkr (ops_in (l := List.take 14 ops_80) hB)) (av_c rfl av_n)) (as_c (gkr (ops_in (l := List.take 14 ops_80) hB)) as_n)) ?_
  refine T_putRF 80 7 88 (dk dtk_X8_init 33 rfl) rfl kfl_X8_33 kk_80 (ops_in (l := List.take 15 ops_80) hB) (by decide) rfl (fun _ => ⟨rfl, rfl⟩) (fun r h => by cases h; rfl) ?_
  refine T_aload_n 0 (dk dtk_X8_init 34 rfl) rfl rfl ?_
  refine T_iload_n 1 (dk dtk_X8_init 35 rfl) rfl rfl ?_
  refine T_newI 89 (dk dtk_X8_init 36 rfl) rfl (Or.inl rfl) (W0_in (tp_1 (List.mem_of_getElem? (i := 82) (by decide +kernel))) rfl) kk_89 (by decide) (by decide) (by decide) (ops_nd (l := List.take 16 ops_80) (hfr 89 (by decide)).1 (by decide)) (Or.inl (by decide)) (ops_nr (l := List.take 16 ops_80) (hfr 89 (by decide)).2 (by decide)) (gok_i (av_c (gkr (ops_in (l := List.take 16 ops_80) hB)) (av_c rfl av_n)) (as_c (gkr (ops_in (l := List.take 16 ops_80) hB)) as_n)) ?_
  refine T_putRF 80 8 89 (dk dtk_X8_init 37 rfl) rfl kfl_X8_36 kk_80 (ops_in (l := List.take 17 ops_80) hB) (by decide) rfl (fun _ => ⟨rfl, rfl⟩) (fun r h => by cases h; rfl) ?_
  exact T_vret (dk dtk_X8_init 38 rfl) rfl h
def ops_60 : List gop := [oN_ 80 10, oN_ 81 400, oR_ 80 0 81, oN_ 82 400, oR_ 80 1 82, oN_ 83 400, oR_ 80 2 83, oN_ 84 400, oR_ 80 3 84, oN_ 85 400, oR_ 80 4 85, oN_ 86 400, oR_ 80 5 86, oN_ 87 400, oR_ 80 6 87, oN_ 88 400, oR_ 80 7 88, oN_ 89 400, oR_ 80 8 89, oR_ 60 0 80, oN_ 62 800, oR_ 60 1 62, oN_ 63 800, oR_ 60 2 63, oN_ 65 40, oR_ 60 4 65, oN_ 68 24, oR_ 60 7 68, oN_ 69 24, oR_ 60 8 69, oN_ 72 6, oR_ 60 11 72, oN_ 73 6, oR_ 60 12 73, oN_ 76 4, oR_ 60 15 76, oN_ 78 4, oR_ 60 17 78]
def news_60 : List Nat := [80, 81, 82, 83, 84, 85, 86, 87, 88, 89, 62, 63, 65, 68, 69, 72, 73, 76, 78]
set_option maxRecDepth 100000 in
set_option maxHeartbeats 4000000 in
theorem kc_60 {G : kG} {d : Nat} {x : gd} {f : gf} {Q : gr → gd → gf → Prop} (hB : 60 ∈ f.2.1) (hfr : ∀ c ∈ news_60, c ∉ f.2.1 ∧ NR f c) (h : Q (.inl none) (xops x ops_60) (fops f ops_60)) : T (kE G) (d + 2) zk_X0_init 0 [(0, vr 60)] [] x f Q := by
  refine T_aload_n 0 (dk dtk_X0_init 0 rfl) rfl rfl ?_
  refine T_objInit (dk dtk_X0_init 1 rfl) ⟨(W0_in (tp_1 (List.mem_of_getElem? (i := 136) (by decide +kernel))) rfl), (W0_in (tp_1 (List.mem_of_getElem? (i := 34) (by decide +kernel))) rfl), (W0_in (tp_1 (List.mem_of_getElem? (i := 35) (by decide +kernel))) rfl)⟩ (by omega) (Nat.le_of_ble_eq_true rfl) ?_
  refine T_aload_n 0 (dk dtk_X0_init 2 rfl) rfl rfl ?_
  refine T_newO 80 (dk dtk_X0_init 3 rfl) kn_X0_7 kk_80 (ops_nd (l := List.take 0 ops_60) (hfr 80 (by decide)).1 (by decide)) (Or.inl (by decide)) (ops_nr (l := List.take 0 ops_60) (hfr 80 (by decide)).2 (by decide)) (gok_i (av_c (gkr (ops_in (l := List.take 0 ops_60) hB)) av_n) (as_c (gkr (ops_in (l := List.take 0 ops_60) hB)) as_n)) ?_
  refine T_dup (dk dtk_X0_init 4 rfl) rfl ?_
  refine T_sipush (v := 400) (dk dtk_X0_init 5 rfl) (by decide +kernel) ?_
  refine T_callI [vi 400] [vr 80, vr 60] (d + 1) rfl (dk dtk_X0_init 6 rfl) kci_X0_11 rfl (by omega) (Nat.le_of_ble_eq_true rfl) (Nat.le_of_ble_eq_true rfl) (gok_i (av_c (gkr (ops_in (l := List.take 1 ops_60) hB)) av_n) (as_c (gkr (ops_i2 (l := List.take 1 ops_60) (by decide))) (as_c (gkr (ops_in (l := List.take 1 ops_60) hB)) as_n))) (kc_80 (d := d + 0) (ops_i2 (l := List.take 1 ops_60) (by decide))  (ops_fr (l := List.take 1 ops_60) hfr (by decide +kernel))  ⟨rfl, ?_⟩)
  refine T_putRF 60 0 80 (dk dtk_X0_init 7 rfl) rfl kfl_X0_14 kk_60 (ops_in (l := List.take 19 ops_60) hB) (by decide) rfl (fun _ => ⟨rfl, rfl⟩) (fun r h => by cases h; rfl) ?_
  refine T_aload_n 0 (dk dtk_X0_init 8 rfl) rfl rfl ?_
  refine T_sipush (v := 800) (dk dtk_X0_init 9 rfl) (by decide +kernel) ?_
  refine T_newI 62 (dk dtk_X0_init 10 rfl) rfl (Or.inl rfl) (W0_in (tp_1 (List.mem_of_getElem? (i := 82) (by decide +kernel))) rfl) kk_62 (by decide) (by decide) (by decide) (ops_nd (l := List.take 20 ops_60) (hfr 62 (by decide)).1 (by decide)) (Or.inl (by decide)) (ops_nr (l := List.take 20 ops_60) (hfr 62 (by decide)).2 (by decide)) (gok_i (av_c (gkr (ops_in (l := List.take 20 ops_60) hB)) av_n) (as_c (gkr (ops_in (l := List.take 20 ops_60) hB)) as_n)) ?_
  refine T_putRF 60 1 62 (dk dtk_X0_init 11 rfl) rfl kfl_X0_18 kk_60 (ops_in (l := List.take 21 ops_60) hB) (by decide) rfl (fun _ => ⟨rfl, rfl⟩) (fun r h => by cases h; rfl) ?_
  refine T_aload_n 0 (dk dtk_X0_init 12 rfl) rfl rfl ?_
  refine T_sipush (v := 800) (dk dtk_X0_init 13 rfl) (by decide +kernel) ?_
  refine T_newI 63 (dk dtk_X0_init 14 rfl) rfl (Or.inl rfl) (W0_in (tp_1 (List.mem_of_getElem? (i := 82) (by decide +kernel))) rfl) kk_63 (by decide) (by decide) (by decide) (ops_nd (l := List.take 22 ops_60) (hfr 63 (by decide)).1 (by decide)) (Or.inl (by decide)) (ops_nr (l := List.take 22 ops_60) (hfr 63 (by decide)).2 (by decide)) (gok_i (av_c (gkr (ops_in (l := List.take 22 ops_60) hB)) av_n) (as_c (gkr (ops_in (l := List.take 22 ops_60) hB)) as_n)) ?_
  refine T_putRF 60 2 63 (dk dtk_X0_init 15 rfl) rfl kfl_X0_22 kk_60 (ops_in (l := List.take 23 ops_60) hB) (by decide) rfl (fun _ => ⟨rfl, rfl⟩) (fun r h => by cases h; rfl) ?_
  refine T_aload_n 0 (dk dtk_X0_init 16 rfl) rfl rfl ?_
  refine T_bipush (v := 40) (dk dtk_X0_init 17 rfl) (by decide +kernel) ?_
  refine T_newI 65 (dk dtk_X0_init 18 rfl) rfl (Or.inl rfl) (W0_in (tp_1 (List.mem_of_getElem? (i := 82) (by decide +kernel))) rfl) kk_65 (by decide) (by decide) (by decide) (ops_nd (l := List.take 24 ops_60) (hfr 65 (by decide)).1 (by decide)) (Or.inl (by decide)) (ops_nr (l := List.take 24 ops_60) (hfr 65 (by decide)).2 (by decide)) (gok_i (av_c (gkr (ops_in (l := List.take 24 ops_60) hB)) av_n) (as_c (gkr (ops_in (l := List.take 24 ops_60) hB)) as_n)) ?_
  refine T_putRF 60 4 65 (dk dtk_X0_init 19 rfl) rfl kfl_X0_25 kk_60 (ops_in (l := List.take 25 ops_60) hB) (by decide) rfl (fun _ => ⟨rfl, rfl⟩) (fun r h => by cases h; rfl) ?_
  refine T_aload_n 0 (dk dtk_X0_init 20 rfl) rfl rfl ?_
  refine T_bipush (v := 24) (dk dtk_X0_init 21 rfl) (by decide +kernel) ?_
  refine T_newI 68 (dk dtk_X0_init 22 rfl) rfl (Or.inl rfl) (W0_in (tp_1 (List.mem_of_getElem? (i := 82) (by decide +kernel))) rfl) kk_68 (by decide) (by decide) (by decide) (ops_nd (l := List.take 26 ops_60) (hfr 68 (by decide)).1 (by decide)) (Or.inl (by decide)) (ops_nr (l := List.take 26 ops_60) (hfr 68 (by decide)).2 (by decide)) (gok_i (av_c (gkr (ops_in (l := List.take 26 ops_60) hB)) av_n) (as_c (gkr (ops_in (l := List.take 26 ops_60) hB)) as_n)) ?_
  refine T_putRF 60 7 68 (dk dtk_X0_init 23 rfl) rfl kfl_X0_30 kk_60 (ops_in (l := List.take 27 ops_60) hB) (by decide) rfl (fun _ => ⟨rfl, rfl⟩) (fun r h => by cases h; rfl) ?_
  refine T_aload_n 0 (dk dtk_X0_init 24 rfl) rfl rfl ?_
  refine T_bipush (v := 24) (dk dtk_X0_init 25 rfl) (by decide +kernel) ?_
  refine T_newI 69 (dk dtk_X0_init 26 rfl) rfl (Or.inr (Or.inr rfl)) (W0_in (tp_2 (List.mem_of_getElem? (i := 47) (by decide +kernel))) rfl) kk_69 (by decide) (by decide) (by decide) (ops_nd (l := List.take 28 ops_60) (hfr 69 (by decide)).1 (by decide)) (Or.inl (by decide)) (ops_nr (l := List.take 28 ops_60) (hfr 69 (by decide)).2 (by decide)) (gok_i (av_c (gkr (ops_in (l := List.take 28 ops_60) hB)) av_n) (as_c (gkr (ops_in (l := List.take 28 ops_60) hB)) as_n)) ?_
  refine T_putRF 60 8 69 (dk dtk_X0_init 27 rfl) rfl kfl_X0_33 kk_60 (ops_in (l := List.take 29 ops_60) hB) (by decide) rfl (fun _ => ⟨rfl, rfl⟩) (fun r h => by cases h; rfl) ?_
  refine T_aload_n 0 (dk dtk_X0_init 28 rfl) rfl rfl ?_
  refine T_bipush (v := 6) (dk dtk_X0_init 29 rfl) (by decide +kernel) ?_
  refine T_newI 72 (dk dtk_X0_init 30 rfl) rfl (Or.inl rfl) (W0_in (tp_1 (List.mem_of_getElem? (i := 82) (by decide +kernel))) rfl) kk_72 (by decide) (by decide) (by decide) (ops_nd (l := List.take 30 ops_60) (hfr 72 (by decide)).1 (by decide)) (Or.inl (by decide)) (ops_nr (l := List.take 30 ops_60) (hfr 72 (by decide)).2 (by decide)) (gok_i (av_c (gkr (ops_in (l := List.take 30 ops_60) hB)) av_n) (as_c (gkr (ops_in (l := List.take 30 ops_60) hB)) as_n)) ?_
  refine T_putRF 60 11 72 (dk dtk_X0_init 31 rfl) rfl kfl_X0_37 kk_60 (ops_in (l := List.take 31 ops_60) hB) (by decide) rfl (fun _ => ⟨rfl, rfl⟩) (fun r h => by cases h; rfl) ?_
  refine T_aload_n 0 (dk dtk_X0_init 32 rfl) rfl rfl ?_
  refine T_bipush (v := 6) (dk dtk_X0_init 33 rfl) (by decide +kernel) ?_
  refine T_newI 73 (dk dtk_X0_init 34 rfl) rfl (Or.inr (Or.inr rfl)) (W0_in (tp_2 (List.mem_of_getElem? (i := 47) (by decide +kernel))) rfl) kk_73 (by decide) (by decide) (by decide) (ops_nd (l := List.take 32 ops_60) (hfr 73 (by decide)).1 (by decide)) (Or.inl (by decide)) (ops_nr (l := List.take 32 ops_60) (hfr 73 (by decide)).2 (by decide)) (gok_i (av_c (gkr (ops_in (l := List.take 32 ops_60) hB)) av_n) (as_c (gkr (ops_in (l := List.take 32 ops_60) hB)) as_n)) ?_
  refine T_putRF 60 12 73 (dk dtk_X0_init 35 rfl) rfl kfl_X0_40 kk_60 (ops_in (l := List.take 33 ops_60) hB) (by decide) rfl (fun _ => ⟨rfl, rfl⟩) (fun r h => by cases h; rfl) ?_
  refine T_aload_n 0 (dk dtk_X0_init 36 rfl) rfl rfl ?_
  refine T_iconst (v := 4) (dk dtk_X0_init 37 rfl) (by decide +kernel) ?_
  refine T_newI 76 (dk dtk_X0_init 38 rfl) rfl (Or.inl rfl) (W0_in (tp_1 (List.mem_of_getElem? (i := 82) (by decide +kernel))) rfl) kk_76 (by decide) (by decide) (by decide) (ops_nd (l := List.take 34 ops_60) (hfr 76 (by decide)).1 (by decide)) (Or.inl (by decide)) (ops_nr (l := List.take 34 ops_60) (hfr 76 (by decide)).2 (by decide)) (gok_i (av_c (gkr (ops_in (l := List.take 34 ops_60) hB)) av_n) (as_c (gkr (ops_in (l := List.take 34 ops_60) hB)) as_n)) ?_
  refine T_putRF 60 15 76 (dk dtk_X0_init 39 rfl) rfl kfl_X0_43 kk_60 (ops_in (l := List.take 35 ops_60) hB) (by decide) rfl (fun _ => ⟨rfl, rfl⟩) (fun r h => by cases h; rfl) ?_
  refine T_aload_n 0 (dk dtk_X0_init 40 rfl) rfl rfl ?_
  refine T_iconst (v := 4) (dk dtk_X0_init 41 rfl) (by decide +kernel) ?_
  refine T_newI 78 (dk dtk_X0_init 42 rfl) rfl (Or.inl rfl) (W0_in (tp_1 (List.mem_of_getElem? (i := 82) (by decide +kernel))) rfl) kk_78 (by decide) (by decide) (by decide) (ops_nd (l := List.take 36 ops_60) (hfr 78 (by decide)).1 (by decide)) (Or.inl (by decide)) (ops_nr (l := List.take 36 ops_60) (hfr 78 (by decide)).2 (by decide)) (gok_i (av_c (gkr (ops_in (l := List.take 36 ops_60) hB)) av_n) (as_c (gkr (ops_in (l := List.take 36 ops_60) hB)) as_n)) ?_
  refine T_putRF 60 17 78 (dk dtk_X0_init 43 rfl) rfl kfl_X0_46 kk_60 (ops_in (l := List.take 37 ops_60) hB) (by decide) rfl (fun _ => ⟨rfl, rfl⟩) (fun r h => by cases h; rfl) ?_
  exact T_vret (dk dtk_X0_init 44 rfl) rfl h
def ops_100 : List gop := [oR_ 100 0 20, oR_ 100 1 40, oR_ 100 2 60, oR_ 100 3 80, oN_ 109 8, oR_ 100 8 109, oN_ 111 20, oR_ 100 10 111, oN_ 112 20, oR_ 100 11 112, oN_ 113 20, oR_ 100 12 113, oN_ 115 20, oR_ 100 14 115, oN_ 116 20, oR_ 100 15 116, oN_ 117 20, oR_ 100 16 117]
def news_100 : List Nat := [109, 111, 112, 113, 115, 116, 117]
set_option maxRecDepth 100000 in
set_option maxHeartbeats 4000000 in
theorem kc_100 {G : kG} {d : Nat} {x : gd} {f : gf} {Q : gr → gd → gf → Prop} (hB : 100 ∈ f.2.1) (ha_20 : 20 ∈ f.2.1) (ha_40 : 40 ∈ f.2.1) (ha_60 : 60 ∈ f.2.1) (hfr : ∀ c ∈ news_100, c ∉ f.2.1 ∧ NR f c) (hr_60_0 : f.1 60 0 = some 80) (h : Q (.inl none) (xops x ops_100) (fops f ops_100)) : T (kE G) (d + 1) zk_X7_init 0 [(0, vr 100), (1, vr 20), (2, vr 40), (3, vr 60)] [] x f Q := by
  refine T_aload_n 0 (dk dtk_X7_init 0 rfl) rfl rfl ?_
  refine T_objInit (dk dtk_X7_init 1 rfl) ⟨(W0_in (tp_2 (List.mem_of_getElem? (i := 53) (by decide +kernel))) rfl), (W0_in (tp_1 (List.mem_of_getElem? (i := 34) (by decide +kernel))) rfl), (W0_in (tp_1 (List.mem_of_getElem? (i := 35) (by decide +kernel))) rfl)⟩ (by omega) (Nat.le_of_ble_eq_true rfl) ?_
  refine T_aload_n 0 (dk dtk_X7_init 2 rfl) rfl rfl ?_
  refine T_aload_n 1 (dk dtk_X7_init 3 rfl) rfl rfl ?_
  refine T_putRF 100 0 20 (dk dtk_X7_init 4 rfl) rfl kfl_X7_11 kk_100 (ops_in (l := List.take 0 ops_100) hB) (by decide) rfl (fun _ => ⟨rfl, rfl⟩) (fun r h => by cases h; rfl) ?_
  refine T_aload_n 0 (dk dtk_X7_init 5 rfl) rfl rfl ?_
  refine T_aload_n 2 (dk dtk_X7_init 6 rfl) rfl rfl ?_
  refine T_putRF 100 1 40 (dk dtk_X7_init 7 rfl) rfl kfl_X7_15 kk_100 (ops_in (l := List.take 1 ops_100) hB) (by decide) rfl (fun _ => ⟨rfl, rfl⟩) (fun r h => by cases h; rfl) ?_
  refine T_aload_n 0 (dk dtk_X7_init 8 rfl) rfl rfl ?_
  refine T_aload_n 3 (dk dtk_X7_init 9 rfl) rfl rfl ?_
  refine T_putRF 100 2 60 (dk dtk_X7_init 10 rfl) rfl kfl_X7_19 kk_100 (ops_in (l := List.take 2 ops_100) hB) (by decide) rfl (fun _ => ⟨rfl, rfl⟩) (fun r h => by cases h; rfl) ?_
  refine T_aload_n 0 (dk dtk_X7_init 11 rfl) rfl rfl ?_
  refine T_aload_n 3 (dk dtk_X7_init 12 rfl) rfl rfl ?_
  refine T_getR 60 0 80 (dk dtk_X7_init 13 rfl) kfl_X7_23 kk_60 (ops_in (l := List.take 3 ops_100) ha_60) (by decide) rfl hr_60_0 ?_
  refine T_putRF 100 3 80 (dk dtk_X7_init 14 rfl) rfl kfl_X7_29 kk_100 (ops_in (l := List.take 3 ops_100) hB) (by decide) rfl (fun _ => ⟨rfl, rfl⟩) (fun r h => by cases h; rfl) ?_
  refine T_aload_n 0 (dk dtk_X7_init 15 rfl) rfl rfl ?_
  refine T_bipush (v := 8) (dk dtk_X7_init 16 rfl) (by decide +kernel) ?_
  refine T_newI 109 (dk dtk_X7_init 17 rfl) rfl (Or.inl rfl) (W0_in (tp_1 (List.mem_of_getElem? (i := 82) (by decide +kernel))) rfl) kk_109 (by decide) (by decide) (by decide) (ops_nd (l := List.take 4 ops_100) (hfr 109 (by decide)).1 (by decide)) (Or.inl (by decide)) (ops_nr (l := List.take 4 ops_100) (hfr 109 (by decide)).2 (by decide)) (gok_i (av_c (gkr (ops_in (l := List.take 4 ops_100) hB)) (av_c (gkr (ops_in (l := List.take 4 ops_100) ha_20)) (av_c (gkr (ops_in (l := List.take 4 ops_100) ha_40)) (av_c (gkr (ops_in (l := List.take 4 ops_100) ha_60)) av_n)))) (as_c (gkr (ops_in (l := List.take 4 ops_100) hB)) as_n)) ?_
  refine T_putRF 100 8 109 (dk dtk_X7_init 18 rfl) rfl kfl_X7_30 kk_100 (ops_in (l := List.take 5 ops_100) hB) (by decide) rfl (fun _ => ⟨rfl, rfl⟩) (fun r h => by cases h; rfl) ?_
  refine T_aload_n 0 (dk dtk_X7_init 19 rfl) rfl rfl ?_
  refine T_bipush (v := 20) (dk dtk_X7_init 20 rfl) (by decide +kernel) ?_
  refine T_newI 111 (dk dtk_X7_init 21 rfl) rfl (Or.inl rfl) (W0_in (tp_1 (List.mem_of_getElem? (i := 82) (by decide +kernel))) rfl) kk_111 (by decide) (by decide) (by decide) (ops_nd (l := List.take 6 ops_100) (hfr 111 (by decide)).1 (by decide)) (Or.inl (by decide)) (ops_nr (l := List.take 6 ops_100) (hfr 111 (by decide)).2 (by decide)) (gok_i (av_c (gkr (ops_in (l := List.take 6 ops_100) hB)) (av_c (gkr (ops_in (l := List.take 6 ops_100) ha_20)) (av_c (gkr (ops_in (l := List.take 6 ops_100) ha_40)) (av_c (gkr (ops_in (l := List.take 6 ops_100) ha_60)) av_n)))) (as_c (gkr (ops_in (l := List.take 6 ops_100) hB)) as_n)) ?_
  refine T_putRF 100 10 111 (dk dtk_X7_init 22 rfl) rfl kfl_X7_34 kk_100 (ops_in (l := List.take 7 ops_100) hB) (by decide) rfl (fun _ => ⟨rfl, rfl⟩) (fun r h => by cases h; rfl) ?_
  refine T_aload_n 0 (dk dtk_X7_init 23 rfl) rfl rfl ?_
  refine T_bipush (v := 20) (dk dtk_X7_init 24 rfl) (by decide +kernel) ?_
  refine T_newI 112 (dk dtk_X7_init 25 rfl) rfl (Or.inl rfl) (W0_in (tp_1 (List.mem_of_getElem? (i := 82) (by decide +kernel))) rfl) kk_112 (by decide) (by decide) (by decide) (ops_nd (l := List.take 8 ops_100) (hfr 112 (by decide)).1 (by decide)) (Or.inl (by decide)) (ops_nr (l := List.take 8 ops_100) (hfr 112 (by decide)).2 (by decide)) (gok_i (av_c (gkr (ops_in (l := List.take 8 ops_100) hB)) (av_c (gkr (ops_in (l := List.take 8 ops_100) ha_20)) (av_c (gkr (ops_in (l := List.take 8 ops_100) ha_40)) (av_c (gkr (ops_in (l := List.take 8 ops_100) ha_60)) av_n)))) (as_c (gkr (ops_in (l := List.take 8 ops_100) hB)) as_n)) ?_
  refine T_putRF 100 11 112 (dk dtk_X7_init 26 rfl) rfl kfl_X7_37 kk_100 (ops_in (l := List.take 9 ops_100) hB) (by decide) rfl (fun _ => ⟨rfl, rfl⟩) (fun r h => by cases h; rfl) ?_
  refine T_aload_n 0 (dk dtk_X7_init 27 rfl) rfl rfl ?_
  refine T_bipush (v := 20) (dk dtk_X7_init 28 rfl) (by decide +kernel) ?_
  refine T_newI 113 (dk dtk_X7_init 29 rfl) rfl (Or.inl rfl) (W0_in (tp_1 (List.mem_of_getElem? (i := 82) (by decide +kernel))) rfl) kk_113 (by decide) (by decide) (by decide) (ops_nd (l := List.take 10 ops_100) (hfr 113 (by decide)).1 (by decide)) (Or.inl (by decide)) (ops_nr (l := List.take 10 ops_100) (hfr 113 (by decide)).2 (by decide)) (gok_i (av_c (gkr (ops_in (l := List.take 10 ops_100) hB)) (av_c (gkr (ops_in (l := List.take 10 ops_100) ha_20)) (av_c (gkr (ops_in (l := List.take 10 ops_100) ha_40)) (av_c (gkr (ops_in (l := List.take 10 ops_100) ha_60)) av_n)))) (as_c (gkr (ops_in (l := List.take 10 ops_100) hB)) as_n)) ?_
  refine T_putRF 100 12 113 (dk dtk_X7_init 30 rfl) rfl kfl_X7_40 kk_100 (ops_in (l := List.take 11 ops_100) hB) (by decide) rfl (fun _ => ⟨rfl, rfl⟩) (fun r h => by cases h; rfl) ?_
  refine T_aload_n 0 (dk dtk_X7_init 31 rfl) rfl rfl ?_
  refine T_bipush (v := 20) (dk dtk_X7_init 32 rfl) (by decide +kernel) ?_
  refine T_newI 115 (dk dtk_X7_init 33 rfl) rfl (Or.inl rfl) (W0_in (tp_1 (List.mem_of_getElem? (i := 82) (by decide +kernel))) rfl) kk_115 (by decide) (by decide) (by decide) (ops_nd (l := List.take 12 ops_100) (hfr 115 (by decide)).1 (by decide)) (Or.inl (by decide)) (ops_nr (l := List.take 12 ops_100) (hfr 115 (by decide)).2 (by decide)) (gok_i (av_c (gkr (ops_in (l := List.take 12 ops_100) hB)) (av_c (gkr (ops_in (l := List.take 12 ops_100) ha_20)) (av_c (gkr (ops_in (l := List.take 12 ops_100) ha_40)) (av_c (gkr (ops_in (l := List.take 12 ops_100) ha_60)) av_n)))) (as_c (gkr (ops_in (l := List.take 12 ops_100) hB)) as_n)) ?_
  refine T_putRF 100 14 115 (dk dtk_X7_init 34 rfl) rfl kfl_X7_43 kk_100 (ops_in (l := List.take 13 ops_100) hB) (by decide) rfl (fun _ => ⟨rfl, rfl⟩) (fun r h => by cases h; rfl) ?_
  refine T_aload_n 0 (dk dtk_X7_init 35 rfl) rfl rfl ?_
  refine T_bipush (v := 20) (dk dtk_X7_init 36 rfl) (by decide +kernel) ?_
  refine T_newI 116 (dk dtk_X7_init 37 rfl) rfl (Or.inl rfl) (W0_in (tp_1 (List.mem_of_getElem? (i := 82) (by decide +kernel))) rfl) kk_116 (by decide) (by decide) (by decide) (ops_nd (l := List.take 14 ops_100) (hfr 116 (by decide)).1 (by decide)) (Or.inl (by decide)) (ops_nr (l := List.take 14 ops_100) (hfr 116 (by decide)).2 (by decide)) (gok_i (av_c (gkr (ops_in (l := List.take 14 ops_100) hB)) (av_c (gkr (ops_in (l := List.take 14 ops_100) ha_20)) (av_c (gkr (ops_in (l := List.take 14 ops_100) ha_40)) (av_c (gkr (ops_in (l := List.take 14 ops_100) ha_60)) av_n)))) (as_c (gkr (ops_in (l := List.take 14 ops_100) hB)) as_n)) ?_
  refine T_putRF 100 15 116 (dk dtk_X7_init 38 rfl) rfl kfl_X7_46 kk_100 (ops_in (l := List.take 15 ops_100) hB) (by decide) rfl (fun _ => ⟨rfl, rfl⟩) (fun r h => by cases h; rfl) ?_
  refine T_aload_n 0 (dk dtk_X7_init 39 rfl) rfl rfl ?_
  refine T_bipush (v := 20) (dk dtk_X7_init 40 rfl) (by decide +kernel) ?_
  refine T_newI 117 (dk dtk_X7_init 41 rfl) rfl (Or.inl rfl) (W0_in (tp_1 (List.mem_of_getElem? (i := 82) (by decide +kernel))) rfl) kk_117 (by decide) (by decide) (by decide) (ops_nd (l := List.take 16 ops_100) (hfr 117 (by decide)).1 (by decide)) (Or.inl (by decide)) (ops_nr (l := List.take 16 ops_100) (hfr 117 (by decide)).2 (by decide)) (gok_i (av_c (gkr (ops_in (l := List.take 16 ops_100) hB)) (av_c (gkr (ops_in (l := List.take 16 ops_100) ha_20)) (av_c (gkr (ops_in (l := List.take 16 ops_100) ha_40)) (av_c (gkr (ops_in (l := List.take 16 ops_100) ha_60)) av_n)))) (as_c (gkr (ops_in (l := List.take 16 ops_100) hB)) as_n)) ?_
  refine T_putRF 100 16 117 (dk dtk_X7_init 42 rfl) rfl kfl_X7_49 kk_100 (ops_in (l := List.take 17 ops_100) hB) (by decide) rfl (fun _ => ⟨rfl, rfl⟩) (fun r h => by cases h; rfl) ?_
  exact T_vret (dk dtk_X7_init 43 rfl) rfl h
def ops_140 : List gop := []
def news_140 : List Nat := []
set_option maxRecDepth 100000 in
set_option maxHeartbeats 4000000 in
theorem kc_140 {G : kG} {d : Nat} {x : gd} {f : gf} {Q : gr → gd → gf → Prop} (hB : 140 ∈ f.2.1) (hfr : ∀ c ∈ news_140, c ∉ f.2.1 ∧ NR f c) (h : Q (.inl none) (xops x ops_140) (fops f ops_140)) : T (kE G) (d + 1) zk_X1_init 0 [(0, vr 140)] [] x f Q := by
  refine T_aload_n 0 (dk dtk_X1_init 0 rfl) rfl rfl ?_
  refine T_objInit (dk dtk_X1_init 1 rfl) ⟨(W0_in (tp_2 (List.mem_of_getElem? (i := 121) (by decide +kernel))) rfl), (W0_in (tp_1 (List.mem_of_getElem? (i := 34) (by decide +kernel))) rfl), (W0_in (tp_1 (List.mem_of_getElem? (i := 35) (by decide +kernel))) rfl)⟩ (by omega) (Nat.le_of_ble_eq_true rfl) ?_
  exact T_vret (dk dtk_X1_init 2 rfl) rfl h
def ops_120 : List gop := [oR_ 120 0 60, oR_ 120 1 80, oN_ 140 7, oR_ 120 2 140, oN_ 125 228, oR_ 120 4 125, oN_ 131 84, oR_ 120 10 131, oN_ 132 84, oR_ 120 11 132, oN_ 133 84, oR_ 120 12 133]
def news_120 : List Nat := [140, 125, 131, 132, 133]
set_option maxRecDepth 100000 in
set_option maxHeartbeats 4000000 in
theorem kc_120 {G : kG} {d : Nat} {x : gd} {f : gf} {Q : gr → gd → gf → Prop} (hB : 120 ∈ f.2.1) (ha_60 : 60 ∈ f.2.1) (hfr : ∀ c ∈ news_120, c ∉ f.2.1 ∧ NR f c) (hr_60_0 : f.1 60 0 = some 80) (h : Q (.inl none) (xops x ops_120) (fops f ops_120)) : T (kE G) (d + 2) zk_X5_init 0 [(0, vr 120), (1, vr 60)] [] x f Q := by
  refine T_aload_n 0 (dk dtk_X5_init 0 rfl) rfl rfl ?_
  refine T_objInit (dk dtk_X5_init 1 rfl) ⟨(W0_in (tp_2 (List.mem_of_getElem? (i := 115) (by decide +kernel))) rfl), (W0_in (tp_1 (List.mem_of_getElem? (i := 34) (by decide +kernel))) rfl), (W0_in (tp_1 (List.mem_of_getElem? (i := 35) (by decide +kernel))) rfl)⟩ (by omega) (Nat.le_of_ble_eq_true rfl) ?_
  refine T_aload_n 0 (dk dtk_X5_init 2 rfl) rfl rfl ?_
  refine T_aload_n 1 (dk dtk_X5_init 3 rfl) rfl rfl ?_
  refine T_putRF 120 0 60 (dk dtk_X5_init 4 rfl) rfl kfl_X5_11 kk_120 (ops_in (l := List.take 0 ops_120) hB) (by decide) rfl (fun _ => ⟨rfl, rfl⟩) (fun r h => by cases h; rfl) ?_
  refine T_aload_n 0 (dk dtk_X5_init 5 rfl) rfl rfl ?_
  refine T_aload_n 1 (dk dtk_X5_init 6 rfl) rfl rfl ?_
  refine T_getR 60 0 80 (dk dtk_X5_init 7 rfl) kfl_X5_15 kk_60 (ops_in (l := List.take 1 ops_120) ha_60) (by decide) rfl hr_60_0 ?_
  refine T_putRF 120 1 80 (dk dtk_X5_init 8 rfl) rfl kfl_X5_21 kk_120 (ops_in (l := List.take 1 ops_120) hB) (by decide) rfl (fun _ => ⟨rfl, rfl⟩) (fun r h => by cases h; rfl) ?_
  refine T_aload_n 0 (dk dtk_X5_init 9 rfl) rfl rfl ?_
  refine T_newO 140 (dk dtk_X5_init 10 rfl) kn_X5_22 kk_140 (ops_nd (l := List.take 2 ops_120) (hfr 140 (by decide)).1 (by decide)) (Or.inl (by decide)) (ops_nr (l := List.take 2 ops_120) (hfr 140 (by decide)).2 (by decide)) (gok_i (av_c (gkr (ops_in (l := List.take 2 ops_120) hB)) (av_c (gkr (ops_in (l := List.take 2 ops_120) ha_60)) av_n)) (as_c (gkr (ops_in (l := List.take 2 ops_120) hB)) as_n)) ?_
  refine T_dup (dk dtk_X5_init 11 rfl) rfl ?_
  refine T_callN [] [vr 140, vr 120] (d + 1) rfl (dk dtk_X5_init 12 rfl) rfl rfl rfl kci_deed rfl (by omega) (Nat.le_of_ble_eq_true rfl) (Nat.le_of_ble_eq_true rfl) (gok_i (av_c (gkr (ops_in (l := List.take 3 ops_120) hB)) (av_c (gkr (ops_in (l := List.take 3 ops_120) ha_60)) av_n)) (as_c (gkr (ops_i2 (l := List.take 3 ops_120) (by decide))) (as_c (gkr (ops_in (l := List.take 3 ops_120) hB)) as_n))) (kc_140 (d := d + 0) (ops_i2 (l := List.take 3 ops_120) (by decide))  (ops_fr (l := List.take 3 ops_120) hfr (by decide +kernel))  ⟨rfl, ?_⟩)
  refine T_putRF 120 2 140 (dk dtk_X5_init 13 rfl) rfl kfl_X5_25 kk_120 (ops_in (l := List.take 3 ops_120) hB) (by decide) rfl (fun _ => ⟨rfl, rfl⟩) (fun r h => by cases h; rfl) ?_
  refine T_aload_n 0 (dk dtk_X5_init 14 rfl) rfl rfl ?_
  refine T_sipush (v := 228) (dk dtk_X5_init 15 rfl) (by decide +kernel) ?_
  refine T_newI 125 (dk dtk_X5_init 16 rfl) rfl (Or.inl rfl) (W0_in (tp_1 (List.mem_of_getElem? (i := 82) (by decide +kernel))) rfl) kk_125 (by decide) (by decide) (by decide) (ops_nd (l := List.take 4 ops_120) (hfr 125 (by decide)).1 (by decide)) (Or.inl (by decide)) (ops_nr (l := List.take 4 ops_120) (hfr 125 (by decide)).2 (by decide)) (gok_i (av_c (gkr (ops_in (l := List.take 4 ops_120) hB)) (av_c (gkr (ops_in (l := List.take 4 ops_120) ha_60)) av_n)) (as_c (gkr (ops_in (l := List.take 4 ops_120) hB)) as_n)) ?_
  refine T_putRF 120 4 125 (dk dtk_X5_init 17 rfl) rfl kfl_X5_29 kk_120 (ops_in (l := List.take 5 ops_120) hB) (by decide) rfl (fun _ => ⟨rfl, rfl⟩) (fun r h => by cases h; rfl) ?_
  refine T_aload_n 0 (dk dtk_X5_init 18 rfl) rfl rfl ?_
  refine T_bipush (v := 84) (dk dtk_X5_init 19 rfl) (by decide +kernel) ?_
  refine T_newI 131 (dk dtk_X5_init 20 rfl) rfl (Or.inl rfl) (W0_in (tp_1 (List.mem_of_getElem? (i := 82) (by decide +kernel))) rfl) kk_131 (by decide) (by decide) (by decide) (ops_nd (l := List.take 6 ops_120) (hfr 131 (by decide)).1 (by decide)) (Or.inl (by decide)) (ops_nr (l := List.take 6 ops_120) (hfr 131 (by decide)).2 (by decide)) (gok_i (av_c (gkr (ops_in (l := List.take 6 ops_120) hB)) (av_c (gkr (ops_in (l := List.take 6 ops_120) ha_60)) av_n)) (as_c (gkr (ops_in (l := List.take 6 ops_120) hB)) as_n)) ?_
  refine T_putRF 120 10 131 (dk dtk_X5_init 21 rfl) rfl kfl_X5_33 kk_120 (ops_in (l := List.take 7 ops_120) hB) (by decide) rfl (fun _ => ⟨rfl, rfl⟩) (fun r h => by cases h; rfl) ?_
  refine T_aload_n 0 (dk dtk_X5_init 22 rfl) rfl rfl ?_
  refine T_bipush (v := 84) (dk dtk_X5_init 23 rfl) (by decide +kernel) ?_
  refine T_newI 132 (dk dtk_X5_init 24 rfl) rfl (Or.inl rfl) (W0_in (tp_1 (List.mem_of_getElem? (i := 82) (by decide +kernel))) rfl) kk_132 (by decide) (by decide) (by decide) (ops_nd (l := List.take 8 ops_120) (hfr 132 (by decide)).1 (by decide)) (Or.inl (by decide)) (ops_nr (l := List.take 8 ops_120) (hfr 132 (by decide)).2 (by decide)) (gok_i (av_c (gkr (ops_in (l := List.take 8 ops_120) hB)) (av_c (gkr (ops_in (l := List.take 8 ops_120) ha_60)) av_n)) (as_c (gkr (ops_in (l := List.take 8 ops_120) hB)) as_n)) ?_
  refine T_putRF 120 11 132 (dk dtk_X5_init 25 rfl) rfl kfl_X5_36 kk_120 (ops_in (l := List.take 9 ops_120) hB) (by decide) rfl (fun _ => ⟨rfl, rfl⟩) (fun r h => by cases h; rfl) ?_
  refine T_aload_n 0 (dk dtk_X5_init 26 rfl) rfl rfl ?_
  refine T_bipush (v := 84) (dk dtk_X5_init 27 rfl) (by decide +kernel) ?_
  refine T_newI 133 (dk dtk_X5_init 28 rfl) rfl (Or.inl rfl) (W0_in (tp_1 (List.mem_of_getElem? (i := 82) (by decide +kernel))) rfl) kk_133 (by decide) (by decide) (by decide) (ops_nd (l := List.take 10 ops_120) (hfr 133 (by decide)).1 (by decide)) (Or.inl (by decide)) (ops_nr (l := List.take 10 ops_120) (hfr 133 (by decide)).2 (by decide)) (gok_i (av_c (gkr (ops_in (l := List.take 10 ops_120) hB)) (av_c (gkr (ops_in (l := List.take 10 ops_120) ha_60)) av_n)) (as_c (gkr (ops_in (l := List.take 10 ops_120) hB)) as_n)) ?_
  refine T_putRF 120 12 133 (dk dtk_X5_init 29 rfl) rfl kfl_X5_39 kk_120 (ops_in (l := List.take 11 ops_120) hB) (by decide) rfl (fun _ => ⟨rfl, rfl⟩) (fun r h => by cases h; rfl) ?_
  exact T_vret (dk dtk_X5_init 30 rfl) rfl h
def ops_160 : List gop := [oR_ 160 0 60, oN_ 162 400, oR_ 160 1 162, oN_ 166 400, oR_ 160 5 166, oN_ 167 400, oR_ 160 6 167, oN_ 168 400, oR_ 160 7 168, oN_ 169 400, oR_ 160 8 169, oN_ 170 400, oR_ 160 9 170, oN_ 171 400, oR_ 160 10 171, oN_ 172 400, oR_ 160 11 172, oN_ 173 2400, oR_ 160 12 173, oN_ 174 6, oR_ 160 13 174, oN_ 175 36, oR_ 160 14 175, oN_ 176 36, oR_ 160 15 176, oN_ 177 144, oR_ 160 16 177, oN_ 178 36, oR_ 160 17 178]
def news_160 : List Nat := [162, 166, 167, 168, 169, 170, 171, 172, 173, 174, 175, 176, 177, 178]
set_option maxRecDepth 100000 in
set_option maxHeartbeats 4000000 in
theorem kc_160 {G : kG} {d : Nat} {x : gd} {f : gf} {Q : gr → gd → gf → Prop} (hB : 160 ∈ f.2.1) (ha_60 : 60 ∈ f.2.1) (hfr : ∀ c ∈ news_160, c ∉ f.2.1 ∧ NR f c) (h : Q (.inl none) (xops x ops_160) (fops f ops_160)) : T (kE G) (d + 1) zk_X4_init 0 [(0, vr 160), (1, vr 60)] [] x f Q := by
  refine T_aload_n 0 (dk dtk_X4_init 0 rfl) rfl rfl ?_
  refine T_objInit (dk dtk_X4_init 1 rfl) ⟨(W0_in (tp_2 (List.mem_of_getElem? (i := 219) (by decide +kernel))) rfl), (W0_in (tp_1 (List.mem_of_getElem? (i := 34) (by decide +kernel))) rfl), (W0_in (tp_1 (List.mem_of_getElem? (i := 35) (by decide +kernel))) rfl)⟩ (by omega) (Nat.le_of_ble_eq_true rfl) ?_
  refine T_aload_n 0 (dk dtk_X4_init 2 rfl) rfl rfl ?_
  refine T_aload_n 1 (dk dtk_X4_init 3 rfl) rfl rfl ?_
  refine T_putRF 160 0 60 (dk dtk_X4_init 4 rfl) rfl kfl_X4_11 kk_160 (ops_in (l := List.take 0 ops_160) hB) (by decide) rfl (fun _ => ⟨rfl, rfl⟩) (fun r h => by cases h; rfl) ?_
  refine T_aload_n 0 (dk dtk_X4_init 5 rfl) rfl rfl ?_
  refine T_sipush (v := 400) (dk dtk_X4_init 6 rfl) (by decide +kernel) ?_
  refine T_newI 162 (dk dtk_X4_init 7 rfl) rfl (Or.inl rfl) (W0_in (tp_1 (List.mem_of_getElem? (i := 82) (by decide +kernel))) rfl) kk_162 (by decide) (by decide) (by decide) (ops_nd (l := List.take 1 ops_160) (hfr 162 (by decide)).1 (by decide)) (Or.inl (by decide)) (ops_nr (l := List.take 1 ops_160) (hfr 162 (by decide)).2 (by decide)) (gok_i (av_c (gkr (ops_in (l := List.take 1 ops_160) hB)) (av_c (gkr (ops_in (l := List.take 1 ops_160) ha_60)) av_n)) (as_c (gkr (ops_in (l := List.take 1 ops_160) hB)) as_n)) ?_
  refine T_putRF 160 1 162 (dk dtk_X4_init 8 rfl) rfl kfl_X4_17 kk_160 (ops_in (l := List.take 2 ops_160) hB) (by decide) rfl (fun _ => ⟨rfl, rfl⟩) (fun r h => by cases h; rfl) ?_
  refine T_aload_n 0 (dk dtk_X4_init 9 rfl) rfl rfl ?_
  refine T_sipush (v := 400) (dk dtk_X4_init 10 rfl) (by decide +kernel) ?_
  refine T_newI 166 (dk dtk_X4_init 11 rfl) rfl (Or.inl rfl) (W0_in (tp_1 (List.mem_of_getElem? (i := 82) (by decide +kernel))) rfl) kk_166 (by decide) (by decide) (by decide) (ops_nd (l := List.take 3 ops_160) (hfr 166 (by decide)).1 (by decide)) (Or.inl (by decide)) (ops_nr (l := List.take 3 ops_160) (hfr 166 (by decide)).2 (by decide)) (gok_i (av_c (gkr (ops_in (l := List.take 3 ops_160) hB)) (av_c (gkr (ops_in (l := List.take 3 ops_160) ha_60)) av_n)) (as_c (gkr (ops_in (l := List.take 3 ops_160) hB)) as_n)) ?_
  refine T_putRF 160 5 166 (dk dtk_X4_init 12 rfl) rfl kfl_X4_21 kk_160 (ops_in (l := List.take 4 ops_160) hB) (by decide) rfl (fun _ => ⟨rfl, rfl⟩) (fun r h => by cases h; rfl) ?_
  refine T_aload_n 0 (dk dtk_X4_init 13 rfl) rfl rfl ?_
  refine T_sipush (v := 400) (dk dtk_X4_init 14 rfl) (by decide +kernel) ?_
  refine T_newI 167 (dk dtk_X4_init 15 rfl) rfl (Or.inl rfl) (W0_in (tp_1 (List.mem_of_getElem? (i := 82) (by decide +kernel))) rfl) kk_167 (by decide) (by decide) (by decide) (ops_nd (l := List.take 5 ops_160) (hfr 167 (by decide)).1 (by decide)) (Or.inl (by decide)) (ops_nr (l := List.take 5 ops_160) (hfr 167 (by decide)).2 (by decide)) (gok_i (av_c (gkr (ops_in (l := List.take 5 ops_160) hB)) (av_c (gkr (ops_in (l := List.take 5 ops_160) ha_60)) av_n)) (as_c (gkr (ops_in (l := List.take 5 ops_160) hB)) as_n)) ?_
  refine T_putRF 160 6 167 (dk dtk_X4_init 16 rfl) rfl kfl_X4_24 kk_160 (ops_in (l := List.take 6 ops_160) hB) (by decide) rfl (fun _ => ⟨rfl, rfl⟩) (fun r h => by cases h; rfl) ?_
  refine T_aload_n 0 (dk dtk_X4_init 17 rfl) rfl rfl ?_
  refine T_sipush (v := 400) (dk dtk_X4_init 18 rfl) (by decide +kernel) ?_
  refine T_newI 168 (dk dtk_X4_init 19 rfl) rfl (Or.inl rfl) (W0_in (tp_1 (List.mem_of_getElem? (i := 82) (by decide +kernel))) rfl) kk_168 (by decide) (by decide) (by decide) (ops_nd (l := List.take 7 ops_160) (hfr 168 (by decide)).1 (by decide)) (Or.inl (by decide)) (ops_nr (l := List.take 7 ops_160) (hfr 168 (by decide)).2 (by decide)) (gok_i (av_c (gkr (ops_in (l := List.take 7 ops_160) hB)) (av_c (gkr (ops_in (l := List.take 7 ops_160) ha_60)) av_n)) (as_c (gkr (ops_in (l := List.take 7 ops_160) hB)) as_n)) ?_
  refine T_putRF 160 7 168 (dk dtk_X4_init 20 rfl) rfl kfl_X4_27 kk_160 (ops_in (l := List.take 8 ops_160) hB) (by decide) rfl (fun _ => ⟨rfl, rfl⟩) (fun r h => by cases h; rfl) ?_
  refine T_aload_n 0 (dk dtk_X4_init 21 rfl) rfl rfl ?_
  refine T_sipush (v := 400) (dk dtk_X4_init 22 rfl) (by decide +kernel) ?_
  refine T_newI 169 (dk dtk_X4_init 23 rfl) rfl (Or.inl rfl) (W0_in (tp_1 (List.mem_of_getElem? (i := 82) (by decide +kernel))) rfl) kk_169 (by decide) (by decide) (by decide) (ops_nd (l := List.take 9 ops_160) (hfr 169 (by decide)).1 (by decide)) (Or.inl (by decide)) (ops_nr (l := List.take 9 ops_160) (hfr 169 (by decide)).2 (by decide)) (gok_i (av_c (gkr (ops_in (l := List.take 9 ops_160) hB)) (av_c (gkr (ops_in (l := List.take 9 ops_160) ha_60)) av_n)) (as_c (gkr (ops_in (l := List.take 9 ops_160) hB)) as_n)) ?_
  refine T_putRF 160 8 169 (dk dtk_X4_init 24 rfl) rfl kfl_X4_30 kk_160 (ops_in (l := List.take 10 ops_160) hB) (by decide) rfl (fun _ => ⟨rfl, rfl⟩) (fun r h => by cases h; rfl) ?_
  refine T_aload_n 0 (dk dtk_X4_init 25 rfl) rfl rfl ?_
  refine T_sipush (v := 400) (dk dtk_X4_init 26 rfl) (by decide +kernel) ?_
  refine T_newI 170 (dk dtk_X4_init 27 rfl) rfl (Or.inl rfl) (W0_in (tp_1 (List.mem_of_getElem? (i := 82) (by decide +kernel))) rfl) kk_170 (by decide) (by decide) (by decide) (ops_nd (l := List.take 11 ops_160) (hfr 170 (by decide)).1 (by decide)) (Or.inl (by decide)) (ops_nr (l := List.take 11 ops_160) (hfr 170 (by decide)).2 (by decide)) (gok_i (av_c (gkr (ops_in (l := List.take 11 ops_160) hB)) (av_c (gkr (ops_in (l := List.take 11 ops_160) ha_60)) av_n)) (as_c (gkr (ops_in (l := List.take 11 ops_160) hB)) as_n)) ?_
  refine T_putRF 160 9 170 (dk dtk_X4_init 28 rfl) rfl kfl_X4_33 kk_160 (ops_in (l := List.take 12 ops_160) hB) (by decide) rfl (fun _ => ⟨rfl, rfl⟩) (fun r h => by cases h; rfl) ?_
  refine T_aload_n 0 (dk dtk_X4_init 29 rfl) rfl rfl ?_
  refine T_sipush (v := 400) (dk dtk_X4_init 30 rfl) (by decide +kernel) ?_
  refine T_newI 171 (dk dtk_X4_init 31 rfl) rfl (Or.inr (Or.inr rfl)) (W0_in (tp_2 (List.mem_of_getElem? (i := 47) (by decide +kernel))) rfl) kk_171 (by decide) (by decide) (by decide) (ops_nd (l := List.take 13 ops_160) (hfr 171 (by decide)).1 (by decide)) (Or.inl (by decide)) (ops_nr (l := List.take 13 ops_160) (hfr 171 (by decide)).2 (by decide)) (gok_i (av_c (gkr (ops_in (l := List.take 13 ops_160) hB)) (av_c (gkr (ops_in (l := List.take 13 ops_160) ha_60)) av_n)) (as_c (gkr (ops_in (l := List.take 13 ops_160) hB)) as_n)) ?_
  refine T_putRF 160 10 171 (dk dtk_X4_init 32 rfl) rfl kfl_X4_36 kk_160 (ops_in (l := List.take 14 ops_160) hB) (by decide) rfl (fun _ => ⟨rfl, rfl⟩) (fun r h => by cases h; rfl) ?_
  refine T_aload_n 0 (dk dtk_X4_init 33 rfl) rfl rfl ?_
  refine T_sipush (v := 400) (dk dtk_X4_init 34 rfl) (by decide +kernel) ?_
  refine T_newI 172 (dk dtk_X4_init 35 rfl) rfl (Or.inl rfl) (W0_in (tp_1 (List.mem_of_getElem? (i := 82) (by decide +kernel))) rfl) kk_172 (by decide) (by decide) (by decide) (ops_nd (l := List.take 15 ops_160) (hfr 172 (by decide)).1 (by decide)) (Or.inl (by decide)) (ops_nr (l := List.take 15 ops_160) (hfr 172 (by decide)).2 (by decide)) (gok_i (av_c (gkr (ops_in (l := List.take 15 ops_160) hB)) (av_c (gkr (ops_in (l := List.take 15 ops_160) ha_60)) av_n)) (as_c (gkr (ops_in (l := List.take 15 ops_160) hB)) as_n)) ?_
  refine T_putRF 160 11 172 (dk dtk_X4_init 36 rfl) rfl kfl_X4_40 kk_160 (ops_in (l := List.take 16 ops_160) hB) (by decide) rfl (fun _ => ⟨rfl, rfl⟩) (fun r h => by cases h; rfl) ?_
  refine T_aload_n 0 (dk dtk_X4_init 37 rfl) rfl rfl ?_
  refine T_sipush (v := 2400) (dk dtk_X4_init 38 rfl) (by decide +kernel) ?_
  refine T_newI 173 (dk dtk_X4_init 39 rfl) rfl (Or.inl rfl) (W0_in (tp_1 (List.mem_of_getElem? (i := 82) (by decide +kernel))) rfl) kk_173 (by decide) (by decide) (by decide) (ops_nd (l := List.take 17 ops_160) (hfr 173 (by decide)).1 (by decide)) (Or.inl (by decide)) (ops_nr (l := List.take 17 ops_160) (hfr 173 (by decide)).2 (by decide)) (gok_i (av_c (gkr (ops_in (l := List.take 17 ops_160) hB)) (av_c (gkr (ops_in (l := List.take 17 ops_160) ha_60)) av_n)) (as_c (gkr (ops_in (l := List.take 17 ops_160) hB)) as_n)) ?_
  refine T_putRF 160 12 173 (dk dtk_X4_init 40 rfl) rfl kfl_X4_43 kk_160 (ops_in (l := List.take 18 ops_160) hB) (by decide) rfl (fun _ => ⟨rfl, rfl⟩) (fun r h => by cases h; rfl) ?_
  refine T_aload_n 0 (dk dtk_X4_init 41 rfl) rfl rfl ?_
  refine T_bipush (v := 6) (dk dtk_X4_init 42 rfl) (by decide +kernel) ?_
  refine T_newI 174 (dk dtk_X4_init 43 rfl) rfl (Or.inl rfl) (W0_in (tp_1 (List.mem_of_getElem? (i := 82) (by decide +kernel))) rfl) kk_174 (by decide) (by decide) (by decide) (ops_nd (l := List.take 19 ops_160) (hfr 174 (by decide)).1 (by decide)) (Or.inl (by decide)) (ops_nr (l := List.take 19 ops_160) (hfr 174 (by decide)).2 (by decide)) (gok_i (av_c (gkr (ops_in (l := List.take 19 ops_160) hB)) (av_c (gkr (ops_in (l := List.take 19 ops_160) ha_60)) av_n)) (as_c (gkr (ops_in (l := List.take 19 ops_160) hB)) as_n)) ?_
  refine T_putRF 160 13 174 (dk dtk_X4_init 44 rfl) rfl kfl_X4_46 kk_160 (ops_in (l := List.take 20 ops_160) hB) (by decide) rfl (fun _ => ⟨rfl, rfl⟩) (fun r h => by cases h; rfl) ?_
  refine T_aload_n 0 (dk dtk_X4_init 45 rfl) rfl rfl ?_
  refine T_bipush (v := 36) (dk dtk_X4_init 46 rfl) (by decide +kernel) ?_
  refine T_newI 175 (dk dtk_X4_init 47 rfl) rfl (Or.inl rfl) (W0_in (tp_1 (List.mem_of_getElem? (i := 82) (by decide +kernel))) rfl) kk_175 (by decide) (by decide) (by decide) (ops_nd (l := List.take 21 ops_160) (hfr 175 (by decide)).1 (by decide)) (Or.inl (by decide)) (ops_nr (l := List.take 21 ops_160) (hfr 175 (by decide)).2 (by decide)) (gok_i (av_c (gkr (ops_in (l := List.take 21 ops_160) hB)) (av_c (gkr (ops_in (l := List.take 21 ops_160) ha_60)) av_n)) (as_c (gkr (ops_in (l := List.take 21 ops_160) hB)) as_n)) ?_
  refine T_putRF 160 14 175 (dk dtk_X4_init 48 rfl) rfl kfl_X4_49 kk_160 (ops_in (l := List.take 22 ops_160) hB) (by decide) rfl (fun _ => ⟨rfl, rfl⟩) (fun r h => by cases h; rfl) ?_
  refine T_aload_n 0 (dk dtk_X4_init 49 rfl) rfl rfl ?_
  refine T_bipush (v := 36) (dk dtk_X4_init 50 rfl) (by decide +kernel) ?_
  refine T_newI 176 (dk dtk_X4_init 51 rfl) rfl (Or.inl rfl) (W0_in (tp_1 (List.mem_of_getElem? (i := 82) (by decide +kernel))) rfl) kk_176 (by decide) (by decide) (by decide) (ops_nd (l := List.take 23 ops_160) (hfr 176 (by decide)).1 (by decide)) (Or.inl (by decide)) (ops_nr (l := List.take 23 ops_160) (hfr 176 (by decide)).2 (by decide)) (gok_i (av_c (gkr (ops_in (l := List.take 23 ops_160) hB)) (av_c (gkr (ops_in (l := List.take 23 ops_160) ha_60)) av_n)) (as_c (gkr (ops_in (l := List.take 23 ops_160) hB)) as_n)) ?_
  refine T_putRF 160 15 176 (dk dtk_X4_init 52 rfl) rfl kfl_X4_52 kk_160 (ops_in (l := List.take 24 ops_160) hB) (by decide) rfl (fun _ => ⟨rfl, rfl⟩) (fun r h => by cases h; rfl) ?_
  refine T_aload_n 0 (dk dtk_X4_init 53 rfl) rfl rfl ?_
  refine T_sipush (v := 144) (dk dtk_X4_init 54 rfl) (by decide +kernel) ?_
  refine T_newI 177 (dk dtk_X4_init 55 rfl) rfl (Or.inl rfl) (W0_in (tp_1 (List.mem_of_getElem? (i := 82) (by decide +kernel))) rfl) kk_177 (by decide) (by decide) (by decide) (ops_nd (l := List.take 25 ops_160) (hfr 177 (by decide)).1 (by decide)) (Or.inl (by decide)) (ops_nr (l := List.take 25 ops_160) (hfr 177 (by decide)).2 (by decide)) (gok_i (av_c (gkr (ops_in (l := List.take 25 ops_160) hB)) (av_c (gkr (ops_in (l := List.take 25 ops_160) ha_60)) av_n)) (as_c (gkr (ops_in (l := List.take 25 ops_160) hB)) as_n)) ?_
  refine T_putRF 160 16 177 (dk dtk_X4_init 56 rfl) rfl kfl_X4_55 kk_160 (ops_in (l := List.take 26 ops_160) hB) (by decide) rfl (fun _ => ⟨rfl, rfl⟩) (fun r h => by cases h; rfl) ?_
  refine T_aload_n 0 (dk dtk_X4_init 57 rfl) rfl rfl ?_
  refine T_bipush (v := 36) (dk dtk_X4_init 58 rfl) (by decide +kernel) ?_
  refine T_newI 178 (dk dtk_X4_init 59 rfl) rfl (Or.inl rfl) (W0_in (tp_1 (List.mem_of_getElem? (i := 82) (by decide +kernel))) rfl) kk_178 (by decide) (by decide) (by decide) (ops_nd (l := List.take 27 ops_160) (hfr 178 (by decide)).1 (by decide)) (Or.inl (by decide)) (ops_nr (l := List.take 27 ops_160) (hfr 178 (by decide)).2 (by decide)) (gok_i (av_c (gkr (ops_in (l := List.take 27 ops_160) hB)) (av_c (gkr (ops_in (l := List.take 27 ops_160) ha_60)) av_n)) (as_c (gkr (ops_in (l := List.take 27 ops_160) hB)) as_n)) ?_
  refine T_putRF 160 17 178 (dk dtk_X4_init 60 rfl) rfl kfl_X4_58 kk_160 (ops_in (l := List.take 28 ops_160) hB) (by decide) rfl (fun _ => ⟨rfl, rfl⟩) (fun r h => by cases h; rfl) ?_
  exact T_vret (dk dtk_X4_init 61 rfl) rfl h
def ops_180 : List gop := [oN_ 181 12, oR_ 180 0 181, oN_ 182 12, oR_ 180 1 182, oN_ 183 12, oR_ 180 2 183, oN_ 184 12, oR_ 180 3 184, oN_ 185 12, oR_ 180 4 185, oN_ 186 12, oR_ 180 5 186, oN_ 189 6, oR_ 180 8 189, oG_, oR_ 180 9 190]
def news_180 : List Nat := [181, 182, 183, 184, 185, 186, 189, 190, 300, 301, 302, 303, 304, 305, 306, 307, 308, 309, 310, 311, 312]
theorem kg_d {f : gf} {l : List gop} (hfr : ∀ c ∈ news_180, c ∉ f.2.1 ∧ NR f c) (hl : ∀ c ∈ (List.range 14).map gcl, c ∈ news_180 ∧ c ∉ l.flatMap onew ∧ c ∉ l.flatMap oput := by decide) : ∀ c ∈ (fops f l).2.1, ¬ isG c := fun c hc hg => (ops_fr hfr hl c (isG_m hg)).1 hc
theorem kg_n {f : gf} {l : List gop} (hfr : ∀ c ∈ news_180, c ∉ f.2.1 ∧ NR f c) (hl : ∀ c ∈ (List.range 14).map gcl, c ∈ news_180 ∧ c ∉ l.flatMap onew ∧ c ∉ l.flatMap oput := by decide) : ∀ c' ∈ (fops f l).2.1, ∀ j c, isG c → (fops f l).1 c' j ≠ some c := fun c' hc' j c hg => (ops_fr hfr hl c (isG_m hg)).2 c' hc' j
set_option maxRecDepth 100000 in
set_option maxHeartbeats 4000000 in
theorem kc_180 {G : kG} {d : Nat} {x : gd} {f : gf} {Q : gr → gd → gf → Prop} (hB : 180 ∈ f.2.1) (hfr : ∀ c ∈ news_180, c ∉ f.2.1 ∧ NR f c) (h : Q (.inl none) (xops x ops_180) (fops f ops_180)) : T (kE G) (d + 1) zk_X3_init 0 [(0, vr 180)] [] x f Q := by
  refine T_aload_n 0 (dk dtk_X3_init 0 rfl) rfl rfl ?_
  refine T_objInit (dk dtk_X3_init 1 rfl) ⟨(W0_in (tp_7 (List.mem_of_getElem? (i := 31) (by decide +kernel))) rfl), (W0_in (tp_1 (List.mem_of_getElem? (i := 34) (by decide +kernel))) rfl), (W0_in (tp_1 (List.mem_of_getElem? (i := 35) (by decide +kernel))) rfl)⟩ (by omega) (Nat.le_of_ble_eq_true rfl) ?_
  refine T_aload_n 0 (dk dtk_X3_init 2 rfl) rfl rfl ?_
  refine T_bipush (v := 12) (dk dtk_X3_init 3 rfl) (by decide +kernel) ?_
  refine T_newI 181 (dk dtk_X3_init 4 rfl) rfl (Or.inl rfl) (W0_in (tp_1 (List.mem_of_getElem? (i := 82) (by decide +kernel))) rfl) kk_181 (by decide) (by decide) (by decide) (ops_nd (l := List.take 0 ops_180) (hfr 181 (by decide)).1 (by decide)) (Or.inl (by decide)) (ops_nr (l := List.take 0 ops_180) (hfr 181 (by decide)).2 (by decide)) (gok_i (av_c (gkr (ops_in (l := List.take 0 ops_180) hB)) av_n) (as_c (gkr (ops_in (l := List.take 0 ops_180) hB)) as_n)) ?_
  refine T_putRF 180 0 181 (dk dtk_X3_init 5 rfl) rfl kfl_X3_11 kk_180 (ops_in (l := List.take 1 ops_180) hB) (by decide) rfl (fun _ => ⟨rfl, rfl⟩) (fun r h => by cases h; rfl) ?_
  refine T_aload_n 0 (dk dtk_X3_init 6 rfl) rfl rfl ?_
  refine T_bipush (v := 12) (dk dtk_X3_init 7 rfl) (by decide +kernel) ?_
  refine T_newI 182 (dk dtk_X3_init 8 rfl) rfl (Or.inl rfl) (W0_in (tp_1 (List.mem_of_getElem? (i := 82) (by decide +kernel))) rfl) kk_182 (by decide) (by decide) (by decide) (ops_nd (l := List.take 2 ops_180) (hfr 182 (by decide)).1 (by decide)) (Or.inl (by decide)) (ops_nr (l := List.take 2 ops_180) (hfr 182 (by decide)).2 (by decide)) (gok_i (av_c (gkr (ops_in (l := List.take 2 ops_180) hB)) av_n) (as_c (gkr (ops_in (l := List.take 2 ops_180) hB)) as_n)) ?_
  refine T_putRF 180 1 182 (dk dtk_X3_init 9 rfl) rfl kfl_X3_15 kk_180 (ops_in (l := List.take 3 ops_180) hB) (by decide) rfl (fun _ => ⟨rfl, rfl⟩) (fun r h => by cases h; rfl) ?_
  refine T_aload_n 0 (dk dtk_X3_init 10 rfl) rfl rfl ?_
  refine T_bipush (v := 12) (dk dtk_X3_init 11 rfl) (by decide +kernel) ?_
  refine T_newI 183 (dk dtk_X3_init 12 rfl) rfl (Or.inl rfl) (W0_in (tp_1 (List.mem_of_getElem? (i := 82) (by decide +kernel))) rfl) kk_183 (by decide) (by decide) (by decide) (ops_nd (l := List.take 4 ops_180) (hfr 183 (by decide)).1 (by decide)) (Or.inl (by decide)) (ops_nr (l := List.take 4 ops_180) (hfr 183 (by decide)).2 (by decide)) (gok_i (av_c (gkr (ops_in (l := List.take 4 ops_180) hB)) av_n) (as_c (gkr (ops_in (l := List.take 4 ops_180) hB)) as_n)) ?_
  refine T_putRF 180 2 183 (dk dtk_X3_init 13 rfl) rfl kfl_X3_18 kk_180 (ops_in (l := List.take 5 ops_180) hB) (by decide) rfl (fun _ => ⟨rfl, rfl⟩) (fun r h => by cases h; rfl) ?_
  refine T_aload_n 0 (dk dtk_X3_init 14 rfl) rfl rfl ?_
  refine T_bipush (v := 12) (dk dtk_X3_init 15 rfl) (by decide +kernel) ?_
  refine T_newI 184 (dk dtk_X3_init 16 rfl) rfl (Or.inl rfl) (W0_in (tp_1 (List.mem_of_getElem? (i := 82) (by decide +kernel))) rfl) kk_184 (by decide) (by decide) (by decide) (ops_nd (l := List.take 6 ops_180) (hfr 184 (by decide)).1 (by decide)) (Or.inl (by decide)) (ops_nr (l := List.take 6 ops_180) (hfr 184 (by decide)).2 (by decide)) (gok_i (av_c (gkr (ops_in (l := List.take 6 ops_180) hB)) av_n) (as_c (gkr (ops_in (l := List.take 6 ops_180) hB)) as_n)) ?_
  refine T_putRF 180 3 184 (dk dtk_X3_init 17 rfl) rfl kfl_X3_21 kk_180 (ops_in (l := List.take 7 ops_180) hB) (by decide) rfl (fun _ => ⟨rfl, rfl⟩) (fun r h => by cases h; rfl) ?_
  refine T_aload_n 0 (dk dtk_X3_init 18 rfl) rfl rfl ?_
  refine T_bipush (v := 12) (dk dtk_X3_init 19 rfl) (by decide +kernel) ?_
  refine T_newI 185 (dk dtk_X3_init 20 rfl) rfl (Or.inl rfl) (W0_in (tp_1 (List.mem_of_getElem? (i := 82) (by decide +kernel))) rfl) kk_185 (by decide) (by decide) (by decide) (ops_nd (l := List.take 8 ops_180) (hfr 185 (by decide)).1 (by decide)) (Or.inl (by decide)) (ops_nr (l := List.take 8 ops_180) (hfr 185 (by decide)).2 (by decide)) (gok_i (av_c (gkr (ops_in (l := List.take 8 ops_180) hB)) av_n) (as_c (gkr (ops_in (l := List.take 8 ops_180) hB)) as_n)) ?_
  refine T_putRF 180 4 185 (dk dtk_X3_init 21 rfl) rfl kfl_X3_24 kk_180 (ops_in (l := List.take 9 ops_180) hB) (by decide) rfl (fun _ => ⟨rfl, rfl⟩) (fun r h => by cases h; rfl) ?_
  refine T_aload_n 0 (dk dtk_X3_init 22 rfl) rfl rfl ?_
  refine T_bipush (v := 12) (dk dtk_X3_init 23 rfl) (by decide +kernel) ?_
  refine T_newI 186 (dk dtk_X3_init 24 rfl) rfl (Or.inl rfl) (W0_in (tp_1 (List.mem_of_getElem? (i := 82) (by decide +kernel))) rfl) kk_186 (by decide) (by decide) (by decide) (ops_nd (l := List.take 10 ops_180) (hfr 186 (by decide)).1 (by decide)) (Or.inl (by decide)) (ops_nr (l := List.take 10 ops_180) (hfr 186 (by decide)).2 (by decide)) (gok_i (av_c (gkr (ops_in (l := List.take 10 ops_180) hB)) av_n) (as_c (gkr (ops_in (l := List.take 10 ops_180) hB)) as_n)) ?_
  refine T_putRF 180 5 186 (dk dtk_X3_init 25 rfl) rfl kfl_X3_27 kk_180 (ops_in (l := List.take 11 ops_180) hB) (by decide) rfl (fun _ => ⟨rfl, rfl⟩) (fun r h => by cases h; rfl) ?_
  refine T_aload_n 0 (dk dtk_X3_init 26 rfl) rfl rfl ?_
  refine T_bipush (v := 6) (dk dtk_X3_init 27 rfl) (by decide +kernel) ?_
  refine T_newI 189 (dk dtk_X3_init 28 rfl) rfl (Or.inl rfl) (W0_in (tp_1 (List.mem_of_getElem? (i := 82) (by decide +kernel))) rfl) kk_189 (by decide) (by decide) (by decide) (ops_nd (l := List.take 12 ops_180) (hfr 189 (by decide)).1 (by decide)) (Or.inl (by decide)) (ops_nr (l := List.take 12 ops_180) (hfr 189 (by decide)).2 (by decide)) (gok_i (av_c (gkr (ops_in (l := List.take 12 ops_180) hB)) av_n) (as_c (gkr (ops_in (l := List.take 12 ops_180) hB)) as_n)) ?_
  refine T_putRF 180 8 189 (dk dtk_X3_init 29 rfl) rfl kfl_X3_32 kk_180 (ops_in (l := List.take 13 ops_180) hB) (by decide) rfl (fun _ => ⟨rfl, rfl⟩) (fun r h => by cases h; rfl) ?_
  refine T_aload_n 0 (dk dtk_X3_init 30 rfl) rfl rfl ?_
  refine T_bipush (v := 13) (dk dtk_X3_init 31 rfl) (by decide +kernel) ?_
  refine T_bipush (v := 14) (dk dtk_X3_init 32 rfl) (by decide +kernel) ?_
  refine T_grid (dk dtk_X3_init 33 rfl) (W0_in (tp_7 (List.mem_of_getElem? (i := 32) (by decide +kernel))) rfl) (W0_in (tp_1 (List.mem_of_getElem? (i := 82) (by decide +kernel))) rfl) kk_190 kg_k (kg_d (l := List.take 14 ops_180) hfr) (kg_n (l := List.take 14 ops_180) hfr) (gok_i (av_c (gkr (ops_in (l := List.take 14 ops_180) hB)) av_n) (as_c (gkr (ops_in (l := List.take 14 ops_180) hB)) as_n)) ?_
  refine T_putRF 180 9 190 (dk dtk_X3_init 34 rfl) rfl kfl_X3_37 kk_180 (ops_in (l := List.take 15 ops_180) hB) (by decide) rfl (fun _ => ⟨rfl, rfl⟩) (fun r h => by cases h; rfl) ?_
  exact T_vret (dk dtk_X3_init 35 rfl) rfl h
def ops_240 : List gop := []
def news_240 : List Nat := []
set_option maxRecDepth 100000 in
set_option maxHeartbeats 4000000 in
theorem kc_240 {G : kG} {d : Nat} {x : gd} {f : gf} {Q : gr → gd → gf → Prop} (hB : 240 ∈ f.2.1) (hfr : ∀ c ∈ news_240, c ∉ f.2.1 ∧ NR f c) (h : Q (.inl none) (xops x ops_240) (fops f ops_240)) : T (kE G) (d + 1) zk_X1_init 0 [(0, vr 240)] [] x f Q := by
  refine T_aload_n 0 (dk dtk_X1_init 0 rfl) rfl rfl ?_
  refine T_objInit (dk dtk_X1_init 1 rfl) ⟨(W0_in (tp_2 (List.mem_of_getElem? (i := 121) (by decide +kernel))) rfl), (W0_in (tp_1 (List.mem_of_getElem? (i := 34) (by decide +kernel))) rfl), (W0_in (tp_1 (List.mem_of_getElem? (i := 35) (by decide +kernel))) rfl)⟩ (by omega) (Nat.le_of_ble_eq_true rfl) ?_
  exact T_vret (dk dtk_X1_init 2 rfl) rfl h
def ops_220 : List gop := [oR_ 220 0 60, oR_ 220 1 80, oN_ 240 7, oR_ 220 2 240, oN_ 225 228, oR_ 220 4 225, oN_ 231 84, oR_ 220 10 231, oN_ 232 84, oR_ 220 11 232, oN_ 233 84, oR_ 220 12 233]
def news_220 : List Nat := [240, 225, 231, 232, 233]
set_option maxRecDepth 100000 in
set_option maxHeartbeats 4000000 in
theorem kc_220 {G : kG} {d : Nat} {x : gd} {f : gf} {Q : gr → gd → gf → Prop} (hB : 220 ∈ f.2.1) (ha_60 : 60 ∈ f.2.1) (hfr : ∀ c ∈ news_220, c ∉ f.2.1 ∧ NR f c) (hr_60_0 : f.1 60 0 = some 80) (h : Q (.inl none) (xops x ops_220) (fops f ops_220)) : T (kE G) (d + 2) zk_X5_init 0 [(0, vr 220), (1, vr 60)] [] x f Q := by
  refine T_aload_n 0 (dk dtk_X5_init 0 rfl) rfl rfl ?_
  refine T_objInit (dk dtk_X5_init 1 rfl) ⟨(W0_in (tp_2 (List.mem_of_getElem? (i := 115) (by decide +kernel))) rfl), (W0_in (tp_1 (List.mem_of_getElem? (i := 34) (by decide +kernel))) rfl), (W0_in (tp_1 (List.mem_of_getElem? (i := 35) (by decide +kernel))) rfl)⟩ (by omega) (Nat.le_of_ble_eq_true rfl) ?_
  refine T_aload_n 0 (dk dtk_X5_init 2 rfl) rfl rfl ?_
  refine T_aload_n 1 (dk dtk_X5_init 3 rfl) rfl rfl ?_
  refine T_putRF 220 0 60 (dk dtk_X5_init 4 rfl) rfl kfl_X5_11 kk_220 (ops_in (l := List.take 0 ops_220) hB) (by decide) rfl (fun _ => ⟨rfl, rfl⟩) (fun r h => by cases h; rfl) ?_
  refine T_aload_n 0 (dk dtk_X5_init 5 rfl) rfl rfl ?_
  refine T_aload_n 1 (dk dtk_X5_init 6 rfl) rfl rfl ?_
  refine T_getR 60 0 80 (dk dtk_X5_init 7 rfl) kfl_X5_15 kk_60 (ops_in (l := List.take 1 ops_220) ha_60) (by decide) rfl hr_60_0 ?_
  refine T_putRF 220 1 80 (dk dtk_X5_init 8 rfl) rfl kfl_X5_21 kk_220 (ops_in (l := List.take 1 ops_220) hB) (by decide) rfl (fun _ => ⟨rfl, rfl⟩) (fun r h => by cases h; rfl) ?_
  refine T_aload_n 0 (dk dtk_X5_init 9 rfl) rfl rfl ?_
  refine T_newO 240 (dk dtk_X5_init 10 rfl) kn_X5_22 kk_240 (ops_nd (l := List.take 2 ops_220) (hfr 240 (by decide)).1 (by decide)) (Or.inl (by decide)) (ops_nr (l := List.take 2 ops_220) (hfr 240 (by decide)).2 (by decide)) (gok_i (av_c (gkr (ops_in (l := List.take 2 ops_220) hB)) (av_c (gkr (ops_in (l := List.take 2 ops_220) ha_60)) av_n)) (as_c (gkr (ops_in (l := List.take 2 ops_220) hB)) as_n)) ?_
  refine T_dup (dk dtk_X5_init 11 rfl) rfl ?_
  refine T_callN [] [vr 240, vr 220] (d + 1) rfl (dk dtk_X5_init 12 rfl) rfl rfl rfl kci_deed rfl (by omega) (Nat.le_of_ble_eq_true rfl) (Nat.le_of_ble_eq_true rfl) (gok_i (av_c (gkr (ops_in (l := List.take 3 ops_220) hB)) (av_c (gkr (ops_in (l := List.take 3 ops_220) ha_60)) av_n)) (as_c (gkr (ops_i2 (l := List.take 3 ops_220) (by decide))) (as_c (gkr (ops_in (l := List.take 3 ops_220) hB)) as_n))) (kc_240 (d := d + 0) (ops_i2 (l := List.take 3 ops_220) (by decide))  (ops_fr (l := List.take 3 ops_220) hfr (by decide +kernel))  ⟨rfl, ?_⟩)
  refine T_putRF 220 2 240 (dk dtk_X5_init 13 rfl) rfl kfl_X5_25 kk_220 (ops_in (l := List.take 3 ops_220) hB) (by decide) rfl (fun _ => ⟨rfl, rfl⟩) (fun r h => by cases h; rfl) ?_
  refine T_aload_n 0 (dk dtk_X5_init 14 rfl) rfl rfl ?_
  refine T_sipush (v := 228) (dk dtk_X5_init 15 rfl) (by decide +kernel) ?_
  refine T_newI 225 (dk dtk_X5_init 16 rfl) rfl (Or.inl rfl) (W0_in (tp_1 (List.mem_of_getElem? (i := 82) (by decide +kernel))) rfl) kk_225 (by decide) (by decide) (by decide) (ops_nd (l := List.take 4 ops_220) (hfr 225 (by decide)).1 (by decide)) (Or.inl (by decide)) (ops_nr (l := List.take 4 ops_220) (hfr 225 (by decide)).2 (by decide)) (gok_i (av_c (gkr (ops_in (l := List.take 4 ops_220) hB)) (av_c (gkr (ops_in (l := List.take 4 ops_220) ha_60)) av_n)) (as_c (gkr (ops_in (l := List.take 4 ops_220) hB)) as_n)) ?_
  refine T_putRF 220 4 225 (dk dtk_X5_init 17 rfl) rfl kfl_X5_29 kk_220 (ops_in (l := List.take 5 ops_220) hB) (by decide) rfl (fun _ => ⟨rfl, rfl⟩) (fun r h => by cases h; rfl) ?_
  refine T_aload_n 0 (dk dtk_X5_init 18 rfl) rfl rfl ?_
  refine T_bipush (v := 84) (dk dtk_X5_init 19 rfl) (by decide +kernel) ?_
  refine T_newI 231 (dk dtk_X5_init 20 rfl) rfl (Or.inl rfl) (W0_in (tp_1 (List.mem_of_getElem? (i := 82) (by decide +kernel))) rfl) kk_231 (by decide) (by decide) (by decide) (ops_nd (l := List.take 6 ops_220) (hfr 231 (by decide)).1 (by decide)) (Or.inl (by decide)) (ops_nr (l := List.take 6 ops_220) (hfr 231 (by decide)).2 (by decide)) (gok_i (av_c (gkr (ops_in (l := List.take 6 ops_220) hB)) (av_c (gkr (ops_in (l := List.take 6 ops_220) ha_60)) av_n)) (as_c (gkr (ops_in (l := List.take 6 ops_220) hB)) as_n)) ?_
  refine T_putRF 220 10 231 (dk dtk_X5_init 21 rfl) rfl kfl_X5_33 kk_220 (ops_in (l := List.take 7 ops_220) hB) (by decide) rfl (fun _ => ⟨rfl, rfl⟩) (fun r h => by cases h; rfl) ?_
  refine T_aload_n 0 (dk dtk_X5_init 22 rfl) rfl rfl ?_
  refine T_bipush (v := 84) (dk dtk_X5_init 23 rfl) (by decide +kernel) ?_
  refine T_newI 232 (dk dtk_X5_init 24 rfl) rfl (Or.inl rfl) (W0_in (tp_1 (List.mem_of_getElem? (i := 82) (by decide +kernel))) rfl) kk_232 (by decide) (by decide) (by decide) (ops_nd (l := List.take 8 ops_220) (hfr 232 (by decide)).1 (by decide)) (Or.inl (by decide)) (ops_nr (l := List.take 8 ops_220) (hfr 232 (by decide)).2 (by decide)) (gok_i (av_c (gkr (ops_in (l := List.take 8 ops_220) hB)) (av_c (gkr (ops_in (l := List.take 8 ops_220) ha_60)) av_n)) (as_c (gkr (ops_in (l := List.take 8 ops_220) hB)) as_n)) ?_
  refine T_putRF 220 11 232 (dk dtk_X5_init 25 rfl) rfl kfl_X5_36 kk_220 (ops_in (l := List.take 9 ops_220) hB) (by decide) rfl (fun _ => ⟨rfl, rfl⟩) (fun r h => by cases h; rfl) ?_
  refine T_aload_n 0 (dk dtk_X5_init 26 rfl) rfl rfl ?_
  refine T_bipush (v := 84) (dk dtk_X5_init 27 rfl) (by decide +kernel) ?_
  refine T_newI 233 (dk dtk_X5_init 28 rfl) rfl (Or.inl rfl) (W0_in (tp_1 (List.mem_of_getElem? (i := 82) (by decide +kernel))) rfl) kk_233 (by decide) (by decide) (by decide) (ops_nd (l := List.take 10 ops_220) (hfr 233 (by decide)).1 (by decide)) (Or.inl (by decide)) (ops_nr (l := List.take 10 ops_220) (hfr 233 (by decide)).2 (by decide)) (gok_i (av_c (gkr (ops_in (l := List.take 10 ops_220) hB)) (av_c (gkr (ops_in (l := List.take 10 ops_220) ha_60)) av_n)) (as_c (gkr (ops_in (l := List.take 10 ops_220) hB)) as_n)) ?_
  refine T_putRF 220 12 233 (dk dtk_X5_init 29 rfl) rfl kfl_X5_39 kk_220 (ops_in (l := List.take 11 ops_220) hB) (by decide) rfl (fun _ => ⟨rfl, rfl⟩) (fun r h => by cases h; rfl) ?_
  exact T_vret (dk dtk_X5_init 30 rfl) rfl h
def ops_200 : List gop := [oR_ 200 0 60, oN_ 220 15, oR_ 220 0 60, oR_ 220 1 80, oN_ 240 7, oR_ 220 2 240, oN_ 225 228, oR_ 220 4 225, oN_ 231 84, oR_ 220 10 231, oN_ 232 84, oR_ 220 11 232, oN_ 233 84, oR_ 220 12 233, oR_ 200 1 220, oN_ 203 3000, oR_ 200 2 203, oN_ 204 3000, oR_ 200 3 204, oN_ 205 8192, oR_ 200 4 205, oN_ 209 6, oR_ 200 8 209, oN_ 210 6, oR_ 200 9 210]
def news_200 : List Nat := [220, 240, 225, 231, 232, 233, 203, 204, 205, 209, 210]
set_option maxRecDepth 100000 in
set_option maxHeartbeats 4000000 in
theorem kc_200 {G : kG} {d : Nat} {x : gd} {f : gf} {Q : gr → gd → gf → Prop} (hB : 200 ∈ f.2.1) (ha_60 : 60 ∈ f.2.1) (hfr : ∀ c ∈ news_200, c ∉ f.2.1 ∧ NR f c) (hr_60_0 : f.1 60 0 = some 80) (h : Q (.inl none) (xops x ops_200) (fops f ops_200)) : T (kE G) (d + 3) zk_X2_init 0 [(0, vr 200), (1, vr 60)] [] x f Q := by
  refine T_aload_n 0 (dk dtk_X2_init 0 rfl) rfl rfl ?_
  refine T_objInit (dk dtk_X2_init 1 rfl) ⟨(W0_in (tp_7 (List.mem_of_getElem? (i := 139) (by decide +kernel))) rfl), (W0_in (tp_1 (List.mem_of_getElem? (i := 34) (by decide +kernel))) rfl), (W0_in (tp_1 (List.mem_of_getElem? (i := 35) (by decide +kernel))) rfl)⟩ (by omega) (Nat.le_of_ble_eq_true rfl) ?_
  refine T_aload_n 0 (dk dtk_X2_init 2 rfl) rfl rfl ?_
  refine T_aload_n 1 (dk dtk_X2_init 3 rfl) rfl rfl ?_
  refine T_putRF 200 0 60 (dk dtk_X2_init 4 rfl) rfl kfl_X2_9 kk_200 (ops_in (l := List.take 0 ops_200) hB) (by decide) rfl (fun _ => ⟨rfl, rfl⟩) (fun r h => by cases h; rfl) ?_
  refine T_aload_n 0 (dk dtk_X2_init 5 rfl) rfl rfl ?_
  refine T_newO 220 (dk dtk_X2_init 6 rfl) kn_X2_15 kk_220 (ops_nd (l := List.take 1 ops_200) (hfr 220 (by decide)).1 (by decide)) (Or.inl (by decide)) (ops_nr (l := List.take 1 ops_200) (hfr 220 (by decide)).2 (by decide)) (gok_i (av_c (gkr (ops_in (l := List.take 1 ops_200) hB)) (av_c (gkr (ops_in (l := List.take 1 ops_200) ha_60)) av_n)) (as_c (gkr (ops_in (l := List.take 1 ops_200) hB)) as_n)) ?_
  refine T_dup (dk dtk_X2_init 7 rfl) rfl ?_
  refine T_aload_n 1 (dk dtk_X2_init 8 rfl) rfl rfl ?_
  refine T_callI [vr 60] [vr 220, vr 200] (d + 2) rfl (dk dtk_X2_init 9 rfl) kci_X2_17 rfl (by omega) (Nat.le_of_ble_eq_true rfl) (Nat.le_of_ble_eq_true rfl) (gok_i (av_c (gkr (ops_in (l := List.take 2 ops_200) hB)) (av_c (gkr (ops_in (l := List.take 2 ops_200) ha_60)) av_n)) (as_c (gkr (ops_i2 (l := List.take 2 ops_200) (by decide))) (as_c (gkr (ops_in (l := List.take 2 ops_200) hB)) as_n))) (kc_220 (d := d + 0) (ops_i2 (l := List.take 2 ops_200) (by decide)) (ops_in (l := List.take 2 ops_200) ha_60) (ops_fr (l := List.take 2 ops_200) hfr (by decide +kernel)) hr_60_0 ⟨rfl, ?_⟩)
  refine T_putRF 200 1 220 (dk dtk_X2_init 10 rfl) rfl kfl_X2_20 kk_200 (ops_in (l := List.take 14 ops_200) hB) (by decide) rfl (fun _ => ⟨rfl, rfl⟩) (fun r h => by cases h; rfl) ?_
  refine T_aload_n 0 (dk dtk_X2_init 11 rfl) rfl rfl ?_
  refine T_sipush (v := 3000) (dk dtk_X2_init 12 rfl) (by decide +kernel) ?_
  refine T_newA 203 (dk dtk_X2_init 13 rfl) (W0_in (tp_7 (List.mem_of_getElem? (i := 142) (by decide +kernel))) rfl) kk_203 (by decide) (by decide) (by decide) (ops_nd (l := List.take 15 ops_200) (hfr 203 (by decide)).1 (by decide)) (Or.inl (by decide)) (ops_nr (l := List.take 15 ops_200) (hfr 203 (by decide)).2 (by decide)) (gok_i (av_c (gkr (ops_in (l := List.take 15 ops_200) hB)) (av_c (gkr (ops_in (l := List.take 15 ops_200) ha_60)) av_n)) (as_c (gkr (ops_in (l := List.take 15 ops_200) hB)) as_n)) ?_
  refine T_putRF 200 2 203 (dk dtk_X2_init 14 rfl) rfl kfl_X2_26 kk_200 (ops_in (l := List.take 16 ops_200) hB) (by decide) rfl (fun _ => ⟨rfl, rfl⟩) (fun r h => by cases h; rfl) ?_
  refine T_aload_n 0 (dk dtk_X2_init 15 rfl) rfl rfl ?_
  refine T_sipush (v := 3000) (dk dtk_X2_init 16 rfl) (by decide +kernel) ?_
  refine T_newI 204 (dk dtk_X2_init 17 rfl) rfl (Or.inl rfl) (W0_in (tp_1 (List.mem_of_getElem? (i := 82) (by decide +kernel))) rfl) kk_204 (by decide) (by decide) (by decide) (ops_nd (l := List.take 17 ops_200) (hfr 204 (by decide)).1 (by decide)) (Or.inl (by decide)) (ops_nr (l := List.take 17 ops_200) (hfr 204 (by decide)).2 (by decide)) (gok_i (av_c (gkr (ops_in (l := List.take 17 ops_200) hB)) (av_c (gkr (ops_in (l := List.take 17 ops_200) ha_60)) av_n)) (as_c (gkr (ops_in (l := List.take 17 ops_200) hB)) as_n)) ?_
  refine T_putRF 200 3 204 (dk dtk_X2_init 18 rfl) rfl kfl_X2_30 kk_200 (ops_in (l := List.take 18 ops_200) hB) (by decide) rfl (fun _ => ⟨rfl, rfl⟩) (fun r h => by cases h; rfl) ?_
  refine T_aload_n 0 (dk dtk_X2_init 19 rfl) rfl rfl ?_
  refine T_sipush (v := 8192) (dk dtk_X2_init 20 rfl) (by decide +kernel) ?_
  refine T_newI 205 (dk dtk_X2_init 21 rfl) rfl (Or.inl rfl) (W0_in (tp_1 (List.mem_of_getElem? (i := 82) (by decide +kernel))) rfl) kk_205 (by decide) (by decide) (by decide) (ops_nd (l := List.take 19 ops_200) (hfr 205 (by decide)).1 (by decide)) (Or.inl (by decide)) (ops_nr (l := List.take 19 ops_200) (hfr 205 (by decide)).2 (by decide)) (gok_i (av_c (gkr (ops_in (l := List.take 19 ops_200) hB)) (av_c (gkr (ops_in (l := List.take 19 ops_200) ha_60)) av_n)) (as_c (gkr (ops_in (l := List.take 19 ops_200) hB)) as_n)) ?_
  refine T_putRF 200 4 205 (dk dtk_X2_init 22 rfl) rfl kfl_X2_33 kk_200 (ops_in (l := List.take 20 ops_200) hB) (by decide) rfl (fun _ => ⟨rfl, rfl⟩) (fun r h => by cases h; rfl) ?_
  refine T_aload_n 0 (dk dtk_X2_init 23 rfl) rfl rfl ?_
  refine T_bipush (v := 6) (dk dtk_X2_init 24 rfl) (by decide +kernel) ?_
  refine T_newI 209 (dk dtk_X2_init 25 rfl) rfl (Or.inl rfl) (W0_in (tp_1 (List.mem_of_getElem? (i := 82) (by decide +kernel))) rfl) kk_209 (by decide) (by decide) (by decide) (ops_nd (l := List.take 21 ops_200) (hfr 209 (by decide)).1 (by decide)) (Or.inl (by decide)) (ops_nr (l := List.take 21 ops_200) (hfr 209 (by decide)).2 (by decide)) (gok_i (av_c (gkr (ops_in (l := List.take 21 ops_200) hB)) (av_c (gkr (ops_in (l := List.take 21 ops_200) ha_60)) av_n)) (as_c (gkr (ops_in (l := List.take 21 ops_200) hB)) as_n)) ?_
  refine T_putRF 200 8 209 (dk dtk_X2_init 26 rfl) rfl kfl_X2_38 kk_200 (ops_in (l := List.take 22 ops_200) hB) (by decide) rfl (fun _ => ⟨rfl, rfl⟩) (fun r h => by cases h; rfl) ?_
  refine T_aload_n 0 (dk dtk_X2_init 27 rfl) rfl rfl ?_
  refine T_bipush (v := 6) (dk dtk_X2_init 28 rfl) (by decide +kernel) ?_
  refine T_newI 210 (dk dtk_X2_init 29 rfl) rfl (Or.inl rfl) (W0_in (tp_1 (List.mem_of_getElem? (i := 82) (by decide +kernel))) rfl) kk_210 (by decide) (by decide) (by decide) (ops_nd (l := List.take 23 ops_200) (hfr 210 (by decide)).1 (by decide)) (Or.inl (by decide)) (ops_nr (l := List.take 23 ops_200) (hfr 210 (by decide)).2 (by decide)) (gok_i (av_c (gkr (ops_in (l := List.take 23 ops_200) hB)) (av_c (gkr (ops_in (l := List.take 23 ops_200) ha_60)) av_n)) (as_c (gkr (ops_in (l := List.take 23 ops_200) hB)) as_n)) ?_
  refine T_putRF 200 9 210 (dk dtk_X2_init 30 rfl) rfl kfl_X2_41 kk_200 (ops_in (l := List.take 24 ops_200) hB) (by decide) rfl (fun _ => ⟨rfl, rfl⟩) (fun r h => by cases h; rfl) ?_
  exact T_vret (dk dtk_X2_init 31 rfl) rfl h
def ops_260 : List gop := [oN_ 267 11, oR_ 260 6 267, oN_ 268 24, oR_ 260 7 268, oN_ 269 6, oR_ 260 8 269, oN_ 270 3000, oR_ 260 9 270, oN_ 271 3000, oR_ 260 10 271, oN_ 272 3000, oR_ 260 11 272, oN_ 273 3000, oR_ 260 12 273, oN_ 274 3000, oR_ 260 13 274]
def news_260 : List Nat := [267, 268, 269, 270, 271, 272, 273, 274]
set_option maxRecDepth 100000 in
set_option maxHeartbeats 4000000 in
theorem kc_260 {G : kG} {d : Nat} {x : gd} {f : gf} {Q : gr → gd → gf → Prop} (hB : 260 ∈ f.2.1) (hfr : ∀ c ∈ news_260, c ∉ f.2.1 ∧ NR f c) (h : Q (.inl none) (xops x ops_260) (fops f ops_260)) : T (kE G) (d + 1) zk_X10_init 0 [(0, vr 260)] [] x f Q := by
  refine T_aload_n 0 (dk dtk_X10_init 0 rfl) rfl rfl ?_
  refine T_objInit (dk dtk_X10_init 1 rfl) ⟨(W0_in (tp_7 (List.mem_of_getElem? (i := 178) (by decide +kernel))) rfl), (W0_in (tp_1 (List.mem_of_getElem? (i := 34) (by decide +kernel))) rfl), (W0_in (tp_1 (List.mem_of_getElem? (i := 35) (by decide +kernel))) rfl)⟩ (by omega) (Nat.le_of_ble_eq_true rfl) ?_
  refine T_aload_n 0 (dk dtk_X10_init 2 rfl) rfl rfl ?_
  refine T_bipush (v := 11) (dk dtk_X10_init 3 rfl) (by decide +kernel) ?_
  refine T_newI 267 (dk dtk_X10_init 4 rfl) rfl (Or.inl rfl) (W0_in (tp_1 (List.mem_of_getElem? (i := 82) (by decide +kernel))) rfl) rfl (by decide) (by decide) (by decide) (ops_nd (l := List.take 0 ops_260) (hfr 267 (by decide)).1 (by decide)) (Or.inl (by decide)) (ops_nr (l := List.take 0 ops_260) (hfr 267 (by decide)).2 (by decide)) (gok_i (av_c (gkr (ops_in (l := List.take 0 ops_260) hB)) av_n) (as_c (gkr (ops_in (l := List.take 0 ops_260) hB)) as_n)) ?_
  refine T_putRF 260 6 267 (dk dtk_X10_init 5 rfl) rfl kfl_X10_11 rfl (ops_in (l := List.take 1 ops_260) hB) (by decide) rfl (fun _ => ⟨rfl, rfl⟩) (fun r h => by cases h; rfl) ?_
  refine T_aload_n 0 (dk dtk_X10_init 6 rfl) rfl rfl ?_
  refine T_bipush (v := 24) (dk dtk_X10_init 7 rfl) (by decide +kernel) ?_
  refine T_newI 268 (dk dtk_X10_init 8 rfl) rfl (Or.inl rfl) (W0_in (tp_1 (List.mem_of_getElem? (i := 82) (by decide +kernel))) rfl) rfl (by decide) (by decide) (by decide) (ops_nd (l := List.take 2 ops_260) (hfr 268 (by decide)).1 (by decide)) (Or.inl (by decide)) (ops_nr (l := List.take 2 ops_260) (hfr 268 (by decide)).2 (by decide)) (gok_i (av_c (gkr (ops_in (l := List.take 2 ops_260) hB)) av_n) (as_c (gkr (ops_in (l := List.take 2 ops_260) hB)) as_n)) ?_
  refine T_putRF 260 7 268 (dk dtk_X10_init 9 rfl) rfl kfl_X10_17 rfl (ops_in (l := List.take 3 ops_260) hB) (by decide) rfl (fun _ => ⟨rfl, rfl⟩) (fun r h => by cases h; rfl) ?_
  refine T_aload_n 0 (dk dtk_X10_init 10 rfl) rfl rfl ?_
  refine T_bipush (v := 6) (dk dtk_X10_init 11 rfl) (by decide +kernel) ?_
  refine T_newI 269 (dk dtk_X10_init 12 rfl) rfl (Or.inl rfl) (W0_in (tp_1 (List.mem_of_getElem? (i := 82) (by decide +kernel))) rfl) rfl (by decide) (by decide) (by decide) (ops_nd (l := List.take 4 ops_260) (hfr 269 (by decide)).1 (by decide)) (Or.inl (by decide)) (ops_nr (l := List.take 4 ops_260) (hfr 269 (by decide)).2 (by decide)) (gok_i (av_c (gkr (ops_in (l := List.take 4 ops_260) hB)) av_n) (as_c (gkr (ops_in (l := List.take 4 ops_260) hB)) as_n)) ?_
  refine T_putRF 260 8 269 (dk dtk_X10_init 13 rfl) rfl kfl_X10_20 rfl (ops_in (l := List.take 5 ops_260) hB) (by decide) rfl (fun _ => ⟨rfl, rfl⟩) (fun r h => by cases h; rfl) ?_
  refine T_aload_n 0 (dk dtk_X10_init 14 rfl) rfl rfl ?_
  refine T_sipush (v := 3000) (dk dtk_X10_init 15 rfl) (by decide +kernel) ?_
  refine T_newI 270 (dk dtk_X10_init 16 rfl) rfl (Or.inl rfl) (W0_in (tp_1 (List.mem_of_getElem? (i := 82) (by decide +kernel))) rfl) rfl (by decide) (by decide) (by decide) (ops_nd (l := List.take 6 ops_260) (hfr 270 (by decide)).1 (by decide)) (Or.inl (by decide)) (ops_nr (l := List.take 6 ops_260) (hfr 270 (by decide)).2 (by decide)) (gok_i (av_c (gkr (ops_in (l := List.take 6 ops_260) hB)) av_n) (as_c (gkr (ops_in (l := List.take 6 ops_260) hB)) as_n)) ?_
  refine T_putRF 260 9 270 (dk dtk_X10_init 17 rfl) rfl kfl_X10_23 rfl (ops_in (l := List.take 7 ops_260) hB) (by decide) rfl (fun _ => ⟨rfl, rfl⟩) (fun r h => by cases h; rfl) ?_
  refine T_aload_n 0 (dk dtk_X10_init 18 rfl) rfl rfl ?_
  refine T_sipush (v := 3000) (dk dtk_X10_init 19 rfl) (by decide +kernel) ?_
  refine T_newI 271 (dk dtk_X10_init 20 rfl) rfl (Or.inl rfl) (W0_in (tp_1 (List.mem_of_getElem? (i := 82) (by decide +kernel))) rfl) rfl (by decide) (by decide) (by decide) (ops_nd (l := List.take 8 ops_260) (hfr 271 (by decide)).1 (by decide)) (Or.inl (by decide)) (ops_nr (l := List.take 8 ops_260) (hfr 271 (by decide)).2 (by decide)) (gok_i (av_c (gkr (ops_in (l := List.take 8 ops_260) hB)) av_n) (as_c (gkr (ops_in (l := List.take 8 ops_260) hB)) as_n)) ?_
  refine T_putRF 260 10 271 (dk dtk_X10_init 21 rfl) rfl kfl_X10_26 rfl (ops_in (l := List.take 9 ops_260) hB) (by decide) rfl (fun _ => ⟨rfl, rfl⟩) (fun r h => by cases h; rfl) ?_
  refine T_aload_n 0 (dk dtk_X10_init 22 rfl) rfl rfl ?_
  refine T_sipush (v := 3000) (dk dtk_X10_init 23 rfl) (by decide +kernel) ?_
  refine T_newI 272 (dk dtk_X10_init 24 rfl) rfl (Or.inl rfl) (W0_in (tp_1 (List.mem_of_getElem? (i := 82) (by decide +kernel))) rfl) rfl (by decide) (by decide) (by decide) (ops_nd (l := List.take 10 ops_260) (hfr 272 (by decide)).1 (by decide)) (Or.inl (by decide)) (ops_nr (l := List.take 10 ops_260) (hfr 272 (by decide)).2 (by decide)) (gok_i (av_c (gkr (ops_in (l := List.take 10 ops_260) hB)) av_n) (as_c (gkr (ops_in (l := List.take 10 ops_260) hB)) as_n)) ?_
  refine T_putRF 260 11 272 (dk dtk_X10_init 25 rfl) rfl kfl_X10_29 rfl (ops_in (l := List.take 11 ops_260) hB) (by decide) rfl (fun _ => ⟨rfl, rfl⟩) (fun r h => by cases h; rfl) ?_
  refine T_aload_n 0 (dk dtk_X10_init 26 rfl) rfl rfl ?_
  refine T_sipush (v := 3000) (dk dtk_X10_init 27 rfl) (by decide +kernel) ?_
  refine T_newA 273 (dk dtk_X10_init 28 rfl) (W0_in (tp_7 (List.mem_of_getElem? (i := 179) (by decide +kernel))) rfl) rfl (by decide) (by decide) (by decide) (ops_nd (l := List.take 12 ops_260) (hfr 273 (by decide)).1 (by decide)) (Or.inl (by decide)) (ops_nr (l := List.take 12 ops_260) (hfr 273 (by decide)).2 (by decide)) (gok_i (av_c (gkr (ops_in (l := List.take 12 ops_260) hB)) av_n) (as_c (gkr (ops_in (l := List.take 12 ops_260) hB)) as_n)) ?_
  refine T_putRF 260 12 273 (dk dtk_X10_init 29 rfl) rfl kfl_X10_33 rfl (ops_in (l := List.take 13 ops_260) hB) (by decide) rfl (fun _ => ⟨rfl, rfl⟩) (fun r h => by cases h; rfl) ?_
  refine T_aload_n 0 (dk dtk_X10_init 30 rfl) rfl rfl ?_
  refine T_sipush (v := 3000) (dk dtk_X10_init 31 rfl) (by decide +kernel) ?_
  refine T_newI 274 (dk dtk_X10_init 32 rfl) rfl (Or.inl rfl) (W0_in (tp_1 (List.mem_of_getElem? (i := 82) (by decide +kernel))) rfl) rfl (by decide) (by decide) (by decide) (ops_nd (l := List.take 14 ops_260) (hfr 274 (by decide)).1 (by decide)) (Or.inl (by decide)) (ops_nr (l := List.take 14 ops_260) (hfr 274 (by decide)).2 (by decide)) (gok_i (av_c (gkr (ops_in (l := List.take 14 ops_260) hB)) av_n) (as_c (gkr (ops_in (l := List.take 14 ops_260) hB)) as_n)) ?_
  refine T_putRF 260 13 274 (dk dtk_X10_init 33 rfl) rfl kfl_X10_37 rfl (ops_in (l := List.take 15 ops_260) hB) (by decide) rfl (fun _ => ⟨rfl, rfl⟩) (fun r h => by cases h; rfl) ?_
  exact T_vret (dk dtk_X10_init 34 rfl) rfl h
def ops_280 : List gop := [oN_ 287 11, oR_ 280 6 287, oN_ 288 24, oR_ 280 7 288, oN_ 289 6, oR_ 280 8 289, oN_ 290 3000, oR_ 280 9 290, oN_ 291 3000, oR_ 280 10 291, oN_ 292 3000, oR_ 280 11 292, oN_ 293 3000, oR_ 280 12 293, oN_ 294 3000, oR_ 280 13 294]
def news_280 : List Nat := [287, 288, 289, 290, 291, 292, 293, 294]
set_option maxRecDepth 100000 in
set_option maxHeartbeats 4000000 in
theorem kc_280 {G : kG} {d : Nat} {x : gd} {f : gf} {Q : gr → gd → gf → Prop} (hB : 280 ∈ f.2.1) (hfr : ∀ c ∈ news_280, c ∉ f.2.1 ∧ NR f c) (h : Q (.inl none) (xops x ops_280) (fops f ops_280)) : T (kE G) (d + 1) zk_X10_init 0 [(0, vr 280)] [] x f Q := by
  refine T_aload_n 0 (dk dtk_X10_init 0 rfl) rfl rfl ?_
  refine T_objInit (dk dtk_X10_init 1 rfl) ⟨(W0_in (tp_7 (List.mem_of_getElem? (i := 178) (by decide +kernel))) rfl), (W0_in (tp_1 (List.mem_of_getElem? (i := 34) (by decide +kernel))) rfl), (W0_in (tp_1 (List.mem_of_getElem? (i := 35) (by decide +kernel))) rfl)⟩ (by omega) (Nat.le_of_ble_eq_true rfl) ?_
  refine T_aload_n 0 (dk dtk_X10_init 2 rfl) rfl rfl ?_
  refine T_bipush (v := 11) (dk dtk_X10_init 3 rfl) (by decide +kernel) ?_
  refine T_newI 287 (dk dtk_X10_init 4 rfl) rfl (Or.inl rfl) (W0_in (tp_1 (List.mem_of_getElem? (i := 82) (by decide +kernel))) rfl) rfl (by decide) (by decide) (by decide) (ops_nd (l := List.take 0 ops_280) (hfr 287 (by decide)).1 (by decide)) (Or.inl (by decide)) (ops_nr (l := List.take 0 ops_280) (hfr 287 (by decide)).2 (by decide)) (gok_i (av_c (gkr (ops_in (l := List.take 0 ops_280) hB)) av_n) (as_c (gkr (ops_in (l := List.take 0 ops_280) hB)) as_n)) ?_
  refine T_putRF 280 6 287 (dk dtk_X10_init 5 rfl) rfl kfl_X10_11 rfl (ops_in (l := List.take 1 ops_280) hB) (by decide) rfl (fun _ => ⟨rfl, rfl⟩) (fun r h => by cases h; rfl) ?_
  refine T_aload_n 0 (dk dtk_X10_init 6 rfl) rfl rfl ?_
  refine T_bipush (v := 24) (dk dtk_X10_init 7 rfl) (by decide +kernel) ?_
  refine T_newI 288 (dk dtk_X10_init 8 rfl) rfl (Or.inl rfl) (W0_in (tp_1 (List.mem_of_getElem? (i := 82) (by decide +kernel))) rfl) rfl (by decide) (by decide) (by decide) (ops_nd (l := List.take 2 ops_280) (hfr 288 (by decide)).1 (by decide)) (Or.inl (by decide)) (ops_nr (l := List.take 2 ops_280) (hfr 288 (by decide)).2 (by decide)) (gok_i (av_c (gkr (ops_in (l := List.take 2 ops_280) hB)) av_n) (as_c (gkr (ops_in (l := List.take 2 ops_280) hB)) as_n)) ?_
  refine T_putRF 280 7 288 (dk dtk_X10_init 9 rfl) rfl kfl_X10_17 rfl (ops_in (l := List.take 3 ops_280) hB) (by decide) rfl (fun _ => ⟨rfl, rfl⟩) (fun r h => by cases h; rfl) ?_
  refine T_aload_n 0 (dk dtk_X10_init 10 rfl) rfl rfl ?_
  refine T_bipush (v := 6) (dk dtk_X10_init 11 rfl) (by decide +kernel) ?_
  refine T_newI 289 (dk dtk_X10_init 12 rfl) rfl (Or.inl rfl) (W0_in (tp_1 (List.mem_of_getElem? (i := 82) (by decide +kernel))) rfl) rfl (by decide) (by decide) (by decide) (ops_nd (l := List.take 4 ops_280) (hfr 289 (by decide)).1 (by decide)) (Or.inl (by decide)) (ops_nr (l := List.take 4 ops_280) (hfr 289 (by decide)).2 (by decide)) (gok_i (av_c (gkr (ops_in (l := List.take 4 ops_280) hB)) av_n) (as_c (gkr (ops_in (l := List.take 4 ops_280) hB)) as_n)) ?_
  refine T_putRF 280 8 289 (dk dtk_X10_init 13 rfl) rfl kfl_X10_20 rfl (ops_in (l := List.take 5 ops_280) hB) (by decide) rfl (fun _ => ⟨rfl, rfl⟩) (fun r h => by cases h; rfl) ?_
  refine T_aload_n 0 (dk dtk_X10_init 14 rfl) rfl rfl ?_
  refine T_sipush (v := 3000) (dk dtk_X10_init 15 rfl) (by decide +kernel) ?_
  refine T_newI 290 (dk dtk_X10_init 16 rfl) rfl (Or.inl rfl) (W0_in (tp_1 (List.mem_of_getElem? (i := 82) (by decide +kernel))) rfl) rfl (by decide) (by decide) (by decide) (ops_nd (l := List.take 6 ops_280) (hfr 290 (by decide)).1 (by decide)) (Or.inl (by decide)) (ops_nr (l := List.take 6 ops_280) (hfr 290 (by decide)).2 (by decide)) (gok_i (av_c (gkr (ops_in (l := List.take 6 ops_280) hB)) av_n) (as_c (gkr (ops_in (l := List.take 6 ops_280) hB)) as_n)) ?_
  refine T_putRF 280 9 290 (dk dtk_X10_init 17 rfl) rfl kfl_X10_23 rfl (ops_in (l := List.take 7 ops_280) hB) (by decide) rfl (fun _ => ⟨rfl, rfl⟩) (fun r h => by cases h; rfl) ?_
  refine T_aload_n 0 (dk dtk_X10_init 18 rfl) rfl rfl ?_
  refine T_sipush (v := 3000) (dk dtk_X10_init 19 rfl) (by decide +kernel) ?_
  refine T_newI 291 (dk dtk_X10_init 20 rfl) rfl (Or.inl rfl) (W0_in (tp_1 (List.mem_of_getElem? (i := 82) (by decide +kernel))) rfl) rfl (by decide) (by decide) (by decide) (ops_nd (l := List.take 8 ops_280) (hfr 291 (by decide)).1 (by decide)) (Or.inl (by decide)) (ops_nr (l := List.take 8 ops_280) (hfr 291 (by decide)).2 (by decide)) (gok_i (av_c (gkr (ops_in (l := List.take 8 ops_280) hB)) av_n) (as_c (gkr (ops_in (l := List.take 8 ops_280) hB)) as_n)) ?_
  refine T_putRF 280 10 291 (dk dtk_X10_init 21 rfl) rfl kfl_X10_26 rfl (ops_in (l := List.take 9 ops_280) hB) (by decide) rfl (fun _ => ⟨rfl, rfl⟩) (fun r h => by cases h; rfl) ?_
  refine T_aload_n 0 (dk dtk_X10_init 22 rfl) rfl rfl ?_
  refine T_sipush (v := 3000) (dk dtk_X10_init 23 rfl) (by decide +kernel) ?_
  refine T_newI 292 (dk dtk_X10_init 24 rfl) rfl (Or.inl rfl) (W0_in (tp_1 (List.mem_of_getElem? (i := 82) (by decide +kernel))) rfl) rfl (by decide) (by decide) (by decide) (ops_nd (l := List.take 10 ops_280) (hfr 292 (by decide)).1 (by decide)) (Or.inl (by decide)) (ops_nr (l := List.take 10 ops_280) (hfr 292 (by decide)).2 (by decide)) (gok_i (av_c (gkr (ops_in (l := List.take 10 ops_280) hB)) av_n) (as_c (gkr (ops_in (l := List.take 10 ops_280) hB)) as_n)) ?_
  refine T_putRF 280 11 292 (dk dtk_X10_init 25 rfl) rfl kfl_X10_29 rfl (ops_in (l := List.take 11 ops_280) hB) (by decide) rfl (fun _ => ⟨rfl, rfl⟩) (fun r h => by cases h; rfl) ?_
  refine T_aload_n 0 (dk dtk_X10_init 26 rfl) rfl rfl ?_
  refine T_sipush (v := 3000) (dk dtk_X10_init 27 rfl) (by decide +kernel) ?_
  refine T_newA 293 (dk dtk_X10_init 28 rfl) (W0_in (tp_7 (List.mem_of_getElem? (i := 179) (by decide +kernel))) rfl) rfl (by decide) (by decide) (by decide) (ops_nd (l := List.take 12 ops_280) (hfr 293 (by decide)).1 (by decide)) (Or.inl (by decide)) (ops_nr (l := List.take 12 ops_280) (hfr 293 (by decide)).2 (by decide)) (gok_i (av_c (gkr (ops_in (l := List.take 12 ops_280) hB)) av_n) (as_c (gkr (ops_in (l := List.take 12 ops_280) hB)) as_n)) ?_
  refine T_putRF 280 12 293 (dk dtk_X10_init 29 rfl) rfl kfl_X10_33 rfl (ops_in (l := List.take 13 ops_280) hB) (by decide) rfl (fun _ => ⟨rfl, rfl⟩) (fun r h => by cases h; rfl) ?_
  refine T_aload_n 0 (dk dtk_X10_init 30 rfl) rfl rfl ?_
  refine T_sipush (v := 3000) (dk dtk_X10_init 31 rfl) (by decide +kernel) ?_
  refine T_newI 294 (dk dtk_X10_init 32 rfl) rfl (Or.inl rfl) (W0_in (tp_1 (List.mem_of_getElem? (i := 82) (by decide +kernel))) rfl) rfl (by decide) (by decide) (by decide) (ops_nd (l := List.take 14 ops_280) (hfr 294 (by decide)).1 (by decide)) (Or.inl (by decide)) (ops_nr (l := List.take 14 ops_280) (hfr 294 (by decide)).2 (by decide)) (gok_i (av_c (gkr (ops_in (l := List.take 14 ops_280) hB)) av_n) (as_c (gkr (ops_in (l := List.take 14 ops_280) hB)) as_n)) ?_
  refine T_putRF 280 13 294 (dk dtk_X10_init 33 rfl) rfl kfl_X10_37 rfl (ops_in (l := List.take 15 ops_280) hB) (by decide) rfl (fun _ => ⟨rfl, rfl⟩) (fun r h => by cases h; rfl) ?_
  exact T_vret (dk dtk_X10_init 34 rfl) rfl h
end
section
def ops_0 : List gop := [oN_ 20 10, oN_ 21 3000, oR_ 20 0 21, oN_ 23 702, oR_ 20 2 23, oN_ 24 702, oR_ 20 3 24, oN_ 25 702, oR_ 20 4 25, oN_ 26 702, oR_ 20 5 26, oN_ 27 702, oR_ 20 6 27, oR_ 0 0 20, oN_ 40 12, oR_ 40 0 20, oN_ 42 702, oR_ 40 1 42, oN_ 43 702, oR_ 40 2 43, oN_ 44 24, oR_ 40 3 44, oN_ 45 24, oR_ 40 4 45, oN_ 46 24, oR_ 40 5 46, oN_ 48 6, oR_ 40 7 48, oN_ 50 6, oR_ 40 9 50, oR_ 0 1 40, oN_ 60 18, oN_ 80 10, oN_ 81 400, oR_ 80 0 81, oN_ 82 400, oR_ 80 1 82, oN_ 83 400, oR_ 80 2 83, oN_ 84 400, oR_ 80 3 84, oN_ 85 400, oR_ 80 4 85, oN_ 86 400, oR_ 80 5 86, oN_ 87 400, oR_ 80 6 87, oN_ 88 400, oR_ 80 7 88, oN_ 89 400, oR_ 80 8 89, oR_ 60 0 80, oN_ 62 800, oR_ 60 1 62, oN_ 63 800, oR_ 60 2 63, oN_ 65 40, oR_ 60 4 65, oN_ 68 24, oR_ 60 7 68, oN_ 69 24, oR_ 60 8 69, oN_ 72 6, oR_ 60 11 72, oN_ 73 6, oR_ 60 12 73, oN_ 76 4, oR_ 60 15 76, oN_ 78 4, oR_ 60 17 78, oR_ 0 2 60, oN_ 100 18, oR_ 100 0 20, oR_ 100 1 40, oR_ 100 2 60, oR_ 100 3 80, oN_ 109 8, oR_ 100 8 109, oN_ 111 20, oR_ 100 10 111, oN_ 112 20, oR_ 100 11 112, oN_ 113 20, oR_ 100 12 113, oN_ 115 20, oR_ 100 14 115, oN_ 116 20, oR_ 100 15 116, oN_ 117 20, oR_ 100 16 117, oR_ 0 3 100, oN_ 120 15, oR_ 120 0 60, oR_ 120 1 80, oN_ 140 7, oR_ 120 2 140, oN_ 125 228, oR_ 120 4 125, oN_ 131 84, oR_ 120 10 131, oN_ 132 84, oR_ 120 11 132, oN_ 133 84, oR_ 120 12 133, oR_ 0 4 120, oN_ 160 18, oR_ 160 0 60, oN_ 162 400, oR_ 160 1 162, oN_ 166 400, oR_ 160 5 166, oN_ 167 400, oR_ 160 6 167, oN_ 168 400, oR_ 160 7 168, oN_ 169 400, oR_ 160 8 169, oN_ 170 400, oR_ 160 9 170, oN_ 171 400, oR_ 160 10 171, oN_ 172 400, oR_ 160 11 172, oN_ 173 2400, oR_ 160 12 173, oN_ 174 6, oR_ 160 13 174, oN_ 175 36, oR_ 160 14 175, oN_ 176 36, oR_ 160 15 176, oN_ 177 144, oR_ 160 16 177, oN_ 178 36, oR_ 160 17 178, oR_ 0 5 160, oN_ 7 2, oR_ 0 6 7, oI_ 0 11 (-1), oI_ 0 12 (-1)]
def news_0 : List Nat := [20, 21, 23, 24, 25, 26, 27, 40, 42, 43, 44, 45, 46, 48, 50, 60, 80, 81, 82, 83, 84, 85, 86, 87, 88, 89, 62, 63, 65, 68, 69, 72, 73, 76, 78, 100, 109, 111, 112, 113, 115, 116, 117, 120, 140, 125, 131, 132, 133, 160, 162, 166, 167, 168, 169, 170, 171, 172, 173, 174, 175, 176, 177, 178, 7]
set_option maxRecDepth 100000 in
set_option maxHeartbeats 4000000 in
theorem kc_0 {G : kG} {d : Nat} {x : gd} {f : gf} {Q : gr → gd → gf → Prop} (hB : 0 ∈ f.2.1) (hfr : ∀ c ∈ news_0, c ∉ f.2.1 ∧ NR f c) (h : Q (.inl none) (xops x ops_0) (fops f ops_0)) : T (kE G) (d + 3) zk_X11_init 0 [(0, vr 0)] [] x f Q := by
  have fr0 : ∀ c ∈ ([20, 21, 23, 24, 25, 26, 27, 40, 42, 43, 44, 45, 46, 48, 50, 60, 80, 81, 82, 83, 84, 85, 86, 87, 88, 89, 62, 63, 65, 68, 69, 72, 73, 76, 78, 100, 109, 111, 112, 113, 115, 116, 117, 120, 140, 125, 131, 132, 133, 160, 162, 166, 167, 168, 169, 170, 171, 172, 173, 174, 175, 176, 177, 178, 7] : List Nat), c ∉ f.2.1 ∧ NR f c := hfr
  have li0 : ∀ c ∈ ([0] : List Nat), c ∈ f.2.1 := fun c hc => by rw [List.mem_singleton.mp hc]; exact hB
  obtain ⟨f0, e0⟩ : ∃ z, z = f := ⟨_, rfl⟩
  rw [← e0] at fr0 li0 ⊢
  refine T_aload_n 0 (dk dtk_X11_init 0 rfl) rfl rfl ?_
  refine T_objInit (dk dtk_X11_init 1 rfl) ⟨(W0_in (tp_1 (List.mem_of_getElem? (i := 33) (by decide +kernel))) rfl), (W0_in (tp_1 (List.mem_of_getElem? (i := 34) (by decide +kernel))) rfl), (W0_in (tp_1 (List.mem_of_getElem? (i := 35) (by decide +kernel))) rfl)⟩ (by omega) (Nat.le_of_ble_eq_true rfl) ?_
  refine T_aload_n 0 (dk dtk_X11_init 2 rfl) rfl rfl ?_
  refine T_newO 20 (dk dtk_X11_init 3 rfl) kn_X11_7 kk_20 (fr0 20 (by decide)).1 (Or.inl (by decide)) (fr0 20 (by decide)).2 (gok_i (av_c (gkr (li0 0 (by decide))) av_n) (as_c (gkr (li0 0 (by decide))) as_n)) ?_
  obtain ⟨f1, e1⟩ : ∃ z, z = fnew f0 20 ks_X9.length := ⟨_, rfl⟩
  rw [← e1]
  have fr1 : ∀ c ∈ ([21, 23, 24, 25, 26, 27, 40, 42, 43, 44, 45, 46, 48, 50, 60, 80, 81, 82, 83, 84, 85, 86, 87, 88, 89, 62, 63, 65, 68, 69, 72, 73, 76, 78, 100, 109, 111, 112, 113, 115, 116, 117, 120, 140, 125, 131, 132, 133, 160, 162, 166, 167, 168, 169, 170, 171, 172, 173, 174, 175, 176, 177, 178, 7] : List Nat), c ∉ f1.2.1 ∧ NR f1 c := by rw [e1]; exact ops_fr (l := [oN_ 20 10]) fr0 (by decide +kernel)
  have li1 : ∀ c ∈ ([0, 20] : List Nat), c ∈ f1.2.1 := by rw [e1]; exact ops_li (l := [oN_ 20 10]) li0 (by decide +kernel)
  refine T_dup (dk dtk_X11_init 4 rfl) rfl ?_
  refine T_callI [] [vr 20, vr 0] (d + 2) rfl (dk dtk_X11_init 5 rfl) kci_X11_9 rfl (by omega) (Nat.le_of_ble_eq_true rfl) (Nat.le_of_ble_eq_true rfl) (gok_i (av_c (gkr (li1 0 (by decide))) av_n) (as_c (gkr (li1 20 (by decide))) (as_c (gkr (li1 0 (by decide))) as_n))) (kc_20 (d := d + 1) (li1 20 (by decide))  (fun c hc => fr1 c ((by decide +kernel : ∀ c ∈ news_20, c ∈ ([21, 23, 24, 25, 26, 27, 40, 42, 43, 44, 45, 46, 48, 50, 60, 80, 81, 82, 83, 84, 85, 86, 87, 88, 89, 62, 63, 65, 68, 69, 72, 73, 76, 78, 100, 109, 111, 112, 113, 115, 116, 117, 120, 140, 125, 131, 132, 133, 160, 162, 166, 167, 168, 169, 170, 171, 172, 173, 174, 175, 176, 177, 178, 7] : List Nat)) c hc))  ⟨rfl, ?_⟩)
  obtain ⟨f2, e2⟩ : ∃ z, z = fops f1 ops_20 := ⟨_, rfl⟩
  rw [← e2]
  have fr2 : ∀ c ∈ ([40, 42, 43, 44, 45, 46, 48, 50, 60, 80, 81, 82, 83, 84, 85, 86, 87, 88, 89, 62, 63, 65, 68, 69, 72, 73, 76, 78, 100, 109, 111, 112, 113, 115, 116, 117, 120, 140, 125, 131, 132, 133, 160, 162, 166, 167, 168, 169, 170, 171, 172, 173, 174, 175, 176, 177, 178, 7] : List Nat), c ∉ f2.2.1 ∧ NR f2 c := by rw [e2]; exact ops_fr (l := ops_20) fr1 (by decide +kernel)
  have li2 : ∀ c ∈ ([0, 20] : List Nat), c ∈ f2.2.1 := by rw [e2]; exact ops_li (l := ops_20) li1 (by decide +kernel)
  refine T_putRF 0 0 20 (dk dtk_X11_init 6 rfl) rfl kfl_X11_10 kk_0 (li2 0 (by decide)) (by decide) rfl (fun _ => ⟨rfl, rfl⟩) (fun r h => by cases h; rfl) ?_
  obtain ⟨f3, e3⟩ : ∃ z, z = frf f2 0 0 (some 20) := ⟨_, rfl⟩
  rw [← e3]
  have fr3 : ∀ c ∈ ([40, 42, 43, 44, 45, 46, 48, 50, 60, 80, 81, 82, 83, 84, 85, 86, 87, 88, 89, 62, 63, 65, 68, 69, 72, 73, 76, 78, 100, 109, 111, 112, 113, 115, 116, 117, 120, 140, 125, 131, 132, 133, 160, 162, 166, 167, 168, 169, 170, 171, 172, 173, 174, 175, 176, 177, 178, 7] : List Nat), c ∉ f3.2.1 ∧ NR f3 c := by rw [e3]; exact ops_fr (l := [oR_ 0 0 20]) fr2 (by decide +kernel)
  have li3 : ∀ c ∈ ([0, 20] : List Nat), c ∈ f3.2.1 := by rw [e3]; exact ops_li (l := [oR_ 0 0 20]) li2 (by decide +kernel)
  have r3_0_0 : f3.1 0 0 = some 20 := by rw [e3]; rfl
  refine T_aload_n 0 (dk dtk_X11_init 7 rfl) rfl rfl ?_
  refine T_newO 40 (dk dtk_X11_init 8 rfl) kn_X11_16 kk_40 (fr3 40 (by decide)).1 (Or.inl (by decide)) (fr3 40 (by decide)).2 (gok_i (av_c (gkr (li3 0 (by decide))) av_n) (as_c (gkr (li3 0 (by decide))) as_n)) ?_
  obtain ⟨f4, e4⟩ : ∃ z, z = fnew f3 40 ks_X6.length := ⟨_, rfl⟩
  rw [← e4]
  have fr4 : ∀ c ∈ ([42, 43, 44, 45, 46, 48, 50, 60, 80, 81, 82, 83, 84, 85, 86, 87, 88, 89, 62, 63, 65, 68, 69, 72, 73, 76, 78, 100, 109, 111, 112, 113, 115, 116, 117, 120, 140, 125, 131, 132, 133, 160, 162, 166, 167, 168, 169, 170, 171, 172, 173, 174, 175, 176, 177, 178, 7] : List Nat), c ∉ f4.2.1 ∧ NR f4 c := by rw [e4]; exact ops_fr (l := [oN_ 40 12]) fr3 (by decide +kernel)
  have li4 : ∀ c ∈ ([0, 20, 40] : List Nat), c ∈ f4.2.1 := by rw [e4]; exact ops_li (l := [oN_ 40 12]) li3 (by decide +kernel)
  have r4_0_0 : f4.1 0 0 = some 20 := by rw [e4]; exact r3_0_0
  refine T_dup (dk dtk_X11_init 9 rfl) rfl ?_
  refine T_aload_n 0 (dk dtk_X11_init 10 rfl) rfl rfl ?_
  refine T_getR 0 0 20 (dk dtk_X11_init 11 rfl) kfl_X11_10 kk_0 (li4 0 (by decide)) (by decide) rfl r4_0_0 ?_
  refine T_callI [vr 20] [vr 40, vr 0] (d + 2) rfl (dk dtk_X11_init 12 rfl) kci_X11_18 rfl (by omega) (Nat.le_of_ble_eq_true rfl) (Nat.le_of_ble_eq_true rfl) (gok_i (av_c (gkr (li4 0 (by decide))) av_n) (as_c (gkr (li4 40 (by decide))) (as_c (gkr (li4 0 (by decide))) as_n))) (kc_40 (d := d + 1) (li4 40 (by decide)) (li4 20 (by decide)) (fun c hc => fr4 c ((by decide +kernel : ∀ c ∈ news_40, c ∈ ([42, 43, 44, 45, 46, 48, 50, 60, 80, 81, 82, 83, 84, 85, 86, 87, 88, 89, 62, 63, 65, 68, 69, 72, 73, 76, 78, 100, 109, 111, 112, 113, 115, 116, 117, 120, 140, 125, 131, 132, 133, 160, 162, 166, 167, 168, 169, 170, 171, 172, 173, 174, 175, 176, 177, 178, 7] : List Nat)) c hc))  ⟨rfl, ?_⟩)
  obtain ⟨f5, e5⟩ : ∃ z, z = fops f4 ops_40 := ⟨_, rfl⟩
  rw [← e5]
  have fr5 : ∀ c ∈ ([60, 80, 81, 82, 83, 84, 85, 86, 87, 88, 89, 62, 63, 65, 68, 69, 72, 73, 76, 78, 100, 109, 111, 112, 113, 115, 116, 117, 120, 140, 125, 131, 132, 133, 160, 162, 166, 167, 168, 169, 170, 171, 172, 173, 174, 175, 176, 177, 178, 7] : List Nat), c ∉ f5.2.1 ∧ NR f5 c := by rw [e5]; exact ops_fr (l := ops_40) fr4 (by decide +kernel)
  have li5 : ∀ c ∈ ([0, 20, 40] : List Nat), c ∈ f5.2.1 := by rw [e5]; exact ops_li (l := ops_40) li4 (by decide +kernel)
  have r5_0_0 : f5.1 0 0 = some 20 := by rw [e5]; exact r4_0_0
  refine T_putRF 0 1 40 (dk dtk_X11_init 13 rfl) rfl kfl_X11_21 kk_0 (li5 0 (by decide)) (by decide) rfl (fun _ => ⟨rfl, rfl⟩) (fun r h => by cases h; rfl) ?_
  obtain ⟨f6, e6⟩ : ∃ z, z = frf f5 0 1 (some 40) := ⟨_, rfl⟩
  rw [← e6]
  have fr6 : ∀ c ∈ ([60, 80, 81, 82, 83, 84, 85, 86, 87, 88, 89, 62, 63, 65, 68, 69, 72, 73, 76, 78, 100, 109, 111, 112, 113, 115, 116, 117, 120, 140, 125, 131, 132, 133, 160, 162, 166, 167, 168, 169, 170, 171, 172, 173, 174, 175, 176, 177, 178, 7] : List Nat), c ∉ f6.2.1 ∧ NR f6 c := by rw [e6]; exact ops_fr (l := [oR_ 0 1 40]) fr5 (by decide +kernel)
  have li6 : ∀ c ∈ ([0, 20, 40] : List Nat), c ∈ f6.2.1 := by rw [e6]; exact ops_li (l := [oR_ 0 1 40]) li5 (by decide +kernel)
  have r6_0_0 : f6.1 0 0 = some 20 := by rw [e6]; exact r5_0_0
  have r6_0_1 : f6.1 0 1 = some 40 := by rw [e6]; rfl
  refine T_aload_n 0 (dk dtk_X11_init 14 rfl) rfl rfl ?_
  refine T_newO 60 (dk dtk_X11_init 15 rfl) kn_X11_25 kk_60 (fr6 60 (by decide)).1 (Or.inl (by decide)) (fr6 60 (by decide)).2 (gok_i (av_c (gkr (li6 0 (by decide))) av_n) (as_c (gkr (li6 0 (by decide))) as_n)) ?_
  obtain ⟨f7, e7⟩ : ∃ z, z = fnew f6 60 ks_X0.length := ⟨_, rfl⟩
  rw [← e7]
  have fr7 : ∀ c ∈ ([80, 81, 82, 83, 84, 85, 86, 87, 88, 89, 62, 63, 65, 68, 69, 72, 73, 76, 78, 100, 109, 111, 112, 113, 115, 116, 117, 120, 140, 125, 131, 132, 133, 160, 162, 166, 167, 168, 169, 170, 171, 172, 173, 174, 175, 176, 177, 178, 7] : List Nat), c ∉ f7.2.1 ∧ NR f7 c := by rw [e7]; exact ops_fr (l := [oN_ 60 18]) fr6 (by decide +kernel)
  have li7 : ∀ c ∈ ([0, 20, 40, 60] : List Nat), c ∈ f7.2.1 := by rw [e7]; exact ops_li (l := [oN_ 60 18]) li6 (by decide +kernel)
  have r7_0_0 : f7.1 0 0 = some 20 := by rw [e7]; exact r6_0_0
  have r7_0_1 : f7.1 0 1 = some 40 := by rw [e7]; exact r6_0_1
  refine T_dup (dk dtk_X11_init 16 rfl) rfl ?_
  refine T_callI [] [vr 60, vr 0] (d + 2) rfl (dk dtk_X11_init 17 rfl) kci_X11_27 rfl (by omega) (Nat.le_of_ble_eq_true rfl) (Nat.le_of_ble_eq_true rfl) (gok_i (av_c (gkr (li7 0 (by decide))) av_n) (as_c (gkr (li7 60 (by decide))) (as_c (gkr (li7 0 (by decide))) as_n))) (kc_60 (d := d + 0) (li7 60 (by decide))  (fun c hc => fr7 c ((by decide +kernel : ∀ c ∈ news_60, c ∈ ([80, 81, 82, 83, 84, 85, 86, 87, 88, 89, 62, 63, 65, 68, 69, 72, 73, 76, 78, 100, 109, 111, 112, 113, 115, 116, 117, 120, 140, 125, 131, 132, 133, 160, 162, 166, 167, 168, 169, 170, 171, 172, 173, 174, 175, 176, 177, 178, 7] : List Nat)) c hc))  ⟨rfl, ?_⟩)
  obtain ⟨f8, e8⟩ : ∃ z, z = fops f7 ops_60 := ⟨_, rfl⟩
  rw [← e8]
  have fr8 : ∀ c ∈ ([100, 109, 111, 112, 113, 115, 116, 117, 120, 140, 125, 131, 132, 133, 160, 162, 166, 167, 168, 169, 170, 171, 172, 173, 174, 175, 176, 177, 178, 7] : List Nat), c ∉ f8.2.1 ∧ NR f8 c := by rw [e8]; exact ops_fr (l := ops_60) fr7 (by decide +kernel)
  have li8 : ∀ c ∈ ([0, 20, 40, 60, 80] : List Nat), c ∈ f8.2.1 := by rw [e8]; exact ops_li (l := ops_60) li7 (by decide +kernel)
  have r8_0_0 : f8.1 0 0 = some 20 := by rw [e8]; exact r7_0_0
  have r8_0_1 : f8.1 0 1 = some 40 := by rw [e8]; exact r7_0_1
  have r8_60_0 : f8.1 60 0 = some 80 := by rw [e8]; rfl
  refine T_putRF 0 2 60 (dk dtk_X11_init 18 rfl) rfl kfl_X11_28 kk_0 (li8 0 (by decide)) (by decide) rfl (fun _ => ⟨rfl, rfl⟩) (fun r h => by cases h; rfl) ?_
  obtain ⟨f9, e9⟩ : ∃ z, z = frf f8 0 2 (some 60) := ⟨_, rfl⟩
  rw [← e9]
  have fr9 : ∀ c ∈ ([100, 109, 111, 112, 113, 115, 116, 117, 120, 140, 125, 131, 132, 133, 160, 162, 166, 167, 168, 169, 170, 171, 172, 173, 174, 175, 176, 177, 178, 7] : List Nat), c ∉ f9.2.1 ∧ NR f9 c := by rw [e9]; exact ops_fr (l := [oR_ 0 2 60]) fr8 (by decide +kernel)
  have li9 : ∀ c ∈ ([0, 20, 40, 60, 80] : List Nat), c ∈ f9.2.1 := by rw [e9]; exact ops_li (l := [oR_ 0 2 60]) li8 (by decide +kernel)
  have r9_0_0 : f9.1 0 0 = some 20 := by rw [e9]; exact r8_0_0
  have r9_0_1 : f9.1 0 1 = some 40 := by rw [e9]; exact r8_0_1
  have r9_60_0 : f9.1 60 0 = some 80 := by rw [e9]; exact r8_60_0
  have r9_0_2 : f9.1 0 2 = some 60 := by rw [e9]; rfl
  refine T_aload_n 0 (dk dtk_X11_init 19 rfl) rfl rfl ?_
  refine T_newO 100 (dk dtk_X11_init 20 rfl) kn_X11_32 kk_100 (fr9 100 (by decide)).1 (Or.inl (by decide)) (fr9 100 (by decide)).2 (gok_i (av_c (gkr (li9 0 (by decide))) av_n) (as_c (gkr (li9 0 (by decide))) as_n)) ?_
  obtain ⟨f10, e10⟩ : ∃ z, z = fnew f9 100 ks_X7.length := ⟨_, rfl⟩
  rw [← e10]
  have fr10 : ∀ c ∈ ([109, 111, 112, 113, 115, 116, 117, 120, 140, 125, 131, 132, 133, 160, 162, 166, 167, 168, 169, 170, 171, 172, 173, 174, 175, 176, 177, 178, 7] : List Nat), c ∉ f10.2.1 ∧ NR f10 c := by rw [e10]; exact ops_fr (l := [oN_ 100 18]) fr9 (by decide +kernel)
  have li10 : ∀ c ∈ ([0, 20, 40, 60, 80, 100] : List Nat), c ∈ f10.2.1 := by rw [e10]; exact ops_li (l := [oN_ 100 18]) li9 (by decide +kernel)
  have r10_0_0 : f10.1 0 0 = some 20 := by rw [e10]; exact r9_0_0
  have r10_0_1 : f10.1 0 1 = some 40 := by rw [e10]; exact r9_0_1
  have r10_60_0 : f10.1 60 0 = some 80 := by rw [e10]; exact r9_60_0
  have r10_0_2 : f10.1 0 2 = some 60 := by rw [e10]; exact r9_0_2
  refine T_dup (dk dtk_X11_init 21 rfl) rfl ?_
  refine T_aload_n 0 (dk dtk_X11_init 22 rfl) rfl rfl ?_
  refine T_getR 0 0 20 (dk dtk_X11_init 23 rfl) kfl_X11_10 kk_0 (li10 0 (by decide)) (by decide) rfl r10_0_0 ?_
  refine T_aload_n 0 (dk dtk_X11_init 24 rfl) rfl rfl ?_
  refine T_getR 0 1 40 (dk dtk_X11_init 25 rfl) kfl_X11_21 kk_0 (li10 0 (by decide)) (by decide) rfl r10_0_1 ?_
  refine T_aload_n 0 (dk dtk_X11_init 26 rfl) rfl rfl ?_
  refine T_getR 0 2 60 (dk dtk_X11_init 27 rfl) kfl_X11_28 kk_0 (li10 0 (by decide)) (by decide) rfl r10_0_2 ?_
  refine T_callI [vr 20, vr 40, vr 60] [vr 100, vr 0] (d + 2) rfl (dk dtk_X11_init 28 rfl) kci_X11_34 rfl (by omega) (Nat.le_of_ble_eq_true rfl) (Nat.le_of_ble_eq_true rfl) (gok_i (av_c (gkr (li10 0 (by decide))) av_n) (as_c (gkr (li10 100 (by decide))) (as_c (gkr (li10 0 (by decide))) as_n))) (kc_100 (d := d + 1) (li10 100 (by decide)) (li10 20 (by decide)) (li10 40 (by decide)) (li10 60 (by decide)) (fun c hc => fr10 c ((by decide +kernel : ∀ c ∈ news_100, c ∈ ([109, 111, 112, 113, 115, 116, 117, 120, 140, 125, 131, 132, 133, 160, 162, 166, 167, 168, 169, 170, 171, 172, 173, 174, 175, 176, 177, 178, 7] : List Nat)) c hc)) r10_60_0 ⟨rfl, ?_⟩)
  obtain ⟨f11, e11⟩ : ∃ z, z = fops f10 ops_100 := ⟨_, rfl⟩
  rw [← e11]
  have fr11 : ∀ c ∈ ([120, 140, 125, 131, 132, 133, 160, 162, 166, 167, 168, 169, 170, 171, 172, 173, 174, 175, 176, 177, 178, 7] : List Nat), c ∉ f11.2.1 ∧ NR f11 c := by rw [e11]; exact ops_fr (l := ops_100) fr10 (by decide +kernel)
  have li11 : ∀ c ∈ ([0, 20, 40, 60, 80, 100] : List Nat), c ∈ f11.2.1 := by rw [e11]; exact ops_li (l := ops_100) li10 (by decide +kernel)
  have r11_0_0 : f11.1 0 0 = some 20 := by rw [e11]; exact r10_0_0
  have r11_0_1 : f11.1 0 1 = some 40 := by rw [e11]; exact r10_0_1
  have r11_60_0 : f11.1 60 0 = some 80 := by rw [e11]; exact r10_60_0
  have r11_0_2 : f11.1 0 2 = some 60 := by rw [e11]; exact r10_0_2
  refine T_putRF 0 3 100 (dk dtk_X11_init 29 rfl) rfl kfl_X11_37 kk_0 (li11 0 (by decide)) (by decide) rfl (fun _ => ⟨rfl, rfl⟩) (fun r h => by cases h; rfl) ?_
  obtain ⟨f12, e12⟩ : ∃ z, z = frf f11 0 3 (some 100) := ⟨_, rfl⟩
  rw [← e12]
  have fr12 : ∀ c ∈ ([120, 140, 125, 131, 132, 133, 160, 162, 166, 167, 168, 169, 170, 171, 172, 173, 174, 175, 176, 177, 178, 7] : List Nat), c ∉ f12.2.1 ∧ NR f12 c := by rw [e12]; exact ops_fr (l := [oR_ 0 3 100]) fr11 (by decide +kernel)
  have li12 : ∀ c ∈ ([0, 20, 40, 60, 80, 100] : List Nat), c ∈ f12.2.1 := by rw [e12]; exact ops_li (l := [oR_ 0 3 100]) li11 (by decide +kernel)
  have r12_0_0 : f12.1 0 0 = some 20 := by rw [e12]; exact r11_0_0
  have r12_0_1 : f12.1 0 1 = some 40 := by rw [e12]; exact r11_0_1
  have r12_60_0 : f12.1 60 0 = some 80 := by rw [e12]; exact r11_60_0
  have r12_0_2 : f12.1 0 2 = some 60 := by rw [e12]; exact r11_0_2
  refine T_aload_n 0 (dk dtk_X11_init 30 rfl) rfl rfl ?_
  refine T_newO 120 (dk dtk_X11_init 31 rfl) kn_X11_41 kk_120 (fr12 120 (by decide)).1 (Or.inl (by decide)) (fr12 120 (by decide)).2 (gok_i (av_c (gkr (li12 0 (by decide))) av_n) (as_c (gkr (li12 0 (by decide))) as_n)) ?_
  obtain ⟨f13, e13⟩ : ∃ z, z = fnew f12 120 ks_X5.length := ⟨_, rfl⟩
  rw [← e13]
  have fr13 : ∀ c ∈ ([140, 125, 131, 132, 133, 160, 162, 166, 167, 168, 169, 170, 171, 172, 173, 174, 175, 176, 177, 178, 7] : List Nat), c ∉ f13.2.1 ∧ NR f13 c := by rw [e13]; exact ops_fr (l := [oN_ 120 15]) fr12 (by decide +kernel)
  have li13 : ∀ c ∈ ([0, 20, 40, 60, 80, 100, 120] : List Nat), c ∈ f13.2.1 := by rw [e13]; exact ops_li (l := [oN_ 120 15]) li12 (by decide +kernel)
  have r13_0_0 : f13.1 0 0 = some 20 := by rw [e13]; exact r12_0_0
  have r13_0_1 : f13.1 0 1 = some 40 := by rw [e13]; exact r12_0_1
  have r13_60_0 : f13.1 60 0 = some 80 := by rw [e13]; exact r12_60_0
  have r13_0_2 : f13.1 0 2 = some 60 := by rw [e13]; exact r12_0_2
  refine T_dup (dk dtk_X11_init 32 rfl) rfl ?_
  refine T_aload_n 0 (dk dtk_X11_init 33 rfl) rfl rfl ?_
  refine T_getR 0 2 60 (dk dtk_X11_init 34 rfl) kfl_X11_28 kk_0 (li13 0 (by decide)) (by decide) rfl r13_0_2 ?_
  refine T_callI [vr 60] [vr 120, vr 0] (d + 2) rfl (dk dtk_X11_init 35 rfl) kci_X11_43 rfl (by omega) (Nat.le_of_ble_eq_true rfl) (Nat.le_of_ble_eq_true rfl) (gok_i (av_c (gkr (li13 0 (by decide))) av_n) (as_c (gkr (li13 120 (by decide))) (as_c (gkr (li13 0 (by decide))) as_n))) (kc_120 (d := d + 0) (li13 120 (by decide)) (li13 60 (by decide)) (fun c hc => fr13 c ((by decide +kernel : ∀ c ∈ news_120, c ∈ ([140, 125, 131, 132, 133, 160, 162, 166, 167, 168, 169, 170, 171, 172, 173, 174, 175, 176, 177, 178, 7] : List Nat)) c hc)) r13_60_0 ⟨rfl, ?_⟩)
  obtain ⟨f14, e14⟩ : ∃ z, z = fops f13 ops_120 := ⟨_, rfl⟩
  rw [← e14]
  have fr14 : ∀ c ∈ ([160, 162, 166, 167, 168, 169, 170, 171, 172, 173, 174, 175, 176, 177, 178, 7] : List Nat), c ∉ f14.2.1 ∧ NR f14 c := by rw [e14]; exact ops_fr (l := ops_120) fr13 (by decide +kernel)
  have li14 : ∀ c ∈ ([0, 20, 40, 60, 80, 100, 120] : List Nat), c ∈ f14.2.1 := by rw [e14]; exact ops_li (l := ops_120) li13 (by decide +kernel)
  have r14_0_0 : f14.1 0 0 = some 20 := by rw [e14]; exact r13_0_0
  have r14_0_1 : f14.1 0 1 = some 40 := by rw [e14]; exact r13_0_1
  have r14_60_0 : f14.1 60 0 = some 80 := by rw [e14]; exact r13_60_0
  have r14_0_2 : f14.1 0 2 = some 60 := by rw [e14]; exact r13_0_2
  refine T_putRF 0 4 120 (dk dtk_X11_init 36 rfl) rfl kfl_X11_46 kk_0 (li14 0 (by decide)) (by decide) rfl (fun _ => ⟨rfl, rfl⟩) (fun r h => by cases h; rfl) ?_
  obtain ⟨f15, e15⟩ : ∃ z, z = frf f14 0 4 (some 120) := ⟨_, rfl⟩
  rw [← e15]
  have fr15 : ∀ c ∈ ([160, 162, 166, 167, 168, 169, 170, 171, 172, 173, 174, 175, 176, 177, 178, 7] : List Nat), c ∉ f15.2.1 ∧ NR f15 c := by rw [e15]; exact ops_fr (l := [oR_ 0 4 120]) fr14 (by decide +kernel)
  have li15 : ∀ c ∈ ([0, 20, 40, 60, 80, 100, 120] : List Nat), c ∈ f15.2.1 := by rw [e15]; exact ops_li (l := [oR_ 0 4 120]) li14 (by decide +kernel)
  have r15_0_0 : f15.1 0 0 = some 20 := by rw [e15]; exact r14_0_0
  have r15_0_1 : f15.1 0 1 = some 40 := by rw [e15]; exact r14_0_1
  have r15_60_0 : f15.1 60 0 = some 80 := by rw [e15]; exact r14_60_0
  have r15_0_2 : f15.1 0 2 = some 60 := by rw [e15]; exact r14_0_2
  refine T_aload_n 0 (dk dtk_X11_init 37 rfl) rfl rfl ?_
  refine T_newO 160 (dk dtk_X11_init 38 rfl) kn_X11_50 kk_160 (fr15 160 (by decide)).1 (Or.inl (by decide)) (fr15 160 (by decide)).2 (gok_i (av_c (gkr (li15 0 (by decide))) av_n) (as_c (gkr (li15 0 (by decide))) as_n)) ?_
  obtain ⟨f16, e16⟩ : ∃ z, z = fnew f15 160 ks_X4.length := ⟨_, rfl⟩
  rw [← e16]
  have fr16 : ∀ c ∈ ([162, 166, 167, 168, 169, 170, 171, 172, 173, 174, 175, 176, 177, 178, 7] : List Nat), c ∉ f16.2.1 ∧ NR f16 c := by rw [e16]; exact ops_fr (l := [oN_ 160 18]) fr15 (by decide +kernel)
  have li16 : ∀ c ∈ ([0, 20, 40, 60, 80, 100, 120, 160] : List Nat), c ∈ f16.2.1 := by rw [e16]; exact ops_li (l := [oN_ 160 18]) li15 (by decide +kernel)
  have r16_0_0 : f16.1 0 0 = some 20 := by rw [e16]; exact r15_0_0
  have r16_0_1 : f16.1 0 1 = some 40 := by rw [e16]; exact r15_0_1
  have r16_60_0 : f16.1 60 0 = some 80 := by rw [e16]; exact r15_60_0
  have r16_0_2 : f16.1 0 2 = some 60 := by rw [e16]; exact r15_0_2
  refine T_dup (dk dtk_X11_init 39 rfl) rfl ?_
  refine T_aload_n 0 (dk dtk_X11_init 40 rfl) rfl rfl ?_
  refine T_getR 0 2 60 (dk dtk_X11_init 41 rfl) kfl_X11_28 kk_0 (li16 0 (by decide)) (by decide) rfl r16_0_2 ?_
  refine T_callI [vr 60] [vr 160, vr 0] (d + 2) rfl (dk dtk_X11_init 42 rfl) kci_X11_52 rfl (by omega) (Nat.le_of_ble_eq_true rfl) (Nat.le_of_ble_eq_true rfl) (gok_i (av_c (gkr (li16 0 (by decide))) av_n) (as_c (gkr (li16 160 (by decide))) (as_c (gkr (li16 0 (by decide))) as_n))) (kc_160 (d := d + 1) (li16 160 (by decide)) (li16 60 (by decide)) (fun c hc => fr16 c ((by decide +kernel : ∀ c ∈ news_160, c ∈ ([162, 166, 167, 168, 169, 170, 171, 172, 173, 174, 175, 176, 177, 178, 7] : List Nat)) c hc))  ⟨rfl, ?_⟩)
  obtain ⟨f17, e17⟩ : ∃ z, z = fops f16 ops_160 := ⟨_, rfl⟩
  rw [← e17]
  have fr17 : ∀ c ∈ ([7] : List Nat), c ∉ f17.2.1 ∧ NR f17 c := by rw [e17]; exact ops_fr (l := ops_160) fr16 (by decide +kernel)
  have li17 : ∀ c ∈ ([0, 20, 40, 60, 80, 100, 120, 160] : List Nat), c ∈ f17.2.1 := by rw [e17]; exact ops_li (l := ops_160) li16 (by decide +kernel)
  have r17_0_0 : f17.1 0 0 = some 20 := by rw [e17]; exact r16_0_0
  have r17_0_1 : f17.1 0 1 = some 40 := by rw [e17]; exact r16_0_1
  have r17_60_0 : f17.1 60 0 = some 80 := by rw [e17]; exact r16_60_0
  have r17_0_2 : f17.1 0 2 = some 60 := by rw [e17]; exact r16_0_2
  refine T_putRF 0 5 160 (dk dtk_X11_init 43 rfl) rfl kfl_X11_53 kk_0 (li17 0 (by decide)) (by decide) rfl (fun _ => ⟨rfl, rfl⟩) (fun r h => by cases h; rfl) ?_
  obtain ⟨f18, e18⟩ : ∃ z, z = frf f17 0 5 (some 160) := ⟨_, rfl⟩
  rw [← e18]
  have fr18 : ∀ c ∈ ([7] : List Nat), c ∉ f18.2.1 ∧ NR f18 c := by rw [e18]; exact ops_fr (l := [oR_ 0 5 160]) fr17 (by decide +kernel)
  have li18 : ∀ c ∈ ([0, 20, 40, 60, 80, 100, 120, 160] : List Nat), c ∈ f18.2.1 := by rw [e18]; exact ops_li (l := [oR_ 0 5 160]) li17 (by decide +kernel)
  have r18_0_0 : f18.1 0 0 = some 20 := by rw [e18]; exact r17_0_0
  have r18_0_1 : f18.1 0 1 = some 40 := by rw [e18]; exact r17_0_1
  have r18_60_0 : f18.1 60 0 = some 80 := by rw [e18]; exact r17_60_0
  have r18_0_2 : f18.1 0 2 = some 60 := by rw [e18]; exact r17_0_2
  refine T_aload_n 0 (dk dtk_X11_init 44 rfl) rfl rfl ?_
  refine T_iconst (v := 2) (dk dtk_X11_init 45 rfl) (by decide +kernel) ?_
  refine T_newT 7 (dk dtk_X11_init 46 rfl) (W0_in (tp_3 (List.mem_of_getElem? (i := 50) (by decide +kernel))) rfl) kk_7 (by decide) (by decide) (by decide) (fr18 7 (by decide)).1 (Or.inl (by decide)) (fr18 7 (by decide)).2 (gok_i (av_c (gkr (li18 0 (by decide))) av_n) (as_c (gkr (li18 0 (by decide))) as_n)) ?_
  obtain ⟨f19, e19⟩ : ∃ z, z = fnew f18 7 2 := ⟨_, rfl⟩
  rw [← e19]
  have fr19 : ∀ c ∈ ([] : List Nat), c ∉ f19.2.1 ∧ NR f19 c := by rw [e19]; exact ops_fr (l := [oN_ 7 2]) fr18 (by decide +kernel)
  have li19 : ∀ c ∈ ([0, 20, 40, 60, 80, 100, 120, 160, 7] : List Nat), c ∈ f19.2.1 := by rw [e19]; exact ops_li (l := [oN_ 7 2]) li18 (by decide +kernel)
  have r19_0_0 : f19.1 0 0 = some 20 := by rw [e19]; exact r18_0_0
  have r19_0_1 : f19.1 0 1 = some 40 := by rw [e19]; exact r18_0_1
  have r19_60_0 : f19.1 60 0 = some 80 := by rw [e19]; exact r18_60_0
  have r19_0_2 : f19.1 0 2 = some 60 := by rw [e19]; exact r18_0_2
  refine T_putRF 0 6 7 (dk dtk_X11_init 47 rfl) rfl kfl_X11_59 kk_0 (li19 0 (by decide)) (by decide) rfl (fun _ => ⟨rfl, rfl⟩) (fun r h => by cases h; rfl) ?_
  obtain ⟨f20, e20⟩ : ∃ z, z = frf f19 0 6 (some 7) := ⟨_, rfl⟩
  rw [← e20]
  have fr20 : ∀ c ∈ ([] : List Nat), c ∉ f20.2.1 ∧ NR f20 c := by rw [e20]; exact ops_fr (l := [oR_ 0 6 7]) fr19 (by decide +kernel)
  have li20 : ∀ c ∈ ([0, 20, 40, 60, 80, 100, 120, 160, 7] : List Nat), c ∈ f20.2.1 := by rw [e20]; exact ops_li (l := [oR_ 0 6 7]) li19 (by decide +kernel)
  have r20_0_0 : f20.1 0 0 = some 20 := by rw [e20]; exact r19_0_0
  have r20_0_1 : f20.1 0 1 = some 40 := by rw [e20]; exact r19_0_1
  have r20_60_0 : f20.1 60 0 = some 80 := by rw [e20]; exact r19_60_0
  have r20_0_2 : f20.1 0 2 = some 60 := by rw [e20]; exact r19_0_2
  refine T_aload_n 0 (dk dtk_X11_init 48 rfl) rfl rfl ?_
  refine T_iconst (v := (-1)) (dk dtk_X11_init 49 rfl) (by decide +kernel) ?_
  refine T_putI 0 11 (dk dtk_X11_init 50 rfl) kfl_X11_63 kk_0 (li20 0 (by decide)) (by decide) rfl ⟨rfl, rfl⟩ ?_
  refine T_aload_n 0 (dk dtk_X11_init 51 rfl) rfl rfl ?_
  refine T_iconst (v := (-1)) (dk dtk_X11_init 52 rfl) (by decide +kernel) ?_
  refine T_putI 0 12 (dk dtk_X11_init 53 rfl) kfl_X11_67 kk_0 (li20 0 (by decide)) (by decide) rfl ⟨rfl, rfl⟩ ?_
  have e9 : f20 = fops f ops_0 := by rw [e20, e19, e18, e17, e16, e15, e14, e13, e12, e11, e10, e9, e8, e7, e6, e5, e4, e3, e2, e1, e0]; rfl
  rw [e9]
  exact T_vret (dk dtk_X11_init 54 rfl) rfl h
end
