section
set_option maxRecDepth 100000 in
theorem dt_setFirst : dck cX12_setFirst [(0, .iconst 0, 1), (1, .istore_n 1, 1), (2, .iload_n 1, 1), (3, .bipush 24, 2), (5, .if_icmp .ge 33, 3), (8, .aload_n 0, 1), (9, .getfield 142, 3), (12, .iload_n 1, 1), (13, .iload_n 1, 1), (14, .aload_n 0, 1), (15, .getfield 448, 3), (18, .if_icmp .ge 12, 3), (21, .aload_n 0, 1), (22, .getfield 70, 3), (25, .iload_n 1, 1), (26, .iaload, 1), (27, .goto 4, 3), (30, .iconst 0, 1), (31, .iastore, 1), (32, .iinc 1 1, 3), (35, .goto (-33), 3), (38, .iconst 0, 1), (39, .istore_n 1, 1), (40, .iload_n 1, 1), (41, .bipush 6, 2), (43, .if_icmp .ge 23, 3), (46, .aload_n 0, 1), (47, .getfield 145, 3), (50, .iload_n 1, 1), (51, .iconst (-1), 1), (52, .iastore, 1), (53, .aload_n 0, 1), (54, .getfield 148, 3), (57, .iload_n 1, 1), (58, .iconst 0, 1), (59, .iastore, 1), (60, .iinc 1 1, 3), (63, .goto (-23), 3), (66, .iconst 0, 1), (67, .istore_n 1, 1), (68, .iload_n 1, 1), (69, .bipush 6, 2), (71, .if_icmp .ge 84, 3), (74, .aload_n 0, 1), (75, .getfield 151, 3), (78, .iload_n 1, 1), (79, .iconst 0, 1), (80, .iastore, 1), (81, .aload_n 0, 1), (82, .getfield 154, 3), (85, .iload_n 1, 1), (86, .iconst 0, 1), (87, .iastore, 1), (88, .aload_n 0, 1), (89, .getfield 157, 3), (92, .iload_n 1, 1), (93, .iconst 0, 1), (94, .iastore, 1), (95, .aload_n 0, 1), (96, .getfield 163, 3), (99, .iload_n 1, 1), (100, .iconst 0, 1), (101, .iastore, 1), (102, .aload_n 0, 1), (103, .getfield 166, 3), (106, .iload_n 1, 1), (107, .iconst 0, 1), (108, .iastore, 1), (109, .aload_n 0, 1), (110, .getfield 169, 3), (113, .iload_n 1, 1), (114, .iconst (-1), 1), (115, .iastore, 1), (116, .aload_n 0, 1), (117, .getfield 172, 3), (120, .iload_n 1, 1), (121, .iconst 0, 1), (122, .iastore, 1), (123, .iconst 0, 1), (124, .istore_n 2, 1), (125, .iload_n 2, 1), (126, .bipush 8, 2), (128, .if_icmp .ge 21, 3), (131, .aload_n 0, 1), (132, .getfield 160, 3), (135, .bipush 8, 2), (137, .iload_n 1, 1), (138, .imul, 1), (139, .iload_n 2, 1), (140, .iadd, 1), (141, .iconst 0, 1), (142, .iastore, 1), (143, .iinc 2 1, 3), (146, .goto (-21), 3), (149, .iinc 1 1, 3), (152, .goto (-84), 3), (155, .iconst 0, 1), (156, .istore_n 1, 1), (157, .iload_n 1, 1), (158, .aload_n 0, 1), (159, .getfield 461, 3), (162, .if_icmp .ge 42, 3), (165, .aload_n 0, 1), (166, .getfield 76, 3), (169, .iload_n 1, 1), (170, .baload, 1), (171, .ifCond .ne 27, 3), (174, .aload_n 0, 1), (175, .getfield 151, 3), (178, .iload_n 1, 1), (179, .iconst 1, 1), (180, .iastore, 1), (181, .aload_n 0, 1), (182, .getfield 154, 3), (185, .iload_n 1, 1), (186, .aload_n 0, 1), (187, .getfield 133, 3), (190, .iload_n 1, 1), (191, .iaload, 1), (192, .iastore, 1), (193, .aload_n 0, 1), (194, .iload_n 1, 1), (195, .invokevirtual 599, 3), (198, .iinc 1 1, 3), (201, .goto (-44), 3), (204, .return_, 1)] = true := by decide +kernel
set_option maxRecDepth 100000 in
set_option maxHeartbeats 4000000 in
theorem sg_setFirst_0 {G : mG} {d : Nat} {x : gd} {P : Option gv → gd → Prop} 
    (h : MT G (d + 1) z_setFirst 2 [(0, vr 0), (1, vi 0)] [] x P) :
    MT G (d + 1) z_setFirst 0 [(0, vr 0)] [] x P := by
  refine T_iconst (v := 0) (dk dt_setFirst 0 rfl) (by decide +kernel) ?_
  refine T_istore_n (lv2 := [(1, vi 0), (0, vr 0)]) (dk dt_setFirst 1 rfl) rfl (by decide) rfl ?_
  exact T_sub [1, 0] rfl h
set_option maxRecDepth 100000 in
set_option maxHeartbeats 4000000 in
theorem sg_setFirst_2 {G : mG} {d : Nat} {x : gd} {P : Option gv → gd → Prop} (l1 : Int32)
    (h : (((24 : Int32) ≤ l1 → MT G (d + 1) z_setFirst 40 [(0, vr 0), (1, vi 0)] [] x P) ∧ (¬ ((24 : Int32) ≤ l1) → (((x.1 0 23) ≤ l1 → vp_in l1 24 ∧ (∀ x4 : gd, x4 = si x 70 (l1 : Int32).toNatClampNeg 0 → MT G (d + 1) z_setFirst 2 [(0, vr 0), (1, vi (l1 + 1))] [] x4 P)) ∧ (¬ ((x.1 0 23) ≤ l1) → vp_in l1 24 ∧ vp_in l1 24 ∧ (∀ x7 : gd, x7 = si x 70 (l1 : Int32).toNatClampNeg (x.1 36 (l1 : Int32).toNatClampNeg) → MT G (d + 1) z_setFirst 2 [(0, vr 0), (1, vi (l1 + 1))] [] x7 P)))))) :
    MT G (d + 1) z_setFirst 2 [(0, vr 0), (1, vi l1)] [] x P := by
  refine T_iload_n 1 (dk dt_setFirst 2 rfl) rfl rfl ?_
  refine T_bipush (v := 24) (dk dt_setFirst 3 rfl) (by decide +kernel) ?_
  refine T_icmp_ge 38 (dk dt_setFirst 4 rfl) (by decide) (fun c1 => ?_) (fun c1 => ?_)
  · have h := h.1 c1
    refine T_iconst (v := 0) (dk dt_setFirst 21 rfl) (by decide +kernel) ?_
    refine T_istore_n (lv2 := [(1, vi 0), (0, vr 0)]) (dk dt_setFirst 22 rfl) rfl (by decide) rfl ?_
    exact T_sub [1, 0] rfl h
  · have h := h.2 c1
    refine T_aload_n 0 (dk dt_setFirst 5 rfl) rfl rfl ?_
    refine T_getR 0 69 70 (dk dt_setFirst 6 rfl) fl_142 mk_0 ml_0 (by decide) rfl rfl ?_
    refine T_iload_n 1 (dk dt_setFirst 7 rfl) rfl rfl ?_
    refine T_iload_n 1 (dk dt_setFirst 8 rfl) rfl rfl ?_
    refine T_aload_n 0 (dk dt_setFirst 9 rfl) rfl rfl ?_
    refine T_getI 0 23 (dk dt_setFirst 10 rfl) fl_448 mk_0 ml_0 (by decide) rfl ?_
    refine T_icmp_ge 30 (dk dt_setFirst 11 rfl) (by decide) (fun c2 => ?_) (fun c2 => ?_)
    · have h := h.1 c2
      refine T_iconst (v := 0) (dk dt_setFirst 17 rfl) (by decide +kernel) ?_
      obtain ⟨h3, h⟩ := h
      obtain ⟨x4, ex4⟩ : ∃ z, z = si x 70 (l1 : Int32).toNatClampNeg 0 := ⟨_, rfl⟩
      have h := h x4 ex4
      refine T_iast 70 24 (dk dt_setFirst 18 rfl) mk_70 ml_70 h3 ?_
      rw [← ex4]
      refine T_iinc (v := l1 + 1) (lv2 := [(1, vi (l1 + 1)), (0, vr 0)]) 1 (dk dt_setFirst 19 rfl) rfl rfl (by decide) rfl ?_
      refine T_goto 2 (dk dt_setFirst 20 rfl) (by decide) ?_
      exact T_sub [1, 0] rfl h
    · have h := h.2 c2
      refine T_aload_n 0 (dk dt_setFirst 12 rfl) rfl rfl ?_
      refine T_getR 0 35 36 (dk dt_setFirst 13 rfl) fl_70 mk_0 ml_0 (by decide) rfl rfl ?_
      refine T_iload_n 1 (dk dt_setFirst 14 rfl) rfl rfl ?_
      obtain ⟨h5, h⟩ := h
      refine T_iald 36 24 (dk dt_setFirst 15 rfl) mk_36 ml_36 h5 ?_
      refine T_goto 31 (dk dt_setFirst 16 rfl) (by decide) ?_
      obtain ⟨h6, h⟩ := h
      obtain ⟨x7, ex7⟩ : ∃ z, z = si x 70 (l1 : Int32).toNatClampNeg (x.1 36 (l1 : Int32).toNatClampNeg) := ⟨_, rfl⟩
      have h := h x7 ex7
      refine T_iast 70 24 (dk dt_setFirst 18 rfl) mk_70 ml_70 h6 ?_
      rw [← ex7]
      refine T_iinc (v := l1 + 1) (lv2 := [(1, vi (l1 + 1)), (0, vr 0)]) 1 (dk dt_setFirst 19 rfl) rfl rfl (by decide) rfl ?_
      refine T_goto 2 (dk dt_setFirst 20 rfl) (by decide) ?_
      exact T_sub [1, 0] rfl h
set_option maxRecDepth 100000 in
set_option maxHeartbeats 4000000 in
theorem sg_setFirst_40 {G : mG} {d : Nat} {x : gd} {P : Option gv → gd → Prop} (l1 : Int32)
    (h : (((6 : Int32) ≤ l1 → MT G (d + 1) z_setFirst 68 [(0, vr 0), (1, vi 0)] [] x P) ∧ (¬ ((6 : Int32) ≤ l1) → vp_in l1 6 ∧ (∀ x3 : gd, x3 = si x 71 (l1 : Int32).toNatClampNeg (-1) → vp_in l1 6 ∧ (∀ x5 : gd, x5 = si x3 72 (l1 : Int32).toNatClampNeg 0 → MT G (d + 1) z_setFirst 40 [(0, vr 0), (1, vi (l1 + 1))] [] x5 P))))) :
    MT G (d + 1) z_setFirst 40 [(0, vr 0), (1, vi l1)] [] x P := by
  refine T_iload_n 1 (dk dt_setFirst 23 rfl) rfl rfl ?_
  refine T_bipush (v := 6) (dk dt_setFirst 24 rfl) (by decide +kernel) ?_
  refine T_icmp_ge 66 (dk dt_setFirst 25 rfl) (by decide) (fun c1 => ?_) (fun c1 => ?_)
  · have h := h.1 c1
    refine T_iconst (v := 0) (dk dt_setFirst 38 rfl) (by decide +kernel) ?_
    refine T_istore_n (lv2 := [(1, vi 0), (0, vr 0)]) (dk dt_setFirst 39 rfl) rfl (by decide) rfl ?_
    exact T_sub [1, 0] rfl h
  · have h := h.2 c1
    refine T_aload_n 0 (dk dt_setFirst 26 rfl) rfl rfl ?_
    refine T_getR 0 70 71 (dk dt_setFirst 27 rfl) fl_145 mk_0 ml_0 (by decide) rfl rfl ?_
    refine T_iload_n 1 (dk dt_setFirst 28 rfl) rfl rfl ?_
    refine T_iconst (v := (-1)) (dk dt_setFirst 29 rfl) (by decide +kernel) ?_
    obtain ⟨h2, h⟩ := h
    obtain ⟨x3, ex3⟩ : ∃ z, z = si x 71 (l1 : Int32).toNatClampNeg (-1) := ⟨_, rfl⟩
    have h := h x3 ex3
    refine T_iast 71 6 (dk dt_setFirst 30 rfl) mk_71 ml_71 h2 ?_
    rw [← ex3]
    refine T_aload_n 0 (dk dt_setFirst 31 rfl) rfl rfl ?_
    refine T_getR 0 71 72 (dk dt_setFirst 32 rfl) fl_148 mk_0 ml_0 (by decide) rfl rfl ?_
    refine T_iload_n 1 (dk dt_setFirst 33 rfl) rfl rfl ?_
    refine T_iconst (v := 0) (dk dt_setFirst 34 rfl) (by decide +kernel) ?_
    obtain ⟨h4, h⟩ := h
    obtain ⟨x5, ex5⟩ : ∃ z, z = si x3 72 (l1 : Int32).toNatClampNeg 0 := ⟨_, rfl⟩
    have h := h x5 ex5
    refine T_iast 72 6 (dk dt_setFirst 35 rfl) mk_72 ml_72 h4 ?_
    rw [← ex5]
    refine T_iinc (v := l1 + 1) (lv2 := [(1, vi (l1 + 1)), (0, vr 0)]) 1 (dk dt_setFirst 36 rfl) rfl rfl (by decide) rfl ?_
    refine T_goto 40 (dk dt_setFirst 37 rfl) (by decide) ?_
    exact T_sub [1, 0] rfl h
set_option maxRecDepth 100000 in
set_option maxHeartbeats 4000000 in
theorem sg_setFirst_68 {G : mG} {d : Nat} {x : gd} {P : Option gv → gd → Prop} (l1 : Int32)
    (h : (((6 : Int32) ≤ l1 → MT G (d + 1) z_setFirst 157 [(0, vr 0), (1, vi 0)] [] x P) ∧ (¬ ((6 : Int32) ≤ l1) → vp_in l1 6 ∧ (∀ x3 : gd, x3 = si x 73 (l1 : Int32).toNatClampNeg 0 → vp_in l1 6 ∧ (∀ x5 : gd, x5 = si x3 74 (l1 : Int32).toNatClampNeg 0 → vp_in l1 6 ∧ (∀ x7 : gd, x7 = si x5 75 (l1 : Int32).toNatClampNeg 0 → vp_in l1 6 ∧ (∀ x9 : gd, x9 = si x7 77 (l1 : Int32).toNatClampNeg 0 → vp_in l1 6 ∧ (∀ x11 : gd, x11 = si x9 78 (l1 : Int32).toNatClampNeg 0 → vp_in l1 6 ∧ (∀ x13 : gd, x13 = si x11 79 (l1 : Int32).toNatClampNeg (-1) → vp_in l1 6 ∧ (∀ x15 : gd, x15 = si x13 80 (l1 : Int32).toNatClampNeg 0 → MT G (d + 1) z_setFirst 125 [(0, vr 0), (1, vi l1), (2, vi 0)] [] x15 P)))))))))) :
    MT G (d + 1) z_setFirst 68 [(0, vr 0), (1, vi l1)] [] x P := by
  refine T_iload_n 1 (dk dt_setFirst 40 rfl) rfl rfl ?_
  refine T_bipush (v := 6) (dk dt_setFirst 41 rfl) (by decide +kernel) ?_
  refine T_icmp_ge 155 (dk dt_setFirst 42 rfl) (by decide) (fun c1 => ?_) (fun c1 => ?_)
  · have h := h.1 c1
    refine T_iconst (v := 0) (dk dt_setFirst 96 rfl) (by decide +kernel) ?_
    refine T_istore_n (lv2 := [(1, vi 0), (0, vr 0)]) (dk dt_setFirst 97 rfl) rfl (by decide) rfl ?_
    exact T_sub [1, 0] rfl h
  · have h := h.2 c1
    refine T_aload_n 0 (dk dt_setFirst 43 rfl) rfl rfl ?_
    refine T_getR 0 72 73 (dk dt_setFirst 44 rfl) fl_151 mk_0 ml_0 (by decide) rfl rfl ?_
    refine T_iload_n 1 (dk dt_setFirst 45 rfl) rfl rfl ?_
    refine T_iconst (v := 0) (dk dt_setFirst 46 rfl) (by decide +kernel) ?_
    obtain ⟨h2, h⟩ := h
    obtain ⟨x3, ex3⟩ : ∃ z, z = si x 73 (l1 : Int32).toNatClampNeg 0 := ⟨_, rfl⟩
    have h := h x3 ex3
    refine T_iast 73 6 (dk dt_setFirst 47 rfl) mk_73 ml_73 h2 ?_
    rw [← ex3]
    refine T_aload_n 0 (dk dt_setFirst 48 rfl) rfl rfl ?_
    refine T_getR 0 73 74 (dk dt_setFirst 49 rfl) fl_154 mk_0 ml_0 (by decide) rfl rfl ?_
    refine T_iload_n 1 (dk dt_setFirst 50 rfl) rfl rfl ?_
    refine T_iconst (v := 0) (dk dt_setFirst 51 rfl) (by decide +kernel) ?_
    obtain ⟨h4, h⟩ := h
    obtain ⟨x5, ex5⟩ : ∃ z, z = si x3 74 (l1 : Int32).toNatClampNeg 0 := ⟨_, rfl⟩
    have h := h x5 ex5
    refine T_iast 74 6 (dk dt_setFirst 52 rfl) mk_74 ml_74 h4 ?_
    rw [← ex5]
    refine T_aload_n 0 (dk dt_setFirst 53 rfl) rfl rfl ?_
    refine T_getR 0 74 75 (dk dt_setFirst 54 rfl) fl_157 mk_0 ml_0 (by decide) rfl rfl ?_
    refine T_iload_n 1 (dk dt_setFirst 55 rfl) rfl rfl ?_
    refine T_iconst (v := 0) (dk dt_setFirst 56 rfl) (by decide +kernel) ?_
    obtain ⟨h6, h⟩ := h
    obtain ⟨x7, ex7⟩ : ∃ z, z = si x5 75 (l1 : Int32).toNatClampNeg 0 := ⟨_, rfl⟩
    have h := h x7 ex7
    refine T_iast 75 6 (dk dt_setFirst 57 rfl) mk_75 ml_75 h6 ?_
    rw [← ex7]
    refine T_aload_n 0 (dk dt_setFirst 58 rfl) rfl rfl ?_
    refine T_getR 0 76 77 (dk dt_setFirst 59 rfl) fl_163 mk_0 ml_0 (by decide) rfl rfl ?_
    refine T_iload_n 1 (dk dt_setFirst 60 rfl) rfl rfl ?_
    refine T_iconst (v := 0) (dk dt_setFirst 61 rfl) (by decide +kernel) ?_
    obtain ⟨h8, h⟩ := h
    obtain ⟨x9, ex9⟩ : ∃ z, z = si x7 77 (l1 : Int32).toNatClampNeg 0 := ⟨_, rfl⟩
    have h := h x9 ex9
    refine T_iast 77 6 (dk dt_setFirst 62 rfl) mk_77 ml_77 h8 ?_
    rw [← ex9]
    refine T_aload_n 0 (dk dt_setFirst 63 rfl) rfl rfl ?_
    refine T_getR 0 77 78 (dk dt_setFirst 64 rfl) fl_166 mk_0 ml_0 (by decide) rfl rfl ?_
    refine T_iload_n 1 (dk dt_setFirst 65 rfl) rfl rfl ?_
    refine T_iconst (v := 0) (dk dt_setFirst 66 rfl) (by decide +kernel) ?_
    obtain ⟨h10, h⟩ := h
    obtain ⟨x11, ex11⟩ : ∃ z, z = si x9 78 (l1 : Int32).toNatClampNeg 0 := ⟨_, rfl⟩
    have h := h x11 ex11
    refine T_iast 78 6 (dk dt_setFirst 67 rfl) mk_78 ml_78 h10 ?_
    rw [← ex11]
    refine T_aload_n 0 (dk dt_setFirst 68 rfl) rfl rfl ?_
    refine T_getR 0 78 79 (dk dt_setFirst 69 rfl) fl_169 mk_0 ml_0 (by decide) rfl rfl ?_
    refine T_iload_n 1 (dk dt_setFirst 70 rfl) rfl rfl ?_
    refine T_iconst (v := (-1)) (dk dt_setFirst 71 rfl) (by decide +kernel) ?_
    obtain ⟨h12, h⟩ := h
    obtain ⟨x13, ex13⟩ : ∃ z, z = si x11 79 (l1 : Int32).toNatClampNeg (-1) := ⟨_, rfl⟩
    have h := h x13 ex13
    refine T_iast 79 6 (dk dt_setFirst 72 rfl) mk_79 ml_79 h12 ?_
    rw [← ex13]
    refine T_aload_n 0 (dk dt_setFirst 73 rfl) rfl rfl ?_
    refine T_getR 0 79 80 (dk dt_setFirst 74 rfl) fl_172 mk_0 ml_0 (by decide) rfl rfl ?_
    refine T_iload_n 1 (dk dt_setFirst 75 rfl) rfl rfl ?_
    refine T_iconst (v := 0) (dk dt_setFirst 76 rfl) (by decide +kernel) ?_
    obtain ⟨h14, h⟩ := h
    obtain ⟨x15, ex15⟩ : ∃ z, z = si x13 80 (l1 : Int32).toNatClampNeg 0 := ⟨_, rfl⟩
    have h := h x15 ex15
    refine T_iast 80 6 (dk dt_setFirst 77 rfl) mk_80 ml_80 h14 ?_
    rw [← ex15]
    refine T_iconst (v := 0) (dk dt_setFirst 78 rfl) (by decide +kernel) ?_
    refine T_istore_n (lv2 := [(2, vi 0), (0, vr 0), (1, vi l1)]) (dk dt_setFirst 79 rfl) rfl (by decide) rfl ?_
    exact T_sub [1, 2, 0] rfl h
set_option maxRecDepth 100000 in
set_option maxHeartbeats 4000000 in
theorem sg_setFirst_125 {G : mG} {d : Nat} {x : gd} {P : Option gv → gd → Prop} (l1 : Int32) (l2 : Int32)
    (h : (((8 : Int32) ≤ l2 → MT G (d + 1) z_setFirst 68 [(0, vr 0), (1, vi (l1 + 1))] [] x P) ∧ (¬ ((8 : Int32) ≤ l2) → vp_in ((8 * l1) + l2) 48 ∧ (∀ x3 : gd, x3 = si x 76 ((8 * l1) + l2 : Int32).toNatClampNeg 0 → MT G (d + 1) z_setFirst 125 [(0, vr 0), (1, vi l1), (2, vi (l2 + 1))] [] x3 P)))) :
    MT G (d + 1) z_setFirst 125 [(0, vr 0), (1, vi l1), (2, vi l2)] [] x P := by
  refine T_iload_n 2 (dk dt_setFirst 80 rfl) rfl rfl ?_
  refine T_bipush (v := 8) (dk dt_setFirst 81 rfl) (by decide +kernel) ?_
  refine T_icmp_ge 149 (dk dt_setFirst 82 rfl) (by decide) (fun c1 => ?_) (fun c1 => ?_)
  · have h := h.1 c1
    refine T_iinc (v := l1 + 1) (lv2 := [(1, vi (l1 + 1)), (0, vr 0), (2, vi l2)]) 1 (dk dt_setFirst 94 rfl) rfl rfl (by decide) rfl ?_
    refine T_goto 68 (dk dt_setFirst 95 rfl) (by decide) ?_
    exact T_sub [1, 0] rfl h
  · have h := h.2 c1
    refine T_aload_n 0 (dk dt_setFirst 83 rfl) rfl rfl ?_
    refine T_getR 0 75 76 (dk dt_setFirst 84 rfl) fl_160 mk_0 ml_0 (by decide) rfl rfl ?_
    refine T_bipush (v := 8) (dk dt_setFirst 85 rfl) (by decide +kernel) ?_
    refine T_iload_n 1 (dk dt_setFirst 86 rfl) rfl rfl ?_
    refine T_imul (dk dt_setFirst 87 rfl) ?_
    refine T_iload_n 2 (dk dt_setFirst 88 rfl) rfl rfl ?_
    refine T_iadd (dk dt_setFirst 89 rfl) ?_
    refine T_iconst (v := 0) (dk dt_setFirst 90 rfl) (by decide +kernel) ?_
    obtain ⟨h2, h⟩ := h
    obtain ⟨x3, ex3⟩ : ∃ z, z = si x 76 ((8 * l1) + l2 : Int32).toNatClampNeg 0 := ⟨_, rfl⟩
    have h := h x3 ex3
    refine T_iast 76 48 (dk dt_setFirst 91 rfl) mk_76 ml_76 h2 ?_
    rw [← ex3]
    refine T_iinc (v := l2 + 1) (lv2 := [(2, vi (l2 + 1)), (0, vr 0), (1, vi l1)]) 2 (dk dt_setFirst 92 rfl) rfl rfl (by decide) rfl ?_
    refine T_goto 125 (dk dt_setFirst 93 rfl) (by decide) ?_
    exact T_sub [1, 2, 0] rfl h
set_option maxRecDepth 100000 in
theorem dt_isAtomic : dck cX12_isAtomic [(0, .iload_n 1, 1), (1, .iconst 2, 1), (2, .if_icmp .eq 13, 3), (5, .iload_n 1, 1), (6, .iconst 3, 1), (7, .if_icmp .eq 8, 3), (10, .iload_n 1, 1), (11, .iconst 4, 1), (12, .if_icmp .ne 7, 3), (15, .iconst 1, 1), (16, .goto 4, 3), (19, .iconst 0, 1), (20, .ireturn, 1)] = true := by decide +kernel
set_option maxRecDepth 100000 in
set_option maxHeartbeats 4000000 in
theorem sg_isAtomic_0 {G : mG} {d : Nat} {x : gd} {P : Option gv → gd → Prop} (l1 : Int32)
    (h : ((l1 = (2 : Int32) → P (some (vi 1)) x) ∧ (¬ (l1 = (2 : Int32)) → ((l1 = (3 : Int32) → P (some (vi 1)) x) ∧ (¬ (l1 = (3 : Int32)) → ((¬ (l1 = (4 : Int32)) → P (some (vi 0)) x) ∧ (l1 = (4 : Int32) → P (some (vi 1)) x))))))) :
    MT G d z_isAtomic 0 [(0, vr 0), (1, vi l1)] [] x P := by
  refine T_iload_n 1 (dk dt_isAtomic 0 rfl) rfl rfl ?_
  refine T_iconst (v := 2) (dk dt_isAtomic 1 rfl) (by decide +kernel) ?_
  refine T_icmp_eq 15 (dk dt_isAtomic 2 rfl) (by decide) (fun c1 => ?_) (fun c1 => ?_)
  · have h := h.1 c1
    refine T_iconst (v := 1) (dk dt_isAtomic 9 rfl) (by decide +kernel) ?_
    refine T_goto 20 (dk dt_isAtomic 10 rfl) (by decide) ?_
    exact MT_iret (dk dt_isAtomic 12 rfl) rfl rfl h
  · have h := h.2 c1
    refine T_iload_n 1 (dk dt_isAtomic 3 rfl) rfl rfl ?_
    refine T_iconst (v := 3) (dk dt_isAtomic 4 rfl) (by decide +kernel) ?_
    refine T_icmp_eq 15 (dk dt_isAtomic 5 rfl) (by decide) (fun c2 => ?_) (fun c2 => ?_)
    · have h := h.1 c2
      refine T_iconst (v := 1) (dk dt_isAtomic 9 rfl) (by decide +kernel) ?_
      refine T_goto 20 (dk dt_isAtomic 10 rfl) (by decide) ?_
      exact MT_iret (dk dt_isAtomic 12 rfl) rfl rfl h
    · have h := h.2 c2
      refine T_iload_n 1 (dk dt_isAtomic 6 rfl) rfl rfl ?_
      refine T_iconst (v := 4) (dk dt_isAtomic 7 rfl) (by decide +kernel) ?_
      refine T_icmp_ne 19 (dk dt_isAtomic 8 rfl) (by decide) (fun c3 => ?_) (fun c3 => ?_)
      · have h := h.1 c3
        refine T_iconst (v := 0) (dk dt_isAtomic 11 rfl) (by decide +kernel) ?_
        exact MT_iret (dk dt_isAtomic 12 rfl) rfl rfl h
      · have h := h.2 c3
        refine T_iconst (v := 1) (dk dt_isAtomic 9 rfl) (by decide +kernel) ?_
        refine T_goto 20 (dk dt_isAtomic 10 rfl) (by decide) ?_
        exact MT_iret (dk dt_isAtomic 12 rfl) rfl rfl h
set_option maxRecDepth 100000 in
theorem dt_isAccess : dck cX12_isAccess [(0, .iload_n 1, 1), (1, .ifCond .eq 23, 3), (4, .iload_n 1, 1), (5, .iconst 1, 1), (6, .if_icmp .eq 18, 3), (9, .iload_n 1, 1), (10, .iconst 2, 1), (11, .if_icmp .eq 13, 3), (14, .iload_n 1, 1), (15, .iconst 3, 1), (16, .if_icmp .eq 8, 3), (19, .iload_n 1, 1), (20, .iconst 4, 1), (21, .if_icmp .ne 7, 3), (24, .iconst 1, 1), (25, .goto 4, 3), (28, .iconst 0, 1), (29, .ireturn, 1)] = true := by decide +kernel
set_option maxRecDepth 100000 in
set_option maxHeartbeats 4000000 in
theorem sg_isAccess_0 {G : mG} {d : Nat} {x : gd} {P : Option gv → gd → Prop} (l1 : Int32)
    (h : ((l1 = (0 : Int32) → P (some (vi 1)) x) ∧ (¬ (l1 = (0 : Int32)) → ((l1 = (1 : Int32) → P (some (vi 1)) x) ∧ (¬ (l1 = (1 : Int32)) → ((l1 = (2 : Int32) → P (some (vi 1)) x) ∧ (¬ (l1 = (2 : Int32)) → ((l1 = (3 : Int32) → P (some (vi 1)) x) ∧ (¬ (l1 = (3 : Int32)) → ((¬ (l1 = (4 : Int32)) → P (some (vi 0)) x) ∧ (l1 = (4 : Int32) → P (some (vi 1)) x))))))))))) :
    MT G d z_isAccess 0 [(0, vr 0), (1, vi l1)] [] x P := by
  refine T_iload_n 1 (dk dt_isAccess 0 rfl) rfl rfl ?_
  refine T_if_eq 24 (dk dt_isAccess 1 rfl) (by decide) (fun c1 => ?_) (fun c1 => ?_)
  · have h := h.1 c1
    refine T_iconst (v := 1) (dk dt_isAccess 14 rfl) (by decide +kernel) ?_
    refine T_goto 29 (dk dt_isAccess 15 rfl) (by decide) ?_
    exact MT_iret (dk dt_isAccess 17 rfl) rfl rfl h
  · have h := h.2 c1
    refine T_iload_n 1 (dk dt_isAccess 2 rfl) rfl rfl ?_
    refine T_iconst (v := 1) (dk dt_isAccess 3 rfl) (by decide +kernel) ?_
    refine T_icmp_eq 24 (dk dt_isAccess 4 rfl) (by decide) (fun c2 => ?_) (fun c2 => ?_)
    · have h := h.1 c2
      refine T_iconst (v := 1) (dk dt_isAccess 14 rfl) (by decide +kernel) ?_
      refine T_goto 29 (dk dt_isAccess 15 rfl) (by decide) ?_
      exact MT_iret (dk dt_isAccess 17 rfl) rfl rfl h
    · have h := h.2 c2
      refine T_iload_n 1 (dk dt_isAccess 5 rfl) rfl rfl ?_
      refine T_iconst (v := 2) (dk dt_isAccess 6 rfl) (by decide +kernel) ?_
      refine T_icmp_eq 24 (dk dt_isAccess 7 rfl) (by decide) (fun c3 => ?_) (fun c3 => ?_)
      · have h := h.1 c3
        refine T_iconst (v := 1) (dk dt_isAccess 14 rfl) (by decide +kernel) ?_
        refine T_goto 29 (dk dt_isAccess 15 rfl) (by decide) ?_
        exact MT_iret (dk dt_isAccess 17 rfl) rfl rfl h
      · have h := h.2 c3
        refine T_iload_n 1 (dk dt_isAccess 8 rfl) rfl rfl ?_
        refine T_iconst (v := 3) (dk dt_isAccess 9 rfl) (by decide +kernel) ?_
        refine T_icmp_eq 24 (dk dt_isAccess 10 rfl) (by decide) (fun c4 => ?_) (fun c4 => ?_)
        · have h := h.1 c4
          refine T_iconst (v := 1) (dk dt_isAccess 14 rfl) (by decide +kernel) ?_
          refine T_goto 29 (dk dt_isAccess 15 rfl) (by decide) ?_
          exact MT_iret (dk dt_isAccess 17 rfl) rfl rfl h
        · have h := h.2 c4
          refine T_iload_n 1 (dk dt_isAccess 11 rfl) rfl rfl ?_
          refine T_iconst (v := 4) (dk dt_isAccess 12 rfl) (by decide +kernel) ?_
          refine T_icmp_ne 28 (dk dt_isAccess 13 rfl) (by decide) (fun c5 => ?_) (fun c5 => ?_)
          · have h := h.1 c5
            refine T_iconst (v := 0) (dk dt_isAccess 16 rfl) (by decide +kernel) ?_
            exact MT_iret (dk dt_isAccess 17 rfl) rfl rfl h
          · have h := h.2 c5
            refine T_iconst (v := 1) (dk dt_isAccess 14 rfl) (by decide +kernel) ?_
            refine T_goto 29 (dk dt_isAccess 15 rfl) (by decide) ?_
            exact MT_iret (dk dt_isAccess 17 rfl) rfl rfl h
set_option maxRecDepth 100000 in
theorem dt_sortOf : dck cX12_sortOf [(0, .aload_n 0, 1), (1, .getfield 163, 3), (4, .iload_n 1, 1), (5, .iaload, 1), (6, .iconst 2, 1), (7, .if_icmp .ne 8, 3), (10, .bipush 15, 2), (12, .goto 14, 3), (15, .aload_n 0, 1), (16, .getfield 106, 3), (19, .aload_n 0, 1), (20, .getfield 154, 3), (23, .iload_n 1, 1), (24, .iaload, 1), (25, .iaload, 1), (26, .ireturn, 1)] = true := by decide +kernel
set_option maxRecDepth 100000 in
set_option maxHeartbeats 4000000 in
theorem sg_sortOf_0 {G : mG} {d : Nat} {x : gd} {P : Option gv → gd → Prop} (l1 : Int32)
    (h : vp_in l1 6 ∧ ((¬ ((x.1 77 (l1 : Int32).toNatClampNeg) = (2 : Int32)) → vp_in l1 6 ∧ vp_in (x.1 74 (l1 : Int32).toNatClampNeg) 1500 ∧ P (some (vi (x.1 55 (x.1 74 (l1 : Int32).toNatClampNeg : Int32).toNatClampNeg))) x) ∧ ((x.1 77 (l1 : Int32).toNatClampNeg) = (2 : Int32) → P (some (vi 15)) x))) :
    MT G d z_sortOf 0 [(0, vr 0), (1, vi l1)] [] x P := by
  refine T_aload_n 0 (dk dt_sortOf 0 rfl) rfl rfl ?_
  refine T_getR 0 76 77 (dk dt_sortOf 1 rfl) fl_163 mk_0 ml_0 (by decide) rfl rfl ?_
  refine T_iload_n 1 (dk dt_sortOf 2 rfl) rfl rfl ?_
  obtain ⟨h1, h⟩ := h
  refine T_iald 77 6 (dk dt_sortOf 3 rfl) mk_77 ml_77 h1 ?_
  refine T_iconst (v := 2) (dk dt_sortOf 4 rfl) (by decide +kernel) ?_
  refine T_icmp_ne 15 (dk dt_sortOf 5 rfl) (by decide) (fun c2 => ?_) (fun c2 => ?_)
  · have h := h.1 c2
    refine T_aload_n 0 (dk dt_sortOf 8 rfl) rfl rfl ?_
    refine T_getR 0 54 55 (dk dt_sortOf 9 rfl) fl_106 mk_0 ml_0 (by decide) rfl rfl ?_
    refine T_aload_n 0 (dk dt_sortOf 10 rfl) rfl rfl ?_
    refine T_getR 0 73 74 (dk dt_sortOf 11 rfl) fl_154 mk_0 ml_0 (by decide) rfl rfl ?_
    refine T_iload_n 1 (dk dt_sortOf 12 rfl) rfl rfl ?_
    obtain ⟨h3, h⟩ := h
    refine T_iald 74 6 (dk dt_sortOf 13 rfl) mk_74 ml_74 h3 ?_
    obtain ⟨h4, h⟩ := h
    refine T_iald 55 1500 (dk dt_sortOf 14 rfl) mk_55 ml_55 h4 ?_
    exact MT_iret (dk dt_sortOf 15 rfl) rfl rfl h
  · have h := h.2 c2
    refine T_bipush (v := 15) (dk dt_sortOf 6 rfl) (by decide +kernel) ?_
    refine T_goto 26 (dk dt_sortOf 7 rfl) (by decide) ?_
    exact MT_iret (dk dt_sortOf 15 rfl) rfl rfl h
set_option maxRecDepth 100000 in
theorem dt_hasAct : dck cX12_hasAct [(0, .aload_n 0, 1), (1, .getfield 151, 3), (4, .iload_n 1, 1), (5, .iaload, 1), (6, .iconst 1, 1), (7, .if_icmp .ne 13, 3), (10, .aload_n 0, 1), (11, .getfield 163, 3), (14, .iload_n 1, 1), (15, .iaload, 1), (16, .iconst 1, 1), (17, .if_icmp .ne 5, 3), (20, .iconst 0, 1), (21, .ireturn, 1), (22, .aload_n 0, 1), (23, .getfield 154, 3), (26, .iload_n 1, 1), (27, .iaload, 1), (28, .istore_n 2, 1), (29, .aload_n 0, 1), (30, .iload_n 1, 1), (31, .invokevirtual 602, 3), (34, .istore_n 3, 1), (35, .aload_n 0, 1), (36, .iload_n 3, 1), (37, .invokevirtual 605, 3), (40, .ifCond .eq 21, 3), (43, .aload_n 0, 1), (44, .getfield 73, 3), (47, .aload_n 0, 1), (48, .getfield 109, 3), (51, .iload_n 2, 1), (52, .iaload, 1), (53, .baload, 1), (54, .ifCond .eq 7, 3), (57, .iconst 1, 1), (58, .goto 4, 3), (61, .iconst 0, 1), (62, .istore 4, 2), (64, .aload_n 0, 1), (65, .getfield 608, 3), (68, .ifCond .eq 12, 3), (71, .aload_n 0, 1), (72, .getfield 172, 3), (75, .iload_n 1, 1), (76, .iaload, 1), (77, .ifCond .ne 7, 3), (80, .iconst 1, 1), (81, .goto 4, 3), (84, .iconst 0, 1), (85, .istore 5, 2), (87, .iload_n 3, 1), (88, .ifCond .eq 35, 3), (91, .iload_n 3, 1), (92, .bipush 12, 2), (94, .if_icmp .eq 29, 3), (97, .iload_n 3, 1), (98, .bipush 13, 2), (100, .if_icmp .eq 23, 3), (103, .iload_n 3, 1), (104, .bipush 14, 2), (106, .if_icmp .eq 17, 3), (109, .iload_n 3, 1), (110, .iconst 1, 1), (111, .if_icmp .ne 8, 3), (114, .iload 4, 2), (116, .ifCond .eq 7, 3), (119, .iconst 1, 1), (120, .goto 4, 3), (123, .iconst 0, 1), (124, .istore 6, 2), (126, .iload 6, 2), (128, .ifCond .eq 10, 3), (131, .iload 5, 2), (133, .ifCond .ne 5, 3), (136, .iconst 0, 1), (137, .ireturn, 1), (138, .iload_n 3, 1), (139, .iconst 5, 1), (140, .if_icmp .eq 9, 3), (143, .iload_n 3, 1), (144, .bipush 15, 2), (146, .if_icmp .ne 39, 3), (149, .aload_n 0, 1), (150, .getfield 145, 3), (153, .aload_n 0, 1), (154, .getfield 109, 3), (157, .iload_n 2, 1), (158, .iaload, 1), (159, .iaload, 1), (160, .iconst (-1), 1), (161, .if_icmp .eq 18, 3), (164, .aload_n 0, 1), (165, .getfield 145, 3), (168, .aload_n 0, 1), (169, .getfield 109, 3), (172, .iload_n 2, 1), (173, .iaload, 1), (174, .iaload, 1), (175, .iload_n 1, 1), (176, .if_icmp .ne 7, 3), (179, .iconst 1, 1), (180, .goto 4, 3), (183, .iconst 0, 1), (184, .ireturn, 1), (185, .iload_n 3, 1), (186, .bipush 10, 2), (188, .if_icmp .ne 44, 3), (191, .aload_n 0, 1), (192, .getfield 109, 3), (195, .iload_n 2, 1), (196, .iaload, 1), (197, .istore 7, 2), (199, .iload 7, 2), (201, .iload_n 1, 1), (202, .if_icmp .eq 28, 3), (205, .aload_n 0, 1), (206, .getfield 151, 3), (209, .iload 7, 2), (211, .iaload, 1), (212, .iconst 1, 1), (213, .if_icmp .le 17, 3), (216, .aload_n 0, 1), (217, .getfield 172, 3), (220, .iload 7, 2), (222, .iaload, 1), (223, .ifCond .ne 7, 3), (226, .iconst 1, 1), (227, .goto 4, 3), (230, .iconst 0, 1), (231, .ireturn, 1), (232, .iconst 1, 1), (233, .ireturn, 1)] = true := by decide +kernel
set_option maxRecDepth 100000 in
theorem dt_choose : dck cX12_choose [(0, .aload_n 0, 1), (1, .getfield 184, 3), (4, .aload_n 0, 1), (5, .getfield 611, 3), (8, .iload_n 1, 1), (9, .iastore, 1), (10, .aload_n 0, 1), (11, .getfield 187, 3), (14, .aload_n 0, 1), (15, .getfield 611, 3), (18, .iload_n 2, 1), (19, .iastore, 1), (20, .aload_n 0, 1), (21, .getfield 190, 3), (24, .aload_n 0, 1), (25, .getfield 611, 3), (28, .iload_n 3, 1), (29, .iastore, 1), (30, .aload_n 0, 1), (31, .dup, 1), (32, .getfield 611, 3), (35, .iconst 1, 1), (36, .iadd, 1), (37, .putfield 611, 3), (40, .return_, 1)] = true := by decide +kernel
set_option maxRecDepth 100000 in
theorem dt_findChoices : dck cX12_findChoices [(0, .aload_n 0, 1), (1, .iconst 0, 1), (2, .putfield 611, 3), (5, .iconst 0, 1), (6, .istore_n 1, 1), (7, .iload_n 1, 1), (8, .aload_n 0, 1), (9, .getfield 461, 3), (12, .if_icmp .ge 218, 3), (15, .aload_n 0, 1), (16, .iload_n 1, 1), (17, .invokevirtual 614, 3), (20, .ifCond .eq 122, 3), (23, .aload_n 0, 1), (24, .getfield 154, 3), (27, .iload_n 1, 1), (28, .iaload, 1), (29, .istore_n 2, 1), (30, .aload_n 0, 1), (31, .getfield 611, 3), (34, .istore_n 3, 1), (35, .aload_n 0, 1), (36, .iload_n 1, 1), (37, .invokevirtual 602, 3), (40, .bipush 8, 2), (42, .if_icmp .ne 85, 3), (45, .aload_n 0, 1), (46, .getfield 112, 3), (49, .iload_n 2, 1), (50, .iaload, 1), (51, .ifCond .ne 76, 3), (54, .aload_n 0, 1), (55, .getfield 145, 3), (58, .aload_n 0, 1), (59, .getfield 109, 3), (62, .iload_n 2, 1), (63, .iaload, 1), (64, .iaload, 1), (65, .iload_n 1, 1), (66, .if_icmp .ne 61, 3), (69, .iconst 0, 1), (70, .istore 4, 2), (72, .iload 4, 2), (74, .aload_n 0, 1), (75, .getfield 461, 3), (78, .if_icmp .ge 49, 3), (81, .aload_n 0, 1), (82, .getfield 163, 3), (85, .iload 4, 2), (87, .iaload, 1), (88, .iconst 1, 1), (89, .if_icmp .ne 32, 3), (92, .aload_n 0, 1), (93, .getfield 109, 3), (96, .aload_n 0, 1), (97, .getfield 154, 3), (100, .iload 4, 2), (102, .iaload, 1), (103, .iaload, 1), (104, .aload_n 0, 1), (105, .getfield 109, 3), (108, .iload_n 2, 1), (109, .iaload, 1), (110, .if_icmp .ne 11, 3), (113, .aload_n 0, 1), (114, .iload_n 1, 1), (115, .iconst (-1), 1), (116, .iload 4, 2), (118, .invokevirtual 617, 3), (121, .iinc 4 1, 3), (124, .goto (-52), 3), (127, .aload_n 0, 1), (128, .getfield 611, 3), (131, .iload_n 3, 1), (132, .if_icmp .ne 10, 3), (135, .aload_n 0, 1), (136, .iload_n 1, 1), (137, .iconst (-1), 1), (138, .iconst (-1), 1), (139, .invokevirtual 617, 3), (142, .iconst 0, 1), (143, .istore_n 2, 1), (144, .iload_n 2, 1), (145, .aload_n 0, 1), (146, .getfield 172, 3), (149, .iload_n 1, 1), (150, .iaload, 1), (151, .if_icmp .ge 73, 3), (154, .iconst 1, 1), (155, .istore_n 3, 1), (156, .iconst 0, 1), (157, .istore 4, 2), (159, .iload 4, 2), (161, .iload_n 2, 1), (162, .if_icmp .ge 45, 3), (165, .iload_n 3, 1), (166, .ifCond .eq 33, 3), (169, .aload_n 0, 1), (170, .getfield 175, 3), (173, .bipush 10, 2), (175, .iload_n 1, 1), (176, .imul, 1), (177, .iload 4, 2), (179, .iadd, 1), (180, .iaload, 1), (181, .aload_n 0, 1), (182, .getfield 175, 3), (185, .bipush 10, 2), (187, .iload_n 1, 1), (188, .imul, 1), (189, .iload_n 2, 1), (190, .iadd, 1), (191, .iaload, 1), (192, .if_icmp .eq 7, 3), (195, .iconst 1, 1), (196, .goto 4, 3), (199, .iconst 0, 1), (200, .istore_n 3, 1), (201, .iinc 4 1, 3), (204, .goto (-45), 3), (207, .iload_n 3, 1), (208, .ifCond .eq 10, 3), (211, .aload_n 0, 1), (212, .iload_n 1, 1), (213, .iload_n 2, 1), (214, .iconst (-1), 1), (215, .invokevirtual 617, 3), (218, .iinc 2 1, 3), (221, .goto (-77), 3), (224, .iinc 1 1, 3), (227, .goto (-220), 3), (230, .return_, 1)] = true := by decide +kernel
set_option maxRecDepth 100000 in
theorem dt_see : dck cX12_see [(0, .aload_n 0, 1), (1, .getfield 142, 3), (4, .iload_n 2, 1), (5, .iaload, 1), (6, .istore_n 3, 1), (7, .iconst 0, 1), (8, .istore 4, 2), (10, .iload 4, 2), (12, .aload_n 0, 1), (13, .getfield 172, 3), (16, .iload_n 1, 1), (17, .iaload, 1), (18, .if_icmp .ge 42, 3), (21, .aload_n 0, 1), (22, .getfield 175, 3), (25, .bipush 10, 2), (27, .iload_n 1, 1), (28, .imul, 1), (29, .iload 4, 2), (31, .iadd, 1), (32, .iaload, 1), (33, .iload_n 2, 1), (34, .if_icmp .ne 18, 3), (37, .aload_n 0, 1), (38, .getfield 178, 3), (41, .bipush 10, 2), (43, .iload_n 1, 1), (44, .imul, 1), (45, .iload 4, 2), (47, .iadd, 1), (48, .iaload, 1), (49, .goto 4, 3), (52, .iload_n 3, 1), (53, .istore_n 3, 1), (54, .iinc 4 1, 3), (57, .goto (-47), 3), (60, .iload_n 3, 1), (61, .ireturn, 1)] = true := by decide +kernel
set_option maxRecDepth 100000 in
set_option maxHeartbeats 4000000 in
theorem sg_see_0 {G : mG} {d : Nat} {x : gd} {P : Option gv → gd → Prop} (l1 : Int32) (l2 : Int32)
    (h : vp_in l2 24 ∧ MT G d z_see 10 [(0, vr 0), (1, vi l1), (2, vi l2), (3, vi (x.1 70 (l2 : Int32).toNatClampNeg)), (4, vi 0)] [] x P) :
    MT G d z_see 0 [(0, vr 0), (1, vi l1), (2, vi l2)] [] x P := by
  refine T_aload_n 0 (dk dt_see 0 rfl) rfl rfl ?_
  refine T_getR 0 69 70 (dk dt_see 1 rfl) fl_142 mk_0 ml_0 (by decide) rfl rfl ?_
  refine T_iload_n 2 (dk dt_see 2 rfl) rfl rfl ?_
  obtain ⟨h1, h⟩ := h
  refine T_iald 70 24 (dk dt_see 3 rfl) mk_70 ml_70 h1 ?_
  refine T_istore_n (lv2 := [(3, vi (x.1 70 (l2 : Int32).toNatClampNeg)), (0, vr 0), (1, vi l1), (2, vi l2)]) (dk dt_see 4 rfl) rfl (by decide) rfl ?_
  refine T_iconst (v := 0) (dk dt_see 5 rfl) (by decide +kernel) ?_
  refine T_istore (lv2 := [(4, vi 0), (3, vi (x.1 70 (l2 : Int32).toNatClampNeg)), (0, vr 0), (1, vi l1), (2, vi l2)]) (dk dt_see 6 rfl) (by decide) rfl ?_
  exact T_sub [2, 3, 4, 1, 0] rfl h
set_option maxRecDepth 100000 in
set_option maxHeartbeats 4000000 in
theorem sg_see_10 {G : mG} {d : Nat} {x : gd} {P : Option gv → gd → Prop} (l1 : Int32) (l2 : Int32) (l3 : Int32) (l4 : Int32)
    (h : vp_in l1 6 ∧ (((x.1 80 (l1 : Int32).toNatClampNeg) ≤ l4 → P (some (vi l3)) x) ∧ (¬ ((x.1 80 (l1 : Int32).toNatClampNeg) ≤ l4) → vp_in ((10 * l1) + l4) 60 ∧ ((¬ ((x.1 81 ((10 * l1) + l4 : Int32).toNatClampNeg) = l2) → MT G d z_see 10 [(0, vr 0), (1, vi l1), (2, vi l2), (3, vi l3), (4, vi (l4 + 1))] [] x P) ∧ ((x.1 81 ((10 * l1) + l4 : Int32).toNatClampNeg) = l2 → vp_in ((10 * l1) + l4) 60 ∧ MT G d z_see 10 [(0, vr 0), (1, vi l1), (2, vi l2), (3, vi (x.1 82 ((10 * l1) + l4 : Int32).toNatClampNeg)), (4, vi (l4 + 1))] [] x P))))) :
    MT G d z_see 10 [(0, vr 0), (1, vi l1), (2, vi l2), (3, vi l3), (4, vi l4)] [] x P := by
  refine T_iload 4 (dk dt_see 7 rfl) rfl ?_
  refine T_aload_n 0 (dk dt_see 8 rfl) rfl rfl ?_
  refine T_getR 0 79 80 (dk dt_see 9 rfl) fl_172 mk_0 ml_0 (by decide) rfl rfl ?_
  refine T_iload_n 1 (dk dt_see 10 rfl) rfl rfl ?_
  obtain ⟨h1, h⟩ := h
  refine T_iald 80 6 (dk dt_see 11 rfl) mk_80 ml_80 h1 ?_
  refine T_icmp_ge 60 (dk dt_see 12 rfl) (by decide) (fun c2 => ?_) (fun c2 => ?_)
  · have h := h.1 c2
    refine T_iload_n 3 (dk dt_see 36 rfl) rfl rfl ?_
    exact MT_iret (dk dt_see 37 rfl) rfl rfl h
  · have h := h.2 c2
    refine T_aload_n 0 (dk dt_see 13 rfl) rfl rfl ?_
    refine T_getR 0 80 81 (dk dt_see 14 rfl) fl_175 mk_0 ml_0 (by decide) rfl rfl ?_
    refine T_bipush (v := 10) (dk dt_see 15 rfl) (by decide +kernel) ?_
    refine T_iload_n 1 (dk dt_see 16 rfl) rfl rfl ?_
    refine T_imul (dk dt_see 17 rfl) ?_
    refine T_iload 4 (dk dt_see 18 rfl) rfl ?_
    refine T_iadd (dk dt_see 19 rfl) ?_
    obtain ⟨h3, h⟩ := h
    refine T_iald 81 60 (dk dt_see 20 rfl) mk_81 ml_81 h3 ?_
    refine T_iload_n 2 (dk dt_see 21 rfl) rfl rfl ?_
    refine T_icmp_ne 52 (dk dt_see 22 rfl) (by decide) (fun c4 => ?_) (fun c4 => ?_)
    · have h := h.1 c4
      refine T_iload_n 3 (dk dt_see 32 rfl) rfl rfl ?_
      refine T_istore_n (lv2 := [(3, vi l3), (0, vr 0), (1, vi l1), (2, vi l2), (4, vi l4)]) (dk dt_see 33 rfl) rfl (by decide) rfl ?_
      refine T_iinc (v := l4 + 1) (lv2 := [(4, vi (l4 + 1)), (3, vi l3), (0, vr 0), (1, vi l1), (2, vi l2)]) 4 (dk dt_see 34 rfl) rfl rfl (by decide) rfl ?_
      refine T_goto 10 (dk dt_see 35 rfl) (by decide) ?_
      exact T_sub [2, 3, 4, 1, 0] rfl h
    · have h := h.2 c4
      refine T_aload_n 0 (dk dt_see 23 rfl) rfl rfl ?_
      refine T_getR 0 81 82 (dk dt_see 24 rfl) fl_178 mk_0 ml_0 (by decide) rfl rfl ?_
      refine T_bipush (v := 10) (dk dt_see 25 rfl) (by decide +kernel) ?_
      refine T_iload_n 1 (dk dt_see 26 rfl) rfl rfl ?_
      refine T_imul (dk dt_see 27 rfl) ?_
      refine T_iload 4 (dk dt_see 28 rfl) rfl ?_
      refine T_iadd (dk dt_see 29 rfl) ?_
      obtain ⟨h5, h⟩ := h
      refine T_iald 82 60 (dk dt_see 30 rfl) mk_82 ml_82 h5 ?_
      refine T_goto 53 (dk dt_see 31 rfl) (by decide) ?_
      refine T_istore_n (lv2 := [(3, vi (x.1 82 ((10 * l1) + l4 : Int32).toNatClampNeg)), (0, vr 0), (1, vi l1), (2, vi l2), (4, vi l4)]) (dk dt_see 33 rfl) rfl (by decide) rfl ?_
      refine T_iinc (v := l4 + 1) (lv2 := [(4, vi (l4 + 1)), (3, vi (x.1 82 ((10 * l1) + l4 : Int32).toNatClampNeg)), (0, vr 0), (1, vi l1), (2, vi l2)]) 4 (dk dt_see 34 rfl) rfl rfl (by decide) rfl ?_
      refine T_goto 10 (dk dt_see 35 rfl) (by decide) ?_
      exact T_sub [2, 3, 4, 1, 0] rfl h
end
section
set_option maxRecDepth 100000 in
theorem dt_lookAt : dck cX12_lookAt [(0, .aload_n 0, 1), (1, .getfield 154, 3), (4, .iload_n 1, 1), (5, .iaload, 1), (6, .istore_n 2, 1), (7, .aload_n 0, 1), (8, .iload_n 1, 1), (9, .invokevirtual 602, 3), (12, .istore_n 3, 1), (13, .aload_n 0, 1), (14, .iconst 0, 1), (15, .putfield 620, 3), (18, .aload_n 0, 1), (19, .aload_n 0, 1), (20, .getfield 109, 3), (23, .iload_n 2, 1), (24, .iaload, 1), (25, .putfield 623, 3), (28, .aload_n 0, 1), (29, .iconst 0, 1), (30, .putfield 626, 3), (33, .aload_n 0, 1), (34, .iconst 0, 1), (35, .putfield 629, 3), (38, .iload_n 3, 1), (39, .bipush 15, 2), (41, .if_icmp .ne 4, 3), (44, .return_, 1), (45, .aload_n 0, 1), (46, .getfield 115, 3), (49, .iload_n 2, 1), (50, .iaload, 1), (51, .iconst (-1), 1), (52, .if_icmp .eq 75, 3), (55, .aload_n 0, 1), (56, .aload_n 0, 1), (57, .getfield 115, 3), (60, .iload_n 2, 1), (61, .iaload, 1), (62, .iload_n 1, 1), (63, .invokevirtual 593, 3), (66, .istore 4, 2), (68, .aload_n 0, 1), (69, .getfield 581, 3), (72, .ifCond .le 14, 3), (75, .aload_n 0, 1), (76, .iconst 1, 1), (77, .putfield 620, 3), (80, .aload_n 0, 1), (81, .iconst (-1), 1), (82, .putfield 623, 3), (85, .return_, 1), (86, .iload 4, 2), (88, .iconst 0, 1), (89, .aload_n 0, 1), (90, .getfield 112, 3), (93, .iload_n 2, 1), (94, .iaload, 1), (95, .iconst 1, 1), (96, .isub, 1), (97, .invokestatic 322, 3), (100, .ifCond .ne 14, 3), (103, .aload_n 0, 1), (104, .iconst 2, 1), (105, .putfield 620, 3), (108, .aload_n 0, 1), (109, .iconst (-1), 1), (110, .putfield 623, 3), (113, .return_, 1), (114, .aload_n 0, 1), (115, .aload_n 0, 1), (116, .getfield 109, 3), (119, .iload_n 2, 1), (120, .iaload, 1), (121, .iload 4, 2), (123, .iadd, 1), (124, .putfield 623, 3), (127, .aload_n 0, 1), (128, .getfield 118, 3), (131, .iload_n 2, 1), (132, .iaload, 1), (133, .iconst (-1), 1), (134, .if_icmp .eq 26, 3), (137, .aload_n 0, 1), (138, .aload_n 0, 1), (139, .aload_n 0, 1), (140, .getfield 118, 3), (143, .iload_n 2, 1), (144, .iaload, 1), (145, .iload_n 1, 1), (146, .invokevirtual 593, 3), (149, .putfield 626, 3), (152, .aload_n 0, 1), (153, .aload_n 0, 1), (154, .getfield 581, 3), (157, .putfield 620, 3), (160, .aload_n 0, 1), (161, .getfield 620, 3), (164, .ifCond .ne 36, 3), (167, .aload_n 0, 1), (168, .getfield 121, 3), (171, .iload_n 2, 1), (172, .iaload, 1), (173, .iconst (-1), 1), (174, .if_icmp .eq 26, 3), (177, .aload_n 0, 1), (178, .aload_n 0, 1), (179, .aload_n 0, 1), (180, .getfield 121, 3), (183, .iload_n 2, 1), (184, .iaload, 1), (185, .iload_n 1, 1), (186, .invokevirtual 593, 3), (189, .putfield 629, 3), (192, .aload_n 0, 1), (193, .aload_n 0, 1), (194, .getfield 581, 3), (197, .putfield 620, 3), (200, .aload_n 0, 1), (201, .getfield 620, 3), (204, .ifCond .le 4, 3), (207, .return_, 1), (208, .iload_n 3, 1), (209, .bipush 6, 2), (211, .if_icmp .eq 15, 3), (214, .iload_n 3, 1), (215, .bipush 7, 2), (217, .if_icmp .eq 9, 3), (220, .iload_n 3, 1), (221, .bipush 8, 2), (223, .if_icmp .ne 22, 3), (226, .aload_n 0, 1), (227, .getfield 145, 3), (230, .aload_n 0, 1), (231, .getfield 109, 3), (234, .iload_n 2, 1), (235, .iaload, 1), (236, .iaload, 1), (237, .iload_n 1, 1), (238, .if_icmp .ne 7, 3), (241, .iconst 1, 1), (242, .goto 4, 3), (245, .iconst 0, 1), (246, .istore 4, 2), (248, .iload_n 3, 1), (249, .bipush 6, 2), (251, .if_icmp .ne 16, 3), (254, .iload 4, 2), (256, .ifCond .ne 11, 3), (259, .aload_n 0, 1), (260, .iconst 3, 1), (261, .putfield 620, 3), (264, .goto 140, 3), (267, .iload_n 3, 1), (268, .bipush 7, 2), (270, .if_icmp .eq 9, 3), (273, .iload_n 3, 1), (274, .bipush 8, 2), (276, .if_icmp .ne 16, 3), (279, .iload 4, 2), (281, .ifCond .ne 11, 3), (284, .aload_n 0, 1), (285, .iconst 4, 1), (286, .putfield 620, 3), (289, .goto 115, 3), (292, .iload_n 3, 1), (293, .bipush 9, 2), (295, .if_icmp .ne 26, 3), (298, .aload_n 0, 1), (299, .getfield 151, 3), (302, .aload_n 0, 1), (303, .getfield 109, 3), (306, .iload_n 2, 1), (307, .iaload, 1), (308, .iaload, 1), (309, .ifCond .eq 12, 3), (312, .aload_n 0, 1), (313, .bipush 7, 2), (315, .putfield 620, 3), (318, .goto 86, 3), (321, .iload_n 3, 1), (322, .bipush 13, 2), (324, .if_icmp .ne 13, 3), (327, .aload_n 0, 1), (328, .getfield 169, 3), (331, .iload_n 1, 1), (332, .iaload, 1), (333, .iconst (-1), 1), (334, .if_icmp .ne 19, 3), (337, .iload_n 3, 1), (338, .bipush 14, 2), (340, .if_icmp .ne 22, 3), (343, .aload_n 0, 1), (344, .getfield 169, 3), (347, .iload_n 1, 1), (348, .iaload, 1), (349, .iconst (-1), 1), (350, .if_icmp .ne 12, 3), (353, .aload_n 0, 1), (354, .bipush 8, 2), (356, .putfield 620, 3), (359, .goto 45, 3), (362, .iload_n 3, 1), (363, .iconst 1, 1), (364, .if_icmp .ne 40, 3), (367, .aload_n 0, 1), (368, .getfield 608, 3), (371, .iconst 1, 1), (372, .if_icmp .ne 32, 3), (375, .aload_n 0, 1), (376, .getfield 73, 3), (379, .aload_n 0, 1), (380, .getfield 623, 3), (383, .baload, 1), (384, .ifCond .ne 20, 3), (387, .aload_n 0, 1), (388, .getfield 172, 3), (391, .iload_n 1, 1), (392, .iaload, 1), (393, .bipush 8, 2), (395, .if_icmp .ne 9, 3), (398, .aload_n 0, 1), (399, .bipush 9, 2), (401, .putfield 620, 3), (404, .return_, 1)] = true := by decide +kernel
end
section
set_option maxRecDepth 100000 in
theorem dt_doAct : dck cX12_doAct [(0, .aload_n 0, 1), (1, .getfield 154, 3), (4, .iload_n 1, 1), (5, .iaload, 1), (6, .istore_n 3, 1), (7, .aload_n 0, 1), (8, .iload_n 1, 1), (9, .invokevirtual 602, 3), (12, .istore 4, 2), (14, .aload_n 0, 1), (15, .iload_n 1, 1), (16, .invokevirtual 632, 3), (19, .aload_n 0, 1), (20, .iconst 0, 1), (21, .putfield 635, 3), (24, .aload_n 0, 1), (25, .iconst 0, 1), (26, .putfield 638, 3), (29, .aload_n 0, 1), (30, .getfield 620, 3), (33, .ifCond .le 18, 3), (36, .aload_n 0, 1), (37, .iload_n 1, 1), (38, .aload_n 0, 1), (39, .getfield 620, 3), (42, .invokevirtual 590, 3), (45, .aload_n 0, 1), (46, .iload_n 1, 1), (47, .invokevirtual 596, 3), (50, .return_, 1), (51, .aload_n 0, 1), (52, .getfield 623, 3), (55, .istore 5, 2), (57, .iconst 0, 1), (58, .istore 6, 2), (60, .iload 4, 2), (62, .tableswitch 605 0 15 #[78, 96, 186, 186, 186, 315, 375, 411, 448, 543, 605, 605, 605, 568, 587, 337], 78), (140, .aload_n 0, 1), (141, .iload_n 1, 1), (142, .iload 5, 2), (144, .invokevirtual 641, 3), (147, .istore 6, 2), (149, .aload_n 0, 1), (150, .iload 6, 2), (152, .putfield 635, 3), (155, .goto 512, 3), (158, .aload_n 0, 1), (159, .aload_n 0, 1), (160, .getfield 626, 3), (163, .putfield 638, 3), (166, .aload_n 0, 1), (167, .getfield 608, 3), (170, .ifCond .eq 13, 3), (173, .aload_n 0, 1), (174, .getfield 73, 3), (177, .iload 5, 2), (179, .baload, 1), (180, .ifCond .eq 17, 3), (183, .aload_n 0, 1), (184, .getfield 142, 3), (187, .iload 5, 2), (189, .aload_n 0, 1), (190, .getfield 626, 3), (193, .iastore, 1), (194, .goto 473, 3), (197, .aload_n 0, 1), (198, .getfield 175, 3), (201, .bipush 10, 2), (203, .iload_n 1, 1), (204, .imul, 1), (205, .aload_n 0, 1), (206, .getfield 172, 3), (209, .iload_n 1, 1), (210, .iaload, 1), (211, .iadd, 1), (212, .iload 5, 2), (214, .iastore, 1), (215, .aload_n 0, 1), (216, .getfield 178, 3), (219, .bipush 10, 2), (221, .iload_n 1, 1), (222, .imul, 1), (223, .aload_n 0, 1), (224, .getfield 172, 3), (227, .iload_n 1, 1), (228, .iaload, 1), (229, .iadd, 1), (230, .aload_n 0, 1), (231, .getfield 626, 3), (234, .iastore, 1), (235, .aload_n 0, 1), (236, .getfield 172, 3), (239, .iload_n 1, 1), (240, .dup2, 1), (241, .iaload, 1), (242, .iconst 1, 1), (243, .iadd, 1), (244, .iastore, 1), (245, .goto 422, 3), (248, .aload_n 0, 1), (249, .aload_n 0, 1), (250, .getfield 142, 3), (253, .iload 5, 2), (255, .iaload, 1), (256, .putfield 635, 3), (259, .aload_n 0, 1), (260, .getfield 142, 3), (263, .iload 5, 2), (265, .iaload, 1), (266, .aload_n 0, 1), (267, .getfield 626, 3), (270, .if_icmp .ne 7, 3), (273, .iconst 1, 1), (274, .goto 4, 3), (277, .iconst 0, 1), (278, .istore 7, 2), (280, .iload 4, 2), (282, .iconst 4, 1), (283, .if_icmp .ne 11, 3), (286, .iload 7, 2), (288, .invokestatic 587, 3), (291, .goto 10, 3), (294, .aload_n 0, 1), (295, .getfield 142, 3), (298, .iload 5, 2), (300, .iaload, 1), (301, .istore 6, 2), (303, .aload_n 0, 1), (304, .getfield 142, 3), (307, .iload 5, 2), (309, .iload 4, 2), (311, .iconst 2, 1), (312, .if_icmp .ne 10, 3), (315, .aload_n 0, 1), (316, .getfield 626, 3), (319, .goto 43, 3), (322, .iload 4, 2), (324, .iconst 3, 1), (325, .if_icmp .ne 18, 3), (328, .aload_n 0, 1), (329, .getfield 142, 3), (332, .iload 5, 2), (334, .iaload, 1), (335, .aload_n 0, 1), (336, .getfield 626, 3), (339, .iadd, 1), (340, .goto 22, 3), (343, .iload 7, 2), (345, .ifCond .eq 10, 3), (348, .aload_n 0, 1), (349, .getfield 629, 3), (352, .goto 10, 3), (355, .aload_n 0, 1), (356, .getfield 142, 3), (359, .iload 5, 2), (361, .iaload, 1), (362, .iastore, 1), (363, .aload_n 0, 1), (364, .aload_n 0, 1), (365, .getfield 142, 3), (368, .iload 5, 2), (370, .iaload, 1), (371, .putfield 638, 3), (374, .goto 293, 3), (377, .aload_n 0, 1), (378, .getfield 145, 3), (381, .iload 5, 2), (383, .iload_n 1, 1), (384, .iastore, 1), (385, .aload_n 0, 1), (386, .getfield 148, 3), (389, .iload 5, 2), (391, .dup2, 1), (392, .iaload, 1), (393, .iconst 1, 1), (394, .iadd, 1), (395, .iastore, 1), (396, .goto 271, 3), (399, .aload_n 0, 1), (400, .getfield 145, 3), (403, .iload 5, 2), (405, .iload_n 1, 1), (406, .iastore, 1), (407, .aload_n 0, 1), (408, .getfield 148, 3), (411, .iload 5, 2), (413, .aload_n 0, 1), (414, .getfield 166, 3), (417, .iload_n 1, 1), (418, .iaload, 1), (419, .iastore, 1), (420, .aload_n 0, 1), (421, .getfield 163, 3), (424, .iload_n 1, 1), (425, .iconst 0, 1), (426, .iastore, 1), (427, .aload_n 0, 1), (428, .getfield 166, 3), (431, .iload_n 1, 1), (432, .iconst 0, 1), (433, .iastore, 1), (434, .goto 233, 3), (437, .aload_n 0, 1), (438, .getfield 148, 3), (441, .iload 5, 2), (443, .dup2, 1), (444, .iaload, 1), (445, .iconst 1, 1), (446, .isub, 1), (447, .iastore, 1), (448, .aload_n 0, 1), (449, .getfield 145, 3), (452, .iload 5, 2), (454, .aload_n 0, 1), (455, .getfield 148, 3), (458, .iload 5, 2), (460, .iaload, 1), (461, .ifCond .ne 7, 3), (464, .iconst (-1), 1), (465, .goto 4, 3), (468, .iload_n 1, 1), (469, .iastore, 1), (470, .goto 197, 3), (473, .aload_n 0, 1), (474, .getfield 166, 3), (477, .iload_n 1, 1), (478, .aload_n 0, 1), (479, .getfield 148, 3), (482, .iload 5, 2), (484, .iaload, 1), (485, .iastore, 1), (486, .aload_n 0, 1), (487, .getfield 148, 3), (490, .iload 5, 2), (492, .iconst 0, 1), (493, .iastore, 1), (494, .aload_n 0, 1), (495, .getfield 145, 3), (498, .iload 5, 2), (500, .iconst (-1), 1), (501, .iastore, 1), (502, .aload_n 0, 1), (503, .getfield 163, 3), (506, .iload_n 1, 1), (507, .iconst 1, 1), (508, .iastore, 1), (509, .return_, 1), (510, .iconst 0, 1), (511, .istore 8, 2), (513, .iload 8, 2), (515, .aload_n 0, 1), (516, .getfield 461, 3), (519, .if_icmp .ge 83, 3), (522, .aload_n 0, 1), (523, .getfield 163, 3), (526, .iload 8, 2), (528, .iaload, 1), (529, .iconst 1, 1), (530, .if_icmp .ne 40, 3), (533, .aload_n 0, 1), (534, .getfield 109, 3), (537, .aload_n 0, 1), (538, .getfield 154, 3), (541, .iload 8, 2), (543, .iaload, 1), (544, .iaload, 1), (545, .iload 5, 2), (547, .if_icmp .ne 23, 3), (550, .aload_n 0, 1), (551, .getfield 112, 3), (554, .iload_n 3, 1), (555, .iaload, 1), (556, .iconst 1, 1), (557, .if_icmp .eq 9, 3), (560, .iload_n 2, 1), (561, .iload 8, 2), (563, .if_icmp .ne 7, 3), (566, .iconst 1, 1), (567, .goto 4, 3), (570, .iconst 0, 1), (571, .istore 9, 2), (573, .aload_n 0, 1), (574, .getfield 163, 3), (577, .iload 8, 2), (579, .iload 9, 2), (581, .ifCond .eq 7, 3), (584, .iconst 2, 1), (585, .goto 10, 3), (588, .aload_n 0, 1), (589, .getfield 163, 3), (592, .iload 8, 2), (594, .iaload, 1), (595, .iastore, 1), (596, .iinc 8 1, 3), (599, .goto (-86), 3), (602, .goto 65, 3), (605, .aload_n 0, 1), (606, .getfield 151, 3), (609, .iload 5, 2), (611, .iconst 1, 1), (612, .iastore, 1), (613, .aload_n 0, 1), (614, .getfield 154, 3), (617, .iload 5, 2), (619, .aload_n 0, 1), (620, .getfield 133, 3), (623, .iload 5, 2), (625, .iaload, 1), (626, .iastore, 1), (627, .goto 40, 3), (630, .aload_n 0, 1), (631, .getfield 169, 3), (634, .iload_n 1, 1), (635, .iload 5, 2), (637, .iastore, 1), (638, .aload_n 0, 1), (639, .aload_n 0, 1), (640, .getfield 626, 3), (643, .putfield 638, 3), (646, .goto 21, 3), (649, .aload_n 0, 1), (650, .getfield 169, 3), (653, .iload_n 1, 1), (654, .iconst (-1), 1), (655, .iastore, 1), (656, .aload_n 0, 1), (657, .aload_n 0, 1), (658, .getfield 626, 3), (661, .putfield 638, 3), (664, .goto 3, 3), (667, .aload_n 0, 1), (668, .getfield 124, 3), (671, .iload_n 3, 1), (672, .iaload, 1), (673, .iconst (-1), 1), (674, .if_icmp .eq 21, 3), (677, .aload_n 0, 1), (678, .getfield 160, 3), (681, .bipush 8, 2), (683, .iload_n 1, 1), (684, .imul, 1), (685, .aload_n 0, 1), (686, .getfield 124, 3), (689, .iload_n 3, 1), (690, .iaload, 1), (691, .iadd, 1), (692, .iload 6, 2), (694, .iastore, 1), (695, .aload_n 0, 1), (696, .getfield 154, 3), (699, .iload_n 1, 1), (700, .dup2, 1), (701, .iaload, 1), (702, .iconst 1, 1), (703, .iadd, 1), (704, .iastore, 1), (705, .aload_n 0, 1), (706, .iload_n 1, 1), (707, .invokevirtual 599, 3), (710, .iload 4, 2), (712, .bipush 9, 2), (714, .if_icmp .ne 9, 3), (717, .aload_n 0, 1), (718, .iload 5, 2), (720, .invokevirtual 599, 3), (723, .return_, 1)] = true := by decide +kernel
set_option maxRecDepth 100000 in
theorem dt_doLate : dck cX12_doLate [(0, .aload_n 0, 1), (1, .getfield 142, 3), (4, .aload_n 0, 1), (5, .getfield 175, 3), (8, .bipush 10, 2), (10, .iload_n 1, 1), (11, .imul, 1), (12, .iload_n 2, 1), (13, .iadd, 1), (14, .iaload, 1), (15, .aload_n 0, 1), (16, .getfield 178, 3), (19, .bipush 10, 2), (21, .iload_n 1, 1), (22, .imul, 1), (23, .iload_n 2, 1), (24, .iadd, 1), (25, .iaload, 1), (26, .iastore, 1), (27, .aload_n 0, 1), (28, .getfield 172, 3), (31, .iload_n 1, 1), (32, .dup2, 1), (33, .iaload, 1), (34, .iconst 1, 1), (35, .isub, 1), (36, .iastore, 1), (37, .iload_n 2, 1), (38, .istore_n 3, 1), (39, .iload_n 3, 1), (40, .aload_n 0, 1), (41, .getfield 172, 3), (44, .iload_n 1, 1), (45, .iaload, 1), (46, .if_icmp .ge 57, 3), (49, .aload_n 0, 1), (50, .getfield 175, 3), (53, .bipush 10, 2), (55, .iload_n 1, 1), (56, .imul, 1), (57, .iload_n 3, 1), (58, .iadd, 1), (59, .aload_n 0, 1), (60, .getfield 175, 3), (63, .bipush 10, 2), (65, .iload_n 1, 1), (66, .imul, 1), (67, .iload_n 3, 1), (68, .iadd, 1), (69, .iconst 1, 1), (70, .iadd, 1), (71, .iaload, 1), (72, .iastore, 1), (73, .aload_n 0, 1), (74, .getfield 178, 3), (77, .bipush 10, 2), (79, .iload_n 1, 1), (80, .imul, 1), (81, .iload_n 3, 1), (82, .iadd, 1), (83, .aload_n 0, 1), (84, .getfield 178, 3), (87, .bipush 10, 2), (89, .iload_n 1, 1), (90, .imul, 1), (91, .iload_n 3, 1), (92, .iadd, 1), (93, .iconst 1, 1), (94, .iadd, 1), (95, .iaload, 1), (96, .iastore, 1), (97, .iinc 3 1, 3), (100, .goto (-61), 3), (103, .return_, 1)] = true := by decide +kernel
set_option maxRecDepth 100000 in
theorem dt_isStuck : dck cX12_isStuck [(0, .iconst 0, 1), (1, .istore_n 1, 1), (2, .iconst 0, 1), (3, .istore_n 2, 1), (4, .iload_n 2, 1), (5, .aload_n 0, 1), (6, .getfield 461, 3), (9, .if_icmp .ge 29, 3), (12, .iload_n 1, 1), (13, .ifCond .ne 13, 3), (16, .aload_n 0, 1), (17, .getfield 151, 3), (20, .iload_n 2, 1), (21, .iaload, 1), (22, .iconst 1, 1), (23, .if_icmp .ne 7, 3), (26, .iconst 1, 1), (27, .goto 4, 3), (30, .iconst 0, 1), (31, .istore_n 1, 1), (32, .iinc 2 1, 3), (35, .goto (-31), 3), (38, .aload_n 0, 1), (39, .getfield 611, 3), (42, .ifCond .ne 11, 3), (45, .iload_n 1, 1), (46, .ifCond .eq 7, 3), (49, .iconst 1, 1), (50, .goto 4, 3), (53, .iconst 0, 1), (54, .ireturn, 1)] = true := by decide +kernel
set_option maxRecDepth 100000 in
set_option maxHeartbeats 4000000 in
theorem sg_isStuck_0 {G : mG} {d : Nat} {x : gd} {P : Option gv → gd → Prop} 
    (h : MT G d z_isStuck 4 [(0, vr 0), (1, vi 0), (2, vi 0)] [] x P) :
    MT G d z_isStuck 0 [(0, vr 0)] [] x P := by
  refine T_iconst (v := 0) (dk dt_isStuck 0 rfl) (by decide +kernel) ?_
  refine T_istore_n (lv2 := [(1, vi 0), (0, vr 0)]) (dk dt_isStuck 1 rfl) rfl (by decide) rfl ?_
  refine T_iconst (v := 0) (dk dt_isStuck 2 rfl) (by decide +kernel) ?_
  refine T_istore_n (lv2 := [(2, vi 0), (1, vi 0), (0, vr 0)]) (dk dt_isStuck 3 rfl) rfl (by decide) rfl ?_
  exact T_sub [2, 1, 0] rfl h
set_option maxRecDepth 100000 in
set_option maxHeartbeats 4000000 in
theorem sg_isStuck_4 {G : mG} {d : Nat} {x : gd} {P : Option gv → gd → Prop} (l1 : Int32) (l2 : Int32)
    (h : (((x.1 0 25) ≤ l2 → ((¬ ((x.1 0 84) = (0 : Int32)) → P (some (vi 0)) x) ∧ ((x.1 0 84) = (0 : Int32) → ((l1 = (0 : Int32) → P (some (vi 0)) x) ∧ (¬ (l1 = (0 : Int32)) → P (some (vi 1)) x))))) ∧ (¬ ((x.1 0 25) ≤ l2) → ((¬ (l1 = (0 : Int32)) → MT G d z_isStuck 4 [(0, vr 0), (1, vi 1), (2, vi (l2 + 1))] [] x P) ∧ (l1 = (0 : Int32) → vp_in l2 6 ∧ ((¬ ((x.1 73 (l2 : Int32).toNatClampNeg) = (1 : Int32)) → MT G d z_isStuck 4 [(0, vr 0), (1, vi 0), (2, vi (l2 + 1))] [] x P) ∧ ((x.1 73 (l2 : Int32).toNatClampNeg) = (1 : Int32) → MT G d z_isStuck 4 [(0, vr 0), (1, vi 1), (2, vi (l2 + 1))] [] x P))))))) :
    MT G d z_isStuck 4 [(0, vr 0), (1, vi l1), (2, vi l2)] [] x P := by
  refine T_iload_n 2 (dk dt_isStuck 4 rfl) rfl rfl ?_
  refine T_aload_n 0 (dk dt_isStuck 5 rfl) rfl rfl ?_
  refine T_getI 0 25 (dk dt_isStuck 6 rfl) fl_461 mk_0 ml_0 (by decide) rfl ?_
  refine T_icmp_ge 38 (dk dt_isStuck 7 rfl) (by decide) (fun c1 => ?_) (fun c1 => ?_)
  · have h := h.1 c1
    refine T_aload_n 0 (dk dt_isStuck 22 rfl) rfl rfl ?_
    refine T_getI 0 84 (dk dt_isStuck 23 rfl) fl_611 mk_0 ml_0 (by decide) rfl ?_
    refine T_if_ne 53 (dk dt_isStuck 24 rfl) (by decide) (fun c2 => ?_) (fun c2 => ?_)
    · have h := h.1 c2
      refine T_iconst (v := 0) (dk dt_isStuck 29 rfl) (by decide +kernel) ?_
      exact MT_iret (dk dt_isStuck 30 rfl) rfl rfl h
    · have h := h.2 c2
      refine T_iload_n 1 (dk dt_isStuck 25 rfl) rfl rfl ?_
      refine T_if_eq 53 (dk dt_isStuck 26 rfl) (by decide) (fun c3 => ?_) (fun c3 => ?_)
      · have h := h.1 c3
        refine T_iconst (v := 0) (dk dt_isStuck 29 rfl) (by decide +kernel) ?_
        exact MT_iret (dk dt_isStuck 30 rfl) rfl rfl h
      · have h := h.2 c3
        refine T_iconst (v := 1) (dk dt_isStuck 27 rfl) (by decide +kernel) ?_
        refine T_goto 54 (dk dt_isStuck 28 rfl) (by decide) ?_
        exact MT_iret (dk dt_isStuck 30 rfl) rfl rfl h
  · have h := h.2 c1
    refine T_iload_n 1 (dk dt_isStuck 8 rfl) rfl rfl ?_
    refine T_if_ne 26 (dk dt_isStuck 9 rfl) (by decide) (fun c4 => ?_) (fun c4 => ?_)
    · have h := h.1 c4
      refine T_iconst (v := 1) (dk dt_isStuck 16 rfl) (by decide +kernel) ?_
      refine T_goto 31 (dk dt_isStuck 17 rfl) (by decide) ?_
      refine T_istore_n (lv2 := [(1, vi 1), (0, vr 0), (2, vi l2)]) (dk dt_isStuck 19 rfl) rfl (by decide) rfl ?_
      refine T_iinc (v := l2 + 1) (lv2 := [(2, vi (l2 + 1)), (1, vi 1), (0, vr 0)]) 2 (dk dt_isStuck 20 rfl) rfl rfl (by decide) rfl ?_
      refine T_goto 4 (dk dt_isStuck 21 rfl) (by decide) ?_
      exact T_sub [2, 1, 0] rfl h
    · have h := h.2 c4
      refine T_aload_n 0 (dk dt_isStuck 10 rfl) rfl rfl ?_
      refine T_getR 0 72 73 (dk dt_isStuck 11 rfl) fl_151 mk_0 ml_0 (by decide) rfl rfl ?_
      refine T_iload_n 2 (dk dt_isStuck 12 rfl) rfl rfl ?_
      obtain ⟨h5, h⟩ := h
      refine T_iald 73 6 (dk dt_isStuck 13 rfl) mk_73 ml_73 h5 ?_
      refine T_iconst (v := 1) (dk dt_isStuck 14 rfl) (by decide +kernel) ?_
      refine T_icmp_ne 30 (dk dt_isStuck 15 rfl) (by decide) (fun c6 => ?_) (fun c6 => ?_)
      · have h := h.1 c6
        refine T_iconst (v := 0) (dk dt_isStuck 18 rfl) (by decide +kernel) ?_
        refine T_istore_n (lv2 := [(1, vi 0), (0, vr 0), (2, vi l2)]) (dk dt_isStuck 19 rfl) rfl (by decide) rfl ?_
        refine T_iinc (v := l2 + 1) (lv2 := [(2, vi (l2 + 1)), (1, vi 0), (0, vr 0)]) 2 (dk dt_isStuck 20 rfl) rfl rfl (by decide) rfl ?_
        refine T_goto 4 (dk dt_isStuck 21 rfl) (by decide) ?_
        exact T_sub [2, 1, 0] rfl h
      · have h := h.2 c6
        refine T_iconst (v := 1) (dk dt_isStuck 16 rfl) (by decide +kernel) ?_
        refine T_goto 31 (dk dt_isStuck 17 rfl) (by decide) ?_
        refine T_istore_n (lv2 := [(1, vi 1), (0, vr 0), (2, vi l2)]) (dk dt_isStuck 19 rfl) rfl (by decide) rfl ?_
        refine T_iinc (v := l2 + 1) (lv2 := [(2, vi (l2 + 1)), (1, vi 1), (0, vr 0)]) 2 (dk dt_isStuck 20 rfl) rfl rfl (by decide) rfl ?_
        refine T_goto 4 (dk dt_isStuck 21 rfl) (by decide) ?_
        exact T_sub [2, 1, 0] rfl h
set_option maxRecDepth 100000 in
theorem dt_startRun : dck cX12_startRun [(0, .aload_n 0, 1), (1, .iload_n 1, 1), (2, .putfield 608, 3), (5, .aload_n 0, 1), (6, .iconst 1, 1), (7, .putfield 569, 3), (10, .aload_n 0, 1), (11, .iconst 0, 1), (12, .putfield 644, 3), (15, .aload_n 0, 1), (16, .iconst 0, 1), (17, .putfield 647, 3), (20, .iconst 0, 1), (21, .istore_n 2, 1), (22, .iload_n 2, 1), (23, .bipush 6, 2), (25, .if_icmp .ge 23, 3), (28, .aload_n 0, 1), (29, .getfield 221, 3), (32, .iload_n 2, 1), (33, .iconst (-1), 1), (34, .iastore, 1), (35, .aload_n 0, 1), (36, .getfield 224, 3), (39, .iload_n 2, 1), (40, .iconst (-1), 1), (41, .iastore, 1), (42, .iinc 2 1, 3), (45, .goto (-23), 3), (48, .aload_n 0, 1), (49, .invokevirtual 650, 3), (52, .aload_n 0, 1), (53, .invokevirtual 653, 3), (56, .return_, 1)] = true := by decide +kernel
set_option maxRecDepth 100000 in
set_option maxHeartbeats 4000000 in
theorem sg_startRun_0 {G : mG} {d : Nat} {x : gd} {P : Option gv → gd → Prop} (l1 : Int32)
    (h : (∀ x1 : gd, x1 = si x 0 68 l1 → (∀ x2 : gd, x2 = si x1 0 67 1 → (∀ x3 : gd, x3 = si x2 0 94 0 → (∀ x4 : gd, x4 = si x3 0 96 0 → MT G (d + 1) z_startRun 22 [(0, vr 0), (2, vi 0)] [] x4 P))))) :
    MT G (d + 1) z_startRun 0 [(0, vr 0), (1, vi l1)] [] x P := by
  refine T_aload_n 0 (dk dt_startRun 0 rfl) rfl rfl ?_
  refine T_iload_n 1 (dk dt_startRun 1 rfl) rfl rfl ?_
  obtain ⟨x1, ex1⟩ : ∃ z, z = si x 0 68 l1 := ⟨_, rfl⟩
  have h := h x1 ex1
  refine T_putI 0 68 (dk dt_startRun 2 rfl) fl_608 mk_0 ml_0 (by decide) rfl ⟨rfl, rfl⟩ ?_
  rw [← ex1]
  refine T_aload_n 0 (dk dt_startRun 3 rfl) rfl rfl ?_
  refine T_iconst (v := 1) (dk dt_startRun 4 rfl) (by decide +kernel) ?_
  obtain ⟨x2, ex2⟩ : ∃ z, z = si x1 0 67 1 := ⟨_, rfl⟩
  have h := h x2 ex2
  refine T_putI 0 67 (dk dt_startRun 5 rfl) fl_569 mk_0 ml_0 (by decide) rfl ⟨rfl, rfl⟩ ?_
  rw [← ex2]
  refine T_aload_n 0 (dk dt_startRun 6 rfl) rfl rfl ?_
  refine T_iconst (v := 0) (dk dt_startRun 7 rfl) (by decide +kernel) ?_
  obtain ⟨x3, ex3⟩ : ∃ z, z = si x2 0 94 0 := ⟨_, rfl⟩
  have h := h x3 ex3
  refine T_putI 0 94 (dk dt_startRun 8 rfl) fl_644 mk_0 ml_0 (by decide) rfl ⟨rfl, rfl⟩ ?_
  rw [← ex3]
  refine T_aload_n 0 (dk dt_startRun 9 rfl) rfl rfl ?_
  refine T_iconst (v := 0) (dk dt_startRun 10 rfl) (by decide +kernel) ?_
  obtain ⟨x4, ex4⟩ : ∃ z, z = si x3 0 96 0 := ⟨_, rfl⟩
  have h := h x4 ex4
  refine T_putI 0 96 (dk dt_startRun 11 rfl) fl_647 mk_0 ml_0 (by decide) rfl ⟨rfl, rfl⟩ ?_
  rw [← ex4]
  refine T_iconst (v := 0) (dk dt_startRun 12 rfl) (by decide +kernel) ?_
  refine T_istore_n (lv2 := [(2, vi 0), (0, vr 0), (1, vi l1)]) (dk dt_startRun 13 rfl) rfl (by decide) rfl ?_
  exact T_sub [1, 0] rfl h
set_option maxRecDepth 100000 in
set_option maxHeartbeats 4000000 in
theorem sg_startRun_22 {G : mG} {d : Nat} {x : gd} {P : Option gv → gd → Prop} (l2 : Int32)
    (h : (((6 : Int32) ≤ l2 → MT G d z_setFirst 0 [(0, vr 0)] [] x (rv (fun x2 => MT G d z_findChoices 0 [(0, vr 0)] [] x2 (rv (fun x3 => P none x3))))) ∧ (¬ ((6 : Int32) ≤ l2) → vp_in l2 6 ∧ (∀ x5 : gd, x5 = si x 106 (l2 : Int32).toNatClampNeg (-1) → vp_in l2 6 ∧ (∀ x7 : gd, x7 = si x5 107 (l2 : Int32).toNatClampNeg (-1) → MT G (d + 1) z_startRun 22 [(0, vr 0), (2, vi (l2 + 1))] [] x7 P))))) :
    MT G (d + 1) z_startRun 22 [(0, vr 0), (2, vi l2)] [] x P := by
  refine T_iload_n 1 (dk dt_startRun 14 rfl) rfl rfl ?_
  refine T_bipush (v := 6) (dk dt_startRun 15 rfl) (by decide +kernel) ?_
  refine T_icmp_ge 48 (dk dt_startRun 16 rfl) (by decide) (fun c1 => ?_) (fun c1 => ?_)
  · have h := h.1 c1
    refine T_aload_n 0 (dk dt_startRun 29 rfl) rfl rfl ?_
    refine MT_callVv [] [] rfl (dk dt_startRun 30 rfl) cv_650 rfl rfl (Nat.le_of_ble_eq_true rfl) (Nat.le_of_ble_eq_true rfl) rfl rfl h (fun x2 h => ?_)
    refine T_aload_n 0 (dk dt_startRun 31 rfl) rfl rfl ?_
    refine MT_callVv [] [] rfl (dk dt_startRun 32 rfl) cv_653 rfl rfl (Nat.le_of_ble_eq_true rfl) (Nat.le_of_ble_eq_true rfl) rfl rfl h (fun x3 h => ?_)
    exact MT_vret (dk dt_startRun 33 rfl) rfl h
  · have h := h.2 c1
    refine T_aload_n 0 (dk dt_startRun 17 rfl) rfl rfl ?_
    refine T_getR 0 105 106 (dk dt_startRun 18 rfl) fl_221 mk_0 ml_0 (by decide) rfl rfl ?_
    refine T_iload_n 1 (dk dt_startRun 19 rfl) rfl rfl ?_
    refine T_iconst (v := (-1)) (dk dt_startRun 20 rfl) (by decide +kernel) ?_
    obtain ⟨h4, h⟩ := h
    obtain ⟨x5, ex5⟩ : ∃ z, z = si x 106 (l2 : Int32).toNatClampNeg (-1) := ⟨_, rfl⟩
    have h := h x5 ex5
    refine T_iast 106 6 (dk dt_startRun 21 rfl) mk_106 ml_106 h4 ?_
    rw [← ex5]
    refine T_aload_n 0 (dk dt_startRun 22 rfl) rfl rfl ?_
    refine T_getR 0 106 107 (dk dt_startRun 23 rfl) fl_224 mk_0 ml_0 (by decide) rfl rfl ?_
    refine T_iload_n 1 (dk dt_startRun 24 rfl) rfl rfl ?_
    refine T_iconst (v := (-1)) (dk dt_startRun 25 rfl) (by decide +kernel) ?_
    obtain ⟨h6, h⟩ := h
    obtain ⟨x7, ex7⟩ : ∃ z, z = si x5 107 (l2 : Int32).toNatClampNeg (-1) := ⟨_, rfl⟩
    have h := h x7 ex7
    refine T_iast 107 6 (dk dt_startRun 26 rfl) mk_107 ml_107 h6 ?_
    rw [← ex7]
    refine T_iinc (v := l2 + 1) (lv2 := [(2, vi (l2 + 1)), (0, vr 0)]) 1 (dk dt_startRun 27 rfl) rfl rfl (by decide) rfl ?_
    refine T_goto 22 (dk dt_startRun 28 rfl) (by decide) ?_
    exact T_sub [1, 0] rfl h
set_option maxRecDepth 100000 in
theorem dt_isSooner : dck cX12_isSooner [(0, .aload_n 0, 1), (1, .getfield 217, 3), (4, .bipush 7, 2), (6, .iload_n 2, 1), (7, .imul, 1), (8, .iload_n 1, 1), (9, .bipush 64, 2), (11, .idiv, 1), (12, .iadd, 1), (13, .laload, 1), (14, .iload_n 1, 1), (15, .bipush 64, 2), (17, .irem, 1), (18, .lshr, 1), (19, .lconst 1, 1), (20, .land, 1), (21, .lconst 1, 1), (22, .lcmp, 1), (23, .ifCond .ne 7, 3), (26, .iconst 1, 1), (27, .goto 4, 3), (30, .iconst 0, 1), (31, .ireturn, 1)] = true := by decide +kernel
set_option maxRecDepth 100000 in
set_option maxHeartbeats 4000000 in
theorem sg_isSooner_0 {G : mG} {d : Nat} {x : gd} {P : Option gv → gd → Prop} (l1 : Int32) (l2 : Int32)
    (h : ¬ (64 : Int32) = 0 ∧ vp_in ((7 * l2) + (l1 / 64)) 2800 ∧ ¬ (64 : Int32) = 0 ∧ ((¬ ((lg_cmp (((x.2 105 ((7 * l2) + (l1 / 64) : Int32).toNatClampNeg) >>> ((l1 - l1 / 64 * 64 : Int32).toInt64 &&& 63 : Int64)) &&& 1) 1) = (0 : Int32)) → P (some (vi 0)) x) ∧ ((lg_cmp (((x.2 105 ((7 * l2) + (l1 / 64) : Int32).toNatClampNeg) >>> ((l1 - l1 / 64 * 64 : Int32).toInt64 &&& 63 : Int64)) &&& 1) 1) = (0 : Int32) → P (some (vi 1)) x))) :
    MT G d z_isSooner 0 [(0, vr 0), (1, vi l1), (2, vi l2)] [] x P := by
  refine T_aload_n 0 (dk dt_isSooner 0 rfl) rfl rfl ?_
  refine T_getR 0 104 105 (dk dt_isSooner 1 rfl) fl_217 mk_0 ml_0 (by decide) rfl rfl ?_
  refine T_bipush (v := 7) (dk dt_isSooner 2 rfl) (by decide +kernel) ?_
  refine T_iload_n 2 (dk dt_isSooner 3 rfl) rfl rfl ?_
  refine T_imul (dk dt_isSooner 4 rfl) ?_
  refine T_iload_n 1 (dk dt_isSooner 5 rfl) rfl rfl ?_
  refine T_bipush (v := 64) (dk dt_isSooner 6 rfl) (by decide +kernel) ?_
  obtain ⟨h1, h⟩ := h
  refine T_idiv (dk dt_isSooner 7 rfl) h1 ?_
  refine T_iadd (dk dt_isSooner 8 rfl) ?_
  obtain ⟨h2, h⟩ := h
  refine T_lald 105 2800 (dk dt_isSooner 9 rfl) mk_105 ml_105 h2 ?_
  refine T_iload_n 1 (dk dt_isSooner 10 rfl) rfl rfl ?_
  refine T_bipush (v := 64) (dk dt_isSooner 11 rfl) (by decide +kernel) ?_
  obtain ⟨h3, h⟩ := h
  refine T_irem (dk dt_isSooner 12 rfl) h3 ?_
  refine T_lshr (dk dt_isSooner 13 rfl) ?_
  refine T_lconst (v := 1) (dk dt_isSooner 14 rfl) (by decide +kernel) ?_
  refine T_land (dk dt_isSooner 15 rfl) ?_
  refine T_lconst (v := 1) (dk dt_isSooner 16 rfl) (by decide +kernel) ?_
  refine T_lcmp (dk dt_isSooner 17 rfl) ?_
  refine T_if_ne 30 (dk dt_isSooner 18 rfl) (by decide) (fun c4 => ?_) (fun c4 => ?_)
  · have h := h.1 c4
    refine T_iconst (v := 0) (dk dt_isSooner 21 rfl) (by decide +kernel) ?_
    exact MT_iret (dk dt_isSooner 22 rfl) rfl rfl h
  · have h := h.2 c4
    refine T_iconst (v := 1) (dk dt_isSooner 19 rfl) (by decide +kernel) ?_
    refine T_goto 31 (dk dt_isSooner 20 rfl) (by decide) ?_
    exact MT_iret (dk dt_isSooner 22 rfl) rfl rfl h
end
