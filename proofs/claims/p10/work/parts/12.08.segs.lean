set_option maxRecDepth 100000 in
theorem dt_setFirst : dck cX12_setFirst [(0, .iconst 0, 1), (1, .istore_n 1, 1), (2, .iload_n 1, 1), (3, .bipush 24, 2), (5, .if_icmp .ge 33, 3), (8, .aload_n 0, 1), (9, .getfield 142, 3), (12, .iload_n 1, 1), (13, .iload_n 1, 1), (14, .aload_n 0, 1), (15, .getfield 448, 3), (18, .if_icmp .ge 12, 3), (21, .aload_n 0, 1), (22, .getfield 70, 3), (25, .iload_n 1, 1), (26, .iaload, 1), (27, .goto 4, 3), (30, .iconst 0, 1), (31, .iastore, 1), (32, .iinc 1 1, 3), (35, .goto (-33), 3), (38, .iconst 0, 1), (39, .istore_n 1, 1), (40, .iload_n 1, 1), (41, .bipush 6, 2), (43, .if_icmp .ge 23, 3), (46, .aload_n 0, 1), (47, .getfield 145, 3), (50, .iload_n 1, 1), (51, .iconst (-1), 1), (52, .iastore, 1), (53, .aload_n 0, 1), (54, .getfield 148, 3), (57, .iload_n 1, 1), (58, .iconst 0, 1), (59, .iastore, 1), (60, .iinc 1 1, 3), (63, .goto (-23), 3), (66, .iconst 0, 1), (67, .istore_n 1, 1), (68, .iload_n 1, 1), (69, .bipush 6, 2), (71, .if_icmp .ge 84, 3), (74, .aload_n 0, 1), (75, .getfield 151, 3), (78, .iload_n 1, 1), (79, .iconst 0, 1), (80, .iastore, 1), (81, .aload_n 0, 1), (82, .getfield 154, 3), (85, .iload_n 1, 1), (86, .iconst 0, 1), (87, .iastore, 1), (88, .aload_n 0, 1), (89, .getfield 157, 3), (92, .iload_n 1, 1), (93, .iconst 0, 1), (94, .iastore, 1), (95, .aload_n 0, 1), (96, .getfield 163, 3), (99, .iload_n 1, 1), (100, .iconst 0, 1), (101, .iastore, 1), (102, .aload_n 0, 1), (103, .getfield 166, 3), (106, .iload_n 1, 1), (107, .iconst 0, 1), (108, .iastore, 1), (109, .aload_n 0, 1), (110, .getfield 169, 3), (113, .iload_n 1, 1), (114, .iconst (-1), 1), (115, .iastore, 1), (116, .aload_n 0, 1), (117, .getfield 172, 3), (120, .iload_n 1, 1), (121, .iconst 0, 1), (122, .iastore, 1), (123, .iconst 0, 1), (124, .istore_n 2, 1), (125, .iload_n 2, 1), (126, .bipush 8, 2), (128, .if_icmp .ge 21, 3), (131, .aload_n 0, 1), (132, .getfield 160, 3), (135, .bipush 8, 2), (137, .iload_n 1, 1), (138, .imul, 1), (139, .iload_n 2, 1), (140, .iadd, 1), (141, .iconst 0, 1), (142, .iastore, 1), (143, .iinc 2 1, 3), (146, .goto (-21), 3), (149, .iinc 1 1, 3), (152, .goto (-84), 3), (155, .iconst 0, 1), (156, .istore_n 1, 1), (157, .iload_n 1, 1), (158, .aload_n 0, 1), (159, .getfield 461, 3), (162, .if_icmp .ge 42, 3), (165, .aload_n 0, 1), (166, .getfield 76, 3), (169, .iload_n 1, 1), (170, .baload, 1), (171, .ifCond .ne 27, 3), (174, .aload_n 0, 1), (175, .getfield 151, 3), (178, .iload_n 1, 1), (179, .iconst 1, 1), (180, .iastore, 1), (181, .aload_n 0, 1), (182, .getfield 154, 3), (185, .iload_n 1, 1), (186, .aload_n 0, 1), (187, .getfield 133, 3), (190, .iload_n 1, 1), (191, .iaload, 1), (192, .iastore, 1), (193, .aload_n 0, 1), (194, .iload_n 1, 1), (195, .invokevirtual 599, 3), (198, .iinc 1 1, 3), (201, .goto (-44), 3), (204, .return_, 1)] = true := by decide +kernel
set_option maxRecDepth 100000 in
set_option maxHeartbeats 4000000 in
theorem sg_setFirst_0 {G : mG} {d : Nat} {x : gd} {P : Option gv → gd → Prop} 
    (h : MT G (d + 1) z_setFirst 2 [(0, vr 0), (1, vi 0)] [] x P) :
    MT G (d + 1) z_setFirst 0 [(0, vr 0)] [] x P := by
  refine T_iconst (v := 0) (dk dt_setFirst 0 rfl) (by decide +kernel) ?_
  refine T_istore_n (lv2 := [(1, vi 0), (0, vr 0)]) (dk dt_setFirst 1 rfl) rfl (by decide) rfl ?_
  exact T_sub [1, 0] rfl h
set_option maxRecDepth 100000 in
set_option maxHeartbeats 4000000 in
theorem sg_setFirst_2 {G : mG} {d : Nat} {x : gd} {P : Option gv → gd → Prop} (l1 : Int32)
    (h : (((24 : Int32) ≤ l1 → MT G (d + 1) z_setFirst 40 [(0, vr 0), (1, vi 0)] [] x P) ∧ (¬ ((24 : Int32) ≤ l1) → (((x.1 0 23) ≤ l1 → vp_in l1 24 ∧ (∀ x4 : gd, x4 = si x 70 (l1 : Int32).toNatClampNeg 0 → MT G (d + 1) z_setFirst 2 [(0, vr 0), (1, vi (l1 + 1))] [] x4 P)) ∧ (¬ ((x.1 0 23) ≤ l1) → vp_in l1 24 ∧ vp_in l1 24 ∧ (∀ x7 : gd, x7 = si x 70 (l1 : Int32).toNatClampNeg (x.1 36 (l1 : Int32).toNatClampNeg) → MT G (d + 1) z_setFirst 2 [(0, vr 0), (1, vi (l1 + 1))] [] x7 P)))))) :
    MT G (d + 1) z_setFirst 2 [(0, vr 0), (1, vi l1)] [] x P := by
  refine T_iload_n 1 (dk dt_setFirst 2 rfl) rfl rfl ?_
  refine T_bipush (v := 24) (dk dt_setFirst 3 rfl) (by decide +kernel) ?_
  refine T_icmp_ge 38 (dk dt_setFirst 4 rfl) (by decide) (fun c1 => ?_) (fun c1 => ?_)
  · have h := h.1 c1
    refine T_iconst (v := 0) (dk dt_setFirst 21 rfl) (by decide +kernel) ?_
    refine T_istore_n (lv2 := [(1, vi 0), (0, vr 0)]) (dk dt_setFirst 22 rfl) rfl (by decide) rfl ?_
    exact T_sub [1, 0] rfl h
  · have h := h.2 c1
    refine T_aload_n 0 (dk dt_setFirst 5 rfl) rfl rfl ?_
    refine T_getR 0 69 70 (dk dt_setFirst 6 rfl) fl_142 mk_0 ml_0 (by decide) rfl rfl ?_
    refine T_iload_n 1 (dk dt_setFirst 7 rfl) rfl rfl ?_
    refine T_iload_n 1 (dk dt_setFirst 8 rfl) rfl rfl ?_
    refine T_aload_n 0 (dk dt_setFirst 9 rfl) rfl rfl ?_
    refine T_getI 0 23 (dk dt_setFirst 10 rfl) fl_448 mk_0 ml_0 (by decide) rfl ?_
    refine T_icmp_ge 30 (dk dt_setFirst 11 rfl) (by decide) (fun c2 => ?_) (fun c2 => ?_)
    · have h := h.1 c2
      refine T_iconst (v := 0) (dk dt_setFirst 17 rfl) (by decide +kernel) ?_
      obtain ⟨h3, h⟩ := h
      obtain ⟨x4, ex4⟩ : ∃ z, z = si x 70 (l1 : Int32).toNatClampNeg 0 := ⟨_, rfl⟩
      have h := h x4 ex4
      refine T_iast 70 24 (dk dt_setFirst 18 rfl) mk_70 ml_70 h3 ?_
      rw [← ex4]
      refine T_iinc (v := l1 + 1) (lv2 := [(1, vi (l1 + 1)), (0, vr 0)]) 1 (dk dt_setFirst 19 rfl) rfl rfl (by decide) rfl ?_
      refine T_goto 2 (dk dt_setFirst 20 rfl) (by decide) ?_
      exact T_sub [1, 0] rfl h
    · have h := h.2 c2
      refine T_aload_n 0 (dk dt_setFirst 12 rfl) rfl rfl ?_
      refine T_getR 0 35 36 (dk dt_setFirst 13 rfl) fl_70 mk_0 ml_0 (by decide) rfl rfl ?_
      refine T_iload_n 1 (dk dt_setFirst 14 rfl) rfl rfl ?_
      obtain ⟨h5, h⟩ := h
      refine T_iald 36 24 (dk dt_setFirst 15 rfl) mk_36 ml_36 h5 ?_
      refine T_goto 31 (dk dt_setFirst 16 rfl) (by decide) ?_
      obtain ⟨h6, h⟩ := h
      obtain ⟨x7, ex7⟩ : ∃ z, z = si x 70 (l1 : Int32).toNatClampNeg (x.1 36 (l1 : Int32).toNatClampNeg) := ⟨_, rfl⟩
      have h := h x7 ex7
      refine T_iast 70 24 (dk dt_setFirst 18 rfl) mk_70 ml_70 h6 ?_
      rw [← ex7]
      refine T_iinc (v := l1 + 1) (lv2 := [(1, vi (l1 + 1)), (0, vr 0)]) 1 (dk dt_setFirst 19 rfl) rfl rfl (by decide) rfl ?_
      refine T_goto 2 (dk dt_setFirst 20 rfl) (by decide) ?_
      exact T_sub [1, 0] rfl h
set_option maxRecDepth 100000 in
set_option maxHeartbeats 4000000 in
theorem sg_setFirst_40 {G : mG} {d : Nat} {x : gd} {P : Option gv → gd → Prop} (l1 : Int32)
    (h : (((6 : Int32) ≤ l1 → MT G (d + 1) z_setFirst 68 [(0, vr 0), (1, vi 0)] [] x P) ∧ (¬ ((6 : Int32) ≤ l1) → vp_in l1 6 ∧ (∀ x3 : gd, x3 = si x 71 (l1 : Int32).toNatClampNeg (-1) → vp_in l1 6 ∧ (∀ x5 : gd, x5 = si x3 72 (l1 : Int32).toNatClampNeg 0 → MT G (d + 1) z_setFirst 40 [(0, vr 0), (1, vi (l1 + 1))] [] x5 P))))) :
    MT G (d + 1) z_setFirst 40 [(0, vr 0), (1, vi l1)] [] x P := by
  refine T_iload_n 1 (dk dt_setFirst 23 rfl) rfl rfl ?_
  refine T_bipush (v := 6) (dk dt_setFirst 24 rfl) (by decide +kernel) ?_
  refine T_icmp_ge 66 (dk dt_setFirst 25 rfl) (by decide) (fun c1 => ?_) (fun c1 => ?_)
  · have h := h.1 c1
    refine T_iconst (v := 0) (dk dt_setFirst 38 rfl) (by decide +kernel) ?_
    refine T_istore_n (lv2 := [(1, vi 0), (0, vr 0)]) (dk dt_setFirst 39 rfl) rfl (by decide) rfl ?_
    exact T_sub [1, 0] rfl h
  · have h := h.2 c1
    refine T_aload_n 0 (dk dt_setFirst 26 rfl) rfl rfl ?_
    refine T_getR 0 70 71 (dk dt_setFirst 27 rfl) fl_145 mk_0 ml_0 (by decide) rfl rfl ?_
    refine T_iload_n 1 (dk dt_setFirst 28 rfl) rfl rfl ?_
    refine T_iconst (v := (-1)) (dk dt_setFirst 29 rfl) (by decide +kernel) ?_
    obtain ⟨h2, h⟩ := h
    obtain ⟨x3, ex3⟩ : ∃ z, z = si x 71 (l1 : Int32).toNatClampNeg (-1) := ⟨_, rfl⟩
    have h := h x3 ex3
    refine T_iast 71 6 (dk dt_setFirst 30 rfl) mk_71 ml_71 h2 ?_
    rw [← ex3]
    refine T_aload_n 0 (dk dt_setFirst 31 rfl) rfl rfl ?_
    refine T_getR 0 71 72 (dk dt_setFirst 32 rfl) fl_148 mk_0 ml_0 (by decide) rfl rfl ?_
    refine T_iload_n 1 (dk dt_setFirst 33 rfl) rfl rfl ?_
    refine T_iconst (v := 0) (dk dt_setFirst 34 rfl) (by decide +kernel) ?_
    obtain ⟨h4, h⟩ := h
    obtain ⟨x5, ex5⟩ : ∃ z, z = si x3 72 (l1 : Int32).toNatClampNeg 0 := ⟨_, rfl⟩
    have h := h x5 ex5
    refine T_iast 72 6 (dk dt_setFirst 35 rfl) mk_72 ml_72 h4 ?_
    rw [← ex5]
    refine T_iinc (v := l1 + 1) (lv2 := [(1, vi (l1 + 1)), (0, vr 0)]) 1 (dk dt_setFirst 36 rfl) rfl rfl (by decide) rfl ?_
    refine T_goto 40 (dk dt_setFirst 37 rfl) (by decide) ?_
    exact T_sub [1, 0] rfl h
set_option maxRecDepth 100000 in
set_option maxHeartbeats 4000000 in
theorem sg_setFirst_68 {G : mG} {d : Nat} {x : gd} {P : Option gv → gd → Prop} (l1 : Int32)
    (h : (((6 : Int32) ≤ l1 → MT G (d + 1) z_setFirst 157 [(0, vr 0), (1, vi 0)] [] x P) ∧ (¬ ((6 : Int32) ≤ l1) → vp_in l1 6 ∧ (∀ x3 : gd, x3 = si x 73 (l1 : Int32).toNatClampNeg 0 → vp_in l1 6 ∧ (∀ x5 : gd, x5 = si x3 74 (l1 : Int32).toNatClampNeg 0 → vp_in l1 6 ∧ (∀ x7 : gd, x7 = si x5 75 (l1 : Int32).toNatClampNeg 0 → vp_in l1 6 ∧ (∀ x9 : gd, x9 = si x7 77 (l1 : Int32).toNatClampNeg 0 → vp_in l1 6 ∧ (∀ x11 : gd, x11 = si x9 78 (l1 : Int32).toNatClampNeg 0 → vp_in l1 6 ∧ (∀ x13 : gd, x13 = si x11 79 (l1 : Int32).toNatClampNeg (-1) → vp_in l1 6 ∧ (∀ x15 : gd, x15 = si x13 80 (l1 : Int32).toNatClampNeg 0 → MT G (d + 1) z_setFirst 125 [(0, vr 0), (1, vi l1), (2, vi 0)] [] x15 P)))))))))) :
    MT G (d + 1) z_setFirst 68 [(0, vr 0), (1, vi l1)] [] x P := by
  refine T_iload_n 1 (dk dt_setFirst 40 rfl) rfl rfl ?_
  refine T_bipush (v := 6) (dk dt_setFirst 41 rfl) (by decide +kernel) ?_
  refine T_icmp_ge 155 (dk dt_setFirst 42 rfl) (by decide) (fun c1 => ?_) (fun c1 => ?_)
  · have h := h.1 c1
    refine T_iconst (v := 0) (dk dt_setFirst 96 rfl) (by decide +kernel) ?_
    refine T_istore_n (lv2 := [(1, vi 0), (0, vr 0)]) (dk dt_setFirst 97 rfl) rfl (by decide) rfl ?_
    exact T_sub [1, 0] rfl h
  · have h := h.2 c1
    refine T_aload_n 0 (dk dt_setFirst 43 rfl) rfl rfl ?_
    refine T_getR 0 72 73 (dk dt_setFirst 44 rfl) fl_151 mk_0 ml_0 (by decide) rfl rfl ?_
    refine T_iload_n 1 (dk dt_setFirst 45 rfl) rfl rfl ?_
    refine T_iconst (v := 0) (dk dt_setFirst 46 rfl) (by decide +kernel) ?_
    obtain ⟨h2, h⟩ := h
    obtain ⟨x3, ex3⟩ : ∃ z, z = si x 73 (l1 : Int32).toNatClampNeg 0 := ⟨_, rfl⟩
    have h := h x3 ex3
    refine T_iast 73 6 (dk dt_setFirst 47 rfl) mk_73 ml_73 h2 ?_
    rw [← ex3]
    refine T_aload_n 0 (dk dt_setFirst 48 rfl) rfl rfl ?_
    refine T_getR 0 73 74 (dk dt_setFirst 49 rfl) fl_154 mk_0 ml_0 (by decide) rfl rfl ?_
    refine T_iload_n 1 (dk dt_setFirst 50 rfl) rfl rfl ?_
    refine T_iconst (v := 0) (dk dt_setFirst 51 rfl) (by decide +kernel) ?_
    obtain ⟨h4, h⟩ := h
    obtain ⟨x5, ex5⟩ : ∃ z, z = si x3 74 (l1 : Int32).toNatClampNeg 0 := ⟨_, rfl⟩
    have h := h x5 ex5
    refine T_iast 74 6 (dk dt_setFirst 52 rfl) mk_74 ml_74 h4 ?_
    rw [← ex5]
    refine T_aload_n 0 (dk dt_setFirst 53 rfl) rfl rfl ?_
    refine T_getR 0 74 75 (dk dt_setFirst 54 rfl) fl_157 mk_0 ml_0 (by decide) rfl rfl ?_
    refine T_iload_n 1 (dk dt_setFirst 55 rfl) rfl rfl ?_
    refine T_iconst (v := 0) (dk dt_setFirst 56 rfl) (by decide +kernel) ?_
    obtain ⟨h6, h⟩ := h
    obtain ⟨x7, ex7⟩ : ∃ z, z = si x5 75 (l1 : Int32).toNatClampNeg 0 := ⟨_, rfl⟩
    have h := h x7 ex7
    refine T_iast 75 6 (dk dt_setFirst 57 rfl) mk_75 ml_75 h6 ?_
    rw [← ex7]
    refine T_aload_n 0 (dk dt_setFirst 58 rfl) rfl rfl ?_
    refine T_getR 0 76 77 (dk dt_setFirst 59 rfl) fl_163 mk_0 ml_0 (by decide) rfl rfl ?_
    refine T_iload_n 1 (dk dt_setFirst 60 rfl) rfl rfl ?_
    refine T_iconst (v := 0) (dk dt_setFirst 61 rfl) (by decide +kernel) ?_
    obtain ⟨h8, h⟩ := h
    obtain ⟨x9, ex9⟩ : ∃ z, z = si x7 77 (l1 : Int32).toNatClampNeg 0 := ⟨_, rfl⟩
    have h := h x9 ex9
    refine T_iast 77 6 (dk dt_setFirst 62 rfl) mk_77 ml_77 h8 ?_
    rw [← ex9]
    refine T_aload_n 0 (dk dt_setFirst 63 rfl) rfl rfl ?_
    refine T_getR 0 77 78 (dk dt_setFirst 64 rfl) fl_166 mk_0 ml_0 (by decide) rfl rfl ?_
    refine T_iload_n 1 (dk dt_setFirst 65 rfl) rfl rfl ?_
    refine T_iconst (v := 0) (dk dt_setFirst 66 rfl) (by decide +kernel) ?_
    obtain ⟨h10, h⟩ := h
    obtain ⟨x11, ex11⟩ : ∃ z, z = si x9 78 (l1 : Int32).toNatClampNeg 0 := ⟨_, rfl⟩
    have h := h x11 ex11
    refine T_iast 78 6 (dk dt_setFirst 67 rfl) mk_78 ml_78 h10 ?_
    rw [← ex11]
    refine T_aload_n 0 (dk dt_setFirst 68 rfl) rfl rfl ?_
    refine T_getR 0 78 79 (dk dt_setFirst 69 rfl) fl_169 mk_0 ml_0 (by decide) rfl rfl ?_
    refine T_iload_n 1 (dk dt_setFirst 70 rfl) rfl rfl ?_
    refine T_iconst (v := (-1)) (dk dt_setFirst 71 rfl) (by decide +kernel) ?_
    obtain ⟨h12, h⟩ := h
    obtain ⟨x13, ex13⟩ : ∃ z, z = si x11 79 (l1 : Int32).toNatClampNeg (-1) := ⟨_, rfl⟩
    have h := h x13 ex13
    refine T_iast 79 6 (dk dt_setFirst 72 rfl) mk_79 ml_79 h12 ?_
    rw [← ex13]
    refine T_aload_n 0 (dk dt_setFirst 73 rfl) rfl rfl ?_
    refine T_getR 0 79 80 (dk dt_setFirst 74 rfl) fl_172 mk_0 ml_0 (by decide) rfl rfl ?_
    refine T_iload_n 1 (dk dt_setFirst 75 rfl) rfl rfl ?_
    refine T_iconst (v := 0) (dk dt_setFirst 76 rfl) (by decide +kernel) ?_
    obtain ⟨h14, h⟩ := h
    obtain ⟨x15, ex15⟩ : ∃ z, z = si x13 80 (l1 : Int32).toNatClampNeg 0 := ⟨_, rfl⟩
    have h := h x15 ex15
    refine T_iast 80 6 (dk dt_setFirst 77 rfl) mk_80 ml_80 h14 ?_
    rw [← ex15]
    refine T_iconst (v := 0) (dk dt_setFirst 78 rfl) (by decide +kernel) ?_
    refine T_istore_n (lv2 := [(2, vi 0), (0, vr 0), (1, vi l1)]) (dk dt_setFirst 79 rfl) rfl (by decide) rfl ?_
    exact T_sub [1, 2, 0] rfl h
set_option maxRecDepth 100000 in
set_option maxHeartbeats 4000000 in
theorem sg_setFirst_125 {G : mG} {d : Nat} {x : gd} {P : Option gv → gd → Prop} (l1 : Int32) (l2 : Int32)
    (h : (((8 : Int32) ≤ l2 → MT G (d + 1) z_setFirst 68 [(0, vr 0), (1, vi (l1 + 1))] [] x P) ∧ (¬ ((8 : Int32) ≤ l2) → vp_in ((8 * l1) + l2) 48 ∧ (∀ x3 : gd, x3 = si x 76 ((8 * l1) + l2 : Int32).toNatClampNeg 0 → MT G (d + 1) z_setFirst 125 [(0, vr 0), (1, vi l1), (2, vi (l2 + 1))] [] x3 P)))) :
    MT G (d + 1) z_setFirst 125 [(0, vr 0), (1, vi l1), (2, vi l2)] [] x P := by
  refine T_iload_n 2 (dk dt_setFirst 80 rfl) rfl rfl ?_
  refine T_bipush (v := 8) (dk dt_setFirst 81 rfl) (by decide +kernel) ?_
  refine T_icmp_ge 149 (dk dt_setFirst 82 rfl) (by decide) (fun c1 => ?_) (fun c1 => ?_)
  · have h := h.1 c1
    refine T_iinc (v := l1 + 1) (lv2 := [(1, vi (l1 + 1)), (0, vr 0), (2, vi l2)]) 1 (dk dt_setFirst 94 rfl) rfl rfl (by decide) rfl ?_
    refine T_goto 68 (dk dt_setFirst 95 rfl) (by decide) ?_
    exact T_sub [1, 0] rfl h
  · have h := h.2 c1
    refine T_aload_n 0 (dk dt_setFirst 83 rfl) rfl rfl ?_
    refine T_getR 0 75 76 (dk dt_setFirst 84 rfl) fl_160 mk_0 ml_0 (by decide) rfl rfl ?_
    refine T_bipush (v := 8) (dk dt_setFirst 85 rfl) (by decide +kernel) ?_
    refine T_iload_n 1 (dk dt_setFirst 86 rfl) rfl rfl ?_
    refine T_imul (dk dt_setFirst 87 rfl) ?_
    refine T_iload_n 2 (dk dt_setFirst 88 rfl) rfl rfl ?_
    refine T_iadd (dk dt_setFirst 89 rfl) ?_
    refine T_iconst (v := 0) (dk dt_setFirst 90 rfl) (by decide +kernel) ?_
    obtain ⟨h2, h⟩ := h
    obtain ⟨x3, ex3⟩ : ∃ z, z = si x 76 ((8 * l1) + l2 : Int32).toNatClampNeg 0 := ⟨_, rfl⟩
    have h := h x3 ex3
    refine T_iast 76 48 (dk dt_setFirst 91 rfl) mk_76 ml_76 h2 ?_
    rw [← ex3]
    refine T_iinc (v := l2 + 1) (lv2 := [(2, vi (l2 + 1)), (0, vr 0), (1, vi l1)]) 2 (dk dt_setFirst 92 rfl) rfl rfl (by decide) rfl ?_
    refine T_goto 125 (dk dt_setFirst 93 rfl) (by decide) ?_
    exact T_sub [1, 2, 0] rfl h
set_option maxRecDepth 100000 in
set_option maxHeartbeats 4000000 in
theorem sg_setFirst_157 {G : mG} {d : Nat} {x : gd} {P : Option gv → gd → Prop} (l1 : Int32)
    (h : (((x.1 0 25) ≤ l1 → P none x) ∧ (¬ ((x.1 0 25) ≤ l1) → vp_in l1 6 ∧ ((¬ ((x.1 38 (l1 : Int32).toNatClampNeg) = (0 : Int32)) → MT G (d + 1) z_setFirst 157 [(0, vr 0), (1, vi (l1 + 1))] [] x P) ∧ ((x.1 38 (l1 : Int32).toNatClampNeg) = (0 : Int32) → vp_in l1 6 ∧ (∀ x5 : gd, x5 = si x 73 (l1 : Int32).toNatClampNeg 1 → vp_in l1 6 ∧ vp_in l1 6 ∧ (∀ x8 : gd, x8 = si x5 74 (l1 : Int32).toNatClampNeg (x5.1 64 (l1 : Int32).toNatClampNeg) → MT G d z_own 0 [(0, vr 0), (1, vi l1)] [] x8 (rv (fun x9 => MT G (d + 1) z_setFirst 157 [(0, vr 0), (1, vi (l1 + 1))] [] x9 P))))))))) :
    MT G (d + 1) z_setFirst 157 [(0, vr 0), (1, vi l1)] [] x P := by
  refine T_iload_n 1 (dk dt_setFirst 98 rfl) rfl rfl ?_
  refine T_aload_n 0 (dk dt_setFirst 99 rfl) rfl rfl ?_
  refine T_getI 0 25 (dk dt_setFirst 100 rfl) fl_461 mk_0 ml_0 (by decide) rfl ?_
  refine T_icmp_ge 204 (dk dt_setFirst 101 rfl) (by decide) (fun c1 => ?_) (fun c1 => ?_)
  · have h := h.1 c1
    exact MT_vret (dk dt_setFirst 125 rfl) rfl h
  · have h := h.2 c1
    refine T_aload_n 0 (dk dt_setFirst 102 rfl) rfl rfl ?_
    refine T_getR 0 37 38 (dk dt_setFirst 103 rfl) fl_76 mk_0 ml_0 (by decide) rfl rfl ?_
    refine T_iload_n 1 (dk dt_setFirst 104 rfl) rfl rfl ?_
    obtain ⟨h2, h⟩ := h
    refine T_zald 38 6 (dk dt_setFirst 105 rfl) mk_38 ml_38 h2 ?_
    refine T_if_ne 198 (dk dt_setFirst 106 rfl) (by decide) (fun c3 => ?_) (fun c3 => ?_)
    · have h := h.1 c3
      refine T_iinc (v := l1 + 1) (lv2 := [(1, vi (l1 + 1)), (0, vr 0)]) 1 (dk dt_setFirst 123 rfl) rfl rfl (by decide) rfl ?_
      refine T_goto 157 (dk dt_setFirst 124 rfl) (by decide) ?_
      exact T_sub [1, 0] rfl h
    · have h := h.2 c3
      refine T_aload_n 0 (dk dt_setFirst 107 rfl) rfl rfl ?_
      refine T_getR 0 72 73 (dk dt_setFirst 108 rfl) fl_151 mk_0 ml_0 (by decide) rfl rfl ?_
      refine T_iload_n 1 (dk dt_setFirst 109 rfl) rfl rfl ?_
      refine T_iconst (v := 1) (dk dt_setFirst 110 rfl) (by decide +kernel) ?_
      obtain ⟨h4, h⟩ := h
      obtain ⟨x5, ex5⟩ : ∃ z, z = si x 73 (l1 : Int32).toNatClampNeg 1 := ⟨_, rfl⟩
      have h := h x5 ex5
      refine T_iast 73 6 (dk dt_setFirst 111 rfl) mk_73 ml_73 h4 ?_
      rw [← ex5]
      refine T_aload_n 0 (dk dt_setFirst 112 rfl) rfl rfl ?_
      refine T_getR 0 73 74 (dk dt_setFirst 113 rfl) fl_154 mk_0 ml_0 (by decide) rfl rfl ?_
      refine T_iload_n 1 (dk dt_setFirst 114 rfl) rfl rfl ?_
      refine T_aload_n 0 (dk dt_setFirst 115 rfl) rfl rfl ?_
      refine T_getR 0 63 64 (dk dt_setFirst 116 rfl) fl_133 mk_0 ml_0 (by decide) rfl rfl ?_
      refine T_iload_n 1 (dk dt_setFirst 117 rfl) rfl rfl ?_
      obtain ⟨h6, h⟩ := h
      refine T_iald 64 6 (dk dt_setFirst 118 rfl) mk_64 ml_64 h6 ?_
      obtain ⟨h7, h⟩ := h
      obtain ⟨x8, ex8⟩ : ∃ z, z = si x5 74 (l1 : Int32).toNatClampNeg (x5.1 64 (l1 : Int32).toNatClampNeg) := ⟨_, rfl⟩
      have h := h x8 ex8
      refine T_iast 74 6 (dk dt_setFirst 119 rfl) mk_74 ml_74 h7 ?_
      rw [← ex8]
      refine T_aload_n 0 (dk dt_setFirst 120 rfl) rfl rfl ?_
      refine T_iload_n 1 (dk dt_setFirst 121 rfl) rfl rfl ?_
      refine MT_callVv [vi l1] [] rfl (dk dt_setFirst 122 rfl) cv_599 rfl rfl (Nat.le_of_ble_eq_true rfl) (Nat.le_of_ble_eq_true rfl) rfl rfl h (fun x9 h => ?_)
      refine T_iinc (v := l1 + 1) (lv2 := [(1, vi (l1 + 1)), (0, vr 0)]) 1 (dk dt_setFirst 123 rfl) rfl rfl (by decide) rfl ?_
      refine T_goto 157 (dk dt_setFirst 124 rfl) (by decide) ?_
      exact T_sub [1, 0] rfl h
set_option maxRecDepth 100000 in
theorem dt_isAtomic : dck cX12_isAtomic [(0, .iload_n 1, 1), (1, .iconst 2, 1), (2, .if_icmp .eq 13, 3), (5, .iload_n 1, 1), (6, .iconst 3, 1), (7, .if_icmp .eq 8, 3), (10, .iload_n 1, 1), (11, .iconst 4, 1), (12, .if_icmp .ne 7, 3), (15, .iconst 1, 1), (16, .goto 4, 3), (19, .iconst 0, 1), (20, .ireturn, 1)] = true := by decide +kernel
set_option maxRecDepth 100000 in
set_option maxHeartbeats 4000000 in
theorem sg_isAtomic_0 {G : mG} {d : Nat} {x : gd} {P : Option gv → gd → Prop} (l1 : Int32)
    (h : ((l1 = (2 : Int32) → P (some (vi 1)) x) ∧ (¬ (l1 = (2 : Int32)) → ((l1 = (3 : Int32) → P (some (vi 1)) x) ∧ (¬ (l1 = (3 : Int32)) → ((¬ (l1 = (4 : Int32)) → P (some (vi 0)) x) ∧ (l1 = (4 : Int32) → P (some (vi 1)) x))))))) :
    MT G d z_isAtomic 0 [(0, vr 0), (1, vi l1)] [] x P := by
  refine T_iload_n 1 (dk dt_isAtomic 0 rfl) rfl rfl ?_
  refine T_iconst (v := 2) (dk dt_isAtomic 1 rfl) (by decide +kernel) ?_
  refine T_icmp_eq 15 (dk dt_isAtomic 2 rfl) (by decide) (fun c1 => ?_) (fun c1 => ?_)
  · have h := h.1 c1
    refine T_iconst (v := 1) (dk dt_isAtomic 9 rfl) (by decide +kernel) ?_
    refine T_goto 20 (dk dt_isAtomic 10 rfl) (by decide) ?_
    exact MT_iret (dk dt_isAtomic 12 rfl) rfl rfl h
  · have h := h.2 c1
    refine T_iload_n 1 (dk dt_isAtomic 3 rfl) rfl rfl ?_
    refine T_iconst (v := 3) (dk dt_isAtomic 4 rfl) (by decide +kernel) ?_
    refine T_icmp_eq 15 (dk dt_isAtomic 5 rfl) (by decide) (fun c2 => ?_) (fun c2 => ?_)
    · have h := h.1 c2
      refine T_iconst (v := 1) (dk dt_isAtomic 9 rfl) (by decide +kernel) ?_
      refine T_goto 20 (dk dt_isAtomic 10 rfl) (by decide) ?_
      exact MT_iret (dk dt_isAtomic 12 rfl) rfl rfl h
    · have h := h.2 c2
      refine T_iload_n 1 (dk dt_isAtomic 6 rfl) rfl rfl ?_
      refine T_iconst (v := 4) (dk dt_isAtomic 7 rfl) (by decide +kernel) ?_
      refine T_icmp_ne 19 (dk dt_isAtomic 8 rfl) (by decide) (fun c3 => ?_) (fun c3 => ?_)
      · have h := h.1 c3
        refine T_iconst (v := 0) (dk dt_isAtomic 11 rfl) (by decide +kernel) ?_
        exact MT_iret (dk dt_isAtomic 12 rfl) rfl rfl h
      · have h := h.2 c3
        refine T_iconst (v := 1) (dk dt_isAtomic 9 rfl) (by decide +kernel) ?_
        refine T_goto 20 (dk dt_isAtomic 10 rfl) (by decide) ?_
        exact MT_iret (dk dt_isAtomic 12 rfl) rfl rfl h
set_option maxRecDepth 100000 in
theorem dt_isAccess : dck cX12_isAccess [(0, .iload_n 1, 1), (1, .ifCond .eq 23, 3), (4, .iload_n 1, 1), (5, .iconst 1, 1), (6, .if_icmp .eq 18, 3), (9, .iload_n 1, 1), (10, .iconst 2, 1), (11, .if_icmp .eq 13, 3), (14, .iload_n 1, 1), (15, .iconst 3, 1), (16, .if_icmp .eq 8, 3), (19, .iload_n 1, 1), (20, .iconst 4, 1), (21, .if_icmp .ne 7, 3), (24, .iconst 1, 1), (25, .goto 4, 3), (28, .iconst 0, 1), (29, .ireturn, 1)] = true := by decide +kernel
set_option maxRecDepth 100000 in
set_option maxHeartbeats 4000000 in
theorem sg_isAccess_0 {G : mG} {d : Nat} {x : gd} {P : Option gv → gd → Prop} (l1 : Int32)
    (h : ((l1 = (0 : Int32) → P (some (vi 1)) x) ∧ (¬ (l1 = (0 : Int32)) → ((l1 = (1 : Int32) → P (some (vi 1)) x) ∧ (¬ (l1 = (1 : Int32)) → ((l1 = (2 : Int32) → P (some (vi 1)) x) ∧ (¬ (l1 = (2 : Int32)) → ((l1 = (3 : Int32) → P (some (vi 1)) x) ∧ (¬ (l1 = (3 : Int32)) → ((¬ (l1 = (4 : Int32)) → P (some (vi 0)) x) ∧ (l1 = (4 : Int32) → P (some (vi 1)) x))))))))))) :
    MT G d z_isAccess 0 [(0, vr 0), (1, vi l1)] [] x P := by
  refine T_iload_n 1 (dk dt_isAccess 0 rfl) rfl rfl ?_
  refine T_if_eq 24 (dk dt_isAccess 1 rfl) (by decide) (fun c1 => ?_) (fun c1 => ?_)
  · have h := h.1 c1
    refine T_iconst (v := 1) (dk dt_isAccess 14 rfl) (by decide +kernel) ?_
    refine T_goto 29 (dk dt_isAccess 15 rfl) (by decide) ?_
    exact MT_iret (dk dt_isAccess 17 rfl) rfl rfl h
  · have h := h.2 c1
    refine T_iload_n 1 (dk dt_isAccess 2 rfl) rfl rfl ?_
    refine T_iconst (v := 1) (dk dt_isAccess 3 rfl) (by decide +kernel) ?_
    refine T_icmp_eq 24 (dk dt_isAccess 4 rfl) (by decide) (fun c2 => ?_) (fun c2 => ?_)
    · have h := h.1 c2
      refine T_iconst (v := 1) (dk dt_isAccess 14 rfl) (by decide +kernel) ?_
      refine T_goto 29 (dk dt_isAccess 15 rfl) (by decide) ?_
      exact MT_iret (dk dt_isAccess 17 rfl) rfl rfl h
    · have h := h.2 c2
      refine T_iload_n 1 (dk dt_isAccess 5 rfl) rfl rfl ?_
      refine T_iconst (v := 2) (dk dt_isAccess 6 rfl) (by decide +kernel) ?_
      refine T_icmp_eq 24 (dk dt_isAccess 7 rfl) (by decide) (fun c3 => ?_) (fun c3 => ?_)
      · have h := h.1 c3
        refine T_iconst (v := 1) (dk dt_isAccess 14 rfl) (by decide +kernel) ?_
        refine T_goto 29 (dk dt_isAccess 15 rfl) (by decide) ?_
        exact MT_iret (dk dt_isAccess 17 rfl) rfl rfl h
      · have h := h.2 c3
        refine T_iload_n 1 (dk dt_isAccess 8 rfl) rfl rfl ?_
        refine T_iconst (v := 3) (dk dt_isAccess 9 rfl) (by decide +kernel) ?_
        refine T_icmp_eq 24 (dk dt_isAccess 10 rfl) (by decide) (fun c4 => ?_) (fun c4 => ?_)
        · have h := h.1 c4
          refine T_iconst (v := 1) (dk dt_isAccess 14 rfl) (by decide +kernel) ?_
          refine T_goto 29 (dk dt_isAccess 15 rfl) (by decide) ?_
          exact MT_iret (dk dt_isAccess 17 rfl) rfl rfl h
        · have h := h.2 c4
          refine T_iload_n 1 (dk dt_isAccess 11 rfl) rfl rfl ?_
          refine T_iconst (v := 4) (dk dt_isAccess 12 rfl) (by decide +kernel) ?_
          refine T_icmp_ne 28 (dk dt_isAccess 13 rfl) (by decide) (fun c5 => ?_) (fun c5 => ?_)
          · have h := h.1 c5
            refine T_iconst (v := 0) (dk dt_isAccess 16 rfl) (by decide +kernel) ?_
            exact MT_iret (dk dt_isAccess 17 rfl) rfl rfl h
          · have h := h.2 c5
            refine T_iconst (v := 1) (dk dt_isAccess 14 rfl) (by decide +kernel) ?_
            refine T_goto 29 (dk dt_isAccess 15 rfl) (by decide) ?_
            exact MT_iret (dk dt_isAccess 17 rfl) rfl rfl h
set_option maxRecDepth 100000 in
theorem dt_sortOf : dck cX12_sortOf [(0, .aload_n 0, 1), (1, .getfield 163, 3), (4, .iload_n 1, 1), (5, .iaload, 1), (6, .iconst 2, 1), (7, .if_icmp .ne 8, 3), (10, .bipush 15, 2), (12, .goto 14, 3), (15, .aload_n 0, 1), (16, .getfield 106, 3), (19, .aload_n 0, 1), (20, .getfield 154, 3), (23, .iload_n 1, 1), (24, .iaload, 1), (25, .iaload, 1), (26, .ireturn, 1)] = true := by decide +kernel
set_option maxRecDepth 100000 in
set_option maxHeartbeats 4000000 in
theorem sg_sortOf_0 {G : mG} {d : Nat} {x : gd} {P : Option gv → gd → Prop} (l1 : Int32)
    (h : vp_in l1 6 ∧ ((¬ ((x.1 77 (l1 : Int32).toNatClampNeg) = (2 : Int32)) → vp_in l1 6 ∧ vp_in (x.1 74 (l1 : Int32).toNatClampNeg) 1500 ∧ P (some (vi (x.1 55 (x.1 74 (l1 : Int32).toNatClampNeg : Int32).toNatClampNeg))) x) ∧ ((x.1 77 (l1 : Int32).toNatClampNeg) = (2 : Int32) → P (some (vi 15)) x))) :
    MT G d z_sortOf 0 [(0, vr 0), (1, vi l1)] [] x P := by
  refine T_aload_n 0 (dk dt_sortOf 0 rfl) rfl rfl ?_
  refine T_getR 0 76 77 (dk dt_sortOf 1 rfl) fl_163 mk_0 ml_0 (by decide) rfl rfl ?_
  refine T_iload_n 1 (dk dt_sortOf 2 rfl) rfl rfl ?_
  obtain ⟨h1, h⟩ := h
  refine T_iald 77 6 (dk dt_sortOf 3 rfl) mk_77 ml_77 h1 ?_
  refine T_iconst (v := 2) (dk dt_sortOf 4 rfl) (by decide +kernel) ?_
  refine T_icmp_ne 15 (dk dt_sortOf 5 rfl) (by decide) (fun c2 => ?_) (fun c2 => ?_)
  · have h := h.1 c2
    refine T_aload_n 0 (dk dt_sortOf 8 rfl) rfl rfl ?_
    refine T_getR 0 54 55 (dk dt_sortOf 9 rfl) fl_106 mk_0 ml_0 (by decide) rfl rfl ?_
    refine T_aload_n 0 (dk dt_sortOf 10 rfl) rfl rfl ?_
    refine T_getR 0 73 74 (dk dt_sortOf 11 rfl) fl_154 mk_0 ml_0 (by decide) rfl rfl ?_
    refine T_iload_n 1 (dk dt_sortOf 12 rfl) rfl rfl ?_
    obtain ⟨h3, h⟩ := h
    refine T_iald 74 6 (dk dt_sortOf 13 rfl) mk_74 ml_74 h3 ?_
    obtain ⟨h4, h⟩ := h
    refine T_iald 55 1500 (dk dt_sortOf 14 rfl) mk_55 ml_55 h4 ?_
    exact MT_iret (dk dt_sortOf 15 rfl) rfl rfl h
  · have h := h.2 c2
    refine T_bipush (v := 15) (dk dt_sortOf 6 rfl) (by decide +kernel) ?_
    refine T_goto 26 (dk dt_sortOf 7 rfl) (by decide) ?_
    exact MT_iret (dk dt_sortOf 15 rfl) rfl rfl h
set_option maxRecDepth 100000 in
theorem dt_hasAct : dck cX12_hasAct [(0, .aload_n 0, 1), (1, .getfield 151, 3), (4, .iload_n 1, 1), (5, .iaload, 1), (6, .iconst 1, 1), (7, .if_icmp .ne 13, 3), (10, .aload_n 0, 1), (11, .getfield 163, 3), (14, .iload_n 1, 1), (15, .iaload, 1), (16, .iconst 1, 1), (17, .if_icmp .ne 5, 3), (20, .iconst 0, 1), (21, .ireturn, 1), (22, .aload_n 0, 1), (23, .getfield 154, 3), (26, .iload_n 1, 1), (27, .iaload, 1), (28, .istore_n 2, 1), (29, .aload_n 0, 1), (30, .iload_n 1, 1), (31, .invokevirtual 602, 3), (34, .istore_n 3, 1), (35, .aload_n 0, 1), (36, .iload_n 3, 1), (37, .invokevirtual 605, 3), (40, .ifCond .eq 21, 3), (43, .aload_n 0, 1), (44, .getfield 73, 3), (47, .aload_n 0, 1), (48, .getfield 109, 3), (51, .iload_n 2, 1), (52, .iaload, 1), (53, .baload, 1), (54, .ifCond .eq 7, 3), (57, .iconst 1, 1), (58, .goto 4, 3), (61, .iconst 0, 1), (62, .istore 4, 2), (64, .aload_n 0, 1), (65, .getfield 608, 3), (68, .ifCond .eq 12, 3), (71, .aload_n 0, 1), (72, .getfield 172, 3), (75, .iload_n 1, 1), (76, .iaload, 1), (77, .ifCond .ne 7, 3), (80, .iconst 1, 1), (81, .goto 4, 3), (84, .iconst 0, 1), (85, .istore 5, 2), (87, .iload_n 3, 1), (88, .ifCond .eq 35, 3), (91, .iload_n 3, 1), (92, .bipush 12, 2), (94, .if_icmp .eq 29, 3), (97, .iload_n 3, 1), (98, .bipush 13, 2), (100, .if_icmp .eq 23, 3), (103, .iload_n 3, 1), (104, .bipush 14, 2), (106, .if_icmp .eq 17, 3), (109, .iload_n 3, 1), (110, .iconst 1, 1), (111, .if_icmp .ne 8, 3), (114, .iload 4, 2), (116, .ifCond .eq 7, 3), (119, .iconst 1, 1), (120, .goto 4, 3), (123, .iconst 0, 1), (124, .istore 6, 2), (126, .iload 6, 2), (128, .ifCond .eq 10, 3), (131, .iload 5, 2), (133, .ifCond .ne 5, 3), (136, .iconst 0, 1), (137, .ireturn, 1), (138, .iload_n 3, 1), (139, .iconst 5, 1), (140, .if_icmp .eq 9, 3), (143, .iload_n 3, 1), (144, .bipush 15, 2), (146, .if_icmp .ne 39, 3), (149, .aload_n 0, 1), (150, .getfield 145, 3), (153, .aload_n 0, 1), (154, .getfield 109, 3), (157, .iload_n 2, 1), (158, .iaload, 1), (159, .iaload, 1), (160, .iconst (-1), 1), (161, .if_icmp .eq 18, 3), (164, .aload_n 0, 1), (165, .getfield 145, 3), (168, .aload_n 0, 1), (169, .getfield 109, 3), (172, .iload_n 2, 1), (173, .iaload, 1), (174, .iaload, 1), (175, .iload_n 1, 1), (176, .if_icmp .ne 7, 3), (179, .iconst 1, 1), (180, .goto 4, 3), (183, .iconst 0, 1), (184, .ireturn, 1), (185, .iload_n 3, 1), (186, .bipush 10, 2), (188, .if_icmp .ne 44, 3), (191, .aload_n 0, 1), (192, .getfield 109, 3), (195, .iload_n 2, 1), (196, .iaload, 1), (197, .istore 7, 2), (199, .iload 7, 2), (201, .iload_n 1, 1), (202, .if_icmp .eq 28, 3), (205, .aload_n 0, 1), (206, .getfield 151, 3), (209, .iload 7, 2), (211, .iaload, 1), (212, .iconst 1, 1), (213, .if_icmp .le 17, 3), (216, .aload_n 0, 1), (217, .getfield 172, 3), (220, .iload 7, 2), (222, .iaload, 1), (223, .ifCond .ne 7, 3), (226, .iconst 1, 1), (227, .goto 4, 3), (230, .iconst 0, 1), (231, .ireturn, 1), (232, .iconst 1, 1), (233, .ireturn, 1)] = true := by decide +kernel
set_option maxRecDepth 100000 in
set_option maxHeartbeats 4000000 in
theorem sg_hasAct_0 {G : mG} {d : Nat} {x : gd} {P : Option gv → gd → Prop} (l1 : Int32)
    (h : vp_in l1 6 ∧ ((¬ ((x.1 73 (l1 : Int32).toNatClampNeg) = (1 : Int32)) → P (some (vi 0)) x) ∧ ((x.1 73 (l1 : Int32).toNatClampNeg) = (1 : Int32) → vp_in l1 6 ∧ ((¬ ((x.1 77 (l1 : Int32).toNatClampNeg) = (1 : Int32)) → vp_in l1 6 ∧ MT G d z_sortOf 0 [(0, vr 0), (1, vi l1)] [] x (ri (fun r7 x6 => MT G d z_isAccess 0 [(0, vr 0), (1, vi r7)] [] x6 (ri (fun r9 x8 => ((r9 = (0 : Int32) → MT G (d + 1) z_hasAct 62 [(0, vr 0), (1, vi l1), (2, vi (x.1 74 (l1 : Int32).toNatClampNeg)), (3, vi r7)] [vi 0] x8 P) ∧ (¬ (r9 = (0 : Int32)) → vp_in (x.1 74 (l1 : Int32).toNatClampNeg) 1500 ∧ vp_in (x8.1 56 (x.1 74 (l1 : Int32).toNatClampNeg : Int32).toNatClampNeg) 24 ∧ (((x8.1 37 (x8.1 56 (x.1 74 (l1 : Int32).toNatClampNeg : Int32).toNatClampNeg : Int32).toNatClampNeg) = (0 : Int32) → MT G (d + 1) z_hasAct 62 [(0, vr 0), (1, vi l1), (2, vi (x.1 74 (l1 : Int32).toNatClampNeg)), (3, vi r7)] [vi 0] x8 P) ∧ (¬ ((x8.1 37 (x8.1 56 (x.1 74 (l1 : Int32).toNatClampNeg : Int32).toNatClampNeg : Int32).toNatClampNeg) = (0 : Int32)) → MT G (d + 1) z_hasAct 62 [(0, vr 0), (1, vi l1), (2, vi (x.1 74 (l1 : Int32).toNatClampNeg)), (3, vi r7)] [vi 1] x8 P))))))))) ∧ ((x.1 77 (l1 : Int32).toNatClampNeg) = (1 : Int32) → P (some (vi 0)) x))))) :
    MT G (d + 1) z_hasAct 0 [(0, vr 0), (1, vi l1)] [] x P := by
  refine T_aload_n 0 (dk dt_hasAct 0 rfl) rfl rfl ?_
  refine T_getR 0 72 73 (dk dt_hasAct 1 rfl) fl_151 mk_0 ml_0 (by decide) rfl rfl ?_
  refine T_iload_n 1 (dk dt_hasAct 2 rfl) rfl rfl ?_
  obtain ⟨h1, h⟩ := h
  refine T_iald 73 6 (dk dt_hasAct 3 rfl) mk_73 ml_73 h1 ?_
  refine T_iconst (v := 1) (dk dt_hasAct 4 rfl) (by decide +kernel) ?_
  refine T_icmp_ne 20 (dk dt_hasAct 5 rfl) (by decide) (fun c2 => ?_) (fun c2 => ?_)
  · have h := h.1 c2
    refine T_iconst (v := 0) (dk dt_hasAct 12 rfl) (by decide +kernel) ?_
    exact MT_iret (dk dt_hasAct 13 rfl) rfl rfl h
  · have h := h.2 c2
    refine T_aload_n 0 (dk dt_hasAct 6 rfl) rfl rfl ?_
    refine T_getR 0 76 77 (dk dt_hasAct 7 rfl) fl_163 mk_0 ml_0 (by decide) rfl rfl ?_
    refine T_iload_n 1 (dk dt_hasAct 8 rfl) rfl rfl ?_
    obtain ⟨h3, h⟩ := h
    refine T_iald 77 6 (dk dt_hasAct 9 rfl) mk_77 ml_77 h3 ?_
    refine T_iconst (v := 1) (dk dt_hasAct 10 rfl) (by decide +kernel) ?_
    refine T_icmp_ne 22 (dk dt_hasAct 11 rfl) (by decide) (fun c4 => ?_) (fun c4 => ?_)
    · have h := h.1 c4
      refine T_aload_n 0 (dk dt_hasAct 14 rfl) rfl rfl ?_
      refine T_getR 0 73 74 (dk dt_hasAct 15 rfl) fl_154 mk_0 ml_0 (by decide) rfl rfl ?_
      refine T_iload_n 1 (dk dt_hasAct 16 rfl) rfl rfl ?_
      obtain ⟨h5, h⟩ := h
      refine T_iald 74 6 (dk dt_hasAct 17 rfl) mk_74 ml_74 h5 ?_
      refine T_istore_n (lv2 := [(2, vi (x.1 74 (l1 : Int32).toNatClampNeg)), (0, vr 0), (1, vi l1)]) (dk dt_hasAct 18 rfl) rfl (by decide) rfl ?_
      refine T_aload_n 1 (dk dt_hasAct 19 rfl) rfl rfl ?_
      refine T_iload_n 2 (dk dt_hasAct 20 rfl) rfl rfl ?_
      refine MT_callVi [vi l1] [] rfl (dk dt_hasAct 21 rfl) cv_602 rfl rfl (Nat.le_of_ble_eq_true rfl) (Nat.le_of_ble_eq_true rfl) rfl rfl h (fun r7 x6 h => ?_)
      refine T_istore_n (lv2 := [(3, vi r7), (2, vi (x.1 74 (l1 : Int32).toNatClampNeg)), (0, vr 0), (1, vi l1)]) (dk dt_hasAct 22 rfl) rfl (by decide) rfl ?_
      refine T_aload_n 2 (dk dt_hasAct 23 rfl) rfl rfl ?_
      refine T_iload_n 0 (dk dt_hasAct 24 rfl) rfl rfl ?_
      refine MT_callVi [vi r7] [] rfl (dk dt_hasAct 25 rfl) cv_605 rfl rfl (Nat.le_of_ble_eq_true rfl) (Nat.le_of_ble_eq_true rfl) rfl rfl h (fun r9 x8 h => ?_)
      refine T_if_eq 61 (dk dt_hasAct 26 rfl) (by decide) (fun c10 => ?_) (fun c10 => ?_)
      · have h := h.1 c10
        refine T_iconst (v := 0) (dk dt_hasAct 37 rfl) (by decide +kernel) ?_
        exact T_sub [2, 3, 1, 0] rfl h
      · have h := h.2 c10
        refine T_aload_n 2 (dk dt_hasAct 27 rfl) rfl rfl ?_
        refine T_getR 0 36 37 (dk dt_hasAct 28 rfl) fl_73 mk_0 ml_0 (by decide) rfl rfl ?_
        refine T_aload_n 2 (dk dt_hasAct 29 rfl) rfl rfl ?_
        refine T_getR 0 55 56 (dk dt_hasAct 30 rfl) fl_109 mk_0 ml_0 (by decide) rfl rfl ?_
        refine T_iload_n 1 (dk dt_hasAct 31 rfl) rfl rfl ?_
        obtain ⟨h11, h⟩ := h
        refine T_iald 56 1500 (dk dt_hasAct 32 rfl) mk_56 ml_56 h11 ?_
        obtain ⟨h12, h⟩ := h
        refine T_zald 37 24 (dk dt_hasAct 33 rfl) mk_37 ml_37 h12 ?_
        refine T_if_eq 61 (dk dt_hasAct 34 rfl) (by decide) (fun c13 => ?_) (fun c13 => ?_)
        · have h := h.1 c13
          refine T_iconst (v := 0) (dk dt_hasAct 37 rfl) (by decide +kernel) ?_
          exact T_sub [2, 3, 1, 0] rfl h
        · have h := h.2 c13
          refine T_iconst (v := 1) (dk dt_hasAct 35 rfl) (by decide +kernel) ?_
          refine T_goto 62 (dk dt_hasAct 36 rfl) (by decide) ?_
          exact T_sub [2, 3, 1, 0] rfl h
    · have h := h.2 c4
      refine T_iconst (v := 0) (dk dt_hasAct 12 rfl) (by decide +kernel) ?_
      exact MT_iret (dk dt_hasAct 13 rfl) rfl rfl h
set_option maxRecDepth 100000 in
set_option maxHeartbeats 4000000 in
theorem sg_hasAct_62 {G : mG} {d : Nat} {x : gd} {P : Option gv → gd → Prop} (l1 : Int32) (l2 : Int32) (l3 : Int32) (s0 : Int32)
    (h : (((x.1 0 68) = (0 : Int32) → MT G (d + 1) z_hasAct 85 [(0, vr 0), (1, vi l1), (2, vi l2), (3, vi l3), (4, vi s0)] [vi 1] x P) ∧ (¬ ((x.1 0 68) = (0 : Int32)) → vp_in l1 6 ∧ ((¬ ((x.1 80 (l1 : Int32).toNatClampNeg) = (0 : Int32)) → MT G (d + 1) z_hasAct 85 [(0, vr 0), (1, vi l1), (2, vi l2), (3, vi l3), (4, vi s0)] [vi 0] x P) ∧ ((x.1 80 (l1 : Int32).toNatClampNeg) = (0 : Int32) → MT G (d + 1) z_hasAct 85 [(0, vr 0), (1, vi l1), (2, vi l2), (3, vi l3), (4, vi s0)] [vi 1] x P))))) :
    MT G (d + 1) z_hasAct 62 [(0, vr 0), (1, vi l1), (2, vi l2), (3, vi l3)] [vi s0] x P := by
  refine T_istore (lv2 := [(4, vi s0), (0, vr 0), (1, vi l1), (2, vi l2), (3, vi l3)]) (dk dt_hasAct 38 rfl) (by decide) rfl ?_
  refine T_aload_n 1 (dk dt_hasAct 39 rfl) rfl rfl ?_
  refine T_getI 0 68 (dk dt_hasAct 40 rfl) fl_608 mk_0 ml_0 (by decide) rfl ?_
  refine T_if_eq 80 (dk dt_hasAct 41 rfl) (by decide) (fun c1 => ?_) (fun c1 => ?_)
  · have h := h.1 c1
    refine T_iconst (v := 1) (dk dt_hasAct 47 rfl) (by decide +kernel) ?_
    refine T_goto 85 (dk dt_hasAct 48 rfl) (by decide) ?_
    exact T_sub [1, 2, 3, 4, 0] rfl h
  · have h := h.2 c1
    refine T_aload_n 1 (dk dt_hasAct 42 rfl) rfl rfl ?_
    refine T_getR 0 79 80 (dk dt_hasAct 43 rfl) fl_172 mk_0 ml_0 (by decide) rfl rfl ?_
    refine T_iload_n 2 (dk dt_hasAct 44 rfl) rfl rfl ?_
    obtain ⟨h2, h⟩ := h
    refine T_iald 80 6 (dk dt_hasAct 45 rfl) mk_80 ml_80 h2 ?_
    refine T_if_ne 84 (dk dt_hasAct 46 rfl) (by decide) (fun c3 => ?_) (fun c3 => ?_)
    · have h := h.1 c3
      refine T_iconst (v := 0) (dk dt_hasAct 49 rfl) (by decide +kernel) ?_
      exact T_sub [1, 2, 3, 4, 0] rfl h
    · have h := h.2 c3
      refine T_iconst (v := 1) (dk dt_hasAct 47 rfl) (by decide +kernel) ?_
      refine T_goto 85 (dk dt_hasAct 48 rfl) (by decide) ?_
      exact T_sub [1, 2, 3, 4, 0] rfl h
set_option maxRecDepth 100000 in
set_option maxHeartbeats 4000000 in
theorem sg_hasAct_85 {G : mG} {d : Nat} {x : gd} {P : Option gv → gd → Prop} (l1 : Int32) (l2 : Int32) (l3 : Int32) (l4 : Int32) (s0 : Int32)
    (h : ((l3 = (0 : Int32) → MT G (d + 1) z_hasAct 124 [(0, vr 0), (1, vi l1), (2, vi l2), (3, vi l3), (5, vi s0)] [vi 0] x P) ∧ (¬ (l3 = (0 : Int32)) → ((l3 = (12 : Int32) → MT G (d + 1) z_hasAct 124 [(0, vr 0), (1, vi l1), (2, vi l2), (3, vi l3), (5, vi s0)] [vi 0] x P) ∧ (¬ (l3 = (12 : Int32)) → ((l3 = (13 : Int32) → MT G (d + 1) z_hasAct 124 [(0, vr 0), (1, vi l1), (2, vi l2), (3, vi l3), (5, vi s0)] [vi 0] x P) ∧ (¬ (l3 = (13 : Int32)) → ((l3 = (14 : Int32) → MT G (d + 1) z_hasAct 124 [(0, vr 0), (1, vi l1), (2, vi l2), (3, vi l3), (5, vi s0)] [vi 0] x P) ∧ (¬ (l3 = (14 : Int32)) → ((¬ (l3 = (1 : Int32)) → MT G (d + 1) z_hasAct 124 [(0, vr 0), (1, vi l1), (2, vi l2), (3, vi l3), (5, vi s0)] [vi 1] x P) ∧ (l3 = (1 : Int32) → ((l4 = (0 : Int32) → MT G (d + 1) z_hasAct 124 [(0, vr 0), (1, vi l1), (2, vi l2), (3, vi l3), (5, vi s0)] [vi 0] x P) ∧ (¬ (l4 = (0 : Int32)) → MT G (d + 1) z_hasAct 124 [(0, vr 0), (1, vi l1), (2, vi l2), (3, vi l3), (5, vi s0)] [vi 1] x P))))))))))))) :
    MT G (d + 1) z_hasAct 85 [(0, vr 0), (1, vi l1), (2, vi l2), (3, vi l3), (4, vi l4)] [vi s0] x P := by
  refine T_istore (lv2 := [(5, vi s0), (0, vr 0), (1, vi l1), (2, vi l2), (3, vi l3), (4, vi l4)]) (dk dt_hasAct 50 rfl) (by decide) rfl ?_
  refine T_iload_n 4 (dk dt_hasAct 51 rfl) rfl rfl ?_
  refine T_if_eq 123 (dk dt_hasAct 52 rfl) (by decide) (fun c1 => ?_) (fun c1 => ?_)
  · have h := h.1 c1
    refine T_iconst (v := 0) (dk dt_hasAct 69 rfl) (by decide +kernel) ?_
    exact T_sub [1, 2, 3, 4, 0] rfl h
  · have h := h.2 c1
    refine T_iload_n 4 (dk dt_hasAct 53 rfl) rfl rfl ?_
    refine T_bipush (v := 12) (dk dt_hasAct 54 rfl) (by decide +kernel) ?_
    refine T_icmp_eq 123 (dk dt_hasAct 55 rfl) (by decide) (fun c2 => ?_) (fun c2 => ?_)
    · have h := h.1 c2
      refine T_iconst (v := 0) (dk dt_hasAct 69 rfl) (by decide +kernel) ?_
      exact T_sub [1, 2, 3, 4, 0] rfl h
    · have h := h.2 c2
      refine T_iload_n 4 (dk dt_hasAct 56 rfl) rfl rfl ?_
      refine T_bipush (v := 13) (dk dt_hasAct 57 rfl) (by decide +kernel) ?_
      refine T_icmp_eq 123 (dk dt_hasAct 58 rfl) (by decide) (fun c3 => ?_) (fun c3 => ?_)
      · have h := h.1 c3
        refine T_iconst (v := 0) (dk dt_hasAct 69 rfl) (by decide +kernel) ?_
        exact T_sub [1, 2, 3, 4, 0] rfl h
      · have h := h.2 c3
        refine T_iload_n 4 (dk dt_hasAct 59 rfl) rfl rfl ?_
        refine T_bipush (v := 14) (dk dt_hasAct 60 rfl) (by decide +kernel) ?_
        refine T_icmp_eq 123 (dk dt_hasAct 61 rfl) (by decide) (fun c4 => ?_) (fun c4 => ?_)
        · have h := h.1 c4
          refine T_iconst (v := 0) (dk dt_hasAct 69 rfl) (by decide +kernel) ?_
          exact T_sub [1, 2, 3, 4, 0] rfl h
        · have h := h.2 c4
          refine T_iload_n 4 (dk dt_hasAct 62 rfl) rfl rfl ?_
          refine T_iconst (v := 1) (dk dt_hasAct 63 rfl) (by decide +kernel) ?_
          refine T_icmp_ne 119 (dk dt_hasAct 64 rfl) (by decide) (fun c5 => ?_) (fun c5 => ?_)
          · have h := h.1 c5
            refine T_iconst (v := 1) (dk dt_hasAct 67 rfl) (by decide +kernel) ?_
            refine T_goto 124 (dk dt_hasAct 68 rfl) (by decide) ?_
            exact T_sub [1, 2, 3, 4, 0] rfl h
          · have h := h.2 c5
            refine T_iload 5 (dk dt_hasAct 65 rfl) rfl ?_
            refine T_if_eq 123 (dk dt_hasAct 66 rfl) (by decide) (fun c6 => ?_) (fun c6 => ?_)
            · have h := h.1 c6
              refine T_iconst (v := 0) (dk dt_hasAct 69 rfl) (by decide +kernel) ?_
              exact T_sub [1, 2, 3, 4, 0] rfl h
            · have h := h.2 c6
              refine T_iconst (v := 1) (dk dt_hasAct 67 rfl) (by decide +kernel) ?_
              refine T_goto 124 (dk dt_hasAct 68 rfl) (by decide) ?_
              exact T_sub [1, 2, 3, 4, 0] rfl h
set_option maxRecDepth 100000 in
set_option maxHeartbeats 4000000 in
theorem sg_hasAct_124 {G : mG} {d : Nat} {x : gd} {P : Option gv → gd → Prop} (l1 : Int32) (l2 : Int32) (l3 : Int32) (l5 : Int32) (s0 : Int32)
    (h : ((s0 = (0 : Int32) → MT G (d + 1) z_hasAct 138 [(0, vr 0), (1, vi l1), (2, vi l2), (3, vi l3)] [] x P) ∧ (¬ (s0 = (0 : Int32)) → ((¬ (l5 = (0 : Int32)) → MT G (d + 1) z_hasAct 138 [(0, vr 0), (1, vi l1), (2, vi l2), (3, vi l3)] [] x P) ∧ (l5 = (0 : Int32) → P (some (vi 0)) x))))) :
    MT G (d + 1) z_hasAct 124 [(0, vr 0), (1, vi l1), (2, vi l2), (3, vi l3), (5, vi l5)] [vi s0] x P := by
  refine T_istore (lv2 := [(6, vi s0), (0, vr 0), (1, vi l1), (2, vi l2), (3, vi l3), (5, vi l5)]) (dk dt_hasAct 70 rfl) (by decide) rfl ?_
  refine T_iload 0 (dk dt_hasAct 71 rfl) rfl ?_
  refine T_if_eq 138 (dk dt_hasAct 72 rfl) (by decide) (fun c1 => ?_) (fun c1 => ?_)
  · have h := h.1 c1
    exact T_sub [1, 2, 3, 4] rfl h
  · have h := h.2 c1
    refine T_iload 5 (dk dt_hasAct 73 rfl) rfl ?_
    refine T_if_ne 138 (dk dt_hasAct 74 rfl) (by decide) (fun c2 => ?_) (fun c2 => ?_)
    · have h := h.1 c2
      exact T_sub [1, 2, 3, 4] rfl h
    · have h := h.2 c2
      refine T_iconst (v := 0) (dk dt_hasAct 75 rfl) (by decide +kernel) ?_
      exact MT_iret (dk dt_hasAct 76 rfl) rfl rfl h
set_option maxRecDepth 100000 in
set_option maxHeartbeats 4000000 in
theorem sg_hasAct_138 {G : mG} {d : Nat} {x : gd} {P : Option gv → gd → Prop} (l1 : Int32) (l2 : Int32) (l3 : Int32)
    (h : ((l3 = (5 : Int32) → MT G (d + 1) z_hasAct 149 [(0, vr 0), (1, vi l1), (2, vi l2)] [] x P) ∧ (¬ (l3 = (5 : Int32)) → ((¬ (l3 = (15 : Int32)) → ((¬ (l3 = (10 : Int32)) → P (some (vi 1)) x) ∧ (l3 = (10 : Int32) → vp_in l2 1500 ∧ (((x.1 56 (l2 : Int32).toNatClampNeg) = l1 → P (some (vi 0)) x) ∧ (¬ ((x.1 56 (l2 : Int32).toNatClampNeg) = l1) → vp_in (x.1 56 (l2 : Int32).toNatClampNeg) 6 ∧ (((x.1 73 (x.1 56 (l2 : Int32).toNatClampNeg : Int32).toNatClampNeg) ≤ (1 : Int32) → P (some (vi 0)) x) ∧ (¬ ((x.1 73 (x.1 56 (l2 : Int32).toNatClampNeg : Int32).toNatClampNeg) ≤ (1 : Int32)) → vp_in (x.1 56 (l2 : Int32).toNatClampNeg) 6 ∧ ((¬ ((x.1 80 (x.1 56 (l2 : Int32).toNatClampNeg : Int32).toNatClampNeg) = (0 : Int32)) → P (some (vi 0)) x) ∧ ((x.1 80 (x.1 56 (l2 : Int32).toNatClampNeg : Int32).toNatClampNeg) = (0 : Int32) → P (some (vi 1)) x))))))))) ∧ (l3 = (15 : Int32) → MT G (d + 1) z_hasAct 149 [(0, vr 0), (1, vi l1), (2, vi l2)] [] x P))))) :
    MT G (d + 1) z_hasAct 138 [(0, vr 0), (1, vi l1), (2, vi l2), (3, vi l3)] [] x P := by
  refine T_iload_n 3 (dk dt_hasAct 77 rfl) rfl rfl ?_
  refine T_iconst (v := 5) (dk dt_hasAct 78 rfl) (by decide +kernel) ?_
  refine T_icmp_eq 149 (dk dt_hasAct 79 rfl) (by decide) (fun c1 => ?_) (fun c1 => ?_)
  · have h := h.1 c1
    exact T_sub [0, 1, 2] rfl h
  · have h := h.2 c1
    refine T_iload_n 3 (dk dt_hasAct 80 rfl) rfl rfl ?_
    refine T_bipush (v := 15) (dk dt_hasAct 81 rfl) (by decide +kernel) ?_
    refine T_icmp_ne 185 (dk dt_hasAct 82 rfl) (by decide) (fun c2 => ?_) (fun c2 => ?_)
    · have h := h.1 c2
      refine T_iload_n 3 (dk dt_hasAct 105 rfl) rfl rfl ?_
      refine T_bipush (v := 10) (dk dt_hasAct 106 rfl) (by decide +kernel) ?_
      refine T_icmp_ne 232 (dk dt_hasAct 107 rfl) (by decide) (fun c3 => ?_) (fun c3 => ?_)
      · have h := h.1 c3
        refine T_iconst (v := 1) (dk dt_hasAct 131 rfl) (by decide +kernel) ?_
        exact MT_iret (dk dt_hasAct 132 rfl) rfl rfl h
      · have h := h.2 c3
        refine T_aload_n 0 (dk dt_hasAct 108 rfl) rfl rfl ?_
        refine T_getR 0 55 56 (dk dt_hasAct 109 rfl) fl_109 mk_0 ml_0 (by decide) rfl rfl ?_
        refine T_iload_n 2 (dk dt_hasAct 110 rfl) rfl rfl ?_
        obtain ⟨h4, h⟩ := h
        refine T_iald 56 1500 (dk dt_hasAct 111 rfl) mk_56 ml_56 h4 ?_
        refine T_istore (lv2 := [(7, vi (x.1 56 (l2 : Int32).toNatClampNeg)), (0, vr 0), (1, vi l1), (2, vi l2), (3, vi l3)]) (dk dt_hasAct 112 rfl) (by decide) rfl ?_
        refine T_iload 0 (dk dt_hasAct 113 rfl) rfl ?_
        refine T_iload_n 2 (dk dt_hasAct 114 rfl) rfl rfl ?_
        refine T_icmp_eq 230 (dk dt_hasAct 115 rfl) (by decide) (fun c5 => ?_) (fun c5 => ?_)
        · have h := h.1 c5
          refine T_iconst (v := 0) (dk dt_hasAct 129 rfl) (by decide +kernel) ?_
          exact MT_iret (dk dt_hasAct 130 rfl) rfl rfl h
        · have h := h.2 c5
          refine T_aload_n 1 (dk dt_hasAct 116 rfl) rfl rfl ?_
          refine T_getR 0 72 73 (dk dt_hasAct 117 rfl) fl_151 mk_0 ml_0 (by decide) rfl rfl ?_
          refine T_iload 0 (dk dt_hasAct 118 rfl) rfl ?_
          obtain ⟨h6, h⟩ := h
          refine T_iald 73 6 (dk dt_hasAct 119 rfl) mk_73 ml_73 h6 ?_
          refine T_iconst (v := 1) (dk dt_hasAct 120 rfl) (by decide +kernel) ?_
          refine T_icmp_le 230 (dk dt_hasAct 121 rfl) (by decide) (fun c7 => ?_) (fun c7 => ?_)
          · have h := h.1 c7
            refine T_iconst (v := 0) (dk dt_hasAct 129 rfl) (by decide +kernel) ?_
            exact MT_iret (dk dt_hasAct 130 rfl) rfl rfl h
          · have h := h.2 c7
            refine T_aload_n 1 (dk dt_hasAct 122 rfl) rfl rfl ?_
            refine T_getR 0 79 80 (dk dt_hasAct 123 rfl) fl_172 mk_0 ml_0 (by decide) rfl rfl ?_
            refine T_iload 0 (dk dt_hasAct 124 rfl) rfl ?_
            obtain ⟨h8, h⟩ := h
            refine T_iald 80 6 (dk dt_hasAct 125 rfl) mk_80 ml_80 h8 ?_
            refine T_if_ne 230 (dk dt_hasAct 126 rfl) (by decide) (fun c9 => ?_) (fun c9 => ?_)
            · have h := h.1 c9
              refine T_iconst (v := 0) (dk dt_hasAct 129 rfl) (by decide +kernel) ?_
              exact MT_iret (dk dt_hasAct 130 rfl) rfl rfl h
            · have h := h.2 c9
              refine T_iconst (v := 1) (dk dt_hasAct 127 rfl) (by decide +kernel) ?_
              refine T_goto 231 (dk dt_hasAct 128 rfl) (by decide) ?_
              exact MT_iret (dk dt_hasAct 130 rfl) rfl rfl h
    · have h := h.2 c2
      exact T_sub [0, 1, 2] rfl h
set_option maxRecDepth 100000 in
set_option maxHeartbeats 4000000 in
theorem sg_hasAct_149 {G : mG} {d : Nat} {x : gd} {P : Option gv → gd → Prop} (l1 : Int32) (l2 : Int32)
    (h : vp_in l2 1500 ∧ vp_in (x.1 56 (l2 : Int32).toNatClampNeg) 6 ∧ (((x.1 71 (x.1 56 (l2 : Int32).toNatClampNeg : Int32).toNatClampNeg) = (-1 : Int32) → P (some (vi 1)) x) ∧ (¬ ((x.1 71 (x.1 56 (l2 : Int32).toNatClampNeg : Int32).toNatClampNeg) = (-1 : Int32)) → vp_in l2 1500 ∧ vp_in (x.1 56 (l2 : Int32).toNatClampNeg) 6 ∧ ((¬ ((x.1 71 (x.1 56 (l2 : Int32).toNatClampNeg : Int32).toNatClampNeg) = l1) → P (some (vi 0)) x) ∧ ((x.1 71 (x.1 56 (l2 : Int32).toNatClampNeg : Int32).toNatClampNeg) = l1 → P (some (vi 1)) x))))) :
    MT G (d + 1) z_hasAct 149 [(0, vr 0), (1, vi l1), (2, vi l2)] [] x P := by
  refine T_aload_n 0 (dk dt_hasAct 83 rfl) rfl rfl ?_
  refine T_getR 0 70 71 (dk dt_hasAct 84 rfl) fl_145 mk_0 ml_0 (by decide) rfl rfl ?_
  refine T_aload_n 0 (dk dt_hasAct 85 rfl) rfl rfl ?_
  refine T_getR 0 55 56 (dk dt_hasAct 86 rfl) fl_109 mk_0 ml_0 (by decide) rfl rfl ?_
  refine T_iload_n 2 (dk dt_hasAct 87 rfl) rfl rfl ?_
  obtain ⟨h1, h⟩ := h
  refine T_iald 56 1500 (dk dt_hasAct 88 rfl) mk_56 ml_56 h1 ?_
  obtain ⟨h2, h⟩ := h
  refine T_iald 71 6 (dk dt_hasAct 89 rfl) mk_71 ml_71 h2 ?_
  refine T_iconst (v := (-1)) (dk dt_hasAct 90 rfl) (by decide +kernel) ?_
  refine T_icmp_eq 179 (dk dt_hasAct 91 rfl) (by decide) (fun c3 => ?_) (fun c3 => ?_)
  · have h := h.1 c3
    refine T_iconst (v := 1) (dk dt_hasAct 101 rfl) (by decide +kernel) ?_
    refine T_goto 184 (dk dt_hasAct 102 rfl) (by decide) ?_
    exact MT_iret (dk dt_hasAct 104 rfl) rfl rfl h
  · have h := h.2 c3
    refine T_aload_n 0 (dk dt_hasAct 92 rfl) rfl rfl ?_
    refine T_getR 0 70 71 (dk dt_hasAct 93 rfl) fl_145 mk_0 ml_0 (by decide) rfl rfl ?_
    refine T_aload_n 0 (dk dt_hasAct 94 rfl) rfl rfl ?_
    refine T_getR 0 55 56 (dk dt_hasAct 95 rfl) fl_109 mk_0 ml_0 (by decide) rfl rfl ?_
    refine T_iload_n 2 (dk dt_hasAct 96 rfl) rfl rfl ?_
    obtain ⟨h4, h⟩ := h
    refine T_iald 56 1500 (dk dt_hasAct 97 rfl) mk_56 ml_56 h4 ?_
    obtain ⟨h5, h⟩ := h
    refine T_iald 71 6 (dk dt_hasAct 98 rfl) mk_71 ml_71 h5 ?_
    refine T_iload_n 1 (dk dt_hasAct 99 rfl) rfl rfl ?_
    refine T_icmp_ne 183 (dk dt_hasAct 100 rfl) (by decide) (fun c6 => ?_) (fun c6 => ?_)
    · have h := h.1 c6
      refine T_iconst (v := 0) (dk dt_hasAct 103 rfl) (by decide +kernel) ?_
      exact MT_iret (dk dt_hasAct 104 rfl) rfl rfl h
    · have h := h.2 c6
      refine T_iconst (v := 1) (dk dt_hasAct 101 rfl) (by decide +kernel) ?_
      refine T_goto 184 (dk dt_hasAct 102 rfl) (by decide) ?_
      exact MT_iret (dk dt_hasAct 104 rfl) rfl rfl h
set_option maxRecDepth 100000 in
theorem dt_choose : dck cX12_choose [(0, .aload_n 0, 1), (1, .getfield 184, 3), (4, .aload_n 0, 1), (5, .getfield 611, 3), (8, .iload_n 1, 1), (9, .iastore, 1), (10, .aload_n 0, 1), (11, .getfield 187, 3), (14, .aload_n 0, 1), (15, .getfield 611, 3), (18, .iload_n 2, 1), (19, .iastore, 1), (20, .aload_n 0, 1), (21, .getfield 190, 3), (24, .aload_n 0, 1), (25, .getfield 611, 3), (28, .iload_n 3, 1), (29, .iastore, 1), (30, .aload_n 0, 1), (31, .dup, 1), (32, .getfield 611, 3), (35, .iconst 1, 1), (36, .iadd, 1), (37, .putfield 611, 3), (40, .return_, 1)] = true := by decide +kernel
set_option maxRecDepth 100000 in
set_option maxHeartbeats 4000000 in
theorem sg_choose_0 {G : mG} {d : Nat} {x : gd} {P : Option gv → gd → Prop} (l1 : Int32) (l2 : Int32) (l3 : Int32)
    (h : vp_in (x.1 0 84) 200 ∧ (∀ x2 : gd, x2 = si x 86 (x.1 0 84 : Int32).toNatClampNeg l1 → vp_in (x2.1 0 84) 200 ∧ (∀ x4 : gd, x4 = si x2 87 (x2.1 0 84 : Int32).toNatClampNeg l2 → vp_in (x4.1 0 84) 200 ∧ (∀ x6 : gd, x6 = si x4 88 (x4.1 0 84 : Int32).toNatClampNeg l3 → (∀ x7 : gd, x7 = si x6 0 84 ((x6.1 0 84) + 1) → P none x7))))) :
    MT G d z_choose 0 [(0, vr 0), (1, vi l1), (2, vi l2), (3, vi l3)] [] x P := by
  refine T_aload_n 0 (dk dt_choose 0 rfl) rfl rfl ?_
  refine T_getR 0 85 86 (dk dt_choose 1 rfl) fl_184 mk_0 ml_0 (by decide) rfl rfl ?_
  refine T_aload_n 0 (dk dt_choose 2 rfl) rfl rfl ?_
  refine T_getI 0 84 (dk dt_choose 3 rfl) fl_611 mk_0 ml_0 (by decide) rfl ?_
  refine T_iload_n 1 (dk dt_choose 4 rfl) rfl rfl ?_
  obtain ⟨h1, h⟩ := h
  obtain ⟨x2, ex2⟩ : ∃ z, z = si x 86 (x.1 0 84 : Int32).toNatClampNeg l1 := ⟨_, rfl⟩
  have h := h x2 ex2
  refine T_iast 86 200 (dk dt_choose 5 rfl) mk_86 ml_86 h1 ?_
  rw [← ex2]
  refine T_aload_n 0 (dk dt_choose 6 rfl) rfl rfl ?_
  refine T_getR 0 86 87 (dk dt_choose 7 rfl) fl_187 mk_0 ml_0 (by decide) rfl rfl ?_
  refine T_aload_n 0 (dk dt_choose 8 rfl) rfl rfl ?_
  refine T_getI 0 84 (dk dt_choose 9 rfl) fl_611 mk_0 ml_0 (by decide) rfl ?_
  refine T_iload_n 2 (dk dt_choose 10 rfl) rfl rfl ?_
  obtain ⟨h3, h⟩ := h
  obtain ⟨x4, ex4⟩ : ∃ z, z = si x2 87 (x2.1 0 84 : Int32).toNatClampNeg l2 := ⟨_, rfl⟩
  have h := h x4 ex4
  refine T_iast 87 200 (dk dt_choose 11 rfl) mk_87 ml_87 h3 ?_
  rw [← ex4]
  refine T_aload_n 0 (dk dt_choose 12 rfl) rfl rfl ?_
  refine T_getR 0 87 88 (dk dt_choose 13 rfl) fl_190 mk_0 ml_0 (by decide) rfl rfl ?_
  refine T_aload_n 0 (dk dt_choose 14 rfl) rfl rfl ?_
  refine T_getI 0 84 (dk dt_choose 15 rfl) fl_611 mk_0 ml_0 (by decide) rfl ?_
  refine T_iload_n 3 (dk dt_choose 16 rfl) rfl rfl ?_
  obtain ⟨h5, h⟩ := h
  obtain ⟨x6, ex6⟩ : ∃ z, z = si x4 88 (x4.1 0 84 : Int32).toNatClampNeg l3 := ⟨_, rfl⟩
  have h := h x6 ex6
  refine T_iast 88 200 (dk dt_choose 17 rfl) mk_88 ml_88 h5 ?_
  rw [← ex6]
  refine T_aload_n 0 (dk dt_choose 18 rfl) rfl rfl ?_
  refine T_dup (dk dt_choose 19 rfl) rfl ?_
  refine T_getI 0 84 (dk dt_choose 20 rfl) fl_611 mk_0 ml_0 (by decide) rfl ?_
  refine T_iconst (v := 1) (dk dt_choose 21 rfl) (by decide +kernel) ?_
  refine T_iadd (dk dt_choose 22 rfl) ?_
  obtain ⟨x7, ex7⟩ : ∃ z, z = si x6 0 84 ((x6.1 0 84) + 1) := ⟨_, rfl⟩
  have h := h x7 ex7
  refine T_putI 0 84 (dk dt_choose 23 rfl) fl_611 mk_0 ml_0 (by decide) rfl ⟨rfl, rfl⟩ ?_
  rw [← ex7]
  exact MT_vret (dk dt_choose 24 rfl) rfl h
set_option maxRecDepth 100000 in
theorem dt_findChoices : dck cX12_findChoices [(0, .aload_n 0, 1), (1, .iconst 0, 1), (2, .putfield 611, 3), (5, .iconst 0, 1), (6, .istore_n 1, 1), (7, .iload_n 1, 1), (8, .aload_n 0, 1), (9, .getfield 461, 3), (12, .if_icmp .ge 218, 3), (15, .aload_n 0, 1), (16, .iload_n 1, 1), (17, .invokevirtual 614, 3), (20, .ifCond .eq 122, 3), (23, .aload_n 0, 1), (24, .getfield 154, 3), (27, .iload_n 1, 1), (28, .iaload, 1), (29, .istore_n 2, 1), (30, .aload_n 0, 1), (31, .getfield 611, 3), (34, .istore_n 3, 1), (35, .aload_n 0, 1), (36, .iload_n 1, 1), (37, .invokevirtual 602, 3), (40, .bipush 8, 2), (42, .if_icmp .ne 85, 3), (45, .aload_n 0, 1), (46, .getfield 112, 3), (49, .iload_n 2, 1), (50, .iaload, 1), (51, .ifCond .ne 76, 3), (54, .aload_n 0, 1), (55, .getfield 145, 3), (58, .aload_n 0, 1), (59, .getfield 109, 3), (62, .iload_n 2, 1), (63, .iaload, 1), (64, .iaload, 1), (65, .iload_n 1, 1), (66, .if_icmp .ne 61, 3), (69, .iconst 0, 1), (70, .istore 4, 2), (72, .iload 4, 2), (74, .aload_n 0, 1), (75, .getfield 461, 3), (78, .if_icmp .ge 49, 3), (81, .aload_n 0, 1), (82, .getfield 163, 3), (85, .iload 4, 2), (87, .iaload, 1), (88, .iconst 1, 1), (89, .if_icmp .ne 32, 3), (92, .aload_n 0, 1), (93, .getfield 109, 3), (96, .aload_n 0, 1), (97, .getfield 154, 3), (100, .iload 4, 2), (102, .iaload, 1), (103, .iaload, 1), (104, .aload_n 0, 1), (105, .getfield 109, 3), (108, .iload_n 2, 1), (109, .iaload, 1), (110, .if_icmp .ne 11, 3), (113, .aload_n 0, 1), (114, .iload_n 1, 1), (115, .iconst (-1), 1), (116, .iload 4, 2), (118, .invokevirtual 617, 3), (121, .iinc 4 1, 3), (124, .goto (-52), 3), (127, .aload_n 0, 1), (128, .getfield 611, 3), (131, .iload_n 3, 1), (132, .if_icmp .ne 10, 3), (135, .aload_n 0, 1), (136, .iload_n 1, 1), (137, .iconst (-1), 1), (138, .iconst (-1), 1), (139, .invokevirtual 617, 3), (142, .iconst 0, 1), (143, .istore_n 2, 1), (144, .iload_n 2, 1), (145, .aload_n 0, 1), (146, .getfield 172, 3), (149, .iload_n 1, 1), (150, .iaload, 1), (151, .if_icmp .ge 73, 3), (154, .iconst 1, 1), (155, .istore_n 3, 1), (156, .iconst 0, 1), (157, .istore 4, 2), (159, .iload 4, 2), (161, .iload_n 2, 1), (162, .if_icmp .ge 45, 3), (165, .iload_n 3, 1), (166, .ifCond .eq 33, 3), (169, .aload_n 0, 1), (170, .getfield 175, 3), (173, .bipush 10, 2), (175, .iload_n 1, 1), (176, .imul, 1), (177, .iload 4, 2), (179, .iadd, 1), (180, .iaload, 1), (181, .aload_n 0, 1), (182, .getfield 175, 3), (185, .bipush 10, 2), (187, .iload_n 1, 1), (188, .imul, 1), (189, .iload_n 2, 1), (190, .iadd, 1), (191, .iaload, 1), (192, .if_icmp .eq 7, 3), (195, .iconst 1, 1), (196, .goto 4, 3), (199, .iconst 0, 1), (200, .istore_n 3, 1), (201, .iinc 4 1, 3), (204, .goto (-45), 3), (207, .iload_n 3, 1), (208, .ifCond .eq 10, 3), (211, .aload_n 0, 1), (212, .iload_n 1, 1), (213, .iload_n 2, 1), (214, .iconst (-1), 1), (215, .invokevirtual 617, 3), (218, .iinc 2 1, 3), (221, .goto (-77), 3), (224, .iinc 1 1, 3), (227, .goto (-220), 3), (230, .return_, 1)] = true := by decide +kernel
set_option maxRecDepth 100000 in
set_option maxHeartbeats 4000000 in
theorem sg_findChoices_0 {G : mG} {d : Nat} {x : gd} {P : Option gv → gd → Prop} 
    (h : (∀ x1 : gd, x1 = si x 0 84 0 → MT G (d + 1) z_findChoices 7 [(0, vr 0), (1, vi 0)] [] x1 P)) :
    MT G (d + 1) z_findChoices 0 [(0, vr 0)] [] x P := by
  refine T_aload_n 0 (dk dt_findChoices 0 rfl) rfl rfl ?_
  refine T_iconst (v := 0) (dk dt_findChoices 1 rfl) (by decide +kernel) ?_
  obtain ⟨x1, ex1⟩ : ∃ z, z = si x 0 84 0 := ⟨_, rfl⟩
  have h := h x1 ex1
  refine T_putI 0 84 (dk dt_findChoices 2 rfl) fl_611 mk_0 ml_0 (by decide) rfl ⟨rfl, rfl⟩ ?_
  rw [← ex1]
  refine T_iconst (v := 0) (dk dt_findChoices 3 rfl) (by decide +kernel) ?_
  refine T_istore_n (lv2 := [(1, vi 0), (0, vr 0)]) (dk dt_findChoices 4 rfl) rfl (by decide) rfl ?_
  exact T_sub [1, 0] rfl h
set_option maxRecDepth 100000 in
set_option maxHeartbeats 4000000 in
theorem sg_findChoices_7 {G : mG} {d : Nat} {x : gd} {P : Option gv → gd → Prop} (l1 : Int32)
    (h : (((x.1 0 25) ≤ l1 → P none x) ∧ (¬ ((x.1 0 25) ≤ l1) → MT G d z_hasAct 0 [(0, vr 0), (1, vi l1)] [] x (ri (fun r3 x2 => ((r3 = (0 : Int32) → MT G (d + 1) z_findChoices 144 [(0, vr 0), (1, vi l1), (2, vi 0)] [] x2 P) ∧ (¬ (r3 = (0 : Int32)) → vp_in l1 6 ∧ MT G d z_sortOf 0 [(0, vr 0), (1, vi l1)] [] x2 (ri (fun r7 x6 => ((¬ (r7 = (8 : Int32)) → MT G (d + 1) z_findChoices 127 [(0, vr 0), (1, vi l1), (3, vi (x2.1 0 84))] [] x6 P) ∧ (r7 = (8 : Int32) → vp_in (x2.1 74 (l1 : Int32).toNatClampNeg) 1500 ∧ ((¬ ((x6.1 57 (x2.1 74 (l1 : Int32).toNatClampNeg : Int32).toNatClampNeg) = (0 : Int32)) → MT G (d + 1) z_findChoices 127 [(0, vr 0), (1, vi l1), (3, vi (x2.1 0 84))] [] x6 P) ∧ ((x6.1 57 (x2.1 74 (l1 : Int32).toNatClampNeg : Int32).toNatClampNeg) = (0 : Int32) → vp_in (x2.1 74 (l1 : Int32).toNatClampNeg) 1500 ∧ vp_in (x6.1 56 (x2.1 74 (l1 : Int32).toNatClampNeg : Int32).toNatClampNeg) 6 ∧ ((¬ ((x6.1 71 (x6.1 56 (x2.1 74 (l1 : Int32).toNatClampNeg : Int32).toNatClampNeg : Int32).toNatClampNeg) = l1) → MT G (d + 1) z_findChoices 127 [(0, vr 0), (1, vi l1), (3, vi (x2.1 0 84))] [] x6 P) ∧ ((x6.1 71 (x6.1 56 (x2.1 74 (l1 : Int32).toNatClampNeg : Int32).toNatClampNeg : Int32).toNatClampNeg) = l1 → MT G (d + 1) z_findChoices 72 [(0, vr 0), (1, vi l1), (2, vi (x2.1 74 (l1 : Int32).toNatClampNeg)), (3, vi (x2.1 0 84)), (4, vi 0)] [] x6 P))))))))))))))) :
    MT G (d + 1) z_findChoices 7 [(0, vr 0), (1, vi l1)] [] x P := by
  refine T_iload_n 1 (dk dt_findChoices 5 rfl) rfl rfl ?_
  refine T_aload_n 0 (dk dt_findChoices 6 rfl) rfl rfl ?_
  refine T_getI 0 25 (dk dt_findChoices 7 rfl) fl_461 mk_0 ml_0 (by decide) rfl ?_
  refine T_icmp_ge 230 (dk dt_findChoices 8 rfl) (by decide) (fun c1 => ?_) (fun c1 => ?_)
  · have h := h.1 c1
    exact MT_vret (dk dt_findChoices 131 rfl) rfl h
  · have h := h.2 c1
    refine T_aload_n 0 (dk dt_findChoices 9 rfl) rfl rfl ?_
    refine T_iload_n 1 (dk dt_findChoices 10 rfl) rfl rfl ?_
    refine MT_callVi [vi l1] [] rfl (dk dt_findChoices 11 rfl) cv_614 rfl rfl (Nat.le_of_ble_eq_true rfl) (Nat.le_of_ble_eq_true rfl) rfl rfl h (fun r3 x2 h => ?_)
    refine T_if_eq 142 (dk dt_findChoices 12 rfl) (by decide) (fun c4 => ?_) (fun c4 => ?_)
    · have h := h.1 c4
      refine T_iconst (v := 0) (dk dt_findChoices 80 rfl) (by decide +kernel) ?_
      refine T_istore_n (lv2 := [(2, vi 0), (0, vr 0), (1, vi l1)]) (dk dt_findChoices 81 rfl) rfl (by decide) rfl ?_
      exact T_sub [1, 2, 0] rfl h
    · have h := h.2 c4
      refine T_aload_n 0 (dk dt_findChoices 13 rfl) rfl rfl ?_
      refine T_getR 0 73 74 (dk dt_findChoices 14 rfl) fl_154 mk_0 ml_0 (by decide) rfl rfl ?_
      refine T_iload_n 1 (dk dt_findChoices 15 rfl) rfl rfl ?_
      obtain ⟨h5, h⟩ := h
      refine T_iald 74 6 (dk dt_findChoices 16 rfl) mk_74 ml_74 h5 ?_
      refine T_istore_n (lv2 := [(2, vi (x2.1 74 (l1 : Int32).toNatClampNeg)), (0, vr 0), (1, vi l1)]) (dk dt_findChoices 17 rfl) rfl (by decide) rfl ?_
      refine T_aload_n 1 (dk dt_findChoices 18 rfl) rfl rfl ?_
      refine T_getI 0 84 (dk dt_findChoices 19 rfl) fl_611 mk_0 ml_0 (by decide) rfl ?_
      refine T_istore_n (lv2 := [(3, vi (x2.1 0 84)), (2, vi (x2.1 74 (l1 : Int32).toNatClampNeg)), (0, vr 0), (1, vi l1)]) (dk dt_findChoices 20 rfl) rfl (by decide) rfl ?_
      refine T_aload_n 2 (dk dt_findChoices 21 rfl) rfl rfl ?_
      refine T_iload_n 3 (dk dt_findChoices 22 rfl) rfl rfl ?_
      refine MT_callVi [vi l1] [] rfl (dk dt_findChoices 23 rfl) cv_602 rfl rfl (Nat.le_of_ble_eq_true rfl) (Nat.le_of_ble_eq_true rfl) rfl rfl h (fun r7 x6 h => ?_)
      refine T_bipush (v := 8) (dk dt_findChoices 24 rfl) (by decide +kernel) ?_
      refine T_icmp_ne 127 (dk dt_findChoices 25 rfl) (by decide) (fun c8 => ?_) (fun c8 => ?_)
      · have h := h.1 c8
        exact T_sub [2, 3, 0] rfl h
      · have h := h.2 c8
        refine T_aload_n 2 (dk dt_findChoices 26 rfl) rfl rfl ?_
        refine T_getR 0 56 57 (dk dt_findChoices 27 rfl) fl_112 mk_0 ml_0 (by decide) rfl rfl ?_
        refine T_iload_n 1 (dk dt_findChoices 28 rfl) rfl rfl ?_
        obtain ⟨h9, h⟩ := h
        refine T_iald 57 1500 (dk dt_findChoices 29 rfl) mk_57 ml_57 h9 ?_
        refine T_if_ne 127 (dk dt_findChoices 30 rfl) (by decide) (fun c10 => ?_) (fun c10 => ?_)
        · have h := h.1 c10
          exact T_sub [2, 3, 0] rfl h
        · have h := h.2 c10
          refine T_aload_n 2 (dk dt_findChoices 31 rfl) rfl rfl ?_
          refine T_getR 0 70 71 (dk dt_findChoices 32 rfl) fl_145 mk_0 ml_0 (by decide) rfl rfl ?_
          refine T_aload_n 2 (dk dt_findChoices 33 rfl) rfl rfl ?_
          refine T_getR 0 55 56 (dk dt_findChoices 34 rfl) fl_109 mk_0 ml_0 (by decide) rfl rfl ?_
          refine T_iload_n 1 (dk dt_findChoices 35 rfl) rfl rfl ?_
          obtain ⟨h11, h⟩ := h
          refine T_iald 56 1500 (dk dt_findChoices 36 rfl) mk_56 ml_56 h11 ?_
          obtain ⟨h12, h⟩ := h
          refine T_iald 71 6 (dk dt_findChoices 37 rfl) mk_71 ml_71 h12 ?_
          refine T_iload_n 3 (dk dt_findChoices 38 rfl) rfl rfl ?_
          refine T_icmp_ne 127 (dk dt_findChoices 39 rfl) (by decide) (fun c13 => ?_) (fun c13 => ?_)
          · have h := h.1 c13
            exact T_sub [2, 3, 0] rfl h
          · have h := h.2 c13
            refine T_iconst (v := 0) (dk dt_findChoices 40 rfl) (by decide +kernel) ?_
            refine T_istore (lv2 := [(4, vi 0), (3, vi (x2.1 0 84)), (2, vi (x2.1 74 (l1 : Int32).toNatClampNeg)), (0, vr 0), (1, vi l1)]) (dk dt_findChoices 41 rfl) (by decide) rfl ?_
            exact T_sub [3, 4, 2, 1, 0] rfl h
set_option maxRecDepth 100000 in
set_option maxHeartbeats 4000000 in
theorem sg_findChoices_72 {G : mG} {d : Nat} {x : gd} {P : Option gv → gd → Prop} (l1 : Int32) (l2 : Int32) (l3 : Int32) (l4 : Int32)
    (h : (((x.1 0 25) ≤ l4 → MT G (d + 1) z_findChoices 127 [(0, vr 0), (1, vi l1), (3, vi l3)] [] x P) ∧ (¬ ((x.1 0 25) ≤ l4) → vp_in l4 6 ∧ ((¬ ((x.1 77 (l4 : Int32).toNatClampNeg) = (1 : Int32)) → MT G (d + 1) z_findChoices 72 [(0, vr 0), (1, vi l1), (2, vi l2), (3, vi l3), (4, vi (l4 + 1))] [] x P) ∧ ((x.1 77 (l4 : Int32).toNatClampNeg) = (1 : Int32) → vp_in l4 6 ∧ vp_in (x.1 74 (l4 : Int32).toNatClampNeg) 1500 ∧ vp_in l2 1500 ∧ ((¬ ((x.1 56 (x.1 74 (l4 : Int32).toNatClampNeg : Int32).toNatClampNeg) = (x.1 56 (l2 : Int32).toNatClampNeg)) → MT G (d + 1) z_findChoices 72 [(0, vr 0), (1, vi l1), (2, vi l2), (3, vi l3), (4, vi (l4 + 1))] [] x P) ∧ ((x.1 56 (x.1 74 (l4 : Int32).toNatClampNeg : Int32).toNatClampNeg) = (x.1 56 (l2 : Int32).toNatClampNeg) → MT G d z_choose 0 [(0, vr 0), (1, vi l1), (2, vi (-1)), (3, vi l4)] [] x (rv (fun x8 => MT G (d + 1) z_findChoices 72 [(0, vr 0), (1, vi l1), (2, vi l2), (3, vi l3), (4, vi (l4 + 1))] [] x8 P))))))))) :
    MT G (d + 1) z_findChoices 72 [(0, vr 0), (1, vi l1), (2, vi l2), (3, vi l3), (4, vi l4)] [] x P := by
  refine T_iload 4 (dk dt_findChoices 42 rfl) rfl ?_
  refine T_aload_n 0 (dk dt_findChoices 43 rfl) rfl rfl ?_
  refine T_getI 0 25 (dk dt_findChoices 44 rfl) fl_461 mk_0 ml_0 (by decide) rfl ?_
  refine T_icmp_ge 127 (dk dt_findChoices 45 rfl) (by decide) (fun c1 => ?_) (fun c1 => ?_)
  · have h := h.1 c1
    exact T_sub [0, 1, 3] rfl h
  · have h := h.2 c1
    refine T_aload_n 0 (dk dt_findChoices 46 rfl) rfl rfl ?_
    refine T_getR 0 76 77 (dk dt_findChoices 47 rfl) fl_163 mk_0 ml_0 (by decide) rfl rfl ?_
    refine T_iload 4 (dk dt_findChoices 48 rfl) rfl ?_
    obtain ⟨h2, h⟩ := h
    refine T_iald 77 6 (dk dt_findChoices 49 rfl) mk_77 ml_77 h2 ?_
    refine T_iconst (v := 1) (dk dt_findChoices 50 rfl) (by decide +kernel) ?_
    refine T_icmp_ne 121 (dk dt_findChoices 51 rfl) (by decide) (fun c3 => ?_) (fun c3 => ?_)
    · have h := h.1 c3
      refine T_iinc (v := l4 + 1) (lv2 := [(4, vi (l4 + 1)), (0, vr 0), (1, vi l1), (2, vi l2), (3, vi l3)]) 4 (dk dt_findChoices 69 rfl) rfl rfl (by decide) rfl ?_
      refine T_goto 72 (dk dt_findChoices 70 rfl) (by decide) ?_
      exact T_sub [1, 2, 3, 4, 0] rfl h
    · have h := h.2 c3
      refine T_aload_n 0 (dk dt_findChoices 52 rfl) rfl rfl ?_
      refine T_getR 0 55 56 (dk dt_findChoices 53 rfl) fl_109 mk_0 ml_0 (by decide) rfl rfl ?_
      refine T_aload_n 0 (dk dt_findChoices 54 rfl) rfl rfl ?_
      refine T_getR 0 73 74 (dk dt_findChoices 55 rfl) fl_154 mk_0 ml_0 (by decide) rfl rfl ?_
      refine T_iload 4 (dk dt_findChoices 56 rfl) rfl ?_
      obtain ⟨h4, h⟩ := h
      refine T_iald 74 6 (dk dt_findChoices 57 rfl) mk_74 ml_74 h4 ?_
      obtain ⟨h5, h⟩ := h
      refine T_iald 56 1500 (dk dt_findChoices 58 rfl) mk_56 ml_56 h5 ?_
      refine T_aload_n 0 (dk dt_findChoices 59 rfl) rfl rfl ?_
      refine T_getR 0 55 56 (dk dt_findChoices 60 rfl) fl_109 mk_0 ml_0 (by decide) rfl rfl ?_
      refine T_iload_n 2 (dk dt_findChoices 61 rfl) rfl rfl ?_
      obtain ⟨h6, h⟩ := h
      refine T_iald 56 1500 (dk dt_findChoices 62 rfl) mk_56 ml_56 h6 ?_
      refine T_icmp_ne 121 (dk dt_findChoices 63 rfl) (by decide) (fun c7 => ?_) (fun c7 => ?_)
      · have h := h.1 c7
        refine T_iinc (v := l4 + 1) (lv2 := [(4, vi (l4 + 1)), (0, vr 0), (1, vi l1), (2, vi l2), (3, vi l3)]) 4 (dk dt_findChoices 69 rfl) rfl rfl (by decide) rfl ?_
        refine T_goto 72 (dk dt_findChoices 70 rfl) (by decide) ?_
        exact T_sub [1, 2, 3, 4, 0] rfl h
      · have h := h.2 c7
        refine T_aload_n 0 (dk dt_findChoices 64 rfl) rfl rfl ?_
        refine T_iload_n 1 (dk dt_findChoices 65 rfl) rfl rfl ?_
        refine T_iconst (v := (-1)) (dk dt_findChoices 66 rfl) (by decide +kernel) ?_
        refine T_iload 4 (dk dt_findChoices 67 rfl) rfl ?_
        refine MT_callVv [vi l1, vi (-1), vi l4] [] rfl (dk dt_findChoices 68 rfl) cv_617 rfl rfl (Nat.le_of_ble_eq_true rfl) (Nat.le_of_ble_eq_true rfl) rfl rfl h (fun x8 h => ?_)
        refine T_iinc (v := l4 + 1) (lv2 := [(4, vi (l4 + 1)), (0, vr 0), (1, vi l1), (2, vi l2), (3, vi l3)]) 4 (dk dt_findChoices 69 rfl) rfl rfl (by decide) rfl ?_
        refine T_goto 72 (dk dt_findChoices 70 rfl) (by decide) ?_
        exact T_sub [1, 2, 3, 4, 0] rfl h
set_option maxRecDepth 100000 in
set_option maxHeartbeats 4000000 in
theorem sg_findChoices_127 {G : mG} {d : Nat} {x : gd} {P : Option gv → gd → Prop} (l1 : Int32) (l3 : Int32)
    (h : ((¬ ((x.1 0 84) = l3) → MT G (d + 1) z_findChoices 144 [(0, vr 0), (1, vi l1), (2, vi 0)] [] x P) ∧ ((x.1 0 84) = l3 → MT G d z_choose 0 [(0, vr 0), (1, vi l1), (2, vi (-1)), (3, vi (-1))] [] x (rv (fun x2 => MT G (d + 1) z_findChoices 144 [(0, vr 0), (1, vi l1), (2, vi 0)] [] x2 P))))) :
    MT G (d + 1) z_findChoices 127 [(0, vr 0), (1, vi l1), (3, vi l3)] [] x P := by
  refine T_aload_n 0 (dk dt_findChoices 71 rfl) rfl rfl ?_
  refine T_getI 0 84 (dk dt_findChoices 72 rfl) fl_611 mk_0 ml_0 (by decide) rfl ?_
  refine T_iload_n 2 (dk dt_findChoices 73 rfl) rfl rfl ?_
  refine T_icmp_ne 142 (dk dt_findChoices 74 rfl) (by decide) (fun c1 => ?_) (fun c1 => ?_)
  · have h := h.1 c1
    refine T_iconst (v := 0) (dk dt_findChoices 80 rfl) (by decide +kernel) ?_
    refine T_istore_n (lv2 := [(2, vi 0), (0, vr 0), (1, vi l1), (3, vi l3)]) (dk dt_findChoices 81 rfl) rfl (by decide) rfl ?_
    exact T_sub [1, 2, 0] rfl h
  · have h := h.2 c1
    refine T_aload_n 0 (dk dt_findChoices 75 rfl) rfl rfl ?_
    refine T_iload_n 1 (dk dt_findChoices 76 rfl) rfl rfl ?_
    refine T_iconst (v := (-1)) (dk dt_findChoices 77 rfl) (by decide +kernel) ?_
    refine T_iconst (v := (-1)) (dk dt_findChoices 78 rfl) (by decide +kernel) ?_
    refine MT_callVv [vi l1, vi (-1), vi (-1)] [] rfl (dk dt_findChoices 79 rfl) cv_617 rfl rfl (Nat.le_of_ble_eq_true rfl) (Nat.le_of_ble_eq_true rfl) rfl rfl h (fun x2 h => ?_)
    refine T_iconst (v := 0) (dk dt_findChoices 80 rfl) (by decide +kernel) ?_
    refine T_istore_n (lv2 := [(2, vi 0), (0, vr 0), (1, vi l1), (3, vi l3)]) (dk dt_findChoices 81 rfl) rfl (by decide) rfl ?_
    exact T_sub [1, 2, 0] rfl h
set_option maxRecDepth 100000 in
set_option maxHeartbeats 4000000 in
theorem sg_findChoices_144 {G : mG} {d : Nat} {x : gd} {P : Option gv → gd → Prop} (l1 : Int32) (l2 : Int32)
    (h : vp_in l1 6 ∧ (((x.1 80 (l1 : Int32).toNatClampNeg) ≤ l2 → MT G (d + 1) z_findChoices 7 [(0, vr 0), (1, vi (l1 + 1))] [] x P) ∧ (¬ ((x.1 80 (l1 : Int32).toNatClampNeg) ≤ l2) → MT G (d + 1) z_findChoices 159 [(0, vr 0), (1, vi l1), (2, vi l2), (3, vi 1), (4, vi 0)] [] x P))) :
    MT G (d + 1) z_findChoices 144 [(0, vr 0), (1, vi l1), (2, vi l2)] [] x P := by
  refine T_iload_n 2 (dk dt_findChoices 82 rfl) rfl rfl ?_
  refine T_aload_n 0 (dk dt_findChoices 83 rfl) rfl rfl ?_
  refine T_getR 0 79 80 (dk dt_findChoices 84 rfl) fl_172 mk_0 ml_0 (by decide) rfl rfl ?_
  refine T_iload_n 1 (dk dt_findChoices 85 rfl) rfl rfl ?_
  obtain ⟨h1, h⟩ := h
  refine T_iald 80 6 (dk dt_findChoices 86 rfl) mk_80 ml_80 h1 ?_
  refine T_icmp_ge 224 (dk dt_findChoices 87 rfl) (by decide) (fun c2 => ?_) (fun c2 => ?_)
  · have h := h.1 c2
    refine T_iinc (v := l1 + 1) (lv2 := [(1, vi (l1 + 1)), (0, vr 0), (2, vi l2)]) 1 (dk dt_findChoices 129 rfl) rfl rfl (by decide) rfl ?_
    refine T_goto 7 (dk dt_findChoices 130 rfl) (by decide) ?_
    exact T_sub [1, 0] rfl h
  · have h := h.2 c2
    refine T_iconst (v := 1) (dk dt_findChoices 88 rfl) (by decide +kernel) ?_
    refine T_istore_n (lv2 := [(3, vi 1), (0, vr 0), (1, vi l1), (2, vi l2)]) (dk dt_findChoices 89 rfl) rfl (by decide) rfl ?_
    refine T_iconst (v := 0) (dk dt_findChoices 90 rfl) (by decide +kernel) ?_
    refine T_istore (lv2 := [(4, vi 0), (3, vi 1), (0, vr 0), (1, vi l1), (2, vi l2)]) (dk dt_findChoices 91 rfl) (by decide) rfl ?_
    exact T_sub [2, 3, 4, 1, 0] rfl h
set_option maxRecDepth 100000 in
set_option maxHeartbeats 4000000 in
theorem sg_findChoices_159 {G : mG} {d : Nat} {x : gd} {P : Option gv → gd → Prop} (l1 : Int32) (l2 : Int32) (l3 : Int32) (l4 : Int32)
    (h : ((l2 ≤ l4 → ((l3 = (0 : Int32) → MT G (d + 1) z_findChoices 144 [(0, vr 0), (1, vi l1), (2, vi (l2 + 1))] [] x P) ∧ (¬ (l3 = (0 : Int32)) → MT G d z_choose 0 [(0, vr 0), (1, vi l1), (2, vi l2), (3, vi (-1))] [] x (rv (fun x3 => MT G (d + 1) z_findChoices 144 [(0, vr 0), (1, vi l1), (2, vi (l2 + 1))] [] x3 P))))) ∧ (¬ (l2 ≤ l4) → ((l3 = (0 : Int32) → MT G (d + 1) z_findChoices 159 [(0, vr 0), (1, vi l1), (2, vi l2), (3, vi 0), (4, vi (l4 + 1))] [] x P) ∧ (¬ (l3 = (0 : Int32)) → vp_in ((10 * l1) + l4) 60 ∧ vp_in ((10 * l1) + l2) 60 ∧ (((x.1 81 ((10 * l1) + l4 : Int32).toNatClampNeg) = (x.1 81 ((10 * l1) + l2 : Int32).toNatClampNeg) → MT G (d + 1) z_findChoices 159 [(0, vr 0), (1, vi l1), (2, vi l2), (3, vi 0), (4, vi (l4 + 1))] [] x P) ∧ (¬ ((x.1 81 ((10 * l1) + l4 : Int32).toNatClampNeg) = (x.1 81 ((10 * l1) + l2 : Int32).toNatClampNeg)) → MT G (d + 1) z_findChoices 159 [(0, vr 0), (1, vi l1), (2, vi l2), (3, vi 1), (4, vi (l4 + 1))] [] x P))))))) :
    MT G (d + 1) z_findChoices 159 [(0, vr 0), (1, vi l1), (2, vi l2), (3, vi l3), (4, vi l4)] [] x P := by
  refine T_iload 4 (dk dt_findChoices 92 rfl) rfl ?_
  refine T_iload_n 2 (dk dt_findChoices 93 rfl) rfl rfl ?_
  refine T_icmp_ge 207 (dk dt_findChoices 94 rfl) (by decide) (fun c1 => ?_) (fun c1 => ?_)
  · have h := h.1 c1
    refine T_iload_n 3 (dk dt_findChoices 120 rfl) rfl rfl ?_
    refine T_if_eq 218 (dk dt_findChoices 121 rfl) (by decide) (fun c2 => ?_) (fun c2 => ?_)
    · have h := h.1 c2
      refine T_iinc (v := l2 + 1) (lv2 := [(2, vi (l2 + 1)), (0, vr 0), (1, vi l1), (3, vi l3), (4, vi l4)]) 2 (dk dt_findChoices 127 rfl) rfl rfl (by decide) rfl ?_
      refine T_goto 144 (dk dt_findChoices 128 rfl) (by decide) ?_
      exact T_sub [1, 2, 0] rfl h
    · have h := h.2 c2
      refine T_aload_n 0 (dk dt_findChoices 122 rfl) rfl rfl ?_
      refine T_iload_n 1 (dk dt_findChoices 123 rfl) rfl rfl ?_
      refine T_iload_n 2 (dk dt_findChoices 124 rfl) rfl rfl ?_
      refine T_iconst (v := (-1)) (dk dt_findChoices 125 rfl) (by decide +kernel) ?_
      refine MT_callVv [vi l1, vi l2, vi (-1)] [] rfl (dk dt_findChoices 126 rfl) cv_617 rfl rfl (Nat.le_of_ble_eq_true rfl) (Nat.le_of_ble_eq_true rfl) rfl rfl h (fun x3 h => ?_)
      refine T_iinc (v := l2 + 1) (lv2 := [(2, vi (l2 + 1)), (0, vr 0), (1, vi l1), (3, vi l3), (4, vi l4)]) 2 (dk dt_findChoices 127 rfl) rfl rfl (by decide) rfl ?_
      refine T_goto 144 (dk dt_findChoices 128 rfl) (by decide) ?_
      exact T_sub [1, 2, 0] rfl h
  · have h := h.2 c1
    refine T_iload_n 3 (dk dt_findChoices 95 rfl) rfl rfl ?_
    refine T_if_eq 199 (dk dt_findChoices 96 rfl) (by decide) (fun c4 => ?_) (fun c4 => ?_)
    · have h := h.1 c4
      refine T_iconst (v := 0) (dk dt_findChoices 116 rfl) (by decide +kernel) ?_
      refine T_istore_n (lv2 := [(3, vi 0), (0, vr 0), (1, vi l1), (2, vi l2), (4, vi l4)]) (dk dt_findChoices 117 rfl) rfl (by decide) rfl ?_
      refine T_iinc (v := l4 + 1) (lv2 := [(4, vi (l4 + 1)), (3, vi 0), (0, vr 0), (1, vi l1), (2, vi l2)]) 4 (dk dt_findChoices 118 rfl) rfl rfl (by decide) rfl ?_
      refine T_goto 159 (dk dt_findChoices 119 rfl) (by decide) ?_
      exact T_sub [2, 3, 4, 1, 0] rfl h
    · have h := h.2 c4
      refine T_aload_n 0 (dk dt_findChoices 97 rfl) rfl rfl ?_
      refine T_getR 0 80 81 (dk dt_findChoices 98 rfl) fl_175 mk_0 ml_0 (by decide) rfl rfl ?_
      refine T_bipush (v := 10) (dk dt_findChoices 99 rfl) (by decide +kernel) ?_
      refine T_iload_n 1 (dk dt_findChoices 100 rfl) rfl rfl ?_
      refine T_imul (dk dt_findChoices 101 rfl) ?_
      refine T_iload 4 (dk dt_findChoices 102 rfl) rfl ?_
      refine T_iadd (dk dt_findChoices 103 rfl) ?_
      obtain ⟨h5, h⟩ := h
      refine T_iald 81 60 (dk dt_findChoices 104 rfl) mk_81 ml_81 h5 ?_
      refine T_aload_n 0 (dk dt_findChoices 105 rfl) rfl rfl ?_
      refine T_getR 0 80 81 (dk dt_findChoices 106 rfl) fl_175 mk_0 ml_0 (by decide) rfl rfl ?_
      refine T_bipush (v := 10) (dk dt_findChoices 107 rfl) (by decide +kernel) ?_
      refine T_iload_n 1 (dk dt_findChoices 108 rfl) rfl rfl ?_
      refine T_imul (dk dt_findChoices 109 rfl) ?_
      refine T_iload_n 2 (dk dt_findChoices 110 rfl) rfl rfl ?_
      refine T_iadd (dk dt_findChoices 111 rfl) ?_
      obtain ⟨h6, h⟩ := h
      refine T_iald 81 60 (dk dt_findChoices 112 rfl) mk_81 ml_81 h6 ?_
      refine T_icmp_eq 199 (dk dt_findChoices 113 rfl) (by decide) (fun c7 => ?_) (fun c7 => ?_)
      · have h := h.1 c7
        refine T_iconst (v := 0) (dk dt_findChoices 116 rfl) (by decide +kernel) ?_
        refine T_istore_n (lv2 := [(3, vi 0), (0, vr 0), (1, vi l1), (2, vi l2), (4, vi l4)]) (dk dt_findChoices 117 rfl) rfl (by decide) rfl ?_
        refine T_iinc (v := l4 + 1) (lv2 := [(4, vi (l4 + 1)), (3, vi 0), (0, vr 0), (1, vi l1), (2, vi l2)]) 4 (dk dt_findChoices 118 rfl) rfl rfl (by decide) rfl ?_
        refine T_goto 159 (dk dt_findChoices 119 rfl) (by decide) ?_
        exact T_sub [2, 3, 4, 1, 0] rfl h
      · have h := h.2 c7
        refine T_iconst (v := 1) (dk dt_findChoices 114 rfl) (by decide +kernel) ?_
        refine T_goto 200 (dk dt_findChoices 115 rfl) (by decide) ?_
        refine T_istore_n (lv2 := [(3, vi 1), (0, vr 0), (1, vi l1), (2, vi l2), (4, vi l4)]) (dk dt_findChoices 117 rfl) rfl (by decide) rfl ?_
        refine T_iinc (v := l4 + 1) (lv2 := [(4, vi (l4 + 1)), (3, vi 1), (0, vr 0), (1, vi l1), (2, vi l2)]) 4 (dk dt_findChoices 118 rfl) rfl rfl (by decide) rfl ?_
        refine T_goto 159 (dk dt_findChoices 119 rfl) (by decide) ?_
        exact T_sub [2, 3, 4, 1, 0] rfl h
set_option maxRecDepth 100000 in
theorem dt_see : dck cX12_see [(0, .aload_n 0, 1), (1, .getfield 142, 3), (4, .iload_n 2, 1), (5, .iaload, 1), (6, .istore_n 3, 1), (7, .iconst 0, 1), (8, .istore 4, 2), (10, .iload 4, 2), (12, .aload_n 0, 1), (13, .getfield 172, 3), (16, .iload_n 1, 1), (17, .iaload, 1), (18, .if_icmp .ge 42, 3), (21, .aload_n 0, 1), (22, .getfield 175, 3), (25, .bipush 10, 2), (27, .iload_n 1, 1), (28, .imul, 1), (29, .iload 4, 2), (31, .iadd, 1), (32, .iaload, 1), (33, .iload_n 2, 1), (34, .if_icmp .ne 18, 3), (37, .aload_n 0, 1), (38, .getfield 178, 3), (41, .bipush 10, 2), (43, .iload_n 1, 1), (44, .imul, 1), (45, .iload 4, 2), (47, .iadd, 1), (48, .iaload, 1), (49, .goto 4, 3), (52, .iload_n 3, 1), (53, .istore_n 3, 1), (54, .iinc 4 1, 3), (57, .goto (-47), 3), (60, .iload_n 3, 1), (61, .ireturn, 1)] = true := by decide +kernel
set_option maxRecDepth 100000 in
set_option maxHeartbeats 4000000 in
theorem sg_see_0 {G : mG} {d : Nat} {x : gd} {P : Option gv → gd → Prop} (l1 : Int32) (l2 : Int32)
    (h : vp_in l2 24 ∧ MT G d z_see 10 [(0, vr 0), (1, vi l1), (2, vi l2), (3, vi (x.1 70 (l2 : Int32).toNatClampNeg)), (4, vi 0)] [] x P) :
    MT G d z_see 0 [(0, vr 0), (1, vi l1), (2, vi l2)] [] x P := by
  refine T_aload_n 0 (dk dt_see 0 rfl) rfl rfl ?_
  refine T_getR 0 69 70 (dk dt_see 1 rfl) fl_142 mk_0 ml_0 (by decide) rfl rfl ?_
  refine T_iload_n 2 (dk dt_see 2 rfl) rfl rfl ?_
  obtain ⟨h1, h⟩ := h
  refine T_iald 70 24 (dk dt_see 3 rfl) mk_70 ml_70 h1 ?_
  refine T_istore_n (lv2 := [(3, vi (x.1 70 (l2 : Int32).toNatClampNeg)), (0, vr 0), (1, vi l1), (2, vi l2)]) (dk dt_see 4 rfl) rfl (by decide) rfl ?_
  refine T_iconst (v := 0) (dk dt_see 5 rfl) (by decide +kernel) ?_
  refine T_istore (lv2 := [(4, vi 0), (3, vi (x.1 70 (l2 : Int32).toNatClampNeg)), (0, vr 0), (1, vi l1), (2, vi l2)]) (dk dt_see 6 rfl) (by decide) rfl ?_
  exact T_sub [2, 3, 4, 1, 0] rfl h
set_option maxRecDepth 100000 in
set_option maxHeartbeats 4000000 in
theorem sg_see_10 {G : mG} {d : Nat} {x : gd} {P : Option gv → gd → Prop} (l1 : Int32) (l2 : Int32) (l3 : Int32) (l4 : Int32)
    (h : vp_in l1 6 ∧ (((x.1 80 (l1 : Int32).toNatClampNeg) ≤ l4 → P (some (vi l3)) x) ∧ (¬ ((x.1 80 (l1 : Int32).toNatClampNeg) ≤ l4) → vp_in ((10 * l1) + l4) 60 ∧ ((¬ ((x.1 81 ((10 * l1) + l4 : Int32).toNatClampNeg) = l2) → MT G d z_see 10 [(0, vr 0), (1, vi l1), (2, vi l2), (3, vi l3), (4, vi (l4 + 1))] [] x P) ∧ ((x.1 81 ((10 * l1) + l4 : Int32).toNatClampNeg) = l2 → vp_in ((10 * l1) + l4) 60 ∧ MT G d z_see 10 [(0, vr 0), (1, vi l1), (2, vi l2), (3, vi (x.1 82 ((10 * l1) + l4 : Int32).toNatClampNeg)), (4, vi (l4 + 1))] [] x P))))) :
    MT G d z_see 10 [(0, vr 0), (1, vi l1), (2, vi l2), (3, vi l3), (4, vi l4)] [] x P := by
  refine T_iload 4 (dk dt_see 7 rfl) rfl ?_
  refine T_aload_n 0 (dk dt_see 8 rfl) rfl rfl ?_
  refine T_getR 0 79 80 (dk dt_see 9 rfl) fl_172 mk_0 ml_0 (by decide) rfl rfl ?_
  refine T_iload_n 1 (dk dt_see 10 rfl) rfl rfl ?_
  obtain ⟨h1, h⟩ := h
  refine T_iald 80 6 (dk dt_see 11 rfl) mk_80 ml_80 h1 ?_
  refine T_icmp_ge 60 (dk dt_see 12 rfl) (by decide) (fun c2 => ?_) (fun c2 => ?_)
  · have h := h.1 c2
    refine T_iload_n 3 (dk dt_see 36 rfl) rfl rfl ?_
    exact MT_iret (dk dt_see 37 rfl) rfl rfl h
  · have h := h.2 c2
    refine T_aload_n 0 (dk dt_see 13 rfl) rfl rfl ?_
    refine T_getR 0 80 81 (dk dt_see 14 rfl) fl_175 mk_0 ml_0 (by decide) rfl rfl ?_
    refine T_bipush (v := 10) (dk dt_see 15 rfl) (by decide +kernel) ?_
    refine T_iload_n 1 (dk dt_see 16 rfl) rfl rfl ?_
    refine T_imul (dk dt_see 17 rfl) ?_
    refine T_iload 4 (dk dt_see 18 rfl) rfl ?_
    refine T_iadd (dk dt_see 19 rfl) ?_
    obtain ⟨h3, h⟩ := h
    refine T_iald 81 60 (dk dt_see 20 rfl) mk_81 ml_81 h3 ?_
    refine T_iload_n 2 (dk dt_see 21 rfl) rfl rfl ?_
    refine T_icmp_ne 52 (dk dt_see 22 rfl) (by decide) (fun c4 => ?_) (fun c4 => ?_)
    · have h := h.1 c4
      refine T_iload_n 3 (dk dt_see 32 rfl) rfl rfl ?_
      refine T_istore_n (lv2 := [(3, vi l3), (0, vr 0), (1, vi l1), (2, vi l2), (4, vi l4)]) (dk dt_see 33 rfl) rfl (by decide) rfl ?_
      refine T_iinc (v := l4 + 1) (lv2 := [(4, vi (l4 + 1)), (3, vi l3), (0, vr 0), (1, vi l1), (2, vi l2)]) 4 (dk dt_see 34 rfl) rfl rfl (by decide) rfl ?_
      refine T_goto 10 (dk dt_see 35 rfl) (by decide) ?_
      exact T_sub [2, 3, 4, 1, 0] rfl h
    · have h := h.2 c4
      refine T_aload_n 0 (dk dt_see 23 rfl) rfl rfl ?_
      refine T_getR 0 81 82 (dk dt_see 24 rfl) fl_178 mk_0 ml_0 (by decide) rfl rfl ?_
      refine T_bipush (v := 10) (dk dt_see 25 rfl) (by decide +kernel) ?_
      refine T_iload_n 1 (dk dt_see 26 rfl) rfl rfl ?_
      refine T_imul (dk dt_see 27 rfl) ?_
      refine T_iload 4 (dk dt_see 28 rfl) rfl ?_
      refine T_iadd (dk dt_see 29 rfl) ?_
      obtain ⟨h5, h⟩ := h
      refine T_iald 82 60 (dk dt_see 30 rfl) mk_82 ml_82 h5 ?_
      refine T_goto 53 (dk dt_see 31 rfl) (by decide) ?_
      refine T_istore_n (lv2 := [(3, vi (x.1 82 ((10 * l1) + l4 : Int32).toNatClampNeg)), (0, vr 0), (1, vi l1), (2, vi l2), (4, vi l4)]) (dk dt_see 33 rfl) rfl (by decide) rfl ?_
      refine T_iinc (v := l4 + 1) (lv2 := [(4, vi (l4 + 1)), (3, vi (x.1 82 ((10 * l1) + l4 : Int32).toNatClampNeg)), (0, vr 0), (1, vi l1), (2, vi l2)]) 4 (dk dt_see 34 rfl) rfl rfl (by decide) rfl ?_
      refine T_goto 10 (dk dt_see 35 rfl) (by decide) ?_
      exact T_sub [2, 3, 4, 1, 0] rfl h
