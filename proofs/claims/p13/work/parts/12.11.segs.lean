set_option maxRecDepth 100000 in
theorem dt_after : dck cX12_after [(0, .iload_n 2, 1), (1, .iconst (-1), 1), (2, .if_icmp .ne 4, 3), (5, .return_, 1), (6, .iconst 0, 1), (7, .istore_n 3, 1), (8, .iload_n 3, 1), (9, .bipush 7, 2), (11, .if_icmp .ge 43, 3), (14, .aload_n 0, 1), (15, .getfield 217, 3), (18, .bipush 7, 2), (20, .iload_n 1, 1), (21, .imul, 1), (22, .iload_n 3, 1), (23, .iadd, 1), (24, .aload_n 0, 1), (25, .getfield 217, 3), (28, .bipush 7, 2), (30, .iload_n 1, 1), (31, .imul, 1), (32, .iload_n 3, 1), (33, .iadd, 1), (34, .laload, 1), (35, .aload_n 0, 1), (36, .getfield 217, 3), (39, .bipush 7, 2), (41, .iload_n 2, 1), (42, .imul, 1), (43, .iload_n 3, 1), (44, .iadd, 1), (45, .laload, 1), (46, .lor, 1), (47, .lastore, 1), (48, .iinc 3 1, 3), (51, .goto (-43), 3), (54, .aload_n 0, 1), (55, .getfield 217, 3), (58, .bipush 7, 2), (60, .iload_n 1, 1), (61, .imul, 1), (62, .iload_n 2, 1), (63, .bipush 64, 2), (65, .idiv, 1), (66, .iadd, 1), (67, .aload_n 0, 1), (68, .getfield 217, 3), (71, .bipush 7, 2), (73, .iload_n 1, 1), (74, .imul, 1), (75, .iload_n 2, 1), (76, .bipush 64, 2), (78, .idiv, 1), (79, .iadd, 1), (80, .laload, 1), (81, .lconst 1, 1), (82, .iload_n 2, 1), (83, .bipush 64, 2), (85, .irem, 1), (86, .lshl, 1), (87, .lor, 1), (88, .lastore, 1), (89, .return_, 1)] = true := by decide +kernel
set_option maxRecDepth 100000 in
set_option maxHeartbeats 4000000 in
theorem sg_after_0 {G : mG} {d : Nat} {x : gd} {P : Option gv → gd → Prop} (l1 : Int32) (l2 : Int32)
    (h : ((¬ (l2 = (-1 : Int32)) → MT G d z_after 8 [(0, vr 0), (1, vi l1), (2, vi l2), (3, vi 0)] [] x P) ∧ (l2 = (-1 : Int32) → P none x))) :
    MT G d z_after 0 [(0, vr 0), (1, vi l1), (2, vi l2)] [] x P := by
  refine T_iload_n 2 (dk dt_after 0 rfl) rfl rfl ?_
  refine T_iconst (v := (-1)) (dk dt_after 1 rfl) (by decide +kernel) ?_
  refine T_icmp_ne 6 (dk dt_after 2 rfl) (by decide) (fun c1 => ?_) (fun c1 => ?_)
  · have h := h.1 c1
    refine T_iconst (v := 0) (dk dt_after 4 rfl) (by decide +kernel) ?_
    refine T_istore_n (lv2 := [(3, vi 0), (0, vr 0), (1, vi l1), (2, vi l2)]) (dk dt_after 5 rfl) rfl (by decide) rfl ?_
    exact T_sub [1, 2, 3, 0] rfl h
  · have h := h.2 c1
    exact MT_vret (dk dt_after 3 rfl) rfl h
set_option maxRecDepth 100000 in
set_option maxHeartbeats 4000000 in
theorem sg_after_8 {G : mG} {d : Nat} {x : gd} {P : Option gv → gd → Prop} (l1 : Int32) (l2 : Int32) (l3 : Int32)
    (h : (((7 : Int32) ≤ l3 → ¬ (64 : Int32) = 0 ∧ ¬ (64 : Int32) = 0 ∧ vp_in ((7 * l1) + (l2 / 64)) 2800 ∧ ¬ (64 : Int32) = 0 ∧ vp_in ((7 * l1) + (l2 / 64)) 2800 ∧ (∀ x7 : gd, x7 = sL x 105 ((7 * l1) + (l2 / 64) : Int32).toNatClampNeg ((x.2 105 ((7 * l1) + (l2 / 64) : Int32).toNatClampNeg) ||| (1 <<< ((l2 - l2 / 64 * 64 : Int32).toInt64 &&& 63 : Int64))) → P none x7)) ∧ (¬ ((7 : Int32) ≤ l3) → vp_in ((7 * l1) + l3) 2800 ∧ vp_in ((7 * l2) + l3) 2800 ∧ vp_in ((7 * l1) + l3) 2800 ∧ (∀ x11 : gd, x11 = sL x 105 ((7 * l1) + l3 : Int32).toNatClampNeg ((x.2 105 ((7 * l1) + l3 : Int32).toNatClampNeg) ||| (x.2 105 ((7 * l2) + l3 : Int32).toNatClampNeg)) → MT G d z_after 8 [(0, vr 0), (1, vi l1), (2, vi l2), (3, vi (l3 + 1))] [] x11 P)))) :
    MT G d z_after 8 [(0, vr 0), (1, vi l1), (2, vi l2), (3, vi l3)] [] x P := by
  refine T_iload_n 3 (dk dt_after 6 rfl) rfl rfl ?_
  refine T_bipush (v := 7) (dk dt_after 7 rfl) (by decide +kernel) ?_
  refine T_icmp_ge 54 (dk dt_after 8 rfl) (by decide) (fun c1 => ?_) (fun c1 => ?_)
  · have h := h.1 c1
    refine T_aload_n 0 (dk dt_after 36 rfl) rfl rfl ?_
    refine T_getR 0 104 105 (dk dt_after 37 rfl) fl_217 mk_0 ml_0 (by decide) rfl rfl ?_
    refine T_bipush (v := 7) (dk dt_after 38 rfl) (by decide +kernel) ?_
    refine T_iload_n 1 (dk dt_after 39 rfl) rfl rfl ?_
    refine T_imul (dk dt_after 40 rfl) ?_
    refine T_iload_n 2 (dk dt_after 41 rfl) rfl rfl ?_
    refine T_bipush (v := 64) (dk dt_after 42 rfl) (by decide +kernel) ?_
    obtain ⟨h2, h⟩ := h
    refine T_idiv (dk dt_after 43 rfl) h2 ?_
    refine T_iadd (dk dt_after 44 rfl) ?_
    refine T_aload_n 0 (dk dt_after 45 rfl) rfl rfl ?_
    refine T_getR 0 104 105 (dk dt_after 46 rfl) fl_217 mk_0 ml_0 (by decide) rfl rfl ?_
    refine T_bipush (v := 7) (dk dt_after 47 rfl) (by decide +kernel) ?_
    refine T_iload_n 1 (dk dt_after 48 rfl) rfl rfl ?_
    refine T_imul (dk dt_after 49 rfl) ?_
    refine T_iload_n 2 (dk dt_after 50 rfl) rfl rfl ?_
    refine T_bipush (v := 64) (dk dt_after 51 rfl) (by decide +kernel) ?_
    obtain ⟨h3, h⟩ := h
    refine T_idiv (dk dt_after 52 rfl) h3 ?_
    refine T_iadd (dk dt_after 53 rfl) ?_
    obtain ⟨h4, h⟩ := h
    refine T_lald 105 2800 (dk dt_after 54 rfl) mk_105 ml_105 h4 ?_
    refine T_lconst (v := 1) (dk dt_after 55 rfl) (by decide +kernel) ?_
    refine T_iload_n 2 (dk dt_after 56 rfl) rfl rfl ?_
    refine T_bipush (v := 64) (dk dt_after 57 rfl) (by decide +kernel) ?_
    obtain ⟨h5, h⟩ := h
    refine T_irem (dk dt_after 58 rfl) h5 ?_
    refine T_lshl (dk dt_after 59 rfl) ?_
    refine T_lor (dk dt_after 60 rfl) ?_
    obtain ⟨h6, h⟩ := h
    obtain ⟨x7, ex7⟩ : ∃ z, z = sL x 105 ((7 * l1) + (l2 / 64) : Int32).toNatClampNeg ((x.2 105 ((7 * l1) + (l2 / 64) : Int32).toNatClampNeg) ||| (1 <<< ((l2 - l2 / 64 * 64 : Int32).toInt64 &&& 63 : Int64))) := ⟨_, rfl⟩
    have h := h x7 ex7
    refine T_last 105 2800 (dk dt_after 61 rfl) mk_105 ml_105 h6 ?_
    rw [← ex7]
    exact MT_vret (dk dt_after 62 rfl) rfl h
  · have h := h.2 c1
    refine T_aload_n 0 (dk dt_after 9 rfl) rfl rfl ?_
    refine T_getR 0 104 105 (dk dt_after 10 rfl) fl_217 mk_0 ml_0 (by decide) rfl rfl ?_
    refine T_bipush (v := 7) (dk dt_after 11 rfl) (by decide +kernel) ?_
    refine T_iload_n 1 (dk dt_after 12 rfl) rfl rfl ?_
    refine T_imul (dk dt_after 13 rfl) ?_
    refine T_iload_n 3 (dk dt_after 14 rfl) rfl rfl ?_
    refine T_iadd (dk dt_after 15 rfl) ?_
    refine T_aload_n 0 (dk dt_after 16 rfl) rfl rfl ?_
    refine T_getR 0 104 105 (dk dt_after 17 rfl) fl_217 mk_0 ml_0 (by decide) rfl rfl ?_
    refine T_bipush (v := 7) (dk dt_after 18 rfl) (by decide +kernel) ?_
    refine T_iload_n 1 (dk dt_after 19 rfl) rfl rfl ?_
    refine T_imul (dk dt_after 20 rfl) ?_
    refine T_iload_n 3 (dk dt_after 21 rfl) rfl rfl ?_
    refine T_iadd (dk dt_after 22 rfl) ?_
    obtain ⟨h8, h⟩ := h
    refine T_lald 105 2800 (dk dt_after 23 rfl) mk_105 ml_105 h8 ?_
    refine T_aload_n 0 (dk dt_after 24 rfl) rfl rfl ?_
    refine T_getR 0 104 105 (dk dt_after 25 rfl) fl_217 mk_0 ml_0 (by decide) rfl rfl ?_
    refine T_bipush (v := 7) (dk dt_after 26 rfl) (by decide +kernel) ?_
    refine T_iload_n 2 (dk dt_after 27 rfl) rfl rfl ?_
    refine T_imul (dk dt_after 28 rfl) ?_
    refine T_iload_n 3 (dk dt_after 29 rfl) rfl rfl ?_
    refine T_iadd (dk dt_after 30 rfl) ?_
    obtain ⟨h9, h⟩ := h
    refine T_lald 105 2800 (dk dt_after 31 rfl) mk_105 ml_105 h9 ?_
    refine T_lor (dk dt_after 32 rfl) ?_
    obtain ⟨h10, h⟩ := h
    obtain ⟨x11, ex11⟩ : ∃ z, z = sL x 105 ((7 * l1) + l3 : Int32).toNatClampNeg ((x.2 105 ((7 * l1) + l3 : Int32).toNatClampNeg) ||| (x.2 105 ((7 * l2) + l3 : Int32).toNatClampNeg)) := ⟨_, rfl⟩
    have h := h x11 ex11
    refine T_last 105 2800 (dk dt_after 33 rfl) mk_105 ml_105 h10 ?_
    rw [← ex11]
    refine T_iinc (v := l3 + 1) (lv2 := [(3, vi (l3 + 1)), (0, vr 0), (1, vi l1), (2, vi l2)]) 3 (dk dt_after 34 rfl) rfl rfl (by decide) rfl ?_
    refine T_goto 8 (dk dt_after 35 rfl) (by decide) ?_
    exact T_sub [1, 2, 3, 0] rfl h
set_option maxRecDepth 100000 in
theorem dt_order : dck cX12_order [(0, .iconst 0, 1), (1, .istore_n 2, 1), (2, .iload_n 2, 1), (3, .bipush 7, 2), (5, .if_icmp .ge 21, 3), (8, .aload_n 0, 1), (9, .getfield 217, 3), (12, .bipush 7, 2), (14, .iload_n 1, 1), (15, .imul, 1), (16, .iload_n 2, 1), (17, .iadd, 1), (18, .lconst 0, 1), (19, .lastore, 1), (20, .iinc 2 1, 3), (23, .goto (-21), 3), (26, .aload_n 0, 1), (27, .getfield 196, 3), (30, .iload_n 1, 1), (31, .iaload, 1), (32, .istore_n 2, 1), (33, .aload_n 0, 1), (34, .getfield 199, 3), (37, .iload_n 1, 1), (38, .iaload, 1), (39, .istore_n 3, 1), (40, .iconst (-1), 1), (41, .istore 4, 2), (43, .iconst 0, 1), (44, .istore 5, 2), (46, .iload 5, 2), (48, .iload_n 1, 1), (49, .if_icmp .ge 29, 3), (52, .aload_n 0, 1), (53, .getfield 196, 3), (56, .iload 5, 2), (58, .iaload, 1), (59, .iload_n 2, 1), (60, .if_icmp .ne 8, 3), (63, .iload 5, 2), (65, .goto 5, 3), (68, .iload 4, 2), (70, .istore 4, 2), (72, .iinc 5 1, 3), (75, .goto (-29), 3), (78, .aload_n 0, 1), (79, .iload_n 1, 1), (80, .iload 4, 2), (82, .invokevirtual 656, 3), (85, .aload_n 0, 1), (86, .iload_n 1, 1), (87, .aload_n 0, 1), (88, .getfield 221, 3), (91, .iload_n 2, 1), (92, .iaload, 1), (93, .invokevirtual 656, 3), (96, .aload_n 0, 1), (97, .getfield 211, 3), (100, .iload_n 1, 1), (101, .baload, 1), (102, .ifCond .eq 4, 3), (105, .return_, 1), (106, .iconst 0, 1), (107, .istore 5, 2), (109, .iload 5, 2), (111, .iload_n 1, 1), (112, .if_icmp .ge 191, 3), (115, .aload_n 0, 1), (116, .getfield 199, 3), (119, .iload 5, 2), (121, .iaload, 1), (122, .istore 6, 2), (124, .iload_n 3, 1), (125, .bipush 10, 2), (127, .if_icmp .ne 23, 3), (130, .aload_n 0, 1), (131, .getfield 196, 3), (134, .iload 5, 2), (136, .iaload, 1), (137, .aload_n 0, 1), (138, .getfield 202, 3), (141, .iload_n 1, 1), (142, .iaload, 1), (143, .if_icmp .ne 7, 3), (146, .iconst 1, 1), (147, .goto 4, 3), (150, .iconst 0, 1), (151, .istore 7, 2), (153, .aload_n 0, 1), (154, .getfield 211, 3), (157, .iload 5, 2), (159, .baload, 1), (160, .ifCond .ne 125, 3), (163, .iload 7, 2), (165, .ifCond .ne 44, 3), (168, .iload_n 3, 1), (169, .iconst 5, 1), (170, .if_icmp .eq 9, 3), (173, .iload_n 3, 1), (174, .bipush 15, 2), (176, .if_icmp .ne 37, 3), (179, .iload 6, 2), (181, .bipush 6, 2), (183, .if_icmp .eq 10, 3), (186, .iload 6, 2), (188, .bipush 7, 2), (190, .if_icmp .ne 23, 3), (193, .aload_n 0, 1), (194, .getfield 202, 3), (197, .iload 5, 2), (199, .iaload, 1), (200, .aload_n 0, 1), (201, .getfield 202, 3), (204, .iload_n 1, 1), (205, .iaload, 1), (206, .if_icmp .ne 7, 3), (209, .iconst 1, 1), (210, .goto 4, 3), (213, .iconst 0, 1), (214, .istore 7, 2), (216, .iload 7, 2), (218, .ifCond .ne 60, 3), (221, .aload_n 0, 1), (222, .iload_n 3, 1), (223, .invokevirtual 605, 3), (226, .ifCond .eq 56, 3), (229, .iload_n 3, 1), (230, .iconst 1, 1), (231, .if_icmp .eq 51, 3), (234, .aload_n 0, 1), (235, .iload 6, 2), (237, .invokevirtual 605, 3), (240, .ifCond .eq 42, 3), (243, .iload 6, 2), (245, .ifCond .eq 37, 3), (248, .aload_n 0, 1), (249, .getfield 202, 3), (252, .iload 5, 2), (254, .iaload, 1), (255, .aload_n 0, 1), (256, .getfield 202, 3), (259, .iload_n 1, 1), (260, .iaload, 1), (261, .if_icmp .ne 21, 3), (264, .aload_n 0, 1), (265, .getfield 73, 3), (268, .aload_n 0, 1), (269, .getfield 202, 3), (272, .iload_n 1, 1), (273, .iaload, 1), (274, .baload, 1), (275, .ifCond .eq 7, 3), (278, .iconst 1, 1), (279, .goto 4, 3), (282, .iconst 0, 1), (283, .istore 7, 2), (285, .iload 7, 2), (287, .ifCond .eq 10, 3), (290, .aload_n 0, 1), (291, .iload_n 1, 1), (292, .iload 5, 2), (294, .invokevirtual 656, 3), (297, .iinc 5 1, 3), (300, .goto (-191), 3), (303, .iload_n 3, 1), (304, .bipush 15, 2), (306, .if_icmp .ne 14, 3), (309, .aload_n 0, 1), (310, .iload_n 1, 1), (311, .aload_n 0, 1), (312, .getfield 224, 3), (315, .iload_n 2, 1), (316, .iaload, 1), (317, .invokevirtual 656, 3), (320, .return_, 1)] = true := by decide +kernel
set_option maxRecDepth 100000 in
set_option maxHeartbeats 4000000 in
theorem sg_order_0 {G : mG} {d : Nat} {x : gd} {P : Option gv → gd → Prop} (l1 : Int32)
    (h : MT G (d + 1) z_order 2 [(0, vr 0), (1, vi l1), (2, vi 0)] [] x P) :
    MT G (d + 1) z_order 0 [(0, vr 0), (1, vi l1)] [] x P := by
  refine T_iconst (v := 0) (dk dt_order 0 rfl) (by decide +kernel) ?_
  refine T_istore_n (lv2 := [(2, vi 0), (0, vr 0), (1, vi l1)]) (dk dt_order 1 rfl) rfl (by decide) rfl ?_
  exact T_sub [1, 2, 0] rfl h
set_option maxRecDepth 100000 in
set_option maxHeartbeats 4000000 in
theorem sg_order_2 {G : mG} {d : Nat} {x : gd} {P : Option gv → gd → Prop} (l1 : Int32) (l2 : Int32)
    (h : (((7 : Int32) ≤ l2 → vp_in l1 400 ∧ vp_in l1 400 ∧ MT G (d + 1) z_order 46 [(0, vr 0), (1, vi l1), (2, vi (x.1 98 (l1 : Int32).toNatClampNeg)), (3, vi (x.1 99 (l1 : Int32).toNatClampNeg)), (4, vi (-1)), (5, vi 0)] [] x P) ∧ (¬ ((7 : Int32) ≤ l2) → vp_in ((7 * l1) + l2) 2800 ∧ (∀ x5 : gd, x5 = sL x 105 ((7 * l1) + l2 : Int32).toNatClampNeg 0 → MT G (d + 1) z_order 2 [(0, vr 0), (1, vi l1), (2, vi (l2 + 1))] [] x5 P)))) :
    MT G (d + 1) z_order 2 [(0, vr 0), (1, vi l1), (2, vi l2)] [] x P := by
  refine T_iload_n 2 (dk dt_order 2 rfl) rfl rfl ?_
  refine T_bipush (v := 7) (dk dt_order 3 rfl) (by decide +kernel) ?_
  refine T_icmp_ge 26 (dk dt_order 4 rfl) (by decide) (fun c1 => ?_) (fun c1 => ?_)
  · have h := h.1 c1
    refine T_aload_n 0 (dk dt_order 16 rfl) rfl rfl ?_
    refine T_getR 0 97 98 (dk dt_order 17 rfl) fl_196 mk_0 ml_0 (by decide) rfl rfl ?_
    refine T_iload_n 1 (dk dt_order 18 rfl) rfl rfl ?_
    obtain ⟨h2, h⟩ := h
    refine T_iald 98 400 (dk dt_order 19 rfl) mk_98 ml_98 h2 ?_
    refine T_istore_n (lv2 := [(2, vi (x.1 98 (l1 : Int32).toNatClampNeg)), (0, vr 0), (1, vi l1)]) (dk dt_order 20 rfl) rfl (by decide) rfl ?_
    refine T_aload_n 1 (dk dt_order 21 rfl) rfl rfl ?_
    refine T_getR 0 98 99 (dk dt_order 22 rfl) fl_199 mk_0 ml_0 (by decide) rfl rfl ?_
    refine T_iload_n 2 (dk dt_order 23 rfl) rfl rfl ?_
    obtain ⟨h3, h⟩ := h
    refine T_iald 99 400 (dk dt_order 24 rfl) mk_99 ml_99 h3 ?_
    refine T_istore_n (lv2 := [(3, vi (x.1 99 (l1 : Int32).toNatClampNeg)), (2, vi (x.1 98 (l1 : Int32).toNatClampNeg)), (0, vr 0), (1, vi l1)]) (dk dt_order 25 rfl) rfl (by decide) rfl ?_
    refine T_iconst (v := (-1)) (dk dt_order 26 rfl) (by decide +kernel) ?_
    refine T_istore (lv2 := [(4, vi (-1)), (3, vi (x.1 99 (l1 : Int32).toNatClampNeg)), (2, vi (x.1 98 (l1 : Int32).toNatClampNeg)), (0, vr 0), (1, vi l1)]) (dk dt_order 27 rfl) (by decide) rfl ?_
    refine T_iconst (v := 0) (dk dt_order 28 rfl) (by decide +kernel) ?_
    refine T_istore (lv2 := [(5, vi 0), (4, vi (-1)), (3, vi (x.1 99 (l1 : Int32).toNatClampNeg)), (2, vi (x.1 98 (l1 : Int32).toNatClampNeg)), (0, vr 0), (1, vi l1)]) (dk dt_order 29 rfl) (by decide) rfl ?_
    exact T_sub [4, 5, 3, 2, 1, 0] rfl h
  · have h := h.2 c1
    refine T_aload_n 0 (dk dt_order 5 rfl) rfl rfl ?_
    refine T_getR 0 104 105 (dk dt_order 6 rfl) fl_217 mk_0 ml_0 (by decide) rfl rfl ?_
    refine T_bipush (v := 7) (dk dt_order 7 rfl) (by decide +kernel) ?_
    refine T_iload_n 1 (dk dt_order 8 rfl) rfl rfl ?_
    refine T_imul (dk dt_order 9 rfl) ?_
    refine T_iload_n 2 (dk dt_order 10 rfl) rfl rfl ?_
    refine T_iadd (dk dt_order 11 rfl) ?_
    refine T_lconst (v := 0) (dk dt_order 12 rfl) (by decide +kernel) ?_
    obtain ⟨h4, h⟩ := h
    obtain ⟨x5, ex5⟩ : ∃ z, z = sL x 105 ((7 * l1) + l2 : Int32).toNatClampNeg 0 := ⟨_, rfl⟩
    have h := h x5 ex5
    refine T_last 105 2800 (dk dt_order 13 rfl) mk_105 ml_105 h4 ?_
    rw [← ex5]
    refine T_iinc (v := l2 + 1) (lv2 := [(2, vi (l2 + 1)), (0, vr 0), (1, vi l1)]) 2 (dk dt_order 14 rfl) rfl rfl (by decide) rfl ?_
    refine T_goto 2 (dk dt_order 15 rfl) (by decide) ?_
    exact T_sub [1, 2, 0] rfl h
set_option maxRecDepth 100000 in
set_option maxHeartbeats 4000000 in
theorem sg_order_46 {G : mG} {d : Nat} {x : gd} {P : Option gv → gd → Prop} (l1 : Int32) (l2 : Int32) (l3 : Int32) (l4 : Int32) (l5 : Int32)
    (h : ((l1 ≤ l5 → MT G d z_after 0 [(0, vr 0), (1, vi l1), (2, vi l4)] [] x (rv (fun x2 => vp_in l2 6 ∧ MT G d z_after 0 [(0, vr 0), (1, vi l1), (2, vi (x2.1 106 (l2 : Int32).toNatClampNeg))] [] x2 (rv (fun x4 => vp_in l1 400 ∧ (((x4.1 103 (l1 : Int32).toNatClampNeg) = (0 : Int32) → MT G (d + 1) z_order 109 [(0, vr 0), (1, vi l1), (2, vi l2), (3, vi l3), (5, vi 0)] [] x4 P) ∧ (¬ ((x4.1 103 (l1 : Int32).toNatClampNeg) = (0 : Int32)) → P none x4))))))) ∧ (¬ (l1 ≤ l5) → vp_in l5 400 ∧ ((¬ ((x.1 98 (l5 : Int32).toNatClampNeg) = l2) → MT G (d + 1) z_order 46 [(0, vr 0), (1, vi l1), (2, vi l2), (3, vi l3), (4, vi l4), (5, vi (l5 + 1))] [] x P) ∧ ((x.1 98 (l5 : Int32).toNatClampNeg) = l2 → MT G (d + 1) z_order 46 [(0, vr 0), (1, vi l1), (2, vi l2), (3, vi l3), (4, vi l5), (5, vi (l5 + 1))] [] x P))))) :
    MT G (d + 1) z_order 46 [(0, vr 0), (1, vi l1), (2, vi l2), (3, vi l3), (4, vi l4), (5, vi l5)] [] x P := by
  refine T_iload 5 (dk dt_order 30 rfl) rfl ?_
  refine T_iload_n 1 (dk dt_order 31 rfl) rfl rfl ?_
  refine T_icmp_ge 78 (dk dt_order 32 rfl) (by decide) (fun c1 => ?_) (fun c1 => ?_)
  · have h := h.1 c1
    refine T_aload_n 0 (dk dt_order 45 rfl) rfl rfl ?_
    refine T_iload_n 1 (dk dt_order 46 rfl) rfl rfl ?_
    refine T_iload 4 (dk dt_order 47 rfl) rfl ?_
    refine MT_callVv [vi l1, vi l4] [] rfl (dk dt_order 48 rfl) cv_656 rfl rfl (Nat.le_of_ble_eq_true rfl) (Nat.le_of_ble_eq_true rfl) rfl rfl h (fun x2 h => ?_)
    refine T_aload_n 0 (dk dt_order 49 rfl) rfl rfl ?_
    refine T_iload_n 1 (dk dt_order 50 rfl) rfl rfl ?_
    refine T_aload_n 0 (dk dt_order 51 rfl) rfl rfl ?_
    refine T_getR 0 105 106 (dk dt_order 52 rfl) fl_221 mk_0 ml_0 (by decide) rfl rfl ?_
    refine T_iload_n 2 (dk dt_order 53 rfl) rfl rfl ?_
    obtain ⟨h3, h⟩ := h
    refine T_iald 106 6 (dk dt_order 54 rfl) mk_106 ml_106 h3 ?_
    refine MT_callVv [vi l1, vi (x2.1 106 (l2 : Int32).toNatClampNeg)] [] rfl (dk dt_order 55 rfl) cv_656 rfl rfl (Nat.le_of_ble_eq_true rfl) (Nat.le_of_ble_eq_true rfl) rfl rfl h (fun x4 h => ?_)
    refine T_aload_n 0 (dk dt_order 56 rfl) rfl rfl ?_
    refine T_getR 0 102 103 (dk dt_order 57 rfl) fl_211 mk_0 ml_0 (by decide) rfl rfl ?_
    refine T_iload_n 1 (dk dt_order 58 rfl) rfl rfl ?_
    obtain ⟨h5, h⟩ := h
    refine T_zald 103 400 (dk dt_order 59 rfl) mk_103 ml_103 h5 ?_
    refine T_if_eq 106 (dk dt_order 60 rfl) (by decide) (fun c6 => ?_) (fun c6 => ?_)
    · have h := h.1 c6
      refine T_iconst (v := 0) (dk dt_order 62 rfl) (by decide +kernel) ?_
      refine T_istore (lv2 := [(5, vi 0), (0, vr 0), (1, vi l1), (2, vi l2), (3, vi l3), (4, vi l4)]) (dk dt_order 63 rfl) (by decide) rfl ?_
      exact T_sub [1, 2, 3, 4, 0] rfl h
    · have h := h.2 c6
      exact MT_vret (dk dt_order 61 rfl) rfl h
  · have h := h.2 c1
    refine T_aload_n 0 (dk dt_order 33 rfl) rfl rfl ?_
    refine T_getR 0 97 98 (dk dt_order 34 rfl) fl_196 mk_0 ml_0 (by decide) rfl rfl ?_
    refine T_iload 5 (dk dt_order 35 rfl) rfl ?_
    obtain ⟨h7, h⟩ := h
    refine T_iald 98 400 (dk dt_order 36 rfl) mk_98 ml_98 h7 ?_
    refine T_iload_n 2 (dk dt_order 37 rfl) rfl rfl ?_
    refine T_icmp_ne 68 (dk dt_order 38 rfl) (by decide) (fun c8 => ?_) (fun c8 => ?_)
    · have h := h.1 c8
      refine T_iload 4 (dk dt_order 41 rfl) rfl ?_
      refine T_istore (lv2 := [(4, vi l4), (0, vr 0), (1, vi l1), (2, vi l2), (3, vi l3), (5, vi l5)]) (dk dt_order 42 rfl) (by decide) rfl ?_
      refine T_iinc (v := l5 + 1) (lv2 := [(5, vi (l5 + 1)), (4, vi l4), (0, vr 0), (1, vi l1), (2, vi l2), (3, vi l3)]) 5 (dk dt_order 43 rfl) rfl rfl (by decide) rfl ?_
      refine T_goto 46 (dk dt_order 44 rfl) (by decide) ?_
      exact T_sub [2, 3, 4, 5, 1, 0] rfl h
    · have h := h.2 c8
      refine T_iload 5 (dk dt_order 39 rfl) rfl ?_
      refine T_goto 70 (dk dt_order 40 rfl) (by decide) ?_
      refine T_istore (lv2 := [(4, vi l5), (0, vr 0), (1, vi l1), (2, vi l2), (3, vi l3), (5, vi l5)]) (dk dt_order 42 rfl) (by decide) rfl ?_
      refine T_iinc (v := l5 + 1) (lv2 := [(5, vi (l5 + 1)), (4, vi l5), (0, vr 0), (1, vi l1), (2, vi l2), (3, vi l3)]) 5 (dk dt_order 43 rfl) rfl rfl (by decide) rfl ?_
      refine T_goto 46 (dk dt_order 44 rfl) (by decide) ?_
      exact T_sub [2, 3, 4, 5, 1, 0] rfl h
set_option maxRecDepth 100000 in
set_option maxHeartbeats 4000000 in
theorem sg_order_109 {G : mG} {d : Nat} {x : gd} {P : Option gv → gd → Prop} (l1 : Int32) (l2 : Int32) (l3 : Int32) (l5 : Int32)
    (h : ((l1 ≤ l5 → ((¬ (l3 = (15 : Int32)) → P none x) ∧ (l3 = (15 : Int32) → vp_in l2 6 ∧ MT G d z_after 0 [(0, vr 0), (1, vi l1), (2, vi (x.1 107 (l2 : Int32).toNatClampNeg))] [] x (rv (fun x4 => P none x4))))) ∧ (¬ (l1 ≤ l5) → vp_in l5 400 ∧ ((¬ (l3 = (10 : Int32)) → MT G (d + 1) z_order 151 [(0, vr 0), (1, vi l1), (2, vi l2), (3, vi l3), (5, vi l5), (6, vi (x.1 99 (l5 : Int32).toNatClampNeg))] [vi 0] x P) ∧ (l3 = (10 : Int32) → vp_in l5 400 ∧ vp_in l1 400 ∧ ((¬ ((x.1 98 (l5 : Int32).toNatClampNeg) = (x.1 100 (l1 : Int32).toNatClampNeg)) → MT G (d + 1) z_order 151 [(0, vr 0), (1, vi l1), (2, vi l2), (3, vi l3), (5, vi l5), (6, vi (x.1 99 (l5 : Int32).toNatClampNeg))] [vi 0] x P) ∧ ((x.1 98 (l5 : Int32).toNatClampNeg) = (x.1 100 (l1 : Int32).toNatClampNeg) → MT G (d + 1) z_order 151 [(0, vr 0), (1, vi l1), (2, vi l2), (3, vi l3), (5, vi l5), (6, vi (x.1 99 (l5 : Int32).toNatClampNeg))] [vi 1] x P))))))) :
    MT G (d + 1) z_order 109 [(0, vr 0), (1, vi l1), (2, vi l2), (3, vi l3), (5, vi l5)] [] x P := by
  refine T_iload 4 (dk dt_order 64 rfl) rfl ?_
  refine T_iload_n 1 (dk dt_order 65 rfl) rfl rfl ?_
  refine T_icmp_ge 303 (dk dt_order 66 rfl) (by decide) (fun c1 => ?_) (fun c1 => ?_)
  · have h := h.1 c1
    refine T_iload_n 3 (dk dt_order 164 rfl) rfl rfl ?_
    refine T_bipush (v := 15) (dk dt_order 165 rfl) (by decide +kernel) ?_
    refine T_icmp_ne 320 (dk dt_order 166 rfl) (by decide) (fun c2 => ?_) (fun c2 => ?_)
    · have h := h.1 c2
      exact MT_vret (dk dt_order 174 rfl) rfl h
    · have h := h.2 c2
      refine T_aload_n 0 (dk dt_order 167 rfl) rfl rfl ?_
      refine T_iload_n 1 (dk dt_order 168 rfl) rfl rfl ?_
      refine T_aload_n 0 (dk dt_order 169 rfl) rfl rfl ?_
      refine T_getR 0 106 107 (dk dt_order 170 rfl) fl_224 mk_0 ml_0 (by decide) rfl rfl ?_
      refine T_iload_n 2 (dk dt_order 171 rfl) rfl rfl ?_
      obtain ⟨h3, h⟩ := h
      refine T_iald 107 6 (dk dt_order 172 rfl) mk_107 ml_107 h3 ?_
      refine MT_callVv [vi l1, vi (x.1 107 (l2 : Int32).toNatClampNeg)] [] rfl (dk dt_order 173 rfl) cv_656 rfl rfl (Nat.le_of_ble_eq_true rfl) (Nat.le_of_ble_eq_true rfl) rfl rfl h (fun x4 h => ?_)
      exact MT_vret (dk dt_order 174 rfl) rfl h
  · have h := h.2 c1
    refine T_aload_n 0 (dk dt_order 67 rfl) rfl rfl ?_
    refine T_getR 0 98 99 (dk dt_order 68 rfl) fl_199 mk_0 ml_0 (by decide) rfl rfl ?_
    refine T_iload 4 (dk dt_order 69 rfl) rfl ?_
    obtain ⟨h5, h⟩ := h
    refine T_iald 99 400 (dk dt_order 70 rfl) mk_99 ml_99 h5 ?_
    refine T_istore (lv2 := [(6, vi (x.1 99 (l5 : Int32).toNatClampNeg)), (0, vr 0), (1, vi l1), (2, vi l2), (3, vi l3), (5, vi l5)]) (dk dt_order 71 rfl) (by decide) rfl ?_
    refine T_iload_n 4 (dk dt_order 72 rfl) rfl rfl ?_
    refine T_bipush (v := 10) (dk dt_order 73 rfl) (by decide +kernel) ?_
    refine T_icmp_ne 150 (dk dt_order 74 rfl) (by decide) (fun c6 => ?_) (fun c6 => ?_)
    · have h := h.1 c6
      refine T_iconst (v := 0) (dk dt_order 86 rfl) (by decide +kernel) ?_
      exact T_sub [1, 2, 3, 4, 5, 0] rfl h
    · have h := h.2 c6
      refine T_aload_n 1 (dk dt_order 75 rfl) rfl rfl ?_
      refine T_getR 0 97 98 (dk dt_order 76 rfl) fl_196 mk_0 ml_0 (by decide) rfl rfl ?_
      refine T_iload 5 (dk dt_order 77 rfl) rfl ?_
      obtain ⟨h7, h⟩ := h
      refine T_iald 98 400 (dk dt_order 78 rfl) mk_98 ml_98 h7 ?_
      refine T_aload_n 1 (dk dt_order 79 rfl) rfl rfl ?_
      refine T_getR 0 99 100 (dk dt_order 80 rfl) fl_202 mk_0 ml_0 (by decide) rfl rfl ?_
      refine T_iload_n 2 (dk dt_order 81 rfl) rfl rfl ?_
      obtain ⟨h8, h⟩ := h
      refine T_iald 100 400 (dk dt_order 82 rfl) mk_100 ml_100 h8 ?_
      refine T_icmp_ne 150 (dk dt_order 83 rfl) (by decide) (fun c9 => ?_) (fun c9 => ?_)
      · have h := h.1 c9
        refine T_iconst (v := 0) (dk dt_order 86 rfl) (by decide +kernel) ?_
        exact T_sub [1, 2, 3, 4, 5, 0] rfl h
      · have h := h.2 c9
        refine T_iconst (v := 1) (dk dt_order 84 rfl) (by decide +kernel) ?_
        refine T_goto 151 (dk dt_order 85 rfl) (by decide) ?_
        exact T_sub [1, 2, 3, 4, 5, 0] rfl h
set_option maxRecDepth 100000 in
set_option maxHeartbeats 4000000 in
theorem sg_order_151 {G : mG} {d : Nat} {x : gd} {P : Option gv → gd → Prop} (l1 : Int32) (l2 : Int32) (l3 : Int32) (l5 : Int32) (l6 : Int32) (s0 : Int32)
    (h : vp_in l5 400 ∧ ((¬ ((x.1 103 (l5 : Int32).toNatClampNeg) = (0 : Int32)) → MT G (d + 1) z_order 285 [(0, vr 0), (1, vi l1), (2, vi l2), (3, vi l3), (5, vi l5), (7, vi s0)] [] x P) ∧ ((x.1 103 (l5 : Int32).toNatClampNeg) = (0 : Int32) → ((¬ (s0 = (0 : Int32)) → MT G (d + 1) z_order 214 [(0, vr 0), (1, vi l1), (2, vi l2), (3, vi l3), (5, vi l5), (6, vi l6)] [vi 1] x P) ∧ (s0 = (0 : Int32) → ((l3 = (5 : Int32) → MT G (d + 1) z_order 179 [(0, vr 0), (1, vi l1), (2, vi l2), (3, vi l3), (5, vi l5), (6, vi l6)] [] x P) ∧ (¬ (l3 = (5 : Int32)) → ((¬ (l3 = (15 : Int32)) → MT G (d + 1) z_order 214 [(0, vr 0), (1, vi l1), (2, vi l2), (3, vi l3), (5, vi l5), (6, vi l6)] [vi 0] x P) ∧ (l3 = (15 : Int32) → MT G (d + 1) z_order 179 [(0, vr 0), (1, vi l1), (2, vi l2), (3, vi l3), (5, vi l5), (6, vi l6)] [] x P))))))))) :
    MT G (d + 1) z_order 151 [(0, vr 0), (1, vi l1), (2, vi l2), (3, vi l3), (5, vi l5), (6, vi l6)] [vi s0] x P := by
  refine T_istore (lv2 := [(7, vi s0), (0, vr 0), (1, vi l1), (2, vi l2), (3, vi l3), (5, vi l5), (6, vi l6)]) (dk dt_order 87 rfl) (by decide) rfl ?_
  refine T_aload_n 1 (dk dt_order 88 rfl) rfl rfl ?_
  refine T_getR 0 102 103 (dk dt_order 89 rfl) fl_211 mk_0 ml_0 (by decide) rfl rfl ?_
  refine T_iload 5 (dk dt_order 90 rfl) rfl ?_
  obtain ⟨h1, h⟩ := h
  refine T_zald 103 400 (dk dt_order 91 rfl) mk_103 ml_103 h1 ?_
  refine T_if_ne 285 (dk dt_order 92 rfl) (by decide) (fun c2 => ?_) (fun c2 => ?_)
  · have h := h.1 c2
    exact T_sub [1, 2, 3, 4, 5, 0] rfl h
  · have h := h.2 c2
    refine T_iload 0 (dk dt_order 93 rfl) rfl ?_
    refine T_if_ne 209 (dk dt_order 94 rfl) (by decide) (fun c3 => ?_) (fun c3 => ?_)
    · have h := h.1 c3
      refine T_iconst (v := 1) (dk dt_order 116 rfl) (by decide +kernel) ?_
      refine T_goto 214 (dk dt_order 117 rfl) (by decide) ?_
      exact T_sub [1, 2, 3, 4, 5, 6] rfl h
    · have h := h.2 c3
      refine T_iload_n 4 (dk dt_order 95 rfl) rfl rfl ?_
      refine T_iconst (v := 5) (dk dt_order 96 rfl) (by decide +kernel) ?_
      refine T_icmp_eq 179 (dk dt_order 97 rfl) (by decide) (fun c4 => ?_) (fun c4 => ?_)
      · have h := h.1 c4
        exact T_sub [1, 2, 3, 4, 5, 6] rfl h
      · have h := h.2 c4
        refine T_iload_n 4 (dk dt_order 98 rfl) rfl rfl ?_
        refine T_bipush (v := 15) (dk dt_order 99 rfl) (by decide +kernel) ?_
        refine T_icmp_ne 213 (dk dt_order 100 rfl) (by decide) (fun c5 => ?_) (fun c5 => ?_)
        · have h := h.1 c5
          refine T_iconst (v := 0) (dk dt_order 118 rfl) (by decide +kernel) ?_
          exact T_sub [1, 2, 3, 4, 5, 6] rfl h
        · have h := h.2 c5
          exact T_sub [1, 2, 3, 4, 5, 6] rfl h
set_option maxRecDepth 100000 in
set_option maxHeartbeats 4000000 in
theorem sg_order_179 {G : mG} {d : Nat} {x : gd} {P : Option gv → gd → Prop} (l1 : Int32) (l2 : Int32) (l3 : Int32) (l5 : Int32) (l6 : Int32)
    (h : ((l6 = (6 : Int32) → MT G (d + 1) z_order 193 [(0, vr 0), (1, vi l1), (2, vi l2), (3, vi l3), (5, vi l5), (6, vi l6)] [] x P) ∧ (¬ (l6 = (6 : Int32)) → ((¬ (l6 = (7 : Int32)) → MT G (d + 1) z_order 214 [(0, vr 0), (1, vi l1), (2, vi l2), (3, vi l3), (5, vi l5), (6, vi l6)] [vi 0] x P) ∧ (l6 = (7 : Int32) → MT G (d + 1) z_order 193 [(0, vr 0), (1, vi l1), (2, vi l2), (3, vi l3), (5, vi l5), (6, vi l6)] [] x P))))) :
    MT G (d + 1) z_order 179 [(0, vr 0), (1, vi l1), (2, vi l2), (3, vi l3), (5, vi l5), (6, vi l6)] [] x P := by
  refine T_iload 5 (dk dt_order 101 rfl) rfl ?_
  refine T_bipush (v := 6) (dk dt_order 102 rfl) (by decide +kernel) ?_
  refine T_icmp_eq 193 (dk dt_order 103 rfl) (by decide) (fun c1 => ?_) (fun c1 => ?_)
  · have h := h.1 c1
    exact h
  · have h := h.2 c1
    refine T_iload 5 (dk dt_order 104 rfl) rfl ?_
    refine T_bipush (v := 7) (dk dt_order 105 rfl) (by decide +kernel) ?_
    refine T_icmp_ne 213 (dk dt_order 106 rfl) (by decide) (fun c2 => ?_) (fun c2 => ?_)
    · have h := h.1 c2
      refine T_iconst (v := 0) (dk dt_order 118 rfl) (by decide +kernel) ?_
      exact h
    · have h := h.2 c2
      exact h
set_option maxRecDepth 100000 in
set_option maxHeartbeats 4000000 in
theorem sg_order_193 {G : mG} {d : Nat} {x : gd} {P : Option gv → gd → Prop} (l1 : Int32) (l2 : Int32) (l3 : Int32) (l5 : Int32) (l6 : Int32)
    (h : vp_in l5 400 ∧ vp_in l1 400 ∧ ((¬ ((x.1 100 (l5 : Int32).toNatClampNeg) = (x.1 100 (l1 : Int32).toNatClampNeg)) → MT G (d + 1) z_order 214 [(0, vr 0), (1, vi l1), (2, vi l2), (3, vi l3), (5, vi l5), (6, vi l6)] [vi 0] x P) ∧ ((x.1 100 (l5 : Int32).toNatClampNeg) = (x.1 100 (l1 : Int32).toNatClampNeg) → MT G (d + 1) z_order 214 [(0, vr 0), (1, vi l1), (2, vi l2), (3, vi l3), (5, vi l5), (6, vi l6)] [vi 1] x P))) :
    MT G (d + 1) z_order 193 [(0, vr 0), (1, vi l1), (2, vi l2), (3, vi l3), (5, vi l5), (6, vi l6)] [] x P := by
  refine T_aload_n 0 (dk dt_order 107 rfl) rfl rfl ?_
  refine T_getR 0 99 100 (dk dt_order 108 rfl) fl_202 mk_0 ml_0 (by decide) rfl rfl ?_
  refine T_iload 4 (dk dt_order 109 rfl) rfl ?_
  obtain ⟨h1, h⟩ := h
  refine T_iald 100 400 (dk dt_order 110 rfl) mk_100 ml_100 h1 ?_
  refine T_aload_n 0 (dk dt_order 111 rfl) rfl rfl ?_
  refine T_getR 0 99 100 (dk dt_order 112 rfl) fl_202 mk_0 ml_0 (by decide) rfl rfl ?_
  refine T_iload_n 1 (dk dt_order 113 rfl) rfl rfl ?_
  obtain ⟨h2, h⟩ := h
  refine T_iald 100 400 (dk dt_order 114 rfl) mk_100 ml_100 h2 ?_
  refine T_icmp_ne 213 (dk dt_order 115 rfl) (by decide) (fun c3 => ?_) (fun c3 => ?_)
  · have h := h.1 c3
    refine T_iconst (v := 0) (dk dt_order 118 rfl) (by decide +kernel) ?_
    exact h
  · have h := h.2 c3
    refine T_iconst (v := 1) (dk dt_order 116 rfl) (by decide +kernel) ?_
    refine T_goto 214 (dk dt_order 117 rfl) (by decide) ?_
    exact h
set_option maxRecDepth 100000 in
set_option maxHeartbeats 4000000 in
theorem sg_order_214 {G : mG} {d : Nat} {x : gd} {P : Option gv → gd → Prop} (l1 : Int32) (l2 : Int32) (l3 : Int32) (l5 : Int32) (l6 : Int32) (s0 : Int32)
    (h : ((¬ (s0 = (0 : Int32)) → MT G (d + 1) z_order 285 [(0, vr 0), (1, vi l1), (2, vi l2), (3, vi l3), (5, vi l5), (7, vi 1)] [] x P) ∧ (s0 = (0 : Int32) → MT G d z_isAccess 0 [(0, vr 0), (1, vi l3)] [] x (ri (fun r3 x2 => ((r3 = (0 : Int32) → MT G (d + 1) z_order 285 [(0, vr 0), (1, vi l1), (2, vi l2), (3, vi l3), (5, vi l5), (7, vi 0)] [] x2 P) ∧ (¬ (r3 = (0 : Int32)) → ((l3 = (1 : Int32) → MT G (d + 1) z_order 285 [(0, vr 0), (1, vi l1), (2, vi l2), (3, vi l3), (5, vi l5), (7, vi 0)] [] x2 P) ∧ (¬ (l3 = (1 : Int32)) → MT G d z_isAccess 0 [(0, vr 0), (1, vi l6)] [] x2 (ri (fun r7 x6 => ((r7 = (0 : Int32) → MT G (d + 1) z_order 285 [(0, vr 0), (1, vi l1), (2, vi l2), (3, vi l3), (5, vi l5), (7, vi 0)] [] x6 P) ∧ (¬ (r7 = (0 : Int32)) → ((l6 = (0 : Int32) → MT G (d + 1) z_order 285 [(0, vr 0), (1, vi l1), (2, vi l2), (3, vi l3), (5, vi l5), (7, vi 0)] [] x6 P) ∧ (¬ (l6 = (0 : Int32)) → vp_in l5 400 ∧ vp_in l1 400 ∧ ((¬ ((x6.1 100 (l5 : Int32).toNatClampNeg) = (x6.1 100 (l1 : Int32).toNatClampNeg)) → MT G (d + 1) z_order 285 [(0, vr 0), (1, vi l1), (2, vi l2), (3, vi l3), (5, vi l5), (7, vi 0)] [] x6 P) ∧ ((x6.1 100 (l5 : Int32).toNatClampNeg) = (x6.1 100 (l1 : Int32).toNatClampNeg) → vp_in l1 400 ∧ vp_in (x6.1 100 (l1 : Int32).toNatClampNeg) 24 ∧ (((x6.1 37 (x6.1 100 (l1 : Int32).toNatClampNeg : Int32).toNatClampNeg) = (0 : Int32) → MT G (d + 1) z_order 285 [(0, vr 0), (1, vi l1), (2, vi l2), (3, vi l3), (5, vi l5), (7, vi 0)] [] x6 P) ∧ (¬ ((x6.1 37 (x6.1 100 (l1 : Int32).toNatClampNeg : Int32).toNatClampNeg) = (0 : Int32)) → MT G (d + 1) z_order 285 [(0, vr 0), (1, vi l1), (2, vi l2), (3, vi l3), (5, vi l5), (7, vi 1)] [] x6 P))))))))))))))))))) :
    MT G (d + 1) z_order 214 [(0, vr 0), (1, vi l1), (2, vi l2), (3, vi l3), (5, vi l5), (6, vi l6)] [vi s0] x P := by
  refine T_istore (lv2 := [(7, vi s0), (0, vr 0), (1, vi l1), (2, vi l2), (3, vi l3), (5, vi l5), (6, vi l6)]) (dk dt_order 119 rfl) (by decide) rfl ?_
  refine T_iload 0 (dk dt_order 120 rfl) rfl ?_
  refine T_if_ne 278 (dk dt_order 121 rfl) (by decide) (fun c1 => ?_) (fun c1 => ?_)
  · have h := h.1 c1
    refine T_iconst (v := 1) (dk dt_order 152 rfl) (by decide +kernel) ?_
    refine T_goto 283 (dk dt_order 153 rfl) (by decide) ?_
    refine T_istore (lv2 := [(7, vi 1), (0, vr 0), (1, vi l1), (2, vi l2), (3, vi l3), (5, vi l5), (6, vi l6)]) (dk dt_order 155 rfl) (by decide) rfl ?_
    exact T_sub [1, 2, 3, 4, 5, 0] rfl h
  · have h := h.2 c1
    refine T_aload_n 1 (dk dt_order 122 rfl) rfl rfl ?_
    refine T_iload_n 4 (dk dt_order 123 rfl) rfl rfl ?_
    refine MT_callVi [vi l3] [] rfl (dk dt_order 124 rfl) cv_605 rfl rfl (Nat.le_of_ble_eq_true rfl) (Nat.le_of_ble_eq_true rfl) rfl rfl h (fun r3 x2 h => ?_)
    refine T_if_eq 282 (dk dt_order 125 rfl) (by decide) (fun c4 => ?_) (fun c4 => ?_)
    · have h := h.1 c4
      refine T_iconst (v := 0) (dk dt_order 154 rfl) (by decide +kernel) ?_
      refine T_istore (lv2 := [(7, vi 0), (0, vr 0), (1, vi l1), (2, vi l2), (3, vi l3), (5, vi l5), (6, vi l6)]) (dk dt_order 155 rfl) (by decide) rfl ?_
      exact T_sub [1, 2, 3, 4, 5, 0] rfl h
    · have h := h.2 c4
      refine T_iload_n 4 (dk dt_order 126 rfl) rfl rfl ?_
      refine T_iconst (v := 1) (dk dt_order 127 rfl) (by decide +kernel) ?_
      refine T_icmp_eq 282 (dk dt_order 128 rfl) (by decide) (fun c5 => ?_) (fun c5 => ?_)
      · have h := h.1 c5
        refine T_iconst (v := 0) (dk dt_order 154 rfl) (by decide +kernel) ?_
        refine T_istore (lv2 := [(7, vi 0), (0, vr 0), (1, vi l1), (2, vi l2), (3, vi l3), (5, vi l5), (6, vi l6)]) (dk dt_order 155 rfl) (by decide) rfl ?_
        exact T_sub [1, 2, 3, 4, 5, 0] rfl h
      · have h := h.2 c5
        refine T_aload_n 1 (dk dt_order 129 rfl) rfl rfl ?_
        refine T_iload 6 (dk dt_order 130 rfl) rfl ?_
        refine MT_callVi [vi l6] [] rfl (dk dt_order 131 rfl) cv_605 rfl rfl (Nat.le_of_ble_eq_true rfl) (Nat.le_of_ble_eq_true rfl) rfl rfl h (fun r7 x6 h => ?_)
        refine T_if_eq 282 (dk dt_order 132 rfl) (by decide) (fun c8 => ?_) (fun c8 => ?_)
        · have h := h.1 c8
          refine T_iconst (v := 0) (dk dt_order 154 rfl) (by decide +kernel) ?_
          refine T_istore (lv2 := [(7, vi 0), (0, vr 0), (1, vi l1), (2, vi l2), (3, vi l3), (5, vi l5), (6, vi l6)]) (dk dt_order 155 rfl) (by decide) rfl ?_
          exact T_sub [1, 2, 3, 4, 5, 0] rfl h
        · have h := h.2 c8
          refine T_iload 6 (dk dt_order 133 rfl) rfl ?_
          refine T_if_eq 282 (dk dt_order 134 rfl) (by decide) (fun c9 => ?_) (fun c9 => ?_)
          · have h := h.1 c9
            refine T_iconst (v := 0) (dk dt_order 154 rfl) (by decide +kernel) ?_
            refine T_istore (lv2 := [(7, vi 0), (0, vr 0), (1, vi l1), (2, vi l2), (3, vi l3), (5, vi l5), (6, vi l6)]) (dk dt_order 155 rfl) (by decide) rfl ?_
            exact T_sub [1, 2, 3, 4, 5, 0] rfl h
          · have h := h.2 c9
            refine T_aload_n 1 (dk dt_order 135 rfl) rfl rfl ?_
            refine T_getR 0 99 100 (dk dt_order 136 rfl) fl_202 mk_0 ml_0 (by decide) rfl rfl ?_
            refine T_iload 5 (dk dt_order 137 rfl) rfl ?_
            obtain ⟨h10, h⟩ := h
            refine T_iald 100 400 (dk dt_order 138 rfl) mk_100 ml_100 h10 ?_
            refine T_aload_n 1 (dk dt_order 139 rfl) rfl rfl ?_
            refine T_getR 0 99 100 (dk dt_order 140 rfl) fl_202 mk_0 ml_0 (by decide) rfl rfl ?_
            refine T_iload_n 2 (dk dt_order 141 rfl) rfl rfl ?_
            obtain ⟨h11, h⟩ := h
            refine T_iald 100 400 (dk dt_order 142 rfl) mk_100 ml_100 h11 ?_
            refine T_icmp_ne 282 (dk dt_order 143 rfl) (by decide) (fun c12 => ?_) (fun c12 => ?_)
            · have h := h.1 c12
              refine T_iconst (v := 0) (dk dt_order 154 rfl) (by decide +kernel) ?_
              refine T_istore (lv2 := [(7, vi 0), (0, vr 0), (1, vi l1), (2, vi l2), (3, vi l3), (5, vi l5), (6, vi l6)]) (dk dt_order 155 rfl) (by decide) rfl ?_
              exact T_sub [1, 2, 3, 4, 5, 0] rfl h
            · have h := h.2 c12
              refine T_aload_n 1 (dk dt_order 144 rfl) rfl rfl ?_
              refine T_getR 0 36 37 (dk dt_order 145 rfl) fl_73 mk_0 ml_0 (by decide) rfl rfl ?_
              refine T_aload_n 1 (dk dt_order 146 rfl) rfl rfl ?_
              refine T_getR 0 99 100 (dk dt_order 147 rfl) fl_202 mk_0 ml_0 (by decide) rfl rfl ?_
              refine T_iload_n 2 (dk dt_order 148 rfl) rfl rfl ?_
              obtain ⟨h13, h⟩ := h
              refine T_iald 100 400 (dk dt_order 149 rfl) mk_100 ml_100 h13 ?_
              obtain ⟨h14, h⟩ := h
              refine T_zald 37 24 (dk dt_order 150 rfl) mk_37 ml_37 h14 ?_
              refine T_if_eq 282 (dk dt_order 151 rfl) (by decide) (fun c15 => ?_) (fun c15 => ?_)
              · have h := h.1 c15
                refine T_iconst (v := 0) (dk dt_order 154 rfl) (by decide +kernel) ?_
                refine T_istore (lv2 := [(7, vi 0), (0, vr 0), (1, vi l1), (2, vi l2), (3, vi l3), (5, vi l5), (6, vi l6)]) (dk dt_order 155 rfl) (by decide) rfl ?_
                exact T_sub [1, 2, 3, 4, 5, 0] rfl h
              · have h := h.2 c15
                refine T_iconst (v := 1) (dk dt_order 152 rfl) (by decide +kernel) ?_
                refine T_goto 283 (dk dt_order 153 rfl) (by decide) ?_
                refine T_istore (lv2 := [(7, vi 1), (0, vr 0), (1, vi l1), (2, vi l2), (3, vi l3), (5, vi l5), (6, vi l6)]) (dk dt_order 155 rfl) (by decide) rfl ?_
                exact T_sub [1, 2, 3, 4, 5, 0] rfl h
set_option maxRecDepth 100000 in
set_option maxHeartbeats 4000000 in
theorem sg_order_285 {G : mG} {d : Nat} {x : gd} {P : Option gv → gd → Prop} (l1 : Int32) (l2 : Int32) (l3 : Int32) (l5 : Int32) (l7 : Int32)
    (h : ((l7 = (0 : Int32) → MT G (d + 1) z_order 109 [(0, vr 0), (1, vi l1), (2, vi l2), (3, vi l3), (5, vi (l5 + 1))] [] x P) ∧ (¬ (l7 = (0 : Int32)) → MT G d z_after 0 [(0, vr 0), (1, vi l1), (2, vi l5)] [] x (rv (fun x2 => MT G (d + 1) z_order 109 [(0, vr 0), (1, vi l1), (2, vi l2), (3, vi l3), (5, vi (l5 + 1))] [] x2 P))))) :
    MT G (d + 1) z_order 285 [(0, vr 0), (1, vi l1), (2, vi l2), (3, vi l3), (5, vi l5), (7, vi l7)] [] x P := by
  refine T_iload 5 (dk dt_order 156 rfl) rfl ?_
  refine T_if_eq 297 (dk dt_order 157 rfl) (by decide) (fun c1 => ?_) (fun c1 => ?_)
  · have h := h.1 c1
    refine T_iinc (v := l5 + 1) (lv2 := [(5, vi (l5 + 1)), (0, vr 0), (1, vi l1), (2, vi l2), (3, vi l3), (7, vi l7)]) 4 (dk dt_order 162 rfl) rfl rfl (by decide) rfl ?_
    refine T_goto 109 (dk dt_order 163 rfl) (by decide) ?_
    exact T_sub [1, 2, 3, 4, 0] rfl h
  · have h := h.2 c1
    refine T_aload_n 0 (dk dt_order 158 rfl) rfl rfl ?_
    refine T_iload_n 1 (dk dt_order 159 rfl) rfl rfl ?_
    refine T_iload 4 (dk dt_order 160 rfl) rfl ?_
    refine MT_callVv [vi l1, vi l5] [] rfl (dk dt_order 161 rfl) cv_656 rfl rfl (Nat.le_of_ble_eq_true rfl) (Nat.le_of_ble_eq_true rfl) rfl rfl h (fun x2 h => ?_)
    refine T_iinc (v := l5 + 1) (lv2 := [(5, vi (l5 + 1)), (0, vr 0), (1, vi l1), (2, vi l2), (3, vi l3), (7, vi l7)]) 4 (dk dt_order 162 rfl) rfl rfl (by decide) rfl ?_
    refine T_goto 109 (dk dt_order 163 rfl) (by decide) ?_
    exact T_sub [1, 2, 3, 4, 0] rfl h
set_option maxRecDepth 100000 in
theorem dt_doChoice : dck cX12_doChoice [(0, .aload_n 0, 1), (1, .getfield 184, 3), (4, .iload_n 1, 1), (5, .iaload, 1), (6, .istore_n 2, 1), (7, .aload_n 0, 1), (8, .getfield 193, 3), (11, .aload_n 0, 1), (12, .getfield 644, 3), (15, .iload_n 1, 1), (16, .iastore, 1), (17, .aload_n 0, 1), (18, .dup, 1), (19, .getfield 644, 3), (22, .iconst 1, 1), (23, .iadd, 1), (24, .putfield 644, 3), (27, .aload_n 0, 1), (28, .getfield 187, 3), (31, .iload_n 1, 1), (32, .iaload, 1), (33, .iconst (-1), 1), (34, .if_icmp .eq 19, 3), (37, .aload_n 0, 1), (38, .iload_n 2, 1), (39, .aload_n 0, 1), (40, .getfield 187, 3), (43, .iload_n 1, 1), (44, .iaload, 1), (45, .invokevirtual 659, 3), (48, .aload_n 0, 1), (49, .invokevirtual 653, 3), (52, .return_, 1), (53, .aload_n 0, 1), (54, .getfield 647, 3), (57, .istore_n 3, 1), (58, .aload_n 0, 1), (59, .getfield 154, 3), (62, .iload_n 2, 1), (63, .iaload, 1), (64, .istore 4, 2), (66, .aload_n 0, 1), (67, .getfield 196, 3), (70, .iload_n 3, 1), (71, .iload_n 2, 1), (72, .iastore, 1), (73, .aload_n 0, 1), (74, .getfield 199, 3), (77, .iload_n 3, 1), (78, .aload_n 0, 1), (79, .iload_n 2, 1), (80, .invokevirtual 602, 3), (83, .iastore, 1), (84, .aload_n 0, 1), (85, .getfield 214, 3), (88, .iload_n 3, 1), (89, .aload_n 0, 1), (90, .getfield 190, 3), (93, .iload_n 1, 1), (94, .iaload, 1), (95, .iastore, 1), (96, .aload_n 0, 1), (97, .getfield 199, 3), (100, .iload_n 3, 1), (101, .iaload, 1), (102, .bipush 8, 2), (104, .if_icmp .ne 18, 3), (107, .aload_n 0, 1), (108, .getfield 112, 3), (111, .iload 4, 2), (113, .iaload, 1), (114, .iconst 1, 1), (115, .if_icmp .ne 7, 3), (118, .iconst 1, 1), (119, .goto 4, 3), (122, .iconst 0, 1), (123, .istore 5, 2), (125, .iconst 0, 1), (126, .istore 6, 2), (128, .iconst 0, 1), (129, .istore 7, 2), (131, .iload 7, 2), (133, .aload_n 0, 1), (134, .getfield 461, 3), (137, .if_icmp .ge 111, 3), (140, .aload_n 0, 1), (141, .getfield 199, 3), (144, .iload_n 3, 1), (145, .iaload, 1), (146, .bipush 8, 2), (148, .if_icmp .ne 72, 3), (151, .aload_n 0, 1), (152, .getfield 145, 3), (155, .aload_n 0, 1), (156, .getfield 109, 3), (159, .iload 4, 2), (161, .iaload, 1), (162, .iaload, 1), (163, .iload_n 2, 1), (164, .if_icmp .ne 56, 3), (167, .aload_n 0, 1), (168, .getfield 163, 3), (171, .iload 7, 2), (173, .iaload, 1), (174, .iconst 1, 1), (175, .if_icmp .ne 45, 3), (178, .aload_n 0, 1), (179, .getfield 109, 3), (182, .aload_n 0, 1), (183, .getfield 154, 3), (186, .iload 7, 2), (188, .iaload, 1), (189, .iaload, 1), (190, .aload_n 0, 1), (191, .getfield 109, 3), (194, .iload 4, 2), (196, .iaload, 1), (197, .if_icmp .ne 23, 3), (200, .iload 5, 2), (202, .ifCond .ne 14, 3), (205, .aload_n 0, 1), (206, .getfield 190, 3), (209, .iload_n 1, 1), (210, .iaload, 1), (211, .iload 7, 2), (213, .if_icmp .ne 7, 3), (216, .iconst 1, 1), (217, .goto 4, 3), (220, .iconst 0, 1), (221, .istore 8, 2), (223, .iload 8, 2), (225, .ifCond .eq 13, 3), (228, .iload 6, 2), (230, .iconst 1, 1), (231, .iload 7, 2), (233, .ishl, 1), (234, .ior, 1), (235, .goto 5, 3), (238, .iload 6, 2), (240, .istore 6, 2), (242, .iinc 7 1, 3), (245, .goto (-114), 3), (248, .aload_n 0, 1), (249, .iload_n 2, 1), (250, .aload_n 0, 1), (251, .getfield 190, 3), (254, .iload_n 1, 1), (255, .iaload, 1), (256, .invokevirtual 662, 3), (259, .aload_n 0, 1), (260, .getfield 202, 3), (263, .iload_n 3, 1), (264, .aload_n 0, 1), (265, .getfield 623, 3), (268, .iastore, 1), (269, .aload_n 0, 1), (270, .getfield 211, 3), (273, .iload_n 3, 1), (274, .aload_n 0, 1), (275, .getfield 620, 3), (278, .ifCond .le 7, 3), (281, .iconst 1, 1), (282, .goto 4, 3), (285, .iconst 0, 1), (286, .bastore, 1), (287, .aload_n 0, 1), (288, .getfield 205, 3), (291, .iload_n 3, 1), (292, .aload_n 0, 1), (293, .getfield 635, 3), (296, .iastore, 1), (297, .aload_n 0, 1), (298, .getfield 208, 3), (301, .iload_n 3, 1), (302, .aload_n 0, 1), (303, .getfield 638, 3), (306, .iastore, 1), (307, .aload_n 0, 1), (308, .dup, 1), (309, .getfield 647, 3), (312, .iconst 1, 1), (313, .iadd, 1), (314, .putfield 647, 3), (317, .aload_n 0, 1), (318, .iload_n 3, 1), (319, .invokevirtual 665, 3), (322, .iconst 0, 1), (323, .istore 7, 2), (325, .iload 7, 2), (327, .aload_n 0, 1), (328, .getfield 461, 3), (331, .if_icmp .ge 38, 3), (334, .aload_n 0, 1), (335, .getfield 224, 3), (338, .iload 7, 2), (340, .iload 6, 2), (342, .iload 7, 2), (344, .ishr, 1), (345, .iconst 1, 1), (346, .iand, 1), (347, .iconst 1, 1), (348, .if_icmp .ne 7, 3), (351, .iload_n 3, 1), (352, .goto 10, 3), (355, .aload_n 0, 1), (356, .getfield 224, 3), (359, .iload 7, 2), (361, .iaload, 1), (362, .iastore, 1), (363, .iinc 7 1, 3), (366, .goto (-41), 3), (369, .aload_n 0, 1), (370, .getfield 199, 3), (373, .iload_n 3, 1), (374, .iaload, 1), (375, .bipush 9, 2), (377, .if_icmp .ne 24, 3), (380, .aload_n 0, 1), (381, .getfield 211, 3), (384, .iload_n 3, 1), (385, .baload, 1), (386, .ifCond .ne 15, 3), (389, .aload_n 0, 1), (390, .getfield 221, 3), (393, .aload_n 0, 1), (394, .getfield 202, 3), (397, .iload_n 3, 1), (398, .iaload, 1), (399, .iload_n 3, 1), (400, .iastore, 1), (401, .aload_n 0, 1), (402, .invokevirtual 653, 3), (405, .return_, 1)] = true := by decide +kernel
set_option maxRecDepth 100000 in
set_option maxHeartbeats 4000000 in
theorem sg_doChoice_0 {G : mG} {d : Nat} {x : gd} {P : Option gv → gd → Prop} (l1 : Int32)
    (h : vp_in l1 200 ∧ vp_in (x.1 0 94) 400 ∧ (∀ x3 : gd, x3 = si x 96 (x.1 0 94 : Int32).toNatClampNeg l1 → (∀ x4 : gd, x4 = si x3 0 94 ((x3.1 0 94) + 1) → vp_in l1 200 ∧ (((x4.1 87 (l1 : Int32).toNatClampNeg) = (-1 : Int32) → vp_in (x.1 86 (l1 : Int32).toNatClampNeg) 6 ∧ vp_in (x4.1 0 96) 400 ∧ (∀ x9 : gd, x9 = si x4 98 (x4.1 0 96 : Int32).toNatClampNeg (x.1 86 (l1 : Int32).toNatClampNeg) → MT G d z_sortOf 0 [(0, vr 0), (1, vi (x.1 86 (l1 : Int32).toNatClampNeg))] [] x9 (ri (fun r11 x10 => vp_in (x4.1 0 96) 400 ∧ (∀ x13 : gd, x13 = si x10 99 (x4.1 0 96 : Int32).toNatClampNeg r11 → vp_in l1 200 ∧ vp_in (x4.1 0 96) 400 ∧ (∀ x16 : gd, x16 = si x13 104 (x4.1 0 96 : Int32).toNatClampNeg (x13.1 88 (l1 : Int32).toNatClampNeg) → vp_in (x4.1 0 96) 400 ∧ ((¬ ((x16.1 99 (x4.1 0 96 : Int32).toNatClampNeg) = (8 : Int32)) → MT G (d + 1) z_doChoice 131 [(0, vr 0), (1, vi l1), (2, vi (x.1 86 (l1 : Int32).toNatClampNeg)), (3, vi (x4.1 0 96)), (4, vi (x4.1 74 (x.1 86 (l1 : Int32).toNatClampNeg : Int32).toNatClampNeg)), (5, vi 0), (6, vi 0), (7, vi 0)] [] x16 P) ∧ ((x16.1 99 (x4.1 0 96 : Int32).toNatClampNeg) = (8 : Int32) → vp_in (x4.1 74 (x.1 86 (l1 : Int32).toNatClampNeg : Int32).toNatClampNeg) 1500 ∧ ((¬ ((x16.1 57 (x4.1 74 (x.1 86 (l1 : Int32).toNatClampNeg : Int32).toNatClampNeg : Int32).toNatClampNeg) = (1 : Int32)) → MT G (d + 1) z_doChoice 131 [(0, vr 0), (1, vi l1), (2, vi (x.1 86 (l1 : Int32).toNatClampNeg)), (3, vi (x4.1 0 96)), (4, vi (x4.1 74 (x.1 86 (l1 : Int32).toNatClampNeg : Int32).toNatClampNeg)), (5, vi 0), (6, vi 0), (7, vi 0)] [] x16 P) ∧ ((x16.1 57 (x4.1 74 (x.1 86 (l1 : Int32).toNatClampNeg : Int32).toNatClampNeg : Int32).toNatClampNeg) = (1 : Int32) → MT G (d + 1) z_doChoice 131 [(0, vr 0), (1, vi l1), (2, vi (x.1 86 (l1 : Int32).toNatClampNeg)), (3, vi (x4.1 0 96)), (4, vi (x4.1 74 (x.1 86 (l1 : Int32).toNatClampNeg : Int32).toNatClampNeg)), (5, vi 1), (6, vi 0), (7, vi 0)] [] x16 P)))))))))) ∧ (¬ ((x4.1 87 (l1 : Int32).toNatClampNeg) = (-1 : Int32)) → vp_in l1 200 ∧ MT G d z_doLate 0 [(0, vr 0), (1, vi (x.1 86 (l1 : Int32).toNatClampNeg)), (2, vi (x4.1 87 (l1 : Int32).toNatClampNeg))] [] x4 (rv (fun x22 => MT G d z_findChoices 0 [(0, vr 0)] [] x22 (rv (fun x23 => P none x23))))))))) :
    MT G (d + 1) z_doChoice 0 [(0, vr 0), (1, vi l1)] [] x P := by
  refine T_aload_n 0 (dk dt_doChoice 0 rfl) rfl rfl ?_
  refine T_getR 0 85 86 (dk dt_doChoice 1 rfl) fl_184 mk_0 ml_0 (by decide) rfl rfl ?_
  refine T_iload_n 1 (dk dt_doChoice 2 rfl) rfl rfl ?_
  obtain ⟨h1, h⟩ := h
  refine T_iald 86 200 (dk dt_doChoice 3 rfl) mk_86 ml_86 h1 ?_
  refine T_istore_n (lv2 := [(2, vi (x.1 86 (l1 : Int32).toNatClampNeg)), (0, vr 0), (1, vi l1)]) (dk dt_doChoice 4 rfl) rfl (by decide) rfl ?_
  refine T_aload_n 1 (dk dt_doChoice 5 rfl) rfl rfl ?_
  refine T_getR 0 95 96 (dk dt_doChoice 6 rfl) fl_193 mk_0 ml_0 (by decide) rfl rfl ?_
  refine T_aload_n 1 (dk dt_doChoice 7 rfl) rfl rfl ?_
  refine T_getI 0 94 (dk dt_doChoice 8 rfl) fl_644 mk_0 ml_0 (by decide) rfl ?_
  refine T_iload_n 2 (dk dt_doChoice 9 rfl) rfl rfl ?_
  obtain ⟨h2, h⟩ := h
  obtain ⟨x3, ex3⟩ : ∃ z, z = si x 96 (x.1 0 94 : Int32).toNatClampNeg l1 := ⟨_, rfl⟩
  have h := h x3 ex3
  refine T_iast 96 400 (dk dt_doChoice 10 rfl) mk_96 ml_96 h2 ?_
  rw [← ex3]
  refine T_aload_n 1 (dk dt_doChoice 11 rfl) rfl rfl ?_
  refine T_dup (dk dt_doChoice 12 rfl) rfl ?_
  refine T_getI 0 94 (dk dt_doChoice 13 rfl) fl_644 mk_0 ml_0 (by decide) rfl ?_
  refine T_iconst (v := 1) (dk dt_doChoice 14 rfl) (by decide +kernel) ?_
  refine T_iadd (dk dt_doChoice 15 rfl) ?_
  obtain ⟨x4, ex4⟩ : ∃ z, z = si x3 0 94 ((x3.1 0 94) + 1) := ⟨_, rfl⟩
  have h := h x4 ex4
  refine T_putI 0 94 (dk dt_doChoice 16 rfl) fl_644 mk_0 ml_0 (by decide) rfl ⟨rfl, rfl⟩ ?_
  rw [← ex4]
  refine T_aload_n 1 (dk dt_doChoice 17 rfl) rfl rfl ?_
  refine T_getR 0 86 87 (dk dt_doChoice 18 rfl) fl_187 mk_0 ml_0 (by decide) rfl rfl ?_
  refine T_iload_n 2 (dk dt_doChoice 19 rfl) rfl rfl ?_
  obtain ⟨h5, h⟩ := h
  refine T_iald 87 200 (dk dt_doChoice 20 rfl) mk_87 ml_87 h5 ?_
  refine T_iconst (v := (-1)) (dk dt_doChoice 21 rfl) (by decide +kernel) ?_
  refine T_icmp_eq 53 (dk dt_doChoice 22 rfl) (by decide) (fun c6 => ?_) (fun c6 => ?_)
  · have h := h.1 c6
    refine T_aload_n 1 (dk dt_doChoice 33 rfl) rfl rfl ?_
    refine T_getI 0 96 (dk dt_doChoice 34 rfl) fl_647 mk_0 ml_0 (by decide) rfl ?_
    refine T_istore_n (lv2 := [(3, vi (x4.1 0 96)), (2, vi (x.1 86 (l1 : Int32).toNatClampNeg)), (0, vr 0), (1, vi l1)]) (dk dt_doChoice 35 rfl) rfl (by decide) rfl ?_
    refine T_aload_n 2 (dk dt_doChoice 36 rfl) rfl rfl ?_
    refine T_getR 0 73 74 (dk dt_doChoice 37 rfl) fl_154 mk_0 ml_0 (by decide) rfl rfl ?_
    refine T_iload_n 1 (dk dt_doChoice 38 rfl) rfl rfl ?_
    obtain ⟨h7, h⟩ := h
    refine T_iald 74 6 (dk dt_doChoice 39 rfl) mk_74 ml_74 h7 ?_
    refine T_istore (lv2 := [(4, vi (x4.1 74 (x.1 86 (l1 : Int32).toNatClampNeg : Int32).toNatClampNeg)), (3, vi (x4.1 0 96)), (2, vi (x.1 86 (l1 : Int32).toNatClampNeg)), (0, vr 0), (1, vi l1)]) (dk dt_doChoice 40 rfl) (by decide) rfl ?_
    refine T_aload_n 3 (dk dt_doChoice 41 rfl) rfl rfl ?_
    refine T_getR 0 97 98 (dk dt_doChoice 42 rfl) fl_196 mk_0 ml_0 (by decide) rfl rfl ?_
    refine T_iload_n 1 (dk dt_doChoice 43 rfl) rfl rfl ?_
    refine T_iload_n 2 (dk dt_doChoice 44 rfl) rfl rfl ?_
    obtain ⟨h8, h⟩ := h
    obtain ⟨x9, ex9⟩ : ∃ z, z = si x4 98 (x4.1 0 96 : Int32).toNatClampNeg (x.1 86 (l1 : Int32).toNatClampNeg) := ⟨_, rfl⟩
    have h := h x9 ex9
    refine T_iast 98 400 (dk dt_doChoice 45 rfl) mk_98 ml_98 h8 ?_
    rw [← ex9]
    refine T_aload_n 3 (dk dt_doChoice 46 rfl) rfl rfl ?_
    refine T_getR 0 98 99 (dk dt_doChoice 47 rfl) fl_199 mk_0 ml_0 (by decide) rfl rfl ?_
    refine T_iload_n 1 (dk dt_doChoice 48 rfl) rfl rfl ?_
    refine T_aload_n 3 (dk dt_doChoice 49 rfl) rfl rfl ?_
    refine T_iload_n 2 (dk dt_doChoice 50 rfl) rfl rfl ?_
    refine MT_callVi [vi (x.1 86 (l1 : Int32).toNatClampNeg)] [vi (x4.1 0 96), vr 99] rfl (dk dt_doChoice 51 rfl) cv_602 rfl rfl (Nat.le_of_ble_eq_true rfl) (Nat.le_of_ble_eq_true rfl) rfl rfl h (fun r11 x10 h => ?_)
    obtain ⟨h12, h⟩ := h
    obtain ⟨x13, ex13⟩ : ∃ z, z = si x10 99 (x4.1 0 96 : Int32).toNatClampNeg r11 := ⟨_, rfl⟩
    have h := h x13 ex13
    refine T_iast 99 400 (dk dt_doChoice 52 rfl) mk_99 ml_99 h12 ?_
    rw [← ex13]
    refine T_aload_n 3 (dk dt_doChoice 53 rfl) rfl rfl ?_
    refine T_getR 0 103 104 (dk dt_doChoice 54 rfl) fl_214 mk_0 ml_0 (by decide) rfl rfl ?_
    refine T_iload_n 1 (dk dt_doChoice 55 rfl) rfl rfl ?_
    refine T_aload_n 3 (dk dt_doChoice 56 rfl) rfl rfl ?_
    refine T_getR 0 87 88 (dk dt_doChoice 57 rfl) fl_190 mk_0 ml_0 (by decide) rfl rfl ?_
    refine T_iload_n 4 (dk dt_doChoice 58 rfl) rfl rfl ?_
    obtain ⟨h14, h⟩ := h
    refine T_iald 88 200 (dk dt_doChoice 59 rfl) mk_88 ml_88 h14 ?_
    obtain ⟨h15, h⟩ := h
    obtain ⟨x16, ex16⟩ : ∃ z, z = si x13 104 (x4.1 0 96 : Int32).toNatClampNeg (x13.1 88 (l1 : Int32).toNatClampNeg) := ⟨_, rfl⟩
    have h := h x16 ex16
    refine T_iast 104 400 (dk dt_doChoice 60 rfl) mk_104 ml_104 h15 ?_
    rw [← ex16]
    refine T_aload_n 3 (dk dt_doChoice 61 rfl) rfl rfl ?_
    refine T_getR 0 98 99 (dk dt_doChoice 62 rfl) fl_199 mk_0 ml_0 (by decide) rfl rfl ?_
    refine T_iload_n 1 (dk dt_doChoice 63 rfl) rfl rfl ?_
    obtain ⟨h17, h⟩ := h
    refine T_iald 99 400 (dk dt_doChoice 64 rfl) mk_99 ml_99 h17 ?_
    refine T_bipush (v := 8) (dk dt_doChoice 65 rfl) (by decide +kernel) ?_
    refine T_icmp_ne 122 (dk dt_doChoice 66 rfl) (by decide) (fun c18 => ?_) (fun c18 => ?_)
    · have h := h.1 c18
      refine T_iconst (v := 0) (dk dt_doChoice 75 rfl) (by decide +kernel) ?_
      refine T_istore (lv2 := [(5, vi 0), (4, vi (x4.1 74 (x.1 86 (l1 : Int32).toNatClampNeg : Int32).toNatClampNeg)), (3, vi (x4.1 0 96)), (2, vi (x.1 86 (l1 : Int32).toNatClampNeg)), (0, vr 0), (1, vi l1)]) (dk dt_doChoice 76 rfl) (by decide) rfl ?_
      refine T_iconst (v := 0) (dk dt_doChoice 77 rfl) (by decide +kernel) ?_
      refine T_istore (lv2 := [(6, vi 0), (5, vi 0), (4, vi (x4.1 74 (x.1 86 (l1 : Int32).toNatClampNeg : Int32).toNatClampNeg)), (3, vi (x4.1 0 96)), (2, vi (x.1 86 (l1 : Int32).toNatClampNeg)), (0, vr 0), (1, vi l1)]) (dk dt_doChoice 78 rfl) (by decide) rfl ?_
      refine T_iconst (v := 0) (dk dt_doChoice 79 rfl) (by decide +kernel) ?_
      refine T_istore (lv2 := [(7, vi 0), (6, vi 0), (5, vi 0), (4, vi (x4.1 74 (x.1 86 (l1 : Int32).toNatClampNeg : Int32).toNatClampNeg)), (3, vi (x4.1 0 96)), (2, vi (x.1 86 (l1 : Int32).toNatClampNeg)), (0, vr 0), (1, vi l1)]) (dk dt_doChoice 80 rfl) (by decide) rfl ?_
      exact T_sub [6, 7, 5, 4, 3, 2, 1, 0] rfl h
    · have h := h.2 c18
      refine T_aload_n 3 (dk dt_doChoice 67 rfl) rfl rfl ?_
      refine T_getR 0 56 57 (dk dt_doChoice 68 rfl) fl_112 mk_0 ml_0 (by decide) rfl rfl ?_
      refine T_iload 0 (dk dt_doChoice 69 rfl) rfl ?_
      obtain ⟨h19, h⟩ := h
      refine T_iald 57 1500 (dk dt_doChoice 70 rfl) mk_57 ml_57 h19 ?_
      refine T_iconst (v := 1) (dk dt_doChoice 71 rfl) (by decide +kernel) ?_
      refine T_icmp_ne 122 (dk dt_doChoice 72 rfl) (by decide) (fun c20 => ?_) (fun c20 => ?_)
      · have h := h.1 c20
        refine T_iconst (v := 0) (dk dt_doChoice 75 rfl) (by decide +kernel) ?_
        refine T_istore (lv2 := [(5, vi 0), (4, vi (x4.1 74 (x.1 86 (l1 : Int32).toNatClampNeg : Int32).toNatClampNeg)), (3, vi (x4.1 0 96)), (2, vi (x.1 86 (l1 : Int32).toNatClampNeg)), (0, vr 0), (1, vi l1)]) (dk dt_doChoice 76 rfl) (by decide) rfl ?_
        refine T_iconst (v := 0) (dk dt_doChoice 77 rfl) (by decide +kernel) ?_
        refine T_istore (lv2 := [(6, vi 0), (5, vi 0), (4, vi (x4.1 74 (x.1 86 (l1 : Int32).toNatClampNeg : Int32).toNatClampNeg)), (3, vi (x4.1 0 96)), (2, vi (x.1 86 (l1 : Int32).toNatClampNeg)), (0, vr 0), (1, vi l1)]) (dk dt_doChoice 78 rfl) (by decide) rfl ?_
        refine T_iconst (v := 0) (dk dt_doChoice 79 rfl) (by decide +kernel) ?_
        refine T_istore (lv2 := [(7, vi 0), (6, vi 0), (5, vi 0), (4, vi (x4.1 74 (x.1 86 (l1 : Int32).toNatClampNeg : Int32).toNatClampNeg)), (3, vi (x4.1 0 96)), (2, vi (x.1 86 (l1 : Int32).toNatClampNeg)), (0, vr 0), (1, vi l1)]) (dk dt_doChoice 80 rfl) (by decide) rfl ?_
        exact T_sub [6, 7, 5, 4, 3, 2, 1, 0] rfl h
      · have h := h.2 c20
        refine T_iconst (v := 1) (dk dt_doChoice 73 rfl) (by decide +kernel) ?_
        refine T_goto 123 (dk dt_doChoice 74 rfl) (by decide) ?_
        refine T_istore (lv2 := [(5, vi 1), (4, vi (x4.1 74 (x.1 86 (l1 : Int32).toNatClampNeg : Int32).toNatClampNeg)), (3, vi (x4.1 0 96)), (2, vi (x.1 86 (l1 : Int32).toNatClampNeg)), (0, vr 0), (1, vi l1)]) (dk dt_doChoice 76 rfl) (by decide) rfl ?_
        refine T_iconst (v := 0) (dk dt_doChoice 77 rfl) (by decide +kernel) ?_
        refine T_istore (lv2 := [(6, vi 0), (5, vi 1), (4, vi (x4.1 74 (x.1 86 (l1 : Int32).toNatClampNeg : Int32).toNatClampNeg)), (3, vi (x4.1 0 96)), (2, vi (x.1 86 (l1 : Int32).toNatClampNeg)), (0, vr 0), (1, vi l1)]) (dk dt_doChoice 78 rfl) (by decide) rfl ?_
        refine T_iconst (v := 0) (dk dt_doChoice 79 rfl) (by decide +kernel) ?_
        refine T_istore (lv2 := [(7, vi 0), (6, vi 0), (5, vi 1), (4, vi (x4.1 74 (x.1 86 (l1 : Int32).toNatClampNeg : Int32).toNatClampNeg)), (3, vi (x4.1 0 96)), (2, vi (x.1 86 (l1 : Int32).toNatClampNeg)), (0, vr 0), (1, vi l1)]) (dk dt_doChoice 80 rfl) (by decide) rfl ?_
        exact T_sub [6, 7, 5, 4, 3, 2, 1, 0] rfl h
  · have h := h.2 c6
    refine T_aload_n 1 (dk dt_doChoice 23 rfl) rfl rfl ?_
    refine T_iload_n 0 (dk dt_doChoice 24 rfl) rfl rfl ?_
    refine T_aload_n 1 (dk dt_doChoice 25 rfl) rfl rfl ?_
    refine T_getR 0 86 87 (dk dt_doChoice 26 rfl) fl_187 mk_0 ml_0 (by decide) rfl rfl ?_
    refine T_iload_n 2 (dk dt_doChoice 27 rfl) rfl rfl ?_
    obtain ⟨h21, h⟩ := h
    refine T_iald 87 200 (dk dt_doChoice 28 rfl) mk_87 ml_87 h21 ?_
    refine MT_callVv [vi (x.1 86 (l1 : Int32).toNatClampNeg), vi (x4.1 87 (l1 : Int32).toNatClampNeg)] [] rfl (dk dt_doChoice 29 rfl) cv_659 rfl rfl (Nat.le_of_ble_eq_true rfl) (Nat.le_of_ble_eq_true rfl) rfl rfl h (fun x22 h => ?_)
    refine T_aload_n 1 (dk dt_doChoice 30 rfl) rfl rfl ?_
    refine MT_callVv [] [] rfl (dk dt_doChoice 31 rfl) cv_653 rfl rfl (Nat.le_of_ble_eq_true rfl) (Nat.le_of_ble_eq_true rfl) rfl rfl h (fun x23 h => ?_)
    exact MT_vret (dk dt_doChoice 32 rfl) rfl h
set_option maxRecDepth 100000 in
set_option maxHeartbeats 4000000 in
theorem sg_doChoice_131 {G : mG} {d : Nat} {x : gd} {P : Option gv → gd → Prop} (l1 : Int32) (l2 : Int32) (l3 : Int32) (l4 : Int32) (l5 : Int32) (l6 : Int32) (l7 : Int32)
    (h : (((x.1 0 25) ≤ l7 → vp_in l1 200 ∧ MT G d z_doAct 0 [(0, vr 0), (1, vi l2), (2, vi (x.1 88 (l1 : Int32).toNatClampNeg))] [] x (rv (fun x3 => vp_in l3 400 ∧ (∀ x5 : gd, x5 = si x3 100 (l3 : Int32).toNatClampNeg (x3.1 0 88) → (((x5.1 0 89) ≤ (0 : Int32) → MT G (d + 1) z_doChoice 286 [(0, vr 0), (3, vi l3), (6, vi l6)] [vi 0, vi l3, vr 103] x5 P) ∧ (¬ ((x5.1 0 89) ≤ (0 : Int32)) → MT G (d + 1) z_doChoice 286 [(0, vr 0), (3, vi l3), (6, vi l6)] [vi 1, vi l3, vr 103] x5 P)))))) ∧ (¬ ((x.1 0 25) ≤ l7) → vp_in l3 400 ∧ ((¬ ((x.1 99 (l3 : Int32).toNatClampNeg) = (8 : Int32)) → MT G (d + 1) z_doChoice 221 [(0, vr 0), (1, vi l1), (2, vi l2), (3, vi l3), (4, vi l4), (5, vi l5), (6, vi l6), (7, vi l7)] [vi 0] x P) ∧ ((x.1 99 (l3 : Int32).toNatClampNeg) = (8 : Int32) → vp_in l4 1500 ∧ vp_in (x.1 56 (l4 : Int32).toNatClampNeg) 6 ∧ ((¬ ((x.1 71 (x.1 56 (l4 : Int32).toNatClampNeg : Int32).toNatClampNeg) = l2) → MT G (d + 1) z_doChoice 221 [(0, vr 0), (1, vi l1), (2, vi l2), (3, vi l3), (4, vi l4), (5, vi l5), (6, vi l6), (7, vi l7)] [vi 0] x P) ∧ ((x.1 71 (x.1 56 (l4 : Int32).toNatClampNeg : Int32).toNatClampNeg) = l2 → vp_in l7 6 ∧ ((¬ ((x.1 77 (l7 : Int32).toNatClampNeg) = (1 : Int32)) → MT G (d + 1) z_doChoice 221 [(0, vr 0), (1, vi l1), (2, vi l2), (3, vi l3), (4, vi l4), (5, vi l5), (6, vi l6), (7, vi l7)] [vi 0] x P) ∧ ((x.1 77 (l7 : Int32).toNatClampNeg) = (1 : Int32) → vp_in l7 6 ∧ vp_in (x.1 74 (l7 : Int32).toNatClampNeg) 1500 ∧ vp_in l4 1500 ∧ ((¬ ((x.1 56 (x.1 74 (l7 : Int32).toNatClampNeg : Int32).toNatClampNeg) = (x.1 56 (l4 : Int32).toNatClampNeg)) → MT G (d + 1) z_doChoice 221 [(0, vr 0), (1, vi l1), (2, vi l2), (3, vi l3), (4, vi l4), (5, vi l5), (6, vi l6), (7, vi l7)] [vi 0] x P) ∧ ((x.1 56 (x.1 74 (l7 : Int32).toNatClampNeg : Int32).toNatClampNeg) = (x.1 56 (l4 : Int32).toNatClampNeg) → ((¬ (l5 = (0 : Int32)) → MT G (d + 1) z_doChoice 221 [(0, vr 0), (1, vi l1), (2, vi l2), (3, vi l3), (4, vi l4), (5, vi l5), (6, vi l6), (7, vi l7)] [vi 1] x P) ∧ (l5 = (0 : Int32) → vp_in l1 200 ∧ ((¬ ((x.1 88 (l1 : Int32).toNatClampNeg) = l7) → MT G (d + 1) z_doChoice 221 [(0, vr 0), (1, vi l1), (2, vi l2), (3, vi l3), (4, vi l4), (5, vi l5), (6, vi l6), (7, vi l7)] [vi 0] x P) ∧ ((x.1 88 (l1 : Int32).toNatClampNeg) = l7 → MT G (d + 1) z_doChoice 221 [(0, vr 0), (1, vi l1), (2, vi l2), (3, vi l3), (4, vi l4), (5, vi l5), (6, vi l6), (7, vi l7)] [vi 1] x P))))))))))))))) :
    MT G (d + 1) z_doChoice 131 [(0, vr 0), (1, vi l1), (2, vi l2), (3, vi l3), (4, vi l4), (5, vi l5), (6, vi l6), (7, vi l7)] [] x P := by
  refine T_iload 7 (dk dt_doChoice 81 rfl) rfl ?_
  refine T_aload_n 0 (dk dt_doChoice 82 rfl) rfl rfl ?_
  refine T_getI 0 25 (dk dt_doChoice 83 rfl) fl_461 mk_0 ml_0 (by decide) rfl ?_
  refine T_icmp_ge 248 (dk dt_doChoice 84 rfl) (by decide) (fun c1 => ?_) (fun c1 => ?_)
  · have h := h.1 c1
    refine T_aload_n 0 (dk dt_doChoice 142 rfl) rfl rfl ?_
    refine T_iload_n 2 (dk dt_doChoice 143 rfl) rfl rfl ?_
    refine T_aload_n 0 (dk dt_doChoice 144 rfl) rfl rfl ?_
    refine T_getR 0 87 88 (dk dt_doChoice 145 rfl) fl_190 mk_0 ml_0 (by decide) rfl rfl ?_
    refine T_iload_n 1 (dk dt_doChoice 146 rfl) rfl rfl ?_
    obtain ⟨h2, h⟩ := h
    refine T_iald 88 200 (dk dt_doChoice 147 rfl) mk_88 ml_88 h2 ?_
    refine MT_callVv [vi l2, vi (x.1 88 (l1 : Int32).toNatClampNeg)] [] rfl (dk dt_doChoice 148 rfl) cv_662 rfl rfl (Nat.le_of_ble_eq_true rfl) (Nat.le_of_ble_eq_true rfl) rfl rfl h (fun x3 h => ?_)
    refine T_aload_n 0 (dk dt_doChoice 149 rfl) rfl rfl ?_
    refine T_getR 0 99 100 (dk dt_doChoice 150 rfl) fl_202 mk_0 ml_0 (by decide) rfl rfl ?_
    refine T_iload_n 3 (dk dt_doChoice 151 rfl) rfl rfl ?_
    refine T_aload_n 0 (dk dt_doChoice 152 rfl) rfl rfl ?_
    refine T_getI 0 88 (dk dt_doChoice 153 rfl) fl_623 mk_0 ml_0 (by decide) rfl ?_
    obtain ⟨h4, h⟩ := h
    obtain ⟨x5, ex5⟩ : ∃ z, z = si x3 100 (l3 : Int32).toNatClampNeg (x3.1 0 88) := ⟨_, rfl⟩
    have h := h x5 ex5
    refine T_iast 100 400 (dk dt_doChoice 154 rfl) mk_100 ml_100 h4 ?_
    rw [← ex5]
    refine T_aload_n 0 (dk dt_doChoice 155 rfl) rfl rfl ?_
    refine T_getR 0 102 103 (dk dt_doChoice 156 rfl) fl_211 mk_0 ml_0 (by decide) rfl rfl ?_
    refine T_iload_n 3 (dk dt_doChoice 157 rfl) rfl rfl ?_
    refine T_aload_n 0 (dk dt_doChoice 158 rfl) rfl rfl ?_
    refine T_getI 0 89 (dk dt_doChoice 159 rfl) fl_620 mk_0 ml_0 (by decide) rfl ?_
    refine T_if_le 285 (dk dt_doChoice 160 rfl) (by decide) (fun c6 => ?_) (fun c6 => ?_)
    · have h := h.1 c6
      refine T_iconst (v := 0) (dk dt_doChoice 163 rfl) (by decide +kernel) ?_
      exact T_sub [0, 3, 6] rfl h
    · have h := h.2 c6
      refine T_iconst (v := 1) (dk dt_doChoice 161 rfl) (by decide +kernel) ?_
      refine T_goto 286 (dk dt_doChoice 162 rfl) (by decide) ?_
      exact T_sub [0, 3, 6] rfl h
  · have h := h.2 c1
    refine T_aload_n 0 (dk dt_doChoice 85 rfl) rfl rfl ?_
    refine T_getR 0 98 99 (dk dt_doChoice 86 rfl) fl_199 mk_0 ml_0 (by decide) rfl rfl ?_
    refine T_iload_n 3 (dk dt_doChoice 87 rfl) rfl rfl ?_
    obtain ⟨h7, h⟩ := h
    refine T_iald 99 400 (dk dt_doChoice 88 rfl) mk_99 ml_99 h7 ?_
    refine T_bipush (v := 8) (dk dt_doChoice 89 rfl) (by decide +kernel) ?_
    refine T_icmp_ne 220 (dk dt_doChoice 90 rfl) (by decide) (fun c8 => ?_) (fun c8 => ?_)
    · have h := h.1 c8
      refine T_iconst (v := 0) (dk dt_doChoice 128 rfl) (by decide +kernel) ?_
      exact h
    · have h := h.2 c8
      refine T_aload_n 0 (dk dt_doChoice 91 rfl) rfl rfl ?_
      refine T_getR 0 70 71 (dk dt_doChoice 92 rfl) fl_145 mk_0 ml_0 (by decide) rfl rfl ?_
      refine T_aload_n 0 (dk dt_doChoice 93 rfl) rfl rfl ?_
      refine T_getR 0 55 56 (dk dt_doChoice 94 rfl) fl_109 mk_0 ml_0 (by decide) rfl rfl ?_
      refine T_iload 4 (dk dt_doChoice 95 rfl) rfl ?_
      obtain ⟨h9, h⟩ := h
      refine T_iald 56 1500 (dk dt_doChoice 96 rfl) mk_56 ml_56 h9 ?_
      obtain ⟨h10, h⟩ := h
      refine T_iald 71 6 (dk dt_doChoice 97 rfl) mk_71 ml_71 h10 ?_
      refine T_iload_n 2 (dk dt_doChoice 98 rfl) rfl rfl ?_
      refine T_icmp_ne 220 (dk dt_doChoice 99 rfl) (by decide) (fun c11 => ?_) (fun c11 => ?_)
      · have h := h.1 c11
        refine T_iconst (v := 0) (dk dt_doChoice 128 rfl) (by decide +kernel) ?_
        exact h
      · have h := h.2 c11
        refine T_aload_n 0 (dk dt_doChoice 100 rfl) rfl rfl ?_
        refine T_getR 0 76 77 (dk dt_doChoice 101 rfl) fl_163 mk_0 ml_0 (by decide) rfl rfl ?_
        refine T_iload 7 (dk dt_doChoice 102 rfl) rfl ?_
        obtain ⟨h12, h⟩ := h
        refine T_iald 77 6 (dk dt_doChoice 103 rfl) mk_77 ml_77 h12 ?_
        refine T_iconst (v := 1) (dk dt_doChoice 104 rfl) (by decide +kernel) ?_
        refine T_icmp_ne 220 (dk dt_doChoice 105 rfl) (by decide) (fun c13 => ?_) (fun c13 => ?_)
        · have h := h.1 c13
          refine T_iconst (v := 0) (dk dt_doChoice 128 rfl) (by decide +kernel) ?_
          exact h
        · have h := h.2 c13
          refine T_aload_n 0 (dk dt_doChoice 106 rfl) rfl rfl ?_
          refine T_getR 0 55 56 (dk dt_doChoice 107 rfl) fl_109 mk_0 ml_0 (by decide) rfl rfl ?_
          refine T_aload_n 0 (dk dt_doChoice 108 rfl) rfl rfl ?_
          refine T_getR 0 73 74 (dk dt_doChoice 109 rfl) fl_154 mk_0 ml_0 (by decide) rfl rfl ?_
          refine T_iload 7 (dk dt_doChoice 110 rfl) rfl ?_
          obtain ⟨h14, h⟩ := h
          refine T_iald 74 6 (dk dt_doChoice 111 rfl) mk_74 ml_74 h14 ?_
          obtain ⟨h15, h⟩ := h
          refine T_iald 56 1500 (dk dt_doChoice 112 rfl) mk_56 ml_56 h15 ?_
          refine T_aload_n 0 (dk dt_doChoice 113 rfl) rfl rfl ?_
          refine T_getR 0 55 56 (dk dt_doChoice 114 rfl) fl_109 mk_0 ml_0 (by decide) rfl rfl ?_
          refine T_iload 4 (dk dt_doChoice 115 rfl) rfl ?_
          obtain ⟨h16, h⟩ := h
          refine T_iald 56 1500 (dk dt_doChoice 116 rfl) mk_56 ml_56 h16 ?_
          refine T_icmp_ne 220 (dk dt_doChoice 117 rfl) (by decide) (fun c17 => ?_) (fun c17 => ?_)
          · have h := h.1 c17
            refine T_iconst (v := 0) (dk dt_doChoice 128 rfl) (by decide +kernel) ?_
            exact h
          · have h := h.2 c17
            refine T_iload 5 (dk dt_doChoice 118 rfl) rfl ?_
            refine T_if_ne 216 (dk dt_doChoice 119 rfl) (by decide) (fun c18 => ?_) (fun c18 => ?_)
            · have h := h.1 c18
              refine T_iconst (v := 1) (dk dt_doChoice 126 rfl) (by decide +kernel) ?_
              refine T_goto 221 (dk dt_doChoice 127 rfl) (by decide) ?_
              exact h
            · have h := h.2 c18
              refine T_aload_n 0 (dk dt_doChoice 120 rfl) rfl rfl ?_
              refine T_getR 0 87 88 (dk dt_doChoice 121 rfl) fl_190 mk_0 ml_0 (by decide) rfl rfl ?_
              refine T_iload_n 1 (dk dt_doChoice 122 rfl) rfl rfl ?_
              obtain ⟨h19, h⟩ := h
              refine T_iald 88 200 (dk dt_doChoice 123 rfl) mk_88 ml_88 h19 ?_
              refine T_iload 7 (dk dt_doChoice 124 rfl) rfl ?_
              refine T_icmp_ne 220 (dk dt_doChoice 125 rfl) (by decide) (fun c20 => ?_) (fun c20 => ?_)
              · have h := h.1 c20
                refine T_iconst (v := 0) (dk dt_doChoice 128 rfl) (by decide +kernel) ?_
                exact h
              · have h := h.2 c20
                refine T_iconst (v := 1) (dk dt_doChoice 126 rfl) (by decide +kernel) ?_
                refine T_goto 221 (dk dt_doChoice 127 rfl) (by decide) ?_
                exact h
set_option maxRecDepth 100000 in
set_option maxHeartbeats 4000000 in
theorem sg_doChoice_221 {G : mG} {d : Nat} {x : gd} {P : Option gv → gd → Prop} (l1 : Int32) (l2 : Int32) (l3 : Int32) (l4 : Int32) (l5 : Int32) (l6 : Int32) (l7 : Int32) (s0 : Int32)
    (h : ((s0 = (0 : Int32) → MT G (d + 1) z_doChoice 131 [(0, vr 0), (1, vi l1), (2, vi l2), (3, vi l3), (4, vi l4), (5, vi l5), (6, vi l6), (7, vi (l7 + 1))] [] x P) ∧ (¬ (s0 = (0 : Int32)) → MT G (d + 1) z_doChoice 131 [(0, vr 0), (1, vi l1), (2, vi l2), (3, vi l3), (4, vi l4), (5, vi l5), (6, vi (l6 ||| (1 <<< (l7 &&& 31 : Int32)))), (7, vi (l7 + 1))] [] x P))) :
    MT G (d + 1) z_doChoice 221 [(0, vr 0), (1, vi l1), (2, vi l2), (3, vi l3), (4, vi l4), (5, vi l5), (6, vi l6), (7, vi l7)] [vi s0] x P := by
  refine T_istore (lv2 := [(8, vi s0), (0, vr 0), (1, vi l1), (2, vi l2), (3, vi l3), (4, vi l4), (5, vi l5), (6, vi l6), (7, vi l7)]) (dk dt_doChoice 129 rfl) (by decide) rfl ?_
  refine T_iload 0 (dk dt_doChoice 130 rfl) rfl ?_
  refine T_if_eq 238 (dk dt_doChoice 131 rfl) (by decide) (fun c1 => ?_) (fun c1 => ?_)
  · have h := h.1 c1
    refine T_iload 7 (dk dt_doChoice 138 rfl) rfl ?_
    refine T_istore (lv2 := [(6, vi l6), (8, vi s0), (0, vr 0), (1, vi l1), (2, vi l2), (3, vi l3), (4, vi l4), (5, vi l5), (7, vi l7)]) (dk dt_doChoice 139 rfl) (by decide) rfl ?_
    refine T_iinc (v := l7 + 1) (lv2 := [(7, vi (l7 + 1)), (6, vi l6), (8, vi s0), (0, vr 0), (1, vi l1), (2, vi l2), (3, vi l3), (4, vi l4), (5, vi l5)]) 8 (dk dt_doChoice 140 rfl) rfl rfl (by decide) rfl ?_
    refine T_goto 131 (dk dt_doChoice 141 rfl) (by decide) ?_
    exact T_sub [3, 4, 5, 6, 7, 8, 1, 0] rfl h
  · have h := h.2 c1
    refine T_iload 7 (dk dt_doChoice 132 rfl) rfl ?_
    refine T_iconst (v := 1) (dk dt_doChoice 133 rfl) (by decide +kernel) ?_
    refine T_iload 8 (dk dt_doChoice 134 rfl) rfl ?_
    refine T_ishl (dk dt_doChoice 135 rfl) ?_
    refine T_ior (dk dt_doChoice 136 rfl) ?_
    refine T_goto 240 (dk dt_doChoice 137 rfl) (by decide) ?_
    refine T_istore (lv2 := [(6, vi (l6 ||| (1 <<< (l7 &&& 31 : Int32)))), (8, vi s0), (0, vr 0), (1, vi l1), (2, vi l2), (3, vi l3), (4, vi l4), (5, vi l5), (7, vi l7)]) (dk dt_doChoice 139 rfl) (by decide) rfl ?_
    refine T_iinc (v := l7 + 1) (lv2 := [(7, vi (l7 + 1)), (6, vi (l6 ||| (1 <<< (l7 &&& 31 : Int32)))), (8, vi s0), (0, vr 0), (1, vi l1), (2, vi l2), (3, vi l3), (4, vi l4), (5, vi l5)]) 8 (dk dt_doChoice 140 rfl) rfl rfl (by decide) rfl ?_
    refine T_goto 131 (dk dt_doChoice 141 rfl) (by decide) ?_
    exact T_sub [3, 4, 5, 6, 7, 8, 1, 0] rfl h
set_option maxRecDepth 100000 in
set_option maxHeartbeats 4000000 in
theorem sg_doChoice_286 {G : mG} {d : Nat} {x : gd} {P : Option gv → gd → Prop} (l3 : Int32) (l6 : Int32) (s0 : Int32) (s1 : Int32)
    (h : vp_in s1 400 ∧ (∀ x2 : gd, x2 = si x 103 (s1 : Int32).toNatClampNeg (vp_nar .boolean s0) → vp_in l3 400 ∧ (∀ x4 : gd, x4 = si x2 101 (l3 : Int32).toNatClampNeg (x2.1 0 92) → vp_in l3 400 ∧ (∀ x6 : gd, x6 = si x4 102 (l3 : Int32).toNatClampNeg (x4.1 0 93) → (∀ x7 : gd, x7 = si x6 0 96 ((x6.1 0 96) + 1) → MT G d z_order 0 [(0, vr 0), (1, vi l3)] [] x7 (rv (fun x8 => MT G (d + 1) z_doChoice 325 [(0, vr 0), (3, vi l3), (6, vi l6), (7, vi 0)] [] x8 P))))))) :
    MT G (d + 1) z_doChoice 286 [(0, vr 0), (3, vi l3), (6, vi l6)] [vi s0, vi s1, vr 103] x P := by
  obtain ⟨h1, h⟩ := h
  obtain ⟨x2, ex2⟩ : ∃ z, z = si x 103 (s1 : Int32).toNatClampNeg (vp_nar .boolean s0) := ⟨_, rfl⟩
  have h := h x2 ex2
  refine T_zast 103 400 (dk dt_doChoice 164 rfl) mk_103 ml_103 h1 ?_
  rw [← ex2]
  refine T_aload_n 0 (dk dt_doChoice 165 rfl) rfl rfl ?_
  refine T_getR 0 100 101 (dk dt_doChoice 166 rfl) fl_205 mk_0 ml_0 (by decide) rfl rfl ?_
  refine T_iload_n 1 (dk dt_doChoice 167 rfl) rfl rfl ?_
  refine T_aload_n 0 (dk dt_doChoice 168 rfl) rfl rfl ?_
  refine T_getI 0 92 (dk dt_doChoice 169 rfl) fl_635 mk_0 ml_0 (by decide) rfl ?_
  obtain ⟨h3, h⟩ := h
  obtain ⟨x4, ex4⟩ : ∃ z, z = si x2 101 (l3 : Int32).toNatClampNeg (x2.1 0 92) := ⟨_, rfl⟩
  have h := h x4 ex4
  refine T_iast 101 400 (dk dt_doChoice 170 rfl) mk_101 ml_101 h3 ?_
  rw [← ex4]
  refine T_aload_n 0 (dk dt_doChoice 171 rfl) rfl rfl ?_
  refine T_getR 0 101 102 (dk dt_doChoice 172 rfl) fl_208 mk_0 ml_0 (by decide) rfl rfl ?_
  refine T_iload_n 1 (dk dt_doChoice 173 rfl) rfl rfl ?_
  refine T_aload_n 0 (dk dt_doChoice 174 rfl) rfl rfl ?_
  refine T_getI 0 93 (dk dt_doChoice 175 rfl) fl_638 mk_0 ml_0 (by decide) rfl ?_
  obtain ⟨h5, h⟩ := h
  obtain ⟨x6, ex6⟩ : ∃ z, z = si x4 102 (l3 : Int32).toNatClampNeg (x4.1 0 93) := ⟨_, rfl⟩
  have h := h x6 ex6
  refine T_iast 102 400 (dk dt_doChoice 176 rfl) mk_102 ml_102 h5 ?_
  rw [← ex6]
  refine T_aload_n 0 (dk dt_doChoice 177 rfl) rfl rfl ?_
  refine T_dup (dk dt_doChoice 178 rfl) rfl ?_
  refine T_getI 0 96 (dk dt_doChoice 179 rfl) fl_647 mk_0 ml_0 (by decide) rfl ?_
  refine T_iconst (v := 1) (dk dt_doChoice 180 rfl) (by decide +kernel) ?_
  refine T_iadd (dk dt_doChoice 181 rfl) ?_
  obtain ⟨x7, ex7⟩ : ∃ z, z = si x6 0 96 ((x6.1 0 96) + 1) := ⟨_, rfl⟩
  have h := h x7 ex7
  refine T_putI 0 96 (dk dt_doChoice 182 rfl) fl_647 mk_0 ml_0 (by decide) rfl ⟨rfl, rfl⟩ ?_
  rw [← ex7]
  refine T_aload_n 0 (dk dt_doChoice 183 rfl) rfl rfl ?_
  refine T_iload_n 1 (dk dt_doChoice 184 rfl) rfl rfl ?_
  refine MT_callVv [vi l3] [] rfl (dk dt_doChoice 185 rfl) cv_665 rfl rfl (Nat.le_of_ble_eq_true rfl) (Nat.le_of_ble_eq_true rfl) rfl rfl h (fun x8 h => ?_)
  refine T_iconst (v := 0) (dk dt_doChoice 186 rfl) (by decide +kernel) ?_
  refine T_istore (lv2 := [(7, vi 0), (0, vr 0), (3, vi l3), (6, vi l6)]) (dk dt_doChoice 187 rfl) (by decide) rfl ?_
  exact T_sub [1, 2, 3, 0] rfl h
set_option maxRecDepth 100000 in
set_option maxHeartbeats 4000000 in
theorem sg_doChoice_325 {G : mG} {d : Nat} {x : gd} {P : Option gv → gd → Prop} (l3 : Int32) (l6 : Int32) (l7 : Int32)
    (h : (((x.1 0 25) ≤ l7 → vp_in l3 400 ∧ ((¬ ((x.1 99 (l3 : Int32).toNatClampNeg) = (9 : Int32)) → MT G (d + 1) z_doChoice 401 [(0, vr 0)] [] x P) ∧ ((x.1 99 (l3 : Int32).toNatClampNeg) = (9 : Int32) → vp_in l3 400 ∧ ((¬ ((x.1 103 (l3 : Int32).toNatClampNeg) = (0 : Int32)) → MT G (d + 1) z_doChoice 401 [(0, vr 0)] [] x P) ∧ ((x.1 103 (l3 : Int32).toNatClampNeg) = (0 : Int32) → vp_in l3 400 ∧ vp_in (x.1 100 (l3 : Int32).toNatClampNeg) 6 ∧ (∀ x8 : gd, x8 = si x 106 (x.1 100 (l3 : Int32).toNatClampNeg : Int32).toNatClampNeg l3 → MT G (d + 1) z_doChoice 401 [(0, vr 0)] [] x8 P)))))) ∧ (¬ ((x.1 0 25) ≤ l7) → ((¬ (((l6 >>> (l7 &&& 31 : Int32)) &&& 1) = (1 : Int32)) → vp_in l7 6 ∧ vp_in l7 6 ∧ (∀ x12 : gd, x12 = si x 107 (l7 : Int32).toNatClampNeg (x.1 107 (l7 : Int32).toNatClampNeg) → MT G (d + 1) z_doChoice 325 [(0, vr 0), (3, vi l3), (6, vi l6), (7, vi (l7 + 1))] [] x12 P)) ∧ (((l6 >>> (l7 &&& 31 : Int32)) &&& 1) = (1 : Int32) → vp_in l7 6 ∧ (∀ x14 : gd, x14 = si x 107 (l7 : Int32).toNatClampNeg l3 → MT G (d + 1) z_doChoice 325 [(0, vr 0), (3, vi l3), (6, vi l6), (7, vi (l7 + 1))] [] x14 P)))))) :
    MT G (d + 1) z_doChoice 325 [(0, vr 0), (3, vi l3), (6, vi l6), (7, vi l7)] [] x P := by
  refine T_iload 3 (dk dt_doChoice 188 rfl) rfl ?_
  refine T_aload_n 0 (dk dt_doChoice 189 rfl) rfl rfl ?_
  refine T_getI 0 25 (dk dt_doChoice 190 rfl) fl_461 mk_0 ml_0 (by decide) rfl ?_
  refine T_icmp_ge 369 (dk dt_doChoice 191 rfl) (by decide) (fun c1 => ?_) (fun c1 => ?_)
  · have h := h.1 c1
    refine T_aload_n 0 (dk dt_doChoice 211 rfl) rfl rfl ?_
    refine T_getR 0 98 99 (dk dt_doChoice 212 rfl) fl_199 mk_0 ml_0 (by decide) rfl rfl ?_
    refine T_iload_n 1 (dk dt_doChoice 213 rfl) rfl rfl ?_
    obtain ⟨h2, h⟩ := h
    refine T_iald 99 400 (dk dt_doChoice 214 rfl) mk_99 ml_99 h2 ?_
    refine T_bipush (v := 9) (dk dt_doChoice 215 rfl) (by decide +kernel) ?_
    refine T_icmp_ne 401 (dk dt_doChoice 216 rfl) (by decide) (fun c3 => ?_) (fun c3 => ?_)
    · have h := h.1 c3
      exact T_sub [0] rfl h
    · have h := h.2 c3
      refine T_aload_n 0 (dk dt_doChoice 217 rfl) rfl rfl ?_
      refine T_getR 0 102 103 (dk dt_doChoice 218 rfl) fl_211 mk_0 ml_0 (by decide) rfl rfl ?_
      refine T_iload_n 1 (dk dt_doChoice 219 rfl) rfl rfl ?_
      obtain ⟨h4, h⟩ := h
      refine T_zald 103 400 (dk dt_doChoice 220 rfl) mk_103 ml_103 h4 ?_
      refine T_if_ne 401 (dk dt_doChoice 221 rfl) (by decide) (fun c5 => ?_) (fun c5 => ?_)
      · have h := h.1 c5
        exact T_sub [0] rfl h
      · have h := h.2 c5
        refine T_aload_n 0 (dk dt_doChoice 222 rfl) rfl rfl ?_
        refine T_getR 0 105 106 (dk dt_doChoice 223 rfl) fl_221 mk_0 ml_0 (by decide) rfl rfl ?_
        refine T_aload_n 0 (dk dt_doChoice 224 rfl) rfl rfl ?_
        refine T_getR 0 99 100 (dk dt_doChoice 225 rfl) fl_202 mk_0 ml_0 (by decide) rfl rfl ?_
        refine T_iload_n 1 (dk dt_doChoice 226 rfl) rfl rfl ?_
        obtain ⟨h6, h⟩ := h
        refine T_iald 100 400 (dk dt_doChoice 227 rfl) mk_100 ml_100 h6 ?_
        refine T_iload_n 1 (dk dt_doChoice 228 rfl) rfl rfl ?_
        obtain ⟨h7, h⟩ := h
        obtain ⟨x8, ex8⟩ : ∃ z, z = si x 106 (x.1 100 (l3 : Int32).toNatClampNeg : Int32).toNatClampNeg l3 := ⟨_, rfl⟩
        have h := h x8 ex8
        refine T_iast 106 6 (dk dt_doChoice 229 rfl) mk_106 ml_106 h7 ?_
        rw [← ex8]
        exact T_sub [0] rfl h
  · have h := h.2 c1
    refine T_aload_n 0 (dk dt_doChoice 192 rfl) rfl rfl ?_
    refine T_getR 0 106 107 (dk dt_doChoice 193 rfl) fl_224 mk_0 ml_0 (by decide) rfl rfl ?_
    refine T_iload 3 (dk dt_doChoice 194 rfl) rfl ?_
    refine T_iload 2 (dk dt_doChoice 195 rfl) rfl ?_
    refine T_iload 3 (dk dt_doChoice 196 rfl) rfl ?_
    refine T_ishr (dk dt_doChoice 197 rfl) ?_
    refine T_iconst (v := 1) (dk dt_doChoice 198 rfl) (by decide +kernel) ?_
    refine T_iand (dk dt_doChoice 199 rfl) ?_
    refine T_iconst (v := 1) (dk dt_doChoice 200 rfl) (by decide +kernel) ?_
    refine T_icmp_ne 355 (dk dt_doChoice 201 rfl) (by decide) (fun c9 => ?_) (fun c9 => ?_)
    · have h := h.1 c9
      refine T_aload_n 0 (dk dt_doChoice 204 rfl) rfl rfl ?_
      refine T_getR 0 106 107 (dk dt_doChoice 205 rfl) fl_224 mk_0 ml_0 (by decide) rfl rfl ?_
      refine T_iload 3 (dk dt_doChoice 206 rfl) rfl ?_
      obtain ⟨h10, h⟩ := h
      refine T_iald 107 6 (dk dt_doChoice 207 rfl) mk_107 ml_107 h10 ?_
      obtain ⟨h11, h⟩ := h
      obtain ⟨x12, ex12⟩ : ∃ z, z = si x 107 (l7 : Int32).toNatClampNeg (x.1 107 (l7 : Int32).toNatClampNeg) := ⟨_, rfl⟩
      have h := h x12 ex12
      refine T_iast 107 6 (dk dt_doChoice 208 rfl) mk_107 ml_107 h11 ?_
      rw [← ex12]
      refine T_iinc (v := l7 + 1) (lv2 := [(7, vi (l7 + 1)), (0, vr 0), (3, vi l3), (6, vi l6)]) 3 (dk dt_doChoice 209 rfl) rfl rfl (by decide) rfl ?_
      refine T_goto 325 (dk dt_doChoice 210 rfl) (by decide) ?_
      exact T_sub [1, 2, 3, 0] rfl h
    · have h := h.2 c9
      refine T_iload_n 1 (dk dt_doChoice 202 rfl) rfl rfl ?_
      refine T_goto 362 (dk dt_doChoice 203 rfl) (by decide) ?_
      obtain ⟨h13, h⟩ := h
      obtain ⟨x14, ex14⟩ : ∃ z, z = si x 107 (l7 : Int32).toNatClampNeg l3 := ⟨_, rfl⟩
      have h := h x14 ex14
      refine T_iast 107 6 (dk dt_doChoice 208 rfl) mk_107 ml_107 h13 ?_
      rw [← ex14]
      refine T_iinc (v := l7 + 1) (lv2 := [(7, vi (l7 + 1)), (0, vr 0), (3, vi l3), (6, vi l6)]) 3 (dk dt_doChoice 209 rfl) rfl rfl (by decide) rfl ?_
      refine T_goto 325 (dk dt_doChoice 210 rfl) (by decide) ?_
      exact T_sub [1, 2, 3, 0] rfl h
set_option maxRecDepth 100000 in
set_option maxHeartbeats 4000000 in
theorem sg_doChoice_401 {G : mG} {d : Nat} {x : gd} {P : Option gv → gd → Prop} 
    (h : MT G d z_findChoices 0 [(0, vr 0)] [] x (rv (fun x1 => P none x1))) :
    MT G (d + 1) z_doChoice 401 [(0, vr 0)] [] x P := by
  refine T_aload_n 0 (dk dt_doChoice 230 rfl) rfl rfl ?_
  refine MT_callVv [] [] rfl (dk dt_doChoice 231 rfl) cv_653 rfl rfl (Nat.le_of_ble_eq_true rfl) (Nat.le_of_ble_eq_true rfl) rfl rfl h (fun x1 h => ?_)
  exact MT_vret (dk dt_doChoice 232 rfl) rfl h
set_option maxRecDepth 100000 in
theorem dt_mayRace : dck cX12_mayRace [(0, .aload_n 0, 1), (1, .iload_n 1, 1), (2, .invokevirtual 605, 3), (5, .ifCond .eq 39, 3), (8, .aload_n 0, 1), (9, .iload_n 2, 1), (10, .invokevirtual 605, 3), (13, .ifCond .eq 31, 3), (16, .iload_n 1, 1), (17, .ifCond .ne 7, 3), (20, .iload_n 2, 1), (21, .ifCond .eq 23, 3), (24, .aload_n 0, 1), (25, .iload_n 1, 1), (26, .invokevirtual 668, 3), (29, .ifCond .eq 11, 3), (32, .aload_n 0, 1), (33, .iload_n 2, 1), (34, .invokevirtual 668, 3), (37, .ifCond .ne 7, 3), (40, .iconst 1, 1), (41, .goto 4, 3), (44, .iconst 0, 1), (45, .ireturn, 1)] = true := by decide +kernel
set_option maxRecDepth 100000 in
set_option maxHeartbeats 4000000 in
theorem sg_mayRace_0 {G : mG} {d : Nat} {x : gd} {P : Option gv → gd → Prop} (l1 : Int32) (l2 : Int32)
    (h : MT G d z_isAccess 0 [(0, vr 0), (1, vi l1)] [] x (ri (fun r2 x1 => ((r2 = (0 : Int32) → P (some (vi 0)) x1) ∧ (¬ (r2 = (0 : Int32)) → MT G d z_isAccess 0 [(0, vr 0), (1, vi l2)] [] x1 (ri (fun r5 x4 => ((r5 = (0 : Int32) → P (some (vi 0)) x4) ∧ (¬ (r5 = (0 : Int32)) → ((¬ (l1 = (0 : Int32)) → MT G (d + 1) z_mayRace 24 [(0, vr 0), (1, vi l1), (2, vi l2)] [] x4 P) ∧ (l1 = (0 : Int32) → ((l2 = (0 : Int32) → P (some (vi 0)) x4) ∧ (¬ (l2 = (0 : Int32)) → MT G (d + 1) z_mayRace 24 [(0, vr 0), (1, vi l1), (2, vi l2)] [] x4 P))))))))))))) :
    MT G (d + 1) z_mayRace 0 [(0, vr 0), (1, vi l1), (2, vi l2)] [] x P := by
  refine T_aload_n 0 (dk dt_mayRace 0 rfl) rfl rfl ?_
  refine T_iload_n 1 (dk dt_mayRace 1 rfl) rfl rfl ?_
  refine MT_callVi [vi l1] [] rfl (dk dt_mayRace 2 rfl) cv_605 rfl rfl (Nat.le_of_ble_eq_true rfl) (Nat.le_of_ble_eq_true rfl) rfl rfl h (fun r2 x1 h => ?_)
  refine T_if_eq 44 (dk dt_mayRace 3 rfl) (by decide) (fun c3 => ?_) (fun c3 => ?_)
  · have h := h.1 c3
    refine T_iconst (v := 0) (dk dt_mayRace 22 rfl) (by decide +kernel) ?_
    exact MT_iret (dk dt_mayRace 23 rfl) rfl rfl h
  · have h := h.2 c3
    refine T_aload_n 0 (dk dt_mayRace 4 rfl) rfl rfl ?_
    refine T_iload_n 2 (dk dt_mayRace 5 rfl) rfl rfl ?_
    refine MT_callVi [vi l2] [] rfl (dk dt_mayRace 6 rfl) cv_605 rfl rfl (Nat.le_of_ble_eq_true rfl) (Nat.le_of_ble_eq_true rfl) rfl rfl h (fun r5 x4 h => ?_)
    refine T_if_eq 44 (dk dt_mayRace 7 rfl) (by decide) (fun c6 => ?_) (fun c6 => ?_)
    · have h := h.1 c6
      refine T_iconst (v := 0) (dk dt_mayRace 22 rfl) (by decide +kernel) ?_
      exact MT_iret (dk dt_mayRace 23 rfl) rfl rfl h
    · have h := h.2 c6
      refine T_iload_n 1 (dk dt_mayRace 8 rfl) rfl rfl ?_
      refine T_if_ne 24 (dk dt_mayRace 9 rfl) (by decide) (fun c7 => ?_) (fun c7 => ?_)
      · have h := h.1 c7
        exact h
      · have h := h.2 c7
        refine T_iload_n 2 (dk dt_mayRace 10 rfl) rfl rfl ?_
        refine T_if_eq 44 (dk dt_mayRace 11 rfl) (by decide) (fun c8 => ?_) (fun c8 => ?_)
        · have h := h.1 c8
          refine T_iconst (v := 0) (dk dt_mayRace 22 rfl) (by decide +kernel) ?_
          exact MT_iret (dk dt_mayRace 23 rfl) rfl rfl h
        · have h := h.2 c8
          exact h
set_option maxRecDepth 100000 in
set_option maxHeartbeats 4000000 in
theorem sg_mayRace_24 {G : mG} {d : Nat} {x : gd} {P : Option gv → gd → Prop} (l1 : Int32) (l2 : Int32)
    (h : MT G d z_isAtomic 0 [(0, vr 0), (1, vi l1)] [] x (ri (fun r2 x1 => ((r2 = (0 : Int32) → P (some (vi 1)) x1) ∧ (¬ (r2 = (0 : Int32)) → MT G d z_isAtomic 0 [(0, vr 0), (1, vi l2)] [] x1 (ri (fun r5 x4 => ((¬ (r5 = (0 : Int32)) → P (some (vi 0)) x4) ∧ (r5 = (0 : Int32) → P (some (vi 1)) x4))))))))) :
    MT G (d + 1) z_mayRace 24 [(0, vr 0), (1, vi l1), (2, vi l2)] [] x P := by
  refine T_aload_n 0 (dk dt_mayRace 12 rfl) rfl rfl ?_
  refine T_iload_n 1 (dk dt_mayRace 13 rfl) rfl rfl ?_
  refine MT_callVi [vi l1] [] rfl (dk dt_mayRace 14 rfl) cv_668 rfl rfl (Nat.le_of_ble_eq_true rfl) (Nat.le_of_ble_eq_true rfl) rfl rfl h (fun r2 x1 h => ?_)
  refine T_if_eq 40 (dk dt_mayRace 15 rfl) (by decide) (fun c3 => ?_) (fun c3 => ?_)
  · have h := h.1 c3
    refine T_iconst (v := 1) (dk dt_mayRace 20 rfl) (by decide +kernel) ?_
    refine T_goto 45 (dk dt_mayRace 21 rfl) (by decide) ?_
    exact MT_iret (dk dt_mayRace 23 rfl) rfl rfl h
  · have h := h.2 c3
    refine T_aload_n 0 (dk dt_mayRace 16 rfl) rfl rfl ?_
    refine T_iload_n 2 (dk dt_mayRace 17 rfl) rfl rfl ?_
    refine MT_callVi [vi l2] [] rfl (dk dt_mayRace 18 rfl) cv_668 rfl rfl (Nat.le_of_ble_eq_true rfl) (Nat.le_of_ble_eq_true rfl) rfl rfl h (fun r5 x4 h => ?_)
    refine T_if_ne 44 (dk dt_mayRace 19 rfl) (by decide) (fun c6 => ?_) (fun c6 => ?_)
    · have h := h.1 c6
      refine T_iconst (v := 0) (dk dt_mayRace 22 rfl) (by decide +kernel) ?_
      exact MT_iret (dk dt_mayRace 23 rfl) rfl rfl h
    · have h := h.2 c6
      refine T_iconst (v := 1) (dk dt_mayRace 20 rfl) (by decide +kernel) ?_
      refine T_goto 45 (dk dt_mayRace 21 rfl) (by decide) ?_
      exact MT_iret (dk dt_mayRace 23 rfl) rfl rfl h
