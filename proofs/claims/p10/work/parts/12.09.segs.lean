set_option maxRecDepth 100000 in
theorem dt_lookAt : dck cX12_lookAt [(0, .aload_n 0, 1), (1, .getfield 154, 3), (4, .iload_n 1, 1), (5, .iaload, 1), (6, .istore_n 2, 1), (7, .aload_n 0, 1), (8, .iload_n 1, 1), (9, .invokevirtual 602, 3), (12, .istore_n 3, 1), (13, .aload_n 0, 1), (14, .iconst 0, 1), (15, .putfield 620, 3), (18, .aload_n 0, 1), (19, .aload_n 0, 1), (20, .getfield 109, 3), (23, .iload_n 2, 1), (24, .iaload, 1), (25, .putfield 623, 3), (28, .aload_n 0, 1), (29, .iconst 0, 1), (30, .putfield 626, 3), (33, .aload_n 0, 1), (34, .iconst 0, 1), (35, .putfield 629, 3), (38, .iload_n 3, 1), (39, .bipush 15, 2), (41, .if_icmp .ne 4, 3), (44, .return_, 1), (45, .aload_n 0, 1), (46, .getfield 115, 3), (49, .iload_n 2, 1), (50, .iaload, 1), (51, .iconst (-1), 1), (52, .if_icmp .eq 75, 3), (55, .aload_n 0, 1), (56, .aload_n 0, 1), (57, .getfield 115, 3), (60, .iload_n 2, 1), (61, .iaload, 1), (62, .iload_n 1, 1), (63, .invokevirtual 593, 3), (66, .istore 4, 2), (68, .aload_n 0, 1), (69, .getfield 581, 3), (72, .ifCond .le 14, 3), (75, .aload_n 0, 1), (76, .iconst 1, 1), (77, .putfield 620, 3), (80, .aload_n 0, 1), (81, .iconst (-1), 1), (82, .putfield 623, 3), (85, .return_, 1), (86, .iload 4, 2), (88, .iconst 0, 1), (89, .aload_n 0, 1), (90, .getfield 112, 3), (93, .iload_n 2, 1), (94, .iaload, 1), (95, .iconst 1, 1), (96, .isub, 1), (97, .invokestatic 322, 3), (100, .ifCond .ne 14, 3), (103, .aload_n 0, 1), (104, .iconst 2, 1), (105, .putfield 620, 3), (108, .aload_n 0, 1), (109, .iconst (-1), 1), (110, .putfield 623, 3), (113, .return_, 1), (114, .aload_n 0, 1), (115, .aload_n 0, 1), (116, .getfield 109, 3), (119, .iload_n 2, 1), (120, .iaload, 1), (121, .iload 4, 2), (123, .iadd, 1), (124, .putfield 623, 3), (127, .aload_n 0, 1), (128, .getfield 118, 3), (131, .iload_n 2, 1), (132, .iaload, 1), (133, .iconst (-1), 1), (134, .if_icmp .eq 26, 3), (137, .aload_n 0, 1), (138, .aload_n 0, 1), (139, .aload_n 0, 1), (140, .getfield 118, 3), (143, .iload_n 2, 1), (144, .iaload, 1), (145, .iload_n 1, 1), (146, .invokevirtual 593, 3), (149, .putfield 626, 3), (152, .aload_n 0, 1), (153, .aload_n 0, 1), (154, .getfield 581, 3), (157, .putfield 620, 3), (160, .aload_n 0, 1), (161, .getfield 620, 3), (164, .ifCond .ne 36, 3), (167, .aload_n 0, 1), (168, .getfield 121, 3), (171, .iload_n 2, 1), (172, .iaload, 1), (173, .iconst (-1), 1), (174, .if_icmp .eq 26, 3), (177, .aload_n 0, 1), (178, .aload_n 0, 1), (179, .aload_n 0, 1), (180, .getfield 121, 3), (183, .iload_n 2, 1), (184, .iaload, 1), (185, .iload_n 1, 1), (186, .invokevirtual 593, 3), (189, .putfield 629, 3), (192, .aload_n 0, 1), (193, .aload_n 0, 1), (194, .getfield 581, 3), (197, .putfield 620, 3), (200, .aload_n 0, 1), (201, .getfield 620, 3), (204, .ifCond .le 4, 3), (207, .return_, 1), (208, .iload_n 3, 1), (209, .bipush 6, 2), (211, .if_icmp .eq 15, 3), (214, .iload_n 3, 1), (215, .bipush 7, 2), (217, .if_icmp .eq 9, 3), (220, .iload_n 3, 1), (221, .bipush 8, 2), (223, .if_icmp .ne 22, 3), (226, .aload_n 0, 1), (227, .getfield 145, 3), (230, .aload_n 0, 1), (231, .getfield 109, 3), (234, .iload_n 2, 1), (235, .iaload, 1), (236, .iaload, 1), (237, .iload_n 1, 1), (238, .if_icmp .ne 7, 3), (241, .iconst 1, 1), (242, .goto 4, 3), (245, .iconst 0, 1), (246, .istore 4, 2), (248, .iload_n 3, 1), (249, .bipush 6, 2), (251, .if_icmp .ne 16, 3), (254, .iload 4, 2), (256, .ifCond .ne 11, 3), (259, .aload_n 0, 1), (260, .iconst 3, 1), (261, .putfield 620, 3), (264, .goto 140, 3), (267, .iload_n 3, 1), (268, .bipush 7, 2), (270, .if_icmp .eq 9, 3), (273, .iload_n 3, 1), (274, .bipush 8, 2), (276, .if_icmp .ne 16, 3), (279, .iload 4, 2), (281, .ifCond .ne 11, 3), (284, .aload_n 0, 1), (285, .iconst 4, 1), (286, .putfield 620, 3), (289, .goto 115, 3), (292, .iload_n 3, 1), (293, .bipush 9, 2), (295, .if_icmp .ne 26, 3), (298, .aload_n 0, 1), (299, .getfield 151, 3), (302, .aload_n 0, 1), (303, .getfield 109, 3), (306, .iload_n 2, 1), (307, .iaload, 1), (308, .iaload, 1), (309, .ifCond .eq 12, 3), (312, .aload_n 0, 1), (313, .bipush 7, 2), (315, .putfield 620, 3), (318, .goto 86, 3), (321, .iload_n 3, 1), (322, .bipush 13, 2), (324, .if_icmp .ne 13, 3), (327, .aload_n 0, 1), (328, .getfield 169, 3), (331, .iload_n 1, 1), (332, .iaload, 1), (333, .iconst (-1), 1), (334, .if_icmp .ne 19, 3), (337, .iload_n 3, 1), (338, .bipush 14, 2), (340, .if_icmp .ne 22, 3), (343, .aload_n 0, 1), (344, .getfield 169, 3), (347, .iload_n 1, 1), (348, .iaload, 1), (349, .iconst (-1), 1), (350, .if_icmp .ne 12, 3), (353, .aload_n 0, 1), (354, .bipush 8, 2), (356, .putfield 620, 3), (359, .goto 45, 3), (362, .iload_n 3, 1), (363, .iconst 1, 1), (364, .if_icmp .ne 40, 3), (367, .aload_n 0, 1), (368, .getfield 608, 3), (371, .iconst 1, 1), (372, .if_icmp .ne 32, 3), (375, .aload_n 0, 1), (376, .getfield 73, 3), (379, .aload_n 0, 1), (380, .getfield 623, 3), (383, .baload, 1), (384, .ifCond .ne 20, 3), (387, .aload_n 0, 1), (388, .getfield 172, 3), (391, .iload_n 1, 1), (392, .iaload, 1), (393, .bipush 8, 2), (395, .if_icmp .ne 9, 3), (398, .aload_n 0, 1), (399, .bipush 9, 2), (401, .putfield 620, 3), (404, .return_, 1)] = true := by decide +kernel
set_option maxRecDepth 100000 in
set_option maxHeartbeats 4000000 in
theorem sg_lookAt_0 {G : mG} {d : Nat} {x : gd} {P : Option gv → gd → Prop} (l1 : Int32)
    (h : vp_in l1 6 ∧ MT G d z_sortOf 0 [(0, vr 0), (1, vi l1)] [] x (ri (fun r3 x2 => (∀ x4 : gd, x4 = si x2 0 89 0 → vp_in (x.1 74 (l1 : Int32).toNatClampNeg) 1500 ∧ (∀ x6 : gd, x6 = si x4 0 88 (x4.1 56 (x.1 74 (l1 : Int32).toNatClampNeg : Int32).toNatClampNeg) → (∀ x7 : gd, x7 = si x6 0 90 0 → (∀ x8 : gd, x8 = si x7 0 91 0 → ((¬ (r3 = (15 : Int32)) → vp_in (x.1 74 (l1 : Int32).toNatClampNeg) 1500 ∧ (((x8.1 58 (x.1 74 (l1 : Int32).toNatClampNeg : Int32).toNatClampNeg) = (-1 : Int32) → MT G (d + 1) z_lookAt 127 [(0, vr 0), (1, vi l1), (2, vi (x.1 74 (l1 : Int32).toNatClampNeg)), (3, vi r3)] [] x8 P) ∧ (¬ ((x8.1 58 (x.1 74 (l1 : Int32).toNatClampNeg : Int32).toNatClampNeg) = (-1 : Int32)) → vp_in (x.1 74 (l1 : Int32).toNatClampNeg) 1500 ∧ MT G d z_worked 0 [(0, vr 0), (1, vi (x8.1 58 (x.1 74 (l1 : Int32).toNatClampNeg : Int32).toNatClampNeg)), (2, vi l1)] [] x8 (ri (fun r14 x13 => (((x13.1 0 82) ≤ (0 : Int32) → vp_in (x.1 74 (l1 : Int32).toNatClampNeg) 1500 ∧ MT G d z_in 0 [(0, vi r14), (1, vi 0), (2, vi ((x13.1 57 (x.1 74 (l1 : Int32).toNatClampNeg : Int32).toNatClampNeg) - 1))] [] x13 (ri (fun r18 x17 => ((¬ (r18 = (0 : Int32)) → vp_in (x.1 74 (l1 : Int32).toNatClampNeg) 1500 ∧ (∀ x21 : gd, x21 = si x17 0 88 ((x17.1 56 (x.1 74 (l1 : Int32).toNatClampNeg : Int32).toNatClampNeg) + r14) → MT G (d + 1) z_lookAt 127 [(0, vr 0), (1, vi l1), (2, vi (x.1 74 (l1 : Int32).toNatClampNeg)), (3, vi r3)] [] x21 P)) ∧ (r18 = (0 : Int32) → (∀ x22 : gd, x22 = si x17 0 89 2 → (∀ x23 : gd, x23 = si x22 0 88 (-1) → P none x23))))))) ∧ (¬ ((x13.1 0 82) ≤ (0 : Int32)) → (∀ x24 : gd, x24 = si x13 0 89 1 → (∀ x25 : gd, x25 = si x24 0 88 (-1) → P none x25))))))))) ∧ (r3 = (15 : Int32) → P none x8))))))))) :
    MT G (d + 1) z_lookAt 0 [(0, vr 0), (1, vi l1)] [] x P := by
  refine T_aload_n 0 (dk dt_lookAt 0 rfl) rfl rfl ?_
  refine T_getR 0 73 74 (dk dt_lookAt 1 rfl) fl_154 mk_0 ml_0 (by decide) rfl rfl ?_
  refine T_iload_n 1 (dk dt_lookAt 2 rfl) rfl rfl ?_
  obtain ⟨h1, h⟩ := h
  refine T_iald 74 6 (dk dt_lookAt 3 rfl) mk_74 ml_74 h1 ?_
  refine T_istore_n (lv2 := [(2, vi (x.1 74 (l1 : Int32).toNatClampNeg)), (0, vr 0), (1, vi l1)]) (dk dt_lookAt 4 rfl) rfl (by decide) rfl ?_
  refine T_aload_n 1 (dk dt_lookAt 5 rfl) rfl rfl ?_
  refine T_iload_n 2 (dk dt_lookAt 6 rfl) rfl rfl ?_
  refine MT_callVi [vi l1] [] rfl (dk dt_lookAt 7 rfl) cv_602 rfl rfl (Nat.le_of_ble_eq_true rfl) (Nat.le_of_ble_eq_true rfl) rfl rfl h (fun r3 x2 h => ?_)
  refine T_istore_n (lv2 := [(3, vi r3), (2, vi (x.1 74 (l1 : Int32).toNatClampNeg)), (0, vr 0), (1, vi l1)]) (dk dt_lookAt 8 rfl) rfl (by decide) rfl ?_
  refine T_aload_n 2 (dk dt_lookAt 9 rfl) rfl rfl ?_
  refine T_iconst (v := 0) (dk dt_lookAt 10 rfl) (by decide +kernel) ?_
  obtain ⟨x4, ex4⟩ : ∃ z, z = si x2 0 89 0 := ⟨_, rfl⟩
  have h := h x4 ex4
  refine T_putI 0 89 (dk dt_lookAt 11 rfl) fl_620 mk_0 ml_0 (by decide) rfl ⟨rfl, rfl⟩ ?_
  rw [← ex4]
  refine T_aload_n 2 (dk dt_lookAt 12 rfl) rfl rfl ?_
  refine T_aload_n 2 (dk dt_lookAt 13 rfl) rfl rfl ?_
  refine T_getR 0 55 56 (dk dt_lookAt 14 rfl) fl_109 mk_0 ml_0 (by decide) rfl rfl ?_
  refine T_iload_n 1 (dk dt_lookAt 15 rfl) rfl rfl ?_
  obtain ⟨h5, h⟩ := h
  refine T_iald 56 1500 (dk dt_lookAt 16 rfl) mk_56 ml_56 h5 ?_
  obtain ⟨x6, ex6⟩ : ∃ z, z = si x4 0 88 (x4.1 56 (x.1 74 (l1 : Int32).toNatClampNeg : Int32).toNatClampNeg) := ⟨_, rfl⟩
  have h := h x6 ex6
  refine T_putI 0 88 (dk dt_lookAt 17 rfl) fl_623 mk_0 ml_0 (by decide) rfl ⟨rfl, rfl⟩ ?_
  rw [← ex6]
  refine T_aload_n 2 (dk dt_lookAt 18 rfl) rfl rfl ?_
  refine T_iconst (v := 0) (dk dt_lookAt 19 rfl) (by decide +kernel) ?_
  obtain ⟨x7, ex7⟩ : ∃ z, z = si x6 0 90 0 := ⟨_, rfl⟩
  have h := h x7 ex7
  refine T_putI 0 90 (dk dt_lookAt 20 rfl) fl_626 mk_0 ml_0 (by decide) rfl ⟨rfl, rfl⟩ ?_
  rw [← ex7]
  refine T_aload_n 2 (dk dt_lookAt 21 rfl) rfl rfl ?_
  refine T_iconst (v := 0) (dk dt_lookAt 22 rfl) (by decide +kernel) ?_
  obtain ⟨x8, ex8⟩ : ∃ z, z = si x7 0 91 0 := ⟨_, rfl⟩
  have h := h x8 ex8
  refine T_putI 0 91 (dk dt_lookAt 23 rfl) fl_629 mk_0 ml_0 (by decide) rfl ⟨rfl, rfl⟩ ?_
  rw [← ex8]
  refine T_iload_n 0 (dk dt_lookAt 24 rfl) rfl rfl ?_
  refine T_bipush (v := 15) (dk dt_lookAt 25 rfl) (by decide +kernel) ?_
  refine T_icmp_ne 45 (dk dt_lookAt 26 rfl) (by decide) (fun c9 => ?_) (fun c9 => ?_)
  · have h := h.1 c9
    refine T_aload_n 2 (dk dt_lookAt 28 rfl) rfl rfl ?_
    refine T_getR 0 57 58 (dk dt_lookAt 29 rfl) fl_115 mk_0 ml_0 (by decide) rfl rfl ?_
    refine T_iload_n 1 (dk dt_lookAt 30 rfl) rfl rfl ?_
    obtain ⟨h10, h⟩ := h
    refine T_iald 58 1500 (dk dt_lookAt 31 rfl) mk_58 ml_58 h10 ?_
    refine T_iconst (v := (-1)) (dk dt_lookAt 32 rfl) (by decide +kernel) ?_
    refine T_icmp_eq 127 (dk dt_lookAt 33 rfl) (by decide) (fun c11 => ?_) (fun c11 => ?_)
    · have h := h.1 c11
      exact T_sub [2, 3, 1, 0] rfl h
    · have h := h.2 c11
      refine T_aload_n 2 (dk dt_lookAt 34 rfl) rfl rfl ?_
      refine T_aload_n 2 (dk dt_lookAt 35 rfl) rfl rfl ?_
      refine T_getR 0 57 58 (dk dt_lookAt 36 rfl) fl_115 mk_0 ml_0 (by decide) rfl rfl ?_
      refine T_iload_n 1 (dk dt_lookAt 37 rfl) rfl rfl ?_
      obtain ⟨h12, h⟩ := h
      refine T_iald 58 1500 (dk dt_lookAt 38 rfl) mk_58 ml_58 h12 ?_
      refine T_iload_n 3 (dk dt_lookAt 39 rfl) rfl rfl ?_
      refine MT_callVi [vi (x8.1 58 (x.1 74 (l1 : Int32).toNatClampNeg : Int32).toNatClampNeg), vi l1] [] rfl (dk dt_lookAt 40 rfl) cv_593 rfl rfl (Nat.le_of_ble_eq_true rfl) (Nat.le_of_ble_eq_true rfl) rfl rfl h (fun r14 x13 h => ?_)
      refine T_istore (lv2 := [(4, vi r14), (3, vi r3), (2, vi (x.1 74 (l1 : Int32).toNatClampNeg)), (0, vr 0), (1, vi l1)]) (dk dt_lookAt 41 rfl) (by decide) rfl ?_
      refine T_aload_n 3 (dk dt_lookAt 42 rfl) rfl rfl ?_
      refine T_getI 0 82 (dk dt_lookAt 43 rfl) fl_581 mk_0 ml_0 (by decide) rfl ?_
      refine T_if_le 86 (dk dt_lookAt 44 rfl) (by decide) (fun c15 => ?_) (fun c15 => ?_)
      · have h := h.1 c15
        refine T_iload 0 (dk dt_lookAt 52 rfl) rfl ?_
        refine T_iconst (v := 0) (dk dt_lookAt 53 rfl) (by decide +kernel) ?_
        refine T_aload_n 3 (dk dt_lookAt 54 rfl) rfl rfl ?_
        refine T_getR 0 56 57 (dk dt_lookAt 55 rfl) fl_112 mk_0 ml_0 (by decide) rfl rfl ?_
        refine T_iload_n 2 (dk dt_lookAt 56 rfl) rfl rfl ?_
        obtain ⟨h16, h⟩ := h
        refine T_iald 57 1500 (dk dt_lookAt 57 rfl) mk_57 ml_57 h16 ?_
        refine T_iconst (v := 1) (dk dt_lookAt 58 rfl) (by decide +kernel) ?_
        refine T_isub (dk dt_lookAt 59 rfl) ?_
        refine MT_callSi [vi r14, vi 0, vi ((x13.1 57 (x.1 74 (l1 : Int32).toNatClampNeg : Int32).toNatClampNeg) - 1)] [] rfl (dk dt_lookAt 60 rfl) cs_322 rfl (Nat.le_of_ble_eq_true rfl) (Nat.le_of_ble_eq_true rfl) rfl rfl h (fun r18 x17 h => ?_)
        refine T_if_ne 114 (dk dt_lookAt 61 rfl) (by decide) (fun c19 => ?_) (fun c19 => ?_)
        · have h := h.1 c19
          refine T_aload_n 3 (dk dt_lookAt 69 rfl) rfl rfl ?_
          refine T_aload_n 3 (dk dt_lookAt 70 rfl) rfl rfl ?_
          refine T_getR 0 55 56 (dk dt_lookAt 71 rfl) fl_109 mk_0 ml_0 (by decide) rfl rfl ?_
          refine T_iload_n 2 (dk dt_lookAt 72 rfl) rfl rfl ?_
          obtain ⟨h20, h⟩ := h
          refine T_iald 56 1500 (dk dt_lookAt 73 rfl) mk_56 ml_56 h20 ?_
          refine T_iload 0 (dk dt_lookAt 74 rfl) rfl ?_
          refine T_iadd (dk dt_lookAt 75 rfl) ?_
          obtain ⟨x21, ex21⟩ : ∃ z, z = si x17 0 88 ((x17.1 56 (x.1 74 (l1 : Int32).toNatClampNeg : Int32).toNatClampNeg) + r14) := ⟨_, rfl⟩
          have h := h x21 ex21
          refine T_putI 0 88 (dk dt_lookAt 76 rfl) fl_623 mk_0 ml_0 (by decide) rfl ⟨rfl, rfl⟩ ?_
          rw [← ex21]
          exact T_sub [3, 4, 2, 1] rfl h
        · have h := h.2 c19
          refine T_aload_n 3 (dk dt_lookAt 62 rfl) rfl rfl ?_
          refine T_iconst (v := 2) (dk dt_lookAt 63 rfl) (by decide +kernel) ?_
          obtain ⟨x22, ex22⟩ : ∃ z, z = si x17 0 89 2 := ⟨_, rfl⟩
          have h := h x22 ex22
          refine T_putI 0 89 (dk dt_lookAt 64 rfl) fl_620 mk_0 ml_0 (by decide) rfl ⟨rfl, rfl⟩ ?_
          rw [← ex22]
          refine T_aload_n 3 (dk dt_lookAt 65 rfl) rfl rfl ?_
          refine T_iconst (v := (-1)) (dk dt_lookAt 66 rfl) (by decide +kernel) ?_
          obtain ⟨x23, ex23⟩ : ∃ z, z = si x22 0 88 (-1) := ⟨_, rfl⟩
          have h := h x23 ex23
          refine T_putI 0 88 (dk dt_lookAt 67 rfl) fl_623 mk_0 ml_0 (by decide) rfl ⟨rfl, rfl⟩ ?_
          rw [← ex23]
          exact MT_vret (dk dt_lookAt 68 rfl) rfl h
      · have h := h.2 c15
        refine T_aload_n 3 (dk dt_lookAt 45 rfl) rfl rfl ?_
        refine T_iconst (v := 1) (dk dt_lookAt 46 rfl) (by decide +kernel) ?_
        obtain ⟨x24, ex24⟩ : ∃ z, z = si x13 0 89 1 := ⟨_, rfl⟩
        have h := h x24 ex24
        refine T_putI 0 89 (dk dt_lookAt 47 rfl) fl_620 mk_0 ml_0 (by decide) rfl ⟨rfl, rfl⟩ ?_
        rw [← ex24]
        refine T_aload_n 3 (dk dt_lookAt 48 rfl) rfl rfl ?_
        refine T_iconst (v := (-1)) (dk dt_lookAt 49 rfl) (by decide +kernel) ?_
        obtain ⟨x25, ex25⟩ : ∃ z, z = si x24 0 88 (-1) := ⟨_, rfl⟩
        have h := h x25 ex25
        refine T_putI 0 88 (dk dt_lookAt 50 rfl) fl_623 mk_0 ml_0 (by decide) rfl ⟨rfl, rfl⟩ ?_
        rw [← ex25]
        exact MT_vret (dk dt_lookAt 51 rfl) rfl h
  · have h := h.2 c9
    exact MT_vret (dk dt_lookAt 27 rfl) rfl h
set_option maxRecDepth 100000 in
set_option maxHeartbeats 4000000 in
theorem sg_lookAt_127 {G : mG} {d : Nat} {x : gd} {P : Option gv → gd → Prop} (l1 : Int32) (l2 : Int32) (l3 : Int32)
    (h : vp_in l2 1500 ∧ (((x.1 59 (l2 : Int32).toNatClampNeg) = (-1 : Int32) → MT G (d + 1) z_lookAt 160 [(0, vr 0), (1, vi l1), (2, vi l2), (3, vi l3)] [] x P) ∧ (¬ ((x.1 59 (l2 : Int32).toNatClampNeg) = (-1 : Int32)) → vp_in l2 1500 ∧ MT G d z_worked 0 [(0, vr 0), (1, vi (x.1 59 (l2 : Int32).toNatClampNeg)), (2, vi l1)] [] x (ri (fun r5 x4 => (∀ x6 : gd, x6 = si x4 0 90 r5 → (∀ x7 : gd, x7 = si x6 0 89 (x6.1 0 82) → MT G (d + 1) z_lookAt 160 [(0, vr 0), (1, vi l1), (2, vi l2), (3, vi l3)] [] x7 P))))))) :
    MT G (d + 1) z_lookAt 127 [(0, vr 0), (1, vi l1), (2, vi l2), (3, vi l3)] [] x P := by
  refine T_aload_n 0 (dk dt_lookAt 77 rfl) rfl rfl ?_
  refine T_getR 0 58 59 (dk dt_lookAt 78 rfl) fl_118 mk_0 ml_0 (by decide) rfl rfl ?_
  refine T_iload_n 2 (dk dt_lookAt 79 rfl) rfl rfl ?_
  obtain ⟨h1, h⟩ := h
  refine T_iald 59 1500 (dk dt_lookAt 80 rfl) mk_59 ml_59 h1 ?_
  refine T_iconst (v := (-1)) (dk dt_lookAt 81 rfl) (by decide +kernel) ?_
  refine T_icmp_eq 160 (dk dt_lookAt 82 rfl) (by decide) (fun c2 => ?_) (fun c2 => ?_)
  · have h := h.1 c2
    exact h
  · have h := h.2 c2
    refine T_aload_n 0 (dk dt_lookAt 83 rfl) rfl rfl ?_
    refine T_aload_n 0 (dk dt_lookAt 84 rfl) rfl rfl ?_
    refine T_aload_n 0 (dk dt_lookAt 85 rfl) rfl rfl ?_
    refine T_getR 0 58 59 (dk dt_lookAt 86 rfl) fl_118 mk_0 ml_0 (by decide) rfl rfl ?_
    refine T_iload_n 2 (dk dt_lookAt 87 rfl) rfl rfl ?_
    obtain ⟨h3, h⟩ := h
    refine T_iald 59 1500 (dk dt_lookAt 88 rfl) mk_59 ml_59 h3 ?_
    refine T_iload_n 1 (dk dt_lookAt 89 rfl) rfl rfl ?_
    refine MT_callVi [vi (x.1 59 (l2 : Int32).toNatClampNeg), vi l1] [vr 0] rfl (dk dt_lookAt 90 rfl) cv_593 rfl rfl (Nat.le_of_ble_eq_true rfl) (Nat.le_of_ble_eq_true rfl) rfl rfl h (fun r5 x4 h => ?_)
    obtain ⟨x6, ex6⟩ : ∃ z, z = si x4 0 90 r5 := ⟨_, rfl⟩
    have h := h x6 ex6
    refine T_putI 0 90 (dk dt_lookAt 91 rfl) fl_626 mk_0 ml_0 (by decide) rfl ⟨rfl, rfl⟩ ?_
    rw [← ex6]
    refine T_aload_n 0 (dk dt_lookAt 92 rfl) rfl rfl ?_
    refine T_aload_n 0 (dk dt_lookAt 93 rfl) rfl rfl ?_
    refine T_getI 0 82 (dk dt_lookAt 94 rfl) fl_581 mk_0 ml_0 (by decide) rfl ?_
    obtain ⟨x7, ex7⟩ : ∃ z, z = si x6 0 89 (x6.1 0 82) := ⟨_, rfl⟩
    have h := h x7 ex7
    refine T_putI 0 89 (dk dt_lookAt 95 rfl) fl_620 mk_0 ml_0 (by decide) rfl ⟨rfl, rfl⟩ ?_
    rw [← ex7]
    exact h
set_option maxRecDepth 100000 in
set_option maxHeartbeats 4000000 in
theorem sg_lookAt_160 {G : mG} {d : Nat} {x : gd} {P : Option gv → gd → Prop} (l1 : Int32) (l2 : Int32) (l3 : Int32)
    (h : ((¬ ((x.1 0 89) = (0 : Int32)) → MT G (d + 1) z_lookAt 200 [(0, vr 0), (1, vi l1), (2, vi l2), (3, vi l3)] [] x P) ∧ ((x.1 0 89) = (0 : Int32) → vp_in l2 1500 ∧ (((x.1 60 (l2 : Int32).toNatClampNeg) = (-1 : Int32) → MT G (d + 1) z_lookAt 200 [(0, vr 0), (1, vi l1), (2, vi l2), (3, vi l3)] [] x P) ∧ (¬ ((x.1 60 (l2 : Int32).toNatClampNeg) = (-1 : Int32)) → vp_in l2 1500 ∧ MT G d z_worked 0 [(0, vr 0), (1, vi (x.1 60 (l2 : Int32).toNatClampNeg)), (2, vi l1)] [] x (ri (fun r6 x5 => (∀ x7 : gd, x7 = si x5 0 91 r6 → (∀ x8 : gd, x8 = si x7 0 89 (x7.1 0 82) → MT G (d + 1) z_lookAt 200 [(0, vr 0), (1, vi l1), (2, vi l2), (3, vi l3)] [] x8 P))))))))) :
    MT G (d + 1) z_lookAt 160 [(0, vr 0), (1, vi l1), (2, vi l2), (3, vi l3)] [] x P := by
  refine T_aload_n 0 (dk dt_lookAt 96 rfl) rfl rfl ?_
  refine T_getI 0 89 (dk dt_lookAt 97 rfl) fl_620 mk_0 ml_0 (by decide) rfl ?_
  refine T_if_ne 200 (dk dt_lookAt 98 rfl) (by decide) (fun c1 => ?_) (fun c1 => ?_)
  · have h := h.1 c1
    exact h
  · have h := h.2 c1
    refine T_aload_n 0 (dk dt_lookAt 99 rfl) rfl rfl ?_
    refine T_getR 0 59 60 (dk dt_lookAt 100 rfl) fl_121 mk_0 ml_0 (by decide) rfl rfl ?_
    refine T_iload_n 2 (dk dt_lookAt 101 rfl) rfl rfl ?_
    obtain ⟨h2, h⟩ := h
    refine T_iald 60 1500 (dk dt_lookAt 102 rfl) mk_60 ml_60 h2 ?_
    refine T_iconst (v := (-1)) (dk dt_lookAt 103 rfl) (by decide +kernel) ?_
    refine T_icmp_eq 200 (dk dt_lookAt 104 rfl) (by decide) (fun c3 => ?_) (fun c3 => ?_)
    · have h := h.1 c3
      exact h
    · have h := h.2 c3
      refine T_aload_n 0 (dk dt_lookAt 105 rfl) rfl rfl ?_
      refine T_aload_n 0 (dk dt_lookAt 106 rfl) rfl rfl ?_
      refine T_aload_n 0 (dk dt_lookAt 107 rfl) rfl rfl ?_
      refine T_getR 0 59 60 (dk dt_lookAt 108 rfl) fl_121 mk_0 ml_0 (by decide) rfl rfl ?_
      refine T_iload_n 2 (dk dt_lookAt 109 rfl) rfl rfl ?_
      obtain ⟨h4, h⟩ := h
      refine T_iald 60 1500 (dk dt_lookAt 110 rfl) mk_60 ml_60 h4 ?_
      refine T_iload_n 1 (dk dt_lookAt 111 rfl) rfl rfl ?_
      refine MT_callVi [vi (x.1 60 (l2 : Int32).toNatClampNeg), vi l1] [vr 0] rfl (dk dt_lookAt 112 rfl) cv_593 rfl rfl (Nat.le_of_ble_eq_true rfl) (Nat.le_of_ble_eq_true rfl) rfl rfl h (fun r6 x5 h => ?_)
      obtain ⟨x7, ex7⟩ : ∃ z, z = si x5 0 91 r6 := ⟨_, rfl⟩
      have h := h x7 ex7
      refine T_putI 0 91 (dk dt_lookAt 113 rfl) fl_629 mk_0 ml_0 (by decide) rfl ⟨rfl, rfl⟩ ?_
      rw [← ex7]
      refine T_aload_n 0 (dk dt_lookAt 114 rfl) rfl rfl ?_
      refine T_aload_n 0 (dk dt_lookAt 115 rfl) rfl rfl ?_
      refine T_getI 0 82 (dk dt_lookAt 116 rfl) fl_581 mk_0 ml_0 (by decide) rfl ?_
      obtain ⟨x8, ex8⟩ : ∃ z, z = si x7 0 89 (x7.1 0 82) := ⟨_, rfl⟩
      have h := h x8 ex8
      refine T_putI 0 89 (dk dt_lookAt 117 rfl) fl_620 mk_0 ml_0 (by decide) rfl ⟨rfl, rfl⟩ ?_
      rw [← ex8]
      exact h
set_option maxRecDepth 100000 in
set_option maxHeartbeats 4000000 in
theorem sg_lookAt_200 {G : mG} {d : Nat} {x : gd} {P : Option gv → gd → Prop} (l1 : Int32) (l2 : Int32) (l3 : Int32)
    (h : (((x.1 0 89) ≤ (0 : Int32) → ((l3 = (6 : Int32) → MT G (d + 1) z_lookAt 226 [(0, vr 0), (1, vi l1), (2, vi l2), (3, vi l3)] [] x P) ∧ (¬ (l3 = (6 : Int32)) → ((l3 = (7 : Int32) → MT G (d + 1) z_lookAt 226 [(0, vr 0), (1, vi l1), (2, vi l2), (3, vi l3)] [] x P) ∧ (¬ (l3 = (7 : Int32)) → ((¬ (l3 = (8 : Int32)) → MT G (d + 1) z_lookAt 246 [(0, vr 0), (1, vi l1), (2, vi l2), (3, vi l3)] [vi 0] x P) ∧ (l3 = (8 : Int32) → MT G (d + 1) z_lookAt 226 [(0, vr 0), (1, vi l1), (2, vi l2), (3, vi l3)] [] x P))))))) ∧ (¬ ((x.1 0 89) ≤ (0 : Int32)) → P none x))) :
    MT G (d + 1) z_lookAt 200 [(0, vr 0), (1, vi l1), (2, vi l2), (3, vi l3)] [] x P := by
  refine T_aload_n 0 (dk dt_lookAt 118 rfl) rfl rfl ?_
  refine T_getI 0 89 (dk dt_lookAt 119 rfl) fl_620 mk_0 ml_0 (by decide) rfl ?_
  refine T_if_le 208 (dk dt_lookAt 120 rfl) (by decide) (fun c1 => ?_) (fun c1 => ?_)
  · have h := h.1 c1
    refine T_iload_n 3 (dk dt_lookAt 122 rfl) rfl rfl ?_
    refine T_bipush (v := 6) (dk dt_lookAt 123 rfl) (by decide +kernel) ?_
    refine T_icmp_eq 226 (dk dt_lookAt 124 rfl) (by decide) (fun c2 => ?_) (fun c2 => ?_)
    · have h := h.1 c2
      exact h
    · have h := h.2 c2
      refine T_iload_n 3 (dk dt_lookAt 125 rfl) rfl rfl ?_
      refine T_bipush (v := 7) (dk dt_lookAt 126 rfl) (by decide +kernel) ?_
      refine T_icmp_eq 226 (dk dt_lookAt 127 rfl) (by decide) (fun c3 => ?_) (fun c3 => ?_)
      · have h := h.1 c3
        exact h
      · have h := h.2 c3
        refine T_iload_n 3 (dk dt_lookAt 128 rfl) rfl rfl ?_
        refine T_bipush (v := 8) (dk dt_lookAt 129 rfl) (by decide +kernel) ?_
        refine T_icmp_ne 245 (dk dt_lookAt 130 rfl) (by decide) (fun c4 => ?_) (fun c4 => ?_)
        · have h := h.1 c4
          refine T_iconst (v := 0) (dk dt_lookAt 142 rfl) (by decide +kernel) ?_
          exact h
        · have h := h.2 c4
          exact h
  · have h := h.2 c1
    exact MT_vret (dk dt_lookAt 121 rfl) rfl h
set_option maxRecDepth 100000 in
set_option maxHeartbeats 4000000 in
theorem sg_lookAt_226 {G : mG} {d : Nat} {x : gd} {P : Option gv → gd → Prop} (l1 : Int32) (l2 : Int32) (l3 : Int32)
    (h : vp_in l2 1500 ∧ vp_in (x.1 56 (l2 : Int32).toNatClampNeg) 6 ∧ ((¬ ((x.1 71 (x.1 56 (l2 : Int32).toNatClampNeg : Int32).toNatClampNeg) = l1) → MT G (d + 1) z_lookAt 246 [(0, vr 0), (1, vi l1), (2, vi l2), (3, vi l3)] [vi 0] x P) ∧ ((x.1 71 (x.1 56 (l2 : Int32).toNatClampNeg : Int32).toNatClampNeg) = l1 → MT G (d + 1) z_lookAt 246 [(0, vr 0), (1, vi l1), (2, vi l2), (3, vi l3)] [vi 1] x P))) :
    MT G (d + 1) z_lookAt 226 [(0, vr 0), (1, vi l1), (2, vi l2), (3, vi l3)] [] x P := by
  refine T_aload_n 0 (dk dt_lookAt 131 rfl) rfl rfl ?_
  refine T_getR 0 70 71 (dk dt_lookAt 132 rfl) fl_145 mk_0 ml_0 (by decide) rfl rfl ?_
  refine T_aload_n 0 (dk dt_lookAt 133 rfl) rfl rfl ?_
  refine T_getR 0 55 56 (dk dt_lookAt 134 rfl) fl_109 mk_0 ml_0 (by decide) rfl rfl ?_
  refine T_iload_n 2 (dk dt_lookAt 135 rfl) rfl rfl ?_
  obtain ⟨h1, h⟩ := h
  refine T_iald 56 1500 (dk dt_lookAt 136 rfl) mk_56 ml_56 h1 ?_
  obtain ⟨h2, h⟩ := h
  refine T_iald 71 6 (dk dt_lookAt 137 rfl) mk_71 ml_71 h2 ?_
  refine T_iload_n 1 (dk dt_lookAt 138 rfl) rfl rfl ?_
  refine T_icmp_ne 245 (dk dt_lookAt 139 rfl) (by decide) (fun c3 => ?_) (fun c3 => ?_)
  · have h := h.1 c3
    refine T_iconst (v := 0) (dk dt_lookAt 142 rfl) (by decide +kernel) ?_
    exact h
  · have h := h.2 c3
    refine T_iconst (v := 1) (dk dt_lookAt 140 rfl) (by decide +kernel) ?_
    refine T_goto 246 (dk dt_lookAt 141 rfl) (by decide) ?_
    exact h
set_option maxRecDepth 100000 in
set_option maxHeartbeats 4000000 in
theorem sg_lookAt_246 {G : mG} {d : Nat} {x : gd} {P : Option gv → gd → Prop} (l1 : Int32) (l2 : Int32) (l3 : Int32) (s0 : Int32)
    (h : ((¬ (l3 = (6 : Int32)) → MT G (d + 1) z_lookAt 267 [(0, vr 0), (1, vi l1), (2, vi l2), (3, vi l3), (4, vi s0)] [] x P) ∧ (l3 = (6 : Int32) → ((¬ (s0 = (0 : Int32)) → MT G (d + 1) z_lookAt 267 [(0, vr 0), (1, vi l1), (2, vi l2), (3, vi l3), (4, vi s0)] [] x P) ∧ (s0 = (0 : Int32) → (∀ x3 : gd, x3 = si x 0 89 3 → P none x3)))))) :
    MT G (d + 1) z_lookAt 246 [(0, vr 0), (1, vi l1), (2, vi l2), (3, vi l3)] [vi s0] x P := by
  refine T_istore (lv2 := [(4, vi s0), (0, vr 0), (1, vi l1), (2, vi l2), (3, vi l3)]) (dk dt_lookAt 143 rfl) (by decide) rfl ?_
  refine T_iload_n 4 (dk dt_lookAt 144 rfl) rfl rfl ?_
  refine T_bipush (v := 6) (dk dt_lookAt 145 rfl) (by decide +kernel) ?_
  refine T_icmp_ne 267 (dk dt_lookAt 146 rfl) (by decide) (fun c1 => ?_) (fun c1 => ?_)
  · have h := h.1 c1
    exact T_sub [1, 2, 3, 4, 0] rfl h
  · have h := h.2 c1
    refine T_iload 0 (dk dt_lookAt 147 rfl) rfl ?_
    refine T_if_ne 267 (dk dt_lookAt 148 rfl) (by decide) (fun c2 => ?_) (fun c2 => ?_)
    · have h := h.1 c2
      exact T_sub [1, 2, 3, 4, 0] rfl h
    · have h := h.2 c2
      refine T_aload_n 1 (dk dt_lookAt 149 rfl) rfl rfl ?_
      refine T_iconst (v := 3) (dk dt_lookAt 150 rfl) (by decide +kernel) ?_
      obtain ⟨x3, ex3⟩ : ∃ z, z = si x 0 89 3 := ⟨_, rfl⟩
      have h := h x3 ex3
      refine T_putI 0 89 (dk dt_lookAt 151 rfl) fl_620 mk_0 ml_0 (by decide) rfl ⟨rfl, rfl⟩ ?_
      rw [← ex3]
      refine T_goto 404 (dk dt_lookAt 152 rfl) (by decide) ?_
      exact MT_vret (dk dt_lookAt 224 rfl) rfl h
set_option maxRecDepth 100000 in
set_option maxHeartbeats 4000000 in
theorem sg_lookAt_267 {G : mG} {d : Nat} {x : gd} {P : Option gv → gd → Prop} (l1 : Int32) (l2 : Int32) (l3 : Int32) (l4 : Int32)
    (h : ((l3 = (7 : Int32) → MT G (d + 1) z_lookAt 279 [(0, vr 0), (1, vi l1), (2, vi l2), (3, vi l3), (4, vi l4)] [] x P) ∧ (¬ (l3 = (7 : Int32)) → ((¬ (l3 = (8 : Int32)) → MT G (d + 1) z_lookAt 292 [(0, vr 0), (1, vi l1), (2, vi l2), (3, vi l3)] [] x P) ∧ (l3 = (8 : Int32) → MT G (d + 1) z_lookAt 279 [(0, vr 0), (1, vi l1), (2, vi l2), (3, vi l3), (4, vi l4)] [] x P))))) :
    MT G (d + 1) z_lookAt 267 [(0, vr 0), (1, vi l1), (2, vi l2), (3, vi l3), (4, vi l4)] [] x P := by
  refine T_iload_n 3 (dk dt_lookAt 153 rfl) rfl rfl ?_
  refine T_bipush (v := 7) (dk dt_lookAt 154 rfl) (by decide +kernel) ?_
  refine T_icmp_eq 279 (dk dt_lookAt 155 rfl) (by decide) (fun c1 => ?_) (fun c1 => ?_)
  · have h := h.1 c1
    exact h
  · have h := h.2 c1
    refine T_iload_n 3 (dk dt_lookAt 156 rfl) rfl rfl ?_
    refine T_bipush (v := 8) (dk dt_lookAt 157 rfl) (by decide +kernel) ?_
    refine T_icmp_ne 292 (dk dt_lookAt 158 rfl) (by decide) (fun c2 => ?_) (fun c2 => ?_)
    · have h := h.1 c2
      exact T_sub [0, 1, 2, 3] rfl h
    · have h := h.2 c2
      exact h
set_option maxRecDepth 100000 in
set_option maxHeartbeats 4000000 in
theorem sg_lookAt_279 {G : mG} {d : Nat} {x : gd} {P : Option gv → gd → Prop} (l1 : Int32) (l2 : Int32) (l3 : Int32) (l4 : Int32)
    (h : ((¬ (l4 = (0 : Int32)) → MT G (d + 1) z_lookAt 292 [(0, vr 0), (1, vi l1), (2, vi l2), (3, vi l3)] [] x P) ∧ (l4 = (0 : Int32) → (∀ x2 : gd, x2 = si x 0 89 4 → P none x2)))) :
    MT G (d + 1) z_lookAt 279 [(0, vr 0), (1, vi l1), (2, vi l2), (3, vi l3), (4, vi l4)] [] x P := by
  refine T_iload 4 (dk dt_lookAt 159 rfl) rfl ?_
  refine T_if_ne 292 (dk dt_lookAt 160 rfl) (by decide) (fun c1 => ?_) (fun c1 => ?_)
  · have h := h.1 c1
    exact T_sub [0, 1, 2, 3] rfl h
  · have h := h.2 c1
    refine T_aload_n 0 (dk dt_lookAt 161 rfl) rfl rfl ?_
    refine T_iconst (v := 4) (dk dt_lookAt 162 rfl) (by decide +kernel) ?_
    obtain ⟨x2, ex2⟩ : ∃ z, z = si x 0 89 4 := ⟨_, rfl⟩
    have h := h x2 ex2
    refine T_putI 0 89 (dk dt_lookAt 163 rfl) fl_620 mk_0 ml_0 (by decide) rfl ⟨rfl, rfl⟩ ?_
    rw [← ex2]
    refine T_goto 404 (dk dt_lookAt 164 rfl) (by decide) ?_
    exact MT_vret (dk dt_lookAt 224 rfl) rfl h
set_option maxRecDepth 100000 in
set_option maxHeartbeats 4000000 in
theorem sg_lookAt_292 {G : mG} {d : Nat} {x : gd} {P : Option gv → gd → Prop} (l1 : Int32) (l2 : Int32) (l3 : Int32)
    (h : ((¬ (l3 = (9 : Int32)) → MT G (d + 1) z_lookAt 321 [(0, vr 0), (1, vi l1), (3, vi l3)] [] x P) ∧ (l3 = (9 : Int32) → vp_in l2 1500 ∧ vp_in (x.1 56 (l2 : Int32).toNatClampNeg) 6 ∧ (((x.1 73 (x.1 56 (l2 : Int32).toNatClampNeg : Int32).toNatClampNeg) = (0 : Int32) → MT G (d + 1) z_lookAt 321 [(0, vr 0), (1, vi l1), (3, vi l3)] [] x P) ∧ (¬ ((x.1 73 (x.1 56 (l2 : Int32).toNatClampNeg : Int32).toNatClampNeg) = (0 : Int32)) → (∀ x5 : gd, x5 = si x 0 89 7 → P none x5)))))) :
    MT G (d + 1) z_lookAt 292 [(0, vr 0), (1, vi l1), (2, vi l2), (3, vi l3)] [] x P := by
  refine T_iload_n 3 (dk dt_lookAt 165 rfl) rfl rfl ?_
  refine T_bipush (v := 9) (dk dt_lookAt 166 rfl) (by decide +kernel) ?_
  refine T_icmp_ne 321 (dk dt_lookAt 167 rfl) (by decide) (fun c1 => ?_) (fun c1 => ?_)
  · have h := h.1 c1
    exact T_sub [0, 1, 3] rfl h
  · have h := h.2 c1
    refine T_aload_n 0 (dk dt_lookAt 168 rfl) rfl rfl ?_
    refine T_getR 0 72 73 (dk dt_lookAt 169 rfl) fl_151 mk_0 ml_0 (by decide) rfl rfl ?_
    refine T_aload_n 0 (dk dt_lookAt 170 rfl) rfl rfl ?_
    refine T_getR 0 55 56 (dk dt_lookAt 171 rfl) fl_109 mk_0 ml_0 (by decide) rfl rfl ?_
    refine T_iload_n 2 (dk dt_lookAt 172 rfl) rfl rfl ?_
    obtain ⟨h2, h⟩ := h
    refine T_iald 56 1500 (dk dt_lookAt 173 rfl) mk_56 ml_56 h2 ?_
    obtain ⟨h3, h⟩ := h
    refine T_iald 73 6 (dk dt_lookAt 174 rfl) mk_73 ml_73 h3 ?_
    refine T_if_eq 321 (dk dt_lookAt 175 rfl) (by decide) (fun c4 => ?_) (fun c4 => ?_)
    · have h := h.1 c4
      exact T_sub [0, 1, 3] rfl h
    · have h := h.2 c4
      refine T_aload_n 0 (dk dt_lookAt 176 rfl) rfl rfl ?_
      refine T_bipush (v := 7) (dk dt_lookAt 177 rfl) (by decide +kernel) ?_
      obtain ⟨x5, ex5⟩ : ∃ z, z = si x 0 89 7 := ⟨_, rfl⟩
      have h := h x5 ex5
      refine T_putI 0 89 (dk dt_lookAt 178 rfl) fl_620 mk_0 ml_0 (by decide) rfl ⟨rfl, rfl⟩ ?_
      rw [← ex5]
      refine T_goto 404 (dk dt_lookAt 179 rfl) (by decide) ?_
      exact MT_vret (dk dt_lookAt 224 rfl) rfl h
set_option maxRecDepth 100000 in
set_option maxHeartbeats 4000000 in
theorem sg_lookAt_321 {G : mG} {d : Nat} {x : gd} {P : Option gv → gd → Prop} (l1 : Int32) (l3 : Int32)
    (h : ((¬ (l3 = (13 : Int32)) → MT G (d + 1) z_lookAt 337 [(0, vr 0), (1, vi l1), (3, vi l3)] [] x P) ∧ (l3 = (13 : Int32) → vp_in l1 6 ∧ ((¬ ((x.1 79 (l1 : Int32).toNatClampNeg) = (-1 : Int32)) → (∀ x4 : gd, x4 = si x 0 89 8 → P none x4)) ∧ ((x.1 79 (l1 : Int32).toNatClampNeg) = (-1 : Int32) → MT G (d + 1) z_lookAt 337 [(0, vr 0), (1, vi l1), (3, vi l3)] [] x P))))) :
    MT G (d + 1) z_lookAt 321 [(0, vr 0), (1, vi l1), (3, vi l3)] [] x P := by
  refine T_iload_n 2 (dk dt_lookAt 180 rfl) rfl rfl ?_
  refine T_bipush (v := 13) (dk dt_lookAt 181 rfl) (by decide +kernel) ?_
  refine T_icmp_ne 337 (dk dt_lookAt 182 rfl) (by decide) (fun c1 => ?_) (fun c1 => ?_)
  · have h := h.1 c1
    exact h
  · have h := h.2 c1
    refine T_aload_n 0 (dk dt_lookAt 183 rfl) rfl rfl ?_
    refine T_getR 0 78 79 (dk dt_lookAt 184 rfl) fl_169 mk_0 ml_0 (by decide) rfl rfl ?_
    refine T_iload_n 1 (dk dt_lookAt 185 rfl) rfl rfl ?_
    obtain ⟨h2, h⟩ := h
    refine T_iald 79 6 (dk dt_lookAt 186 rfl) mk_79 ml_79 h2 ?_
    refine T_iconst (v := (-1)) (dk dt_lookAt 187 rfl) (by decide +kernel) ?_
    refine T_icmp_ne 353 (dk dt_lookAt 188 rfl) (by decide) (fun c3 => ?_) (fun c3 => ?_)
    · have h := h.1 c3
      refine T_aload_n 0 (dk dt_lookAt 198 rfl) rfl rfl ?_
      refine T_bipush (v := 8) (dk dt_lookAt 199 rfl) (by decide +kernel) ?_
      obtain ⟨x4, ex4⟩ : ∃ z, z = si x 0 89 8 := ⟨_, rfl⟩
      have h := h x4 ex4
      refine T_putI 0 89 (dk dt_lookAt 200 rfl) fl_620 mk_0 ml_0 (by decide) rfl ⟨rfl, rfl⟩ ?_
      rw [← ex4]
      refine T_goto 404 (dk dt_lookAt 201 rfl) (by decide) ?_
      exact MT_vret (dk dt_lookAt 224 rfl) rfl h
    · have h := h.2 c3
      exact h
set_option maxRecDepth 100000 in
set_option maxHeartbeats 4000000 in
theorem sg_lookAt_337 {G : mG} {d : Nat} {x : gd} {P : Option gv → gd → Prop} (l1 : Int32) (l3 : Int32)
    (h : ((¬ (l3 = (14 : Int32)) → MT G (d + 1) z_lookAt 362 [(0, vr 0), (1, vi l1), (3, vi l3)] [] x P) ∧ (l3 = (14 : Int32) → vp_in l1 6 ∧ ((¬ ((x.1 79 (l1 : Int32).toNatClampNeg) = (-1 : Int32)) → MT G (d + 1) z_lookAt 362 [(0, vr 0), (1, vi l1), (3, vi l3)] [] x P) ∧ ((x.1 79 (l1 : Int32).toNatClampNeg) = (-1 : Int32) → (∀ x4 : gd, x4 = si x 0 89 8 → P none x4)))))) :
    MT G (d + 1) z_lookAt 337 [(0, vr 0), (1, vi l1), (3, vi l3)] [] x P := by
  refine T_iload_n 2 (dk dt_lookAt 189 rfl) rfl rfl ?_
  refine T_bipush (v := 14) (dk dt_lookAt 190 rfl) (by decide +kernel) ?_
  refine T_icmp_ne 362 (dk dt_lookAt 191 rfl) (by decide) (fun c1 => ?_) (fun c1 => ?_)
  · have h := h.1 c1
    exact h
  · have h := h.2 c1
    refine T_aload_n 0 (dk dt_lookAt 192 rfl) rfl rfl ?_
    refine T_getR 0 78 79 (dk dt_lookAt 193 rfl) fl_169 mk_0 ml_0 (by decide) rfl rfl ?_
    refine T_iload_n 1 (dk dt_lookAt 194 rfl) rfl rfl ?_
    obtain ⟨h2, h⟩ := h
    refine T_iald 79 6 (dk dt_lookAt 195 rfl) mk_79 ml_79 h2 ?_
    refine T_iconst (v := (-1)) (dk dt_lookAt 196 rfl) (by decide +kernel) ?_
    refine T_icmp_ne 362 (dk dt_lookAt 197 rfl) (by decide) (fun c3 => ?_) (fun c3 => ?_)
    · have h := h.1 c3
      exact h
    · have h := h.2 c3
      refine T_aload_n 0 (dk dt_lookAt 198 rfl) rfl rfl ?_
      refine T_bipush (v := 8) (dk dt_lookAt 199 rfl) (by decide +kernel) ?_
      obtain ⟨x4, ex4⟩ : ∃ z, z = si x 0 89 8 := ⟨_, rfl⟩
      have h := h x4 ex4
      refine T_putI 0 89 (dk dt_lookAt 200 rfl) fl_620 mk_0 ml_0 (by decide) rfl ⟨rfl, rfl⟩ ?_
      rw [← ex4]
      refine T_goto 404 (dk dt_lookAt 201 rfl) (by decide) ?_
      exact MT_vret (dk dt_lookAt 224 rfl) rfl h
set_option maxRecDepth 100000 in
set_option maxHeartbeats 4000000 in
theorem sg_lookAt_362 {G : mG} {d : Nat} {x : gd} {P : Option gv → gd → Prop} (l1 : Int32) (l3 : Int32)
    (h : ((¬ (l3 = (1 : Int32)) → P none x) ∧ (l3 = (1 : Int32) → ((¬ ((x.1 0 68) = (1 : Int32)) → P none x) ∧ ((x.1 0 68) = (1 : Int32) → vp_in (x.1 0 88) 24 ∧ ((¬ ((x.1 37 (x.1 0 88 : Int32).toNatClampNeg) = (0 : Int32)) → P none x) ∧ ((x.1 37 (x.1 0 88 : Int32).toNatClampNeg) = (0 : Int32) → vp_in l1 6 ∧ ((¬ ((x.1 80 (l1 : Int32).toNatClampNeg) = (8 : Int32)) → P none x) ∧ ((x.1 80 (l1 : Int32).toNatClampNeg) = (8 : Int32) → (∀ x7 : gd, x7 = si x 0 89 9 → P none x7)))))))))) :
    MT G (d + 1) z_lookAt 362 [(0, vr 0), (1, vi l1), (3, vi l3)] [] x P := by
  refine T_iload_n 2 (dk dt_lookAt 202 rfl) rfl rfl ?_
  refine T_iconst (v := 1) (dk dt_lookAt 203 rfl) (by decide +kernel) ?_
  refine T_icmp_ne 404 (dk dt_lookAt 204 rfl) (by decide) (fun c1 => ?_) (fun c1 => ?_)
  · have h := h.1 c1
    exact MT_vret (dk dt_lookAt 224 rfl) rfl h
  · have h := h.2 c1
    refine T_aload_n 0 (dk dt_lookAt 205 rfl) rfl rfl ?_
    refine T_getI 0 68 (dk dt_lookAt 206 rfl) fl_608 mk_0 ml_0 (by decide) rfl ?_
    refine T_iconst (v := 1) (dk dt_lookAt 207 rfl) (by decide +kernel) ?_
    refine T_icmp_ne 404 (dk dt_lookAt 208 rfl) (by decide) (fun c2 => ?_) (fun c2 => ?_)
    · have h := h.1 c2
      exact MT_vret (dk dt_lookAt 224 rfl) rfl h
    · have h := h.2 c2
      refine T_aload_n 0 (dk dt_lookAt 209 rfl) rfl rfl ?_
      refine T_getR 0 36 37 (dk dt_lookAt 210 rfl) fl_73 mk_0 ml_0 (by decide) rfl rfl ?_
      refine T_aload_n 0 (dk dt_lookAt 211 rfl) rfl rfl ?_
      refine T_getI 0 88 (dk dt_lookAt 212 rfl) fl_623 mk_0 ml_0 (by decide) rfl ?_
      obtain ⟨h3, h⟩ := h
      refine T_zald 37 24 (dk dt_lookAt 213 rfl) mk_37 ml_37 h3 ?_
      refine T_if_ne 404 (dk dt_lookAt 214 rfl) (by decide) (fun c4 => ?_) (fun c4 => ?_)
      · have h := h.1 c4
        exact MT_vret (dk dt_lookAt 224 rfl) rfl h
      · have h := h.2 c4
        refine T_aload_n 0 (dk dt_lookAt 215 rfl) rfl rfl ?_
        refine T_getR 0 79 80 (dk dt_lookAt 216 rfl) fl_172 mk_0 ml_0 (by decide) rfl rfl ?_
        refine T_iload_n 1 (dk dt_lookAt 217 rfl) rfl rfl ?_
        obtain ⟨h5, h⟩ := h
        refine T_iald 80 6 (dk dt_lookAt 218 rfl) mk_80 ml_80 h5 ?_
        refine T_bipush (v := 8) (dk dt_lookAt 219 rfl) (by decide +kernel) ?_
        refine T_icmp_ne 404 (dk dt_lookAt 220 rfl) (by decide) (fun c6 => ?_) (fun c6 => ?_)
        · have h := h.1 c6
          exact MT_vret (dk dt_lookAt 224 rfl) rfl h
        · have h := h.2 c6
          refine T_aload_n 0 (dk dt_lookAt 221 rfl) rfl rfl ?_
          refine T_bipush (v := 9) (dk dt_lookAt 222 rfl) (by decide +kernel) ?_
          obtain ⟨x7, ex7⟩ : ∃ z, z = si x 0 89 9 := ⟨_, rfl⟩
          have h := h x7 ex7
          refine T_putI 0 89 (dk dt_lookAt 223 rfl) fl_620 mk_0 ml_0 (by decide) rfl ⟨rfl, rfl⟩ ?_
          rw [← ex7]
          exact MT_vret (dk dt_lookAt 224 rfl) rfl h
