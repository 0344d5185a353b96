set_option maxRecDepth 100000 in
theorem dt_look : dck cX12_look [(0, .aload_n 0, 1), (1, .invokevirtual 653, 3), (4, .aload_n 0, 1), (5, .getfield 272, 3), (8, .iload_n 1, 1), (9, .dup2, 1), (10, .iaload, 1), (11, .aload_n 0, 1), (12, .getfield 611, 3), (15, .iadd, 1), (16, .iastore, 1), (17, .iconst 0, 1), (18, .istore_n 3, 1), (19, .iconst 0, 1), (20, .istore 4, 2), (22, .iconst 0, 1), (23, .istore 5, 2), (25, .iconst 0, 1), (26, .istore 6, 2), (28, .iload 6, 2), (30, .aload_n 0, 1), (31, .getfield 461, 3), (34, .if_icmp .ge 85, 3), (37, .iload_n 3, 1), (38, .ifCond .ne 14, 3), (41, .aload_n 0, 1), (42, .getfield 151, 3), (45, .iload 6, 2), (47, .iaload, 1), (48, .iconst 1, 1), (49, .if_icmp .ne 7, 3), (52, .iconst 1, 1), (53, .goto 4, 3), (56, .iconst 0, 1), (57, .istore_n 3, 1), (58, .iload 4, 2), (60, .ifCond .ne 14, 3), (63, .aload_n 0, 1), (64, .getfield 151, 3), (67, .iload 6, 2), (69, .iaload, 1), (70, .iconst 3, 1), (71, .if_icmp .ne 7, 3), (74, .iconst 1, 1), (75, .goto 4, 3), (78, .iconst 0, 1), (79, .istore 4, 2), (81, .iload 5, 2), (83, .ifCond .ne 23, 3), (86, .aload_n 0, 1), (87, .getfield 151, 3), (90, .iload 6, 2), (92, .iaload, 1), (93, .iconst 1, 1), (94, .if_icmp .ne 16, 3), (97, .aload_n 0, 1), (98, .iload 6, 2), (100, .invokevirtual 614, 3), (103, .ifCond .ne 7, 3), (106, .iconst 1, 1), (107, .goto 4, 3), (110, .iconst 0, 1), (111, .istore 5, 2), (113, .iinc 6 1, 3), (116, .goto (-88), 3), (119, .iconst 0, 1), (120, .istore 6, 2), (122, .iload 6, 2), (124, .aload_n 0, 1), (125, .getfield 464, 3), (128, .if_icmp .ge 39, 3), (131, .aload_n 0, 1), (132, .aload_n 0, 1), (133, .getfield 136, 3), (136, .iload 6, 2), (138, .iaload, 1), (139, .iconst (-1), 1), (140, .invokevirtual 593, 3), (143, .ifCond .eq 10, 3), (146, .aload_n 0, 1), (147, .getfield 581, 3), (150, .ifCond .le 11, 3), (153, .aload_n 0, 1), (154, .iload_n 1, 1), (155, .iload 6, 2), (157, .iload_n 2, 1), (158, .invokevirtual 728, 3), (161, .iinc 6 1, 3), (164, .goto (-42), 3), (167, .iconst 0, 1), (168, .istore 6, 2), (170, .iload 6, 2), (172, .aload_n 0, 1), (173, .getfield 467, 3), (176, .if_icmp .ge 52, 3), (179, .aload_n 0, 1), (180, .getfield 611, 3), (183, .ifCond .ne 45, 3), (186, .iload_n 3, 1), (187, .ifCond .ne 41, 3), (190, .aload_n 0, 1), (191, .aload_n 0, 1), (192, .getfield 139, 3), (195, .iload 6, 2), (197, .iaload, 1), (198, .iconst (-1), 1), (199, .invokevirtual 593, 3), (202, .ifCond .eq 10, 3), (205, .aload_n 0, 1), (206, .getfield 581, 3), (209, .ifCond .le 13, 3), (212, .aload_n 0, 1), (213, .iload_n 1, 1), (214, .iconst 4, 1), (215, .iload 6, 2), (217, .iadd, 1), (218, .iload_n 2, 1), (219, .invokevirtual 728, 3), (222, .iinc 6 1, 3), (225, .goto (-55), 3), (228, .aload_n 0, 1), (229, .getfield 611, 3), (232, .ifCond .ne 30, 3), (235, .aload_n 0, 1), (236, .getfield 263, 3), (239, .iload_n 1, 1), (240, .dup2, 1), (241, .iaload, 1), (242, .iconst 1, 1), (243, .iadd, 1), (244, .iastore, 1), (245, .aload_n 0, 1), (246, .iload_n 1, 1), (247, .invokevirtual 731, 3), (250, .iload_n 3, 1), (251, .ifCond .eq 11, 3), (254, .aload_n 0, 1), (255, .iload_n 1, 1), (256, .bipush 8, 2), (258, .iload_n 2, 1), (259, .invokevirtual 728, 3), (262, .iload 4, 2), (264, .ifCond .eq 11, 3), (267, .aload_n 0, 1), (268, .iload_n 1, 1), (269, .bipush 9, 2), (271, .iload_n 2, 1), (272, .invokevirtual 728, 3), (275, .aload_n 0, 1), (276, .getfield 269, 3), (279, .iload_n 1, 1), (280, .dup2, 1), (281, .iaload, 1), (282, .iload 5, 2), (284, .invokestatic 587, 3), (287, .iadd, 1), (288, .iastore, 1), (289, .iconst 0, 1), (290, .istore 6, 2), (292, .iload 6, 2), (294, .aload_n 0, 1), (295, .getfield 461, 3), (298, .if_icmp .ge 265, 3), (301, .aload_n 0, 1), (302, .iload 6, 2), (304, .invokevirtual 614, 3), (307, .ifCond .ne 6, 3), (310, .goto 247, 3), (313, .aload_n 0, 1), (314, .iload 6, 2), (316, .invokevirtual 734, 3), (319, .istore 7, 2), (321, .aload_n 0, 1), (322, .iload 6, 2), (324, .invokevirtual 632, 3), (327, .aload_n 0, 1), (328, .iload 6, 2), (330, .invokevirtual 602, 3), (333, .istore 8, 2), (335, .aload_n 0, 1), (336, .getfield 623, 3), (339, .istore 9, 2), (341, .aload_n 0, 1), (342, .getfield 620, 3), (345, .ifCond .ne 7, 3), (348, .iconst 1, 1), (349, .goto 4, 3), (352, .iconst 0, 1), (353, .istore 10, 2), (355, .aload_n 0, 1), (356, .iload 8, 2), (358, .invokevirtual 605, 3), (361, .ifCond .eq 36, 3), (364, .iload 9, 2), (366, .iconst (-1), 1), (367, .if_icmp .eq 30, 3), (370, .aload_n 0, 1), (371, .getfield 278, 3), (374, .bipush 24, 2), (376, .iload_n 1, 1), (377, .imul, 1), (378, .iload 9, 2), (380, .iadd, 1), (381, .aload_n 0, 1), (382, .getfield 278, 3), (385, .bipush 24, 2), (387, .iload_n 1, 1), (388, .imul, 1), (389, .iload 9, 2), (391, .iadd, 1), (392, .iaload, 1), (393, .iload 7, 2), (395, .iand, 1), (396, .iastore, 1), (397, .iconst 0, 1), (398, .istore 11, 2), (400, .iload 11, 2), (402, .aload_n 0, 1), (403, .getfield 458, 3), (406, .if_icmp .ge 52, 3), (409, .iload 8, 2), (411, .iconst 5, 1), (412, .if_icmp .ne 46, 3), (415, .iload 7, 2), (417, .iload 11, 2), (419, .ishr, 1), (420, .iconst 1, 1), (421, .iand, 1), (422, .iconst 1, 1), (423, .if_icmp .ne 29, 3), (426, .iload 11, 2), (428, .iload 9, 2), (430, .if_icmp .eq 22, 3), (433, .aload_n 0, 1), (434, .getfield 281, 3), (437, .bipush 36, 2), (439, .iload_n 1, 1), (440, .imul, 1), (441, .bipush 6, 2), (443, .iload 11, 2), (445, .imul, 1), (446, .iadd, 1), (447, .iload 9, 2), (449, .iadd, 1), (450, .iconst 1, 1), (451, .bastore, 1), (452, .iinc 11 1, 3), (455, .goto (-55), 3), (458, .iload 6, 2), (460, .iconst 1, 1), (461, .iadd, 1), (462, .istore 11, 2), (464, .iload 11, 2), (466, .aload_n 0, 1), (467, .getfield 461, 3), (470, .if_icmp .ge 87, 3), (473, .aload_n 0, 1), (474, .iload 8, 2), (476, .invokevirtual 605, 3), (479, .ifCond .eq 78, 3), (482, .iload 10, 2), (484, .ifCond .eq 73, 3), (487, .aload_n 0, 1), (488, .iload 11, 2), (490, .invokevirtual 614, 3), (493, .ifCond .eq 58, 3), (496, .aload_n 0, 1), (497, .iload 11, 2), (499, .invokevirtual 632, 3), (502, .aload_n 0, 1), (503, .getfield 620, 3), (506, .ifCond .ne 45, 3), (509, .aload_n 0, 1), (510, .iload 8, 2), (512, .aload_n 0, 1), (513, .iload 11, 2), (515, .invokevirtual 602, 3), (518, .invokevirtual 671, 3), (521, .ifCond .eq 30, 3), (524, .aload_n 0, 1), (525, .getfield 623, 3), (528, .iload 9, 2), (530, .if_icmp .ne 21, 3), (533, .aload_n 0, 1), (534, .getfield 73, 3), (537, .iload 9, 2), (539, .baload, 1), (540, .ifCond .ne 11, 3), (543, .aload_n 0, 1), (544, .iload_n 1, 1), (545, .bipush 10, 2), (547, .iload_n 2, 1), (548, .invokevirtual 728, 3), (551, .iinc 11 1, 3), (554, .goto (-90), 3), (557, .iinc 6 1, 3), (560, .goto (-268), 3), (563, .return_, 1)] = true := by decide +kernel
set_option maxRecDepth 100000 in
set_option maxHeartbeats 4000000 in
theorem sg_look_0 {G : mG} {d : Nat} {x : gd} {P : Option gv → gd → Prop} (l1 : Int32) (l2 : Int32)
    (h : MT G d z_findChoices 0 [(0, vr 0)] [] x (rv (fun x1 => vp_in l1 2 ∧ vp_in l1 2 ∧ (∀ x4 : gd, x4 = si x1 125 (l1 : Int32).toNatClampNeg ((x1.1 125 (l1 : Int32).toNatClampNeg) + (x1.1 0 84)) → MT G (d + 1) z_look 28 [(0, vr 0), (1, vi l1), (2, vi l2), (3, vi 0), (4, vi 0), (5, vi 0), (6, vi 0)] [] x4 P)))) :
    MT G (d + 1) z_look 0 [(0, vr 0), (1, vi l1), (2, vi l2)] [] x P := by
  refine T_aload_n 0 (dk dt_look 0 rfl) rfl rfl ?_
  refine MT_callVv [] [] rfl (dk dt_look 1 rfl) cv_653 rfl rfl (Nat.le_of_ble_eq_true rfl) (Nat.le_of_ble_eq_true rfl) rfl rfl h (fun x1 h => ?_)
  refine T_aload_n 0 (dk dt_look 2 rfl) rfl rfl ?_
  refine T_getR 0 124 125 (dk dt_look 3 rfl) fl_272 mk_0 ml_0 (by decide) rfl rfl ?_
  refine T_iload_n 1 (dk dt_look 4 rfl) rfl rfl ?_
  refine T_dup2 (dk dt_look 5 rfl) rfl rfl ?_
  obtain ⟨h2, h⟩ := h
  refine T_iald 125 2 (dk dt_look 6 rfl) mk_125 ml_125 h2 ?_
  refine T_aload_n 0 (dk dt_look 7 rfl) rfl rfl ?_
  refine T_getI 0 84 (dk dt_look 8 rfl) fl_611 mk_0 ml_0 (by decide) rfl ?_
  refine T_iadd (dk dt_look 9 rfl) ?_
  obtain ⟨h3, h⟩ := h
  obtain ⟨x4, ex4⟩ : ∃ z, z = si x1 125 (l1 : Int32).toNatClampNeg ((x1.1 125 (l1 : Int32).toNatClampNeg) + (x1.1 0 84)) := ⟨_, rfl⟩
  have h := h x4 ex4
  refine T_iast 125 2 (dk dt_look 10 rfl) mk_125 ml_125 h3 ?_
  rw [← ex4]
  refine T_iconst (v := 0) (dk dt_look 11 rfl) (by decide +kernel) ?_
  refine T_istore_n (lv2 := [(3, vi 0), (0, vr 0), (1, vi l1), (2, vi l2)]) (dk dt_look 12 rfl) rfl (by decide) rfl ?_
  refine T_iconst (v := 0) (dk dt_look 13 rfl) (by decide +kernel) ?_
  refine T_istore (lv2 := [(4, vi 0), (3, vi 0), (0, vr 0), (1, vi l1), (2, vi l2)]) (dk dt_look 14 rfl) (by decide) rfl ?_
  refine T_iconst (v := 0) (dk dt_look 15 rfl) (by decide +kernel) ?_
  refine T_istore (lv2 := [(5, vi 0), (4, vi 0), (3, vi 0), (0, vr 0), (1, vi l1), (2, vi l2)]) (dk dt_look 16 rfl) (by decide) rfl ?_
  refine T_iconst (v := 0) (dk dt_look 17 rfl) (by decide +kernel) ?_
  refine T_istore (lv2 := [(6, vi 0), (5, vi 0), (4, vi 0), (3, vi 0), (0, vr 0), (1, vi l1), (2, vi l2)]) (dk dt_look 18 rfl) (by decide) rfl ?_
  exact T_sub [4, 5, 6, 3, 2, 1, 0] rfl h
set_option maxRecDepth 100000 in
set_option maxHeartbeats 4000000 in
theorem sg_look_28 {G : mG} {d : Nat} {x : gd} {P : Option gv → gd → Prop} (l1 : Int32) (l2 : Int32) (l3 : Int32) (l4 : Int32) (l5 : Int32) (l6 : Int32)
    (h : (((x.1 0 25) ≤ l6 → MT G (d + 1) z_look 122 [(0, vr 0), (1, vi l1), (2, vi l2), (3, vi l3), (4, vi l4), (5, vi l5), (6, vi 0)] [] x P) ∧ (¬ ((x.1 0 25) ≤ l6) → ((¬ (l3 = (0 : Int32)) → MT G (d + 1) z_look 57 [(0, vr 0), (1, vi l1), (2, vi l2), (4, vi l4), (5, vi l5), (6, vi l6)] [vi 1] x P) ∧ (l3 = (0 : Int32) → vp_in l6 6 ∧ ((¬ ((x.1 73 (l6 : Int32).toNatClampNeg) = (1 : Int32)) → MT G (d + 1) z_look 57 [(0, vr 0), (1, vi l1), (2, vi l2), (4, vi l4), (5, vi l5), (6, vi l6)] [vi 0] x P) ∧ ((x.1 73 (l6 : Int32).toNatClampNeg) = (1 : Int32) → MT G (d + 1) z_look 57 [(0, vr 0), (1, vi l1), (2, vi l2), (4, vi l4), (5, vi l5), (6, vi l6)] [vi 1] x P))))))) :
    MT G (d + 1) z_look 28 [(0, vr 0), (1, vi l1), (2, vi l2), (3, vi l3), (4, vi l4), (5, vi l5), (6, vi l6)] [] x P := by
  refine T_iload 6 (dk dt_look 19 rfl) rfl ?_
  refine T_aload_n 0 (dk dt_look 20 rfl) rfl rfl ?_
  refine T_getI 0 25 (dk dt_look 21 rfl) fl_461 mk_0 ml_0 (by decide) rfl ?_
  refine T_icmp_ge 119 (dk dt_look 22 rfl) (by decide) (fun c1 => ?_) (fun c1 => ?_)
  · have h := h.1 c1
    refine T_iconst (v := 0) (dk dt_look 65 rfl) (by decide +kernel) ?_
    refine T_istore (lv2 := [(6, vi 0), (0, vr 0), (1, vi l1), (2, vi l2), (3, vi l3), (4, vi l4), (5, vi l5)]) (dk dt_look 66 rfl) (by decide) rfl ?_
    exact T_sub [1, 2, 3, 4, 5, 6, 0] rfl h
  · have h := h.2 c1
    refine T_iload_n 3 (dk dt_look 23 rfl) rfl rfl ?_
    refine T_if_ne 52 (dk dt_look 24 rfl) (by decide) (fun c2 => ?_) (fun c2 => ?_)
    · have h := h.1 c2
      refine T_iconst (v := 1) (dk dt_look 31 rfl) (by decide +kernel) ?_
      refine T_goto 57 (dk dt_look 32 rfl) (by decide) ?_
      exact T_sub [0, 1, 2, 4, 5, 6] rfl h
    · have h := h.2 c2
      refine T_aload_n 0 (dk dt_look 25 rfl) rfl rfl ?_
      refine T_getR 0 72 73 (dk dt_look 26 rfl) fl_151 mk_0 ml_0 (by decide) rfl rfl ?_
      refine T_iload 6 (dk dt_look 27 rfl) rfl ?_
      obtain ⟨h3, h⟩ := h
      refine T_iald 73 6 (dk dt_look 28 rfl) mk_73 ml_73 h3 ?_
      refine T_iconst (v := 1) (dk dt_look 29 rfl) (by decide +kernel) ?_
      refine T_icmp_ne 56 (dk dt_look 30 rfl) (by decide) (fun c4 => ?_) (fun c4 => ?_)
      · have h := h.1 c4
        refine T_iconst (v := 0) (dk dt_look 33 rfl) (by decide +kernel) ?_
        exact T_sub [0, 1, 2, 4, 5, 6] rfl h
      · have h := h.2 c4
        refine T_iconst (v := 1) (dk dt_look 31 rfl) (by decide +kernel) ?_
        refine T_goto 57 (dk dt_look 32 rfl) (by decide) ?_
        exact T_sub [0, 1, 2, 4, 5, 6] rfl h
set_option maxRecDepth 100000 in
set_option maxHeartbeats 4000000 in
theorem sg_look_57 {G : mG} {d : Nat} {x : gd} {P : Option gv → gd → Prop} (l1 : Int32) (l2 : Int32) (l4 : Int32) (l5 : Int32) (l6 : Int32) (s0 : Int32)
    (h : ((¬ (l4 = (0 : Int32)) → MT G (d + 1) z_look 79 [(0, vr 0), (1, vi l1), (2, vi l2), (3, vi s0), (5, vi l5), (6, vi l6)] [vi 1] x P) ∧ (l4 = (0 : Int32) → vp_in l6 6 ∧ ((¬ ((x.1 73 (l6 : Int32).toNatClampNeg) = (3 : Int32)) → MT G (d + 1) z_look 79 [(0, vr 0), (1, vi l1), (2, vi l2), (3, vi s0), (5, vi l5), (6, vi l6)] [vi 0] x P) ∧ ((x.1 73 (l6 : Int32).toNatClampNeg) = (3 : Int32) → MT G (d + 1) z_look 79 [(0, vr 0), (1, vi l1), (2, vi l2), (3, vi s0), (5, vi l5), (6, vi l6)] [vi 1] x P))))) :
    MT G (d + 1) z_look 57 [(0, vr 0), (1, vi l1), (2, vi l2), (4, vi l4), (5, vi l5), (6, vi l6)] [vi s0] x P := by
  refine T_istore_n (lv2 := [(3, vi s0), (0, vr 0), (1, vi l1), (2, vi l2), (4, vi l4), (5, vi l5), (6, vi l6)]) (dk dt_look 34 rfl) rfl (by decide) rfl ?_
  refine T_iload 4 (dk dt_look 35 rfl) rfl ?_
  refine T_if_ne 74 (dk dt_look 36 rfl) (by decide) (fun c1 => ?_) (fun c1 => ?_)
  · have h := h.1 c1
    refine T_iconst (v := 1) (dk dt_look 43 rfl) (by decide +kernel) ?_
    refine T_goto 79 (dk dt_look 44 rfl) (by decide) ?_
    exact T_sub [1, 2, 3, 0, 5, 6] rfl h
  · have h := h.2 c1
    refine T_aload_n 1 (dk dt_look 37 rfl) rfl rfl ?_
    refine T_getR 0 72 73 (dk dt_look 38 rfl) fl_151 mk_0 ml_0 (by decide) rfl rfl ?_
    refine T_iload 6 (dk dt_look 39 rfl) rfl ?_
    obtain ⟨h2, h⟩ := h
    refine T_iald 73 6 (dk dt_look 40 rfl) mk_73 ml_73 h2 ?_
    refine T_iconst (v := 3) (dk dt_look 41 rfl) (by decide +kernel) ?_
    refine T_icmp_ne 78 (dk dt_look 42 rfl) (by decide) (fun c3 => ?_) (fun c3 => ?_)
    · have h := h.1 c3
      refine T_iconst (v := 0) (dk dt_look 45 rfl) (by decide +kernel) ?_
      exact T_sub [1, 2, 3, 0, 5, 6] rfl h
    · have h := h.2 c3
      refine T_iconst (v := 1) (dk dt_look 43 rfl) (by decide +kernel) ?_
      refine T_goto 79 (dk dt_look 44 rfl) (by decide) ?_
      exact T_sub [1, 2, 3, 0, 5, 6] rfl h
set_option maxRecDepth 100000 in
set_option maxHeartbeats 4000000 in
theorem sg_look_79 {G : mG} {d : Nat} {x : gd} {P : Option gv → gd → Prop} (l1 : Int32) (l2 : Int32) (l3 : Int32) (l5 : Int32) (l6 : Int32) (s0 : Int32)
    (h : ((¬ (l5 = (0 : Int32)) → MT G (d + 1) z_look 28 [(0, vr 0), (1, vi l1), (2, vi l2), (3, vi l3), (4, vi s0), (5, vi 1), (6, vi (l6 + 1))] [] x P) ∧ (l5 = (0 : Int32) → vp_in l6 6 ∧ ((¬ ((x.1 73 (l6 : Int32).toNatClampNeg) = (1 : Int32)) → MT G (d + 1) z_look 28 [(0, vr 0), (1, vi l1), (2, vi l2), (3, vi l3), (4, vi s0), (5, vi 0), (6, vi (l6 + 1))] [] x P) ∧ ((x.1 73 (l6 : Int32).toNatClampNeg) = (1 : Int32) → MT G d z_hasAct 0 [(0, vr 0), (1, vi l6)] [] x (ri (fun r5 x4 => ((¬ (r5 = (0 : Int32)) → MT G (d + 1) z_look 28 [(0, vr 0), (1, vi l1), (2, vi l2), (3, vi l3), (4, vi s0), (5, vi 0), (6, vi (l6 + 1))] [] x4 P) ∧ (r5 = (0 : Int32) → MT G (d + 1) z_look 28 [(0, vr 0), (1, vi l1), (2, vi l2), (3, vi l3), (4, vi s0), (5, vi 1), (6, vi (l6 + 1))] [] x4 P))))))))) :
    MT G (d + 1) z_look 79 [(0, vr 0), (1, vi l1), (2, vi l2), (3, vi l3), (5, vi l5), (6, vi l6)] [vi s0] x P := by
  refine T_istore (lv2 := [(4, vi s0), (0, vr 0), (1, vi l1), (2, vi l2), (3, vi l3), (5, vi l5), (6, vi l6)]) (dk dt_look 46 rfl) (by decide) rfl ?_
  refine T_iload 5 (dk dt_look 47 rfl) rfl ?_
  refine T_if_ne 106 (dk dt_look 48 rfl) (by decide) (fun c1 => ?_) (fun c1 => ?_)
  · have h := h.1 c1
    refine T_iconst (v := 1) (dk dt_look 59 rfl) (by decide +kernel) ?_
    refine T_goto 111 (dk dt_look 60 rfl) (by decide) ?_
    refine T_istore (lv2 := [(5, vi 1), (4, vi s0), (0, vr 0), (1, vi l1), (2, vi l2), (3, vi l3), (6, vi l6)]) (dk dt_look 62 rfl) (by decide) rfl ?_
    refine T_iinc (v := l6 + 1) (lv2 := [(6, vi (l6 + 1)), (5, vi 1), (4, vi s0), (0, vr 0), (1, vi l1), (2, vi l2), (3, vi l3)]) 6 (dk dt_look 63 rfl) rfl rfl (by decide) rfl ?_
    refine T_goto 28 (dk dt_look 64 rfl) (by decide) ?_
    exact T_sub [3, 4, 5, 6, 2, 1, 0] rfl h
  · have h := h.2 c1
    refine T_aload_n 1 (dk dt_look 49 rfl) rfl rfl ?_
    refine T_getR 0 72 73 (dk dt_look 50 rfl) fl_151 mk_0 ml_0 (by decide) rfl rfl ?_
    refine T_iload 6 (dk dt_look 51 rfl) rfl ?_
    obtain ⟨h2, h⟩ := h
    refine T_iald 73 6 (dk dt_look 52 rfl) mk_73 ml_73 h2 ?_
    refine T_iconst (v := 1) (dk dt_look 53 rfl) (by decide +kernel) ?_
    refine T_icmp_ne 110 (dk dt_look 54 rfl) (by decide) (fun c3 => ?_) (fun c3 => ?_)
    · have h := h.1 c3
      refine T_iconst (v := 0) (dk dt_look 61 rfl) (by decide +kernel) ?_
      refine T_istore (lv2 := [(5, vi 0), (4, vi s0), (0, vr 0), (1, vi l1), (2, vi l2), (3, vi l3), (6, vi l6)]) (dk dt_look 62 rfl) (by decide) rfl ?_
      refine T_iinc (v := l6 + 1) (lv2 := [(6, vi (l6 + 1)), (5, vi 0), (4, vi s0), (0, vr 0), (1, vi l1), (2, vi l2), (3, vi l3)]) 6 (dk dt_look 63 rfl) rfl rfl (by decide) rfl ?_
      refine T_goto 28 (dk dt_look 64 rfl) (by decide) ?_
      exact T_sub [3, 4, 5, 6, 2, 1, 0] rfl h
    · have h := h.2 c3
      refine T_aload_n 1 (dk dt_look 55 rfl) rfl rfl ?_
      refine T_iload 6 (dk dt_look 56 rfl) rfl ?_
      refine MT_callVi [vi l6] [] rfl (dk dt_look 57 rfl) cv_614 rfl rfl (Nat.le_of_ble_eq_true rfl) (Nat.le_of_ble_eq_true rfl) rfl rfl h (fun r5 x4 h => ?_)
      refine T_if_ne 110 (dk dt_look 58 rfl) (by decide) (fun c6 => ?_) (fun c6 => ?_)
      · have h := h.1 c6
        refine T_iconst (v := 0) (dk dt_look 61 rfl) (by decide +kernel) ?_
        refine T_istore (lv2 := [(5, vi 0), (4, vi s0), (0, vr 0), (1, vi l1), (2, vi l2), (3, vi l3), (6, vi l6)]) (dk dt_look 62 rfl) (by decide) rfl ?_
        refine T_iinc (v := l6 + 1) (lv2 := [(6, vi (l6 + 1)), (5, vi 0), (4, vi s0), (0, vr 0), (1, vi l1), (2, vi l2), (3, vi l3)]) 6 (dk dt_look 63 rfl) rfl rfl (by decide) rfl ?_
        refine T_goto 28 (dk dt_look 64 rfl) (by decide) ?_
        exact T_sub [3, 4, 5, 6, 2, 1, 0] rfl h
      · have h := h.2 c6
        refine T_iconst (v := 1) (dk dt_look 59 rfl) (by decide +kernel) ?_
        refine T_goto 111 (dk dt_look 60 rfl) (by decide) ?_
        refine T_istore (lv2 := [(5, vi 1), (4, vi s0), (0, vr 0), (1, vi l1), (2, vi l2), (3, vi l3), (6, vi l6)]) (dk dt_look 62 rfl) (by decide) rfl ?_
        refine T_iinc (v := l6 + 1) (lv2 := [(6, vi (l6 + 1)), (5, vi 1), (4, vi s0), (0, vr 0), (1, vi l1), (2, vi l2), (3, vi l3)]) 6 (dk dt_look 63 rfl) rfl rfl (by decide) rfl ?_
        refine T_goto 28 (dk dt_look 64 rfl) (by decide) ?_
        exact T_sub [3, 4, 5, 6, 2, 1, 0] rfl h
set_option maxRecDepth 100000 in
set_option maxHeartbeats 4000000 in
theorem sg_look_122 {G : mG} {d : Nat} {x : gd} {P : Option gv → gd → Prop} (l1 : Int32) (l2 : Int32) (l3 : Int32) (l4 : Int32) (l5 : Int32) (l6 : Int32)
    (h : (((x.1 0 26) ≤ l6 → MT G (d + 1) z_look 170 [(0, vr 0), (1, vi l1), (2, vi l2), (3, vi l3), (4, vi l4), (5, vi l5), (6, vi 0)] [] x P) ∧ (¬ ((x.1 0 26) ≤ l6) → vp_in l6 4 ∧ MT G d z_worked 0 [(0, vr 0), (1, vi (x.1 65 (l6 : Int32).toNatClampNeg)), (2, vi (-1))] [] x (ri (fun r4 x3 => ((r4 = (0 : Int32) → MT G (d + 1) z_look 153 [(0, vr 0), (1, vi l1), (2, vi l2), (3, vi l3), (4, vi l4), (5, vi l5), (6, vi l6)] [] x3 P) ∧ (¬ (r4 = (0 : Int32)) → (((x3.1 0 82) ≤ (0 : Int32) → MT G (d + 1) z_look 122 [(0, vr 0), (1, vi l1), (2, vi l2), (3, vi l3), (4, vi l4), (5, vi l5), (6, vi (l6 + 1))] [] x3 P) ∧ (¬ ((x3.1 0 82) ≤ (0 : Int32)) → MT G (d + 1) z_look 153 [(0, vr 0), (1, vi l1), (2, vi l2), (3, vi l3), (4, vi l4), (5, vi l5), (6, vi l6)] [] x3 P))))))))) :
    MT G (d + 1) z_look 122 [(0, vr 0), (1, vi l1), (2, vi l2), (3, vi l3), (4, vi l4), (5, vi l5), (6, vi l6)] [] x P := by
  refine T_iload 6 (dk dt_look 67 rfl) rfl ?_
  refine T_aload_n 0 (dk dt_look 68 rfl) rfl rfl ?_
  refine T_getI 0 26 (dk dt_look 69 rfl) fl_464 mk_0 ml_0 (by decide) rfl ?_
  refine T_icmp_ge 167 (dk dt_look 70 rfl) (by decide) (fun c1 => ?_) (fun c1 => ?_)
  · have h := h.1 c1
    refine T_iconst (v := 0) (dk dt_look 89 rfl) (by decide +kernel) ?_
    refine T_istore (lv2 := [(6, vi 0), (0, vr 0), (1, vi l1), (2, vi l2), (3, vi l3), (4, vi l4), (5, vi l5)]) (dk dt_look 90 rfl) (by decide) rfl ?_
    exact T_sub [1, 2, 3, 4, 5, 6, 0] rfl h
  · have h := h.2 c1
    refine T_aload_n 0 (dk dt_look 71 rfl) rfl rfl ?_
    refine T_aload_n 0 (dk dt_look 72 rfl) rfl rfl ?_
    refine T_getR 0 64 65 (dk dt_look 73 rfl) fl_136 mk_0 ml_0 (by decide) rfl rfl ?_
    refine T_iload 6 (dk dt_look 74 rfl) rfl ?_
    obtain ⟨h2, h⟩ := h
    refine T_iald 65 4 (dk dt_look 75 rfl) mk_65 ml_65 h2 ?_
    refine T_iconst (v := (-1)) (dk dt_look 76 rfl) (by decide +kernel) ?_
    refine MT_callVi [vi (x.1 65 (l6 : Int32).toNatClampNeg), vi (-1)] [] rfl (dk dt_look 77 rfl) cv_593 rfl rfl (Nat.le_of_ble_eq_true rfl) (Nat.le_of_ble_eq_true rfl) rfl rfl h (fun r4 x3 h => ?_)
    refine T_if_eq 153 (dk dt_look 78 rfl) (by decide) (fun c5 => ?_) (fun c5 => ?_)
    · have h := h.1 c5
      exact h
    · have h := h.2 c5
      refine T_aload_n 0 (dk dt_look 79 rfl) rfl rfl ?_
      refine T_getI 0 82 (dk dt_look 80 rfl) fl_581 mk_0 ml_0 (by decide) rfl ?_
      refine T_if_le 161 (dk dt_look 81 rfl) (by decide) (fun c6 => ?_) (fun c6 => ?_)
      · have h := h.1 c6
        refine T_iinc (v := l6 + 1) (lv2 := [(6, vi (l6 + 1)), (0, vr 0), (1, vi l1), (2, vi l2), (3, vi l3), (4, vi l4), (5, vi l5)]) 6 (dk dt_look 87 rfl) rfl rfl (by decide) rfl ?_
        refine T_goto 122 (dk dt_look 88 rfl) (by decide) ?_
        exact T_sub [1, 2, 3, 4, 5, 6, 0] rfl h
      · have h := h.2 c6
        exact h
set_option maxRecDepth 100000 in
set_option maxHeartbeats 4000000 in
theorem sg_look_153 {G : mG} {d : Nat} {x : gd} {P : Option gv → gd → Prop} (l1 : Int32) (l2 : Int32) (l3 : Int32) (l4 : Int32) (l5 : Int32) (l6 : Int32)
    (h : MT G d z_find 0 [(0, vr 0), (1, vi l1), (2, vi l6), (3, vi l2)] [] x (rv (fun x1 => MT G (d + 1) z_look 122 [(0, vr 0), (1, vi l1), (2, vi l2), (3, vi l3), (4, vi l4), (5, vi l5), (6, vi (l6 + 1))] [] x1 P))) :
    MT G (d + 1) z_look 153 [(0, vr 0), (1, vi l1), (2, vi l2), (3, vi l3), (4, vi l4), (5, vi l5), (6, vi l6)] [] x P := by
  refine T_aload_n 0 (dk dt_look 82 rfl) rfl rfl ?_
  refine T_iload_n 1 (dk dt_look 83 rfl) rfl rfl ?_
  refine T_iload 6 (dk dt_look 84 rfl) rfl ?_
  refine T_iload_n 2 (dk dt_look 85 rfl) rfl rfl ?_
  refine MT_callVv [vi l1, vi l6, vi l2] [] rfl (dk dt_look 86 rfl) cv_728 rfl rfl (Nat.le_of_ble_eq_true rfl) (Nat.le_of_ble_eq_true rfl) rfl rfl h (fun x1 h => ?_)
  refine T_iinc (v := l6 + 1) (lv2 := [(6, vi (l6 + 1)), (0, vr 0), (1, vi l1), (2, vi l2), (3, vi l3), (4, vi l4), (5, vi l5)]) 6 (dk dt_look 87 rfl) rfl rfl (by decide) rfl ?_
  refine T_goto 122 (dk dt_look 88 rfl) (by decide) ?_
  exact T_sub [1, 2, 3, 4, 5, 6, 0] rfl h
set_option maxRecDepth 100000 in
set_option maxHeartbeats 4000000 in
theorem sg_look_170 {G : mG} {d : Nat} {x : gd} {P : Option gv → gd → Prop} (l1 : Int32) (l2 : Int32) (l3 : Int32) (l4 : Int32) (l5 : Int32) (l6 : Int32)
    (h : (((x.1 0 27) ≤ l6 → MT G (d + 1) z_look 228 [(0, vr 0), (1, vi l1), (2, vi l2), (3, vi l3), (4, vi l4), (5, vi l5)] [] x P) ∧ (¬ ((x.1 0 27) ≤ l6) → ((¬ ((x.1 0 84) = (0 : Int32)) → MT G (d + 1) z_look 228 [(0, vr 0), (1, vi l1), (2, vi l2), (3, vi l3), (4, vi l4), (5, vi l5)] [] x P) ∧ ((x.1 0 84) = (0 : Int32) → ((¬ (l3 = (0 : Int32)) → MT G (d + 1) z_look 228 [(0, vr 0), (1, vi l1), (2, vi l2), (3, vi l3), (4, vi l4), (5, vi l5)] [] x P) ∧ (l3 = (0 : Int32) → vp_in l6 4 ∧ MT G d z_worked 0 [(0, vr 0), (1, vi (x.1 66 (l6 : Int32).toNatClampNeg)), (2, vi (-1))] [] x (ri (fun r6 x5 => ((r6 = (0 : Int32) → MT G (d + 1) z_look 212 [(0, vr 0), (1, vi l1), (2, vi l2), (3, vi l3), (4, vi l4), (5, vi l5), (6, vi l6)] [] x5 P) ∧ (¬ (r6 = (0 : Int32)) → (((x5.1 0 82) ≤ (0 : Int32) → MT G (d + 1) z_look 170 [(0, vr 0), (1, vi l1), (2, vi l2), (3, vi l3), (4, vi l4), (5, vi l5), (6, vi (l6 + 1))] [] x5 P) ∧ (¬ ((x5.1 0 82) ≤ (0 : Int32)) → MT G (d + 1) z_look 212 [(0, vr 0), (1, vi l1), (2, vi l2), (3, vi l3), (4, vi l4), (5, vi l5), (6, vi l6)] [] x5 P))))))))))))) :
    MT G (d + 1) z_look 170 [(0, vr 0), (1, vi l1), (2, vi l2), (3, vi l3), (4, vi l4), (5, vi l5), (6, vi l6)] [] x P := by
  refine T_iload 6 (dk dt_look 91 rfl) rfl ?_
  refine T_aload_n 0 (dk dt_look 92 rfl) rfl rfl ?_
  refine T_getI 0 27 (dk dt_look 93 rfl) fl_467 mk_0 ml_0 (by decide) rfl ?_
  refine T_icmp_ge 228 (dk dt_look 94 rfl) (by decide) (fun c1 => ?_) (fun c1 => ?_)
  · have h := h.1 c1
    exact T_sub [0, 1, 2, 3, 4, 5] rfl h
  · have h := h.2 c1
    refine T_aload_n 0 (dk dt_look 95 rfl) rfl rfl ?_
    refine T_getI 0 84 (dk dt_look 96 rfl) fl_611 mk_0 ml_0 (by decide) rfl ?_
    refine T_if_ne 228 (dk dt_look 97 rfl) (by decide) (fun c2 => ?_) (fun c2 => ?_)
    · have h := h.1 c2
      exact T_sub [0, 1, 2, 3, 4, 5] rfl h
    · have h := h.2 c2
      refine T_iload_n 3 (dk dt_look 98 rfl) rfl rfl ?_
      refine T_if_ne 228 (dk dt_look 99 rfl) (by decide) (fun c3 => ?_) (fun c3 => ?_)
      · have h := h.1 c3
        exact T_sub [0, 1, 2, 3, 4, 5] rfl h
      · have h := h.2 c3
        refine T_aload_n 0 (dk dt_look 100 rfl) rfl rfl ?_
        refine T_aload_n 0 (dk dt_look 101 rfl) rfl rfl ?_
        refine T_getR 0 65 66 (dk dt_look 102 rfl) fl_139 mk_0 ml_0 (by decide) rfl rfl ?_
        refine T_iload 6 (dk dt_look 103 rfl) rfl ?_
        obtain ⟨h4, h⟩ := h
        refine T_iald 66 4 (dk dt_look 104 rfl) mk_66 ml_66 h4 ?_
        refine T_iconst (v := (-1)) (dk dt_look 105 rfl) (by decide +kernel) ?_
        refine MT_callVi [vi (x.1 66 (l6 : Int32).toNatClampNeg), vi (-1)] [] rfl (dk dt_look 106 rfl) cv_593 rfl rfl (Nat.le_of_ble_eq_true rfl) (Nat.le_of_ble_eq_true rfl) rfl rfl h (fun r6 x5 h => ?_)
        refine T_if_eq 212 (dk dt_look 107 rfl) (by decide) (fun c7 => ?_) (fun c7 => ?_)
        · have h := h.1 c7
          exact h
        · have h := h.2 c7
          refine T_aload_n 0 (dk dt_look 108 rfl) rfl rfl ?_
          refine T_getI 0 82 (dk dt_look 109 rfl) fl_581 mk_0 ml_0 (by decide) rfl ?_
          refine T_if_le 222 (dk dt_look 110 rfl) (by decide) (fun c8 => ?_) (fun c8 => ?_)
          · have h := h.1 c8
            refine T_iinc (v := l6 + 1) (lv2 := [(6, vi (l6 + 1)), (0, vr 0), (1, vi l1), (2, vi l2), (3, vi l3), (4, vi l4), (5, vi l5)]) 6 (dk dt_look 118 rfl) rfl rfl (by decide) rfl ?_
            refine T_goto 170 (dk dt_look 119 rfl) (by decide) ?_
            exact T_sub [1, 2, 3, 4, 5, 6, 0] rfl h
          · have h := h.2 c8
            exact h
set_option maxRecDepth 100000 in
set_option maxHeartbeats 4000000 in
theorem sg_look_212 {G : mG} {d : Nat} {x : gd} {P : Option gv → gd → Prop} (l1 : Int32) (l2 : Int32) (l3 : Int32) (l4 : Int32) (l5 : Int32) (l6 : Int32)
    (h : MT G d z_find 0 [(0, vr 0), (1, vi l1), (2, vi (4 + l6)), (3, vi l2)] [] x (rv (fun x1 => MT G (d + 1) z_look 170 [(0, vr 0), (1, vi l1), (2, vi l2), (3, vi l3), (4, vi l4), (5, vi l5), (6, vi (l6 + 1))] [] x1 P))) :
    MT G (d + 1) z_look 212 [(0, vr 0), (1, vi l1), (2, vi l2), (3, vi l3), (4, vi l4), (5, vi l5), (6, vi l6)] [] x P := by
  refine T_aload_n 0 (dk dt_look 111 rfl) rfl rfl ?_
  refine T_iload_n 1 (dk dt_look 112 rfl) rfl rfl ?_
  refine T_iconst (v := 4) (dk dt_look 113 rfl) (by decide +kernel) ?_
  refine T_iload 6 (dk dt_look 114 rfl) rfl ?_
  refine T_iadd (dk dt_look 115 rfl) ?_
  refine T_iload_n 2 (dk dt_look 116 rfl) rfl rfl ?_
  refine MT_callVv [vi l1, vi (4 + l6), vi l2] [] rfl (dk dt_look 117 rfl) cv_728 rfl rfl (Nat.le_of_ble_eq_true rfl) (Nat.le_of_ble_eq_true rfl) rfl rfl h (fun x1 h => ?_)
  refine T_iinc (v := l6 + 1) (lv2 := [(6, vi (l6 + 1)), (0, vr 0), (1, vi l1), (2, vi l2), (3, vi l3), (4, vi l4), (5, vi l5)]) 6 (dk dt_look 118 rfl) rfl rfl (by decide) rfl ?_
  refine T_goto 170 (dk dt_look 119 rfl) (by decide) ?_
  exact T_sub [1, 2, 3, 4, 5, 6, 0] rfl h
set_option maxRecDepth 100000 in
set_option maxHeartbeats 4000000 in
theorem sg_look_228 {G : mG} {d : Nat} {x : gd} {P : Option gv → gd → Prop} (l1 : Int32) (l2 : Int32) (l3 : Int32) (l4 : Int32) (l5 : Int32)
    (h : ((¬ ((x.1 0 84) = (0 : Int32)) → MT G (d + 1) z_look 262 [(0, vr 0), (1, vi l1), (2, vi l2), (4, vi l4), (5, vi l5)] [] x P) ∧ ((x.1 0 84) = (0 : Int32) → vp_in l1 2 ∧ vp_in l1 2 ∧ (∀ x4 : gd, x4 = si x 122 (l1 : Int32).toNatClampNeg ((x.1 122 (l1 : Int32).toNatClampNeg) + 1) → MT G d z_addOutcome 0 [(0, vr 0), (1, vi l1)] [] x4 (rv (fun x5 => ((l3 = (0 : Int32) → MT G (d + 1) z_look 262 [(0, vr 0), (1, vi l1), (2, vi l2), (4, vi l4), (5, vi l5)] [] x5 P) ∧ (¬ (l3 = (0 : Int32)) → MT G d z_find 0 [(0, vr 0), (1, vi l1), (2, vi 8), (3, vi l2)] [] x5 (rv (fun x7 => MT G (d + 1) z_look 262 [(0, vr 0), (1, vi l1), (2, vi l2), (4, vi l4), (5, vi l5)] [] x7 P)))))))))) :
    MT G (d + 1) z_look 228 [(0, vr 0), (1, vi l1), (2, vi l2), (3, vi l3), (4, vi l4), (5, vi l5)] [] x P := by
  refine T_aload_n 0 (dk dt_look 120 rfl) rfl rfl ?_
  refine T_getI 0 84 (dk dt_look 121 rfl) fl_611 mk_0 ml_0 (by decide) rfl ?_
  refine T_if_ne 262 (dk dt_look 122 rfl) (by decide) (fun c1 => ?_) (fun c1 => ?_)
  · have h := h.1 c1
    exact T_sub [0, 1, 2, 4, 5] rfl h
  · have h := h.2 c1
    refine T_aload_n 0 (dk dt_look 123 rfl) rfl rfl ?_
    refine T_getR 0 121 122 (dk dt_look 124 rfl) fl_263 mk_0 ml_0 (by decide) rfl rfl ?_
    refine T_iload_n 1 (dk dt_look 125 rfl) rfl rfl ?_
    refine T_dup2 (dk dt_look 126 rfl) rfl rfl ?_
    obtain ⟨h2, h⟩ := h
    refine T_iald 122 2 (dk dt_look 127 rfl) mk_122 ml_122 h2 ?_
    refine T_iconst (v := 1) (dk dt_look 128 rfl) (by decide +kernel) ?_
    refine T_iadd (dk dt_look 129 rfl) ?_
    obtain ⟨h3, h⟩ := h
    obtain ⟨x4, ex4⟩ : ∃ z, z = si x 122 (l1 : Int32).toNatClampNeg ((x.1 122 (l1 : Int32).toNatClampNeg) + 1) := ⟨_, rfl⟩
    have h := h x4 ex4
    refine T_iast 122 2 (dk dt_look 130 rfl) mk_122 ml_122 h3 ?_
    rw [← ex4]
    refine T_aload_n 0 (dk dt_look 131 rfl) rfl rfl ?_
    refine T_iload_n 1 (dk dt_look 132 rfl) rfl rfl ?_
    refine MT_callVv [vi l1] [] rfl (dk dt_look 133 rfl) cv_731 rfl rfl (Nat.le_of_ble_eq_true rfl) (Nat.le_of_ble_eq_true rfl) rfl rfl h (fun x5 h => ?_)
    refine T_iload_n 3 (dk dt_look 134 rfl) rfl rfl ?_
    refine T_if_eq 262 (dk dt_look 135 rfl) (by decide) (fun c6 => ?_) (fun c6 => ?_)
    · have h := h.1 c6
      exact T_sub [0, 1, 2, 4, 5] rfl h
    · have h := h.2 c6
      refine T_aload_n 0 (dk dt_look 136 rfl) rfl rfl ?_
      refine T_iload_n 1 (dk dt_look 137 rfl) rfl rfl ?_
      refine T_bipush (v := 8) (dk dt_look 138 rfl) (by decide +kernel) ?_
      refine T_iload_n 2 (dk dt_look 139 rfl) rfl rfl ?_
      refine MT_callVv [vi l1, vi 8, vi l2] [] rfl (dk dt_look 140 rfl) cv_728 rfl rfl (Nat.le_of_ble_eq_true rfl) (Nat.le_of_ble_eq_true rfl) rfl rfl h (fun x7 h => ?_)
      exact T_sub [0, 1, 2, 4, 5] rfl h
set_option maxRecDepth 100000 in
set_option maxHeartbeats 4000000 in
theorem sg_look_262 {G : mG} {d : Nat} {x : gd} {P : Option gv → gd → Prop} (l1 : Int32) (l2 : Int32) (l4 : Int32) (l5 : Int32)
    (h : ((l4 = (0 : Int32) → MT G (d + 1) z_look 275 [(0, vr 0), (1, vi l1), (2, vi l2), (5, vi l5)] [] x P) ∧ (¬ (l4 = (0 : Int32)) → MT G d z_find 0 [(0, vr 0), (1, vi l1), (2, vi 9), (3, vi l2)] [] x (rv (fun x2 => MT G (d + 1) z_look 275 [(0, vr 0), (1, vi l1), (2, vi l2), (5, vi l5)] [] x2 P))))) :
    MT G (d + 1) z_look 262 [(0, vr 0), (1, vi l1), (2, vi l2), (4, vi l4), (5, vi l5)] [] x P := by
  refine T_iload 3 (dk dt_look 141 rfl) rfl ?_
  refine T_if_eq 275 (dk dt_look 142 rfl) (by decide) (fun c1 => ?_) (fun c1 => ?_)
  · have h := h.1 c1
    exact T_sub [0, 1, 2, 4] rfl h
  · have h := h.2 c1
    refine T_aload_n 0 (dk dt_look 143 rfl) rfl rfl ?_
    refine T_iload_n 1 (dk dt_look 144 rfl) rfl rfl ?_
    refine T_bipush (v := 9) (dk dt_look 145 rfl) (by decide +kernel) ?_
    refine T_iload_n 2 (dk dt_look 146 rfl) rfl rfl ?_
    refine MT_callVv [vi l1, vi 9, vi l2] [] rfl (dk dt_look 147 rfl) cv_728 rfl rfl (Nat.le_of_ble_eq_true rfl) (Nat.le_of_ble_eq_true rfl) rfl rfl h (fun x2 h => ?_)
    exact T_sub [0, 1, 2, 4] rfl h
set_option maxRecDepth 100000 in
set_option maxHeartbeats 4000000 in
theorem sg_look_275 {G : mG} {d : Nat} {x : gd} {P : Option gv → gd → Prop} (l1 : Int32) (l2 : Int32) (l5 : Int32)
    (h : vp_in l1 2 ∧ MT G d z_one 0 [(0, vi l5)] [] x (ri (fun r3 x2 => vp_in l1 2 ∧ (∀ x5 : gd, x5 = si x2 124 (l1 : Int32).toNatClampNeg ((x.1 124 (l1 : Int32).toNatClampNeg) + r3) → MT G (d + 1) z_look 292 [(0, vr 0), (1, vi l1), (2, vi l2), (6, vi 0)] [] x5 P)))) :
    MT G (d + 1) z_look 275 [(0, vr 0), (1, vi l1), (2, vi l2), (5, vi l5)] [] x P := by
  refine T_aload_n 0 (dk dt_look 148 rfl) rfl rfl ?_
  refine T_getR 0 123 124 (dk dt_look 149 rfl) fl_269 mk_0 ml_0 (by decide) rfl rfl ?_
  refine T_iload_n 1 (dk dt_look 150 rfl) rfl rfl ?_
  refine T_dup2 (dk dt_look 151 rfl) rfl rfl ?_
  obtain ⟨h1, h⟩ := h
  refine T_iald 124 2 (dk dt_look 152 rfl) mk_124 ml_124 h1 ?_
  refine T_iload 3 (dk dt_look 153 rfl) rfl ?_
  refine MT_callSi [vi l5] [vi (x.1 124 (l1 : Int32).toNatClampNeg), vi l1, vr 124] rfl (dk dt_look 154 rfl) cs_587 rfl (Nat.le_of_ble_eq_true rfl) (Nat.le_of_ble_eq_true rfl) rfl rfl h (fun r3 x2 h => ?_)
  refine T_iadd (dk dt_look 155 rfl) ?_
  obtain ⟨h4, h⟩ := h
  obtain ⟨x5, ex5⟩ : ∃ z, z = si x2 124 (l1 : Int32).toNatClampNeg ((x.1 124 (l1 : Int32).toNatClampNeg) + r3) := ⟨_, rfl⟩
  have h := h x5 ex5
  refine T_iast 124 2 (dk dt_look 156 rfl) mk_124 ml_124 h4 ?_
  rw [← ex5]
  refine T_iconst (v := 0) (dk dt_look 157 rfl) (by decide +kernel) ?_
  refine T_istore (lv2 := [(6, vi 0), (0, vr 0), (1, vi l1), (2, vi l2), (5, vi l5)]) (dk dt_look 158 rfl) (by decide) rfl ?_
  exact T_sub [1, 2, 3, 0] rfl h
set_option maxRecDepth 100000 in
set_option maxHeartbeats 4000000 in
theorem sg_look_292 {G : mG} {d : Nat} {x : gd} {P : Option gv → gd → Prop} (l1 : Int32) (l2 : Int32) (l6 : Int32)
    (h : (((x.1 0 25) ≤ l6 → P none x) ∧ (¬ ((x.1 0 25) ≤ l6) → MT G d z_hasAct 0 [(0, vr 0), (1, vi l6)] [] x (ri (fun r3 x2 => ((¬ (r3 = (0 : Int32)) → MT G d z_locksOf 0 [(0, vr 0), (1, vi l6)] [] x2 (ri (fun r6 x5 => MT G d z_lookAt 0 [(0, vr 0), (1, vi l6)] [] x5 (rv (fun x7 => MT G d z_sortOf 0 [(0, vr 0), (1, vi l6)] [] x7 (ri (fun r9 x8 => ((¬ ((x8.1 0 89) = (0 : Int32)) → MT G (d + 1) z_look 353 [(0, vr 0), (1, vi l1), (2, vi l2), (6, vi l6), (7, vi r6), (8, vi r9), (9, vi (x8.1 0 88))] [vi 0] x8 P) ∧ ((x8.1 0 89) = (0 : Int32) → MT G (d + 1) z_look 353 [(0, vr 0), (1, vi l1), (2, vi l2), (6, vi l6), (7, vi r6), (8, vi r9), (9, vi (x8.1 0 88))] [vi 1] x8 P))))))))) ∧ (r3 = (0 : Int32) → MT G (d + 1) z_look 292 [(0, vr 0), (1, vi l1), (2, vi l2), (6, vi (l6 + 1))] [] x2 P))))))) :
    MT G (d + 1) z_look 292 [(0, vr 0), (1, vi l1), (2, vi l2), (6, vi l6)] [] x P := by
  refine T_iload 3 (dk dt_look 159 rfl) rfl ?_
  refine T_aload_n 0 (dk dt_look 160 rfl) rfl rfl ?_
  refine T_getI 0 25 (dk dt_look 161 rfl) fl_461 mk_0 ml_0 (by decide) rfl ?_
  refine T_icmp_ge 563 (dk dt_look 162 rfl) (by decide) (fun c1 => ?_) (fun c1 => ?_)
  · have h := h.1 c1
    exact MT_vret (dk dt_look 297 rfl) rfl h
  · have h := h.2 c1
    refine T_aload_n 0 (dk dt_look 163 rfl) rfl rfl ?_
    refine T_iload 3 (dk dt_look 164 rfl) rfl ?_
    refine MT_callVi [vi l6] [] rfl (dk dt_look 165 rfl) cv_614 rfl rfl (Nat.le_of_ble_eq_true rfl) (Nat.le_of_ble_eq_true rfl) rfl rfl h (fun r3 x2 h => ?_)
    refine T_if_ne 313 (dk dt_look 166 rfl) (by decide) (fun c4 => ?_) (fun c4 => ?_)
    · have h := h.1 c4
      refine T_aload_n 0 (dk dt_look 168 rfl) rfl rfl ?_
      refine T_iload 3 (dk dt_look 169 rfl) rfl ?_
      refine MT_callVi [vi l6] [] rfl (dk dt_look 170 rfl) cv_734 rfl rfl (Nat.le_of_ble_eq_true rfl) (Nat.le_of_ble_eq_true rfl) rfl rfl h (fun r6 x5 h => ?_)
      refine T_istore (lv2 := [(7, vi r6), (0, vr 0), (1, vi l1), (2, vi l2), (6, vi l6)]) (dk dt_look 171 rfl) (by decide) rfl ?_
      refine T_aload_n 1 (dk dt_look 172 rfl) rfl rfl ?_
      refine T_iload 4 (dk dt_look 173 rfl) rfl ?_
      refine MT_callVv [vi l6] [] rfl (dk dt_look 174 rfl) cv_632 rfl rfl (Nat.le_of_ble_eq_true rfl) (Nat.le_of_ble_eq_true rfl) rfl rfl h (fun x7 h => ?_)
      refine T_aload_n 1 (dk dt_look 175 rfl) rfl rfl ?_
      refine T_iload 4 (dk dt_look 176 rfl) rfl ?_
      refine MT_callVi [vi l6] [] rfl (dk dt_look 177 rfl) cv_602 rfl rfl (Nat.le_of_ble_eq_true rfl) (Nat.le_of_ble_eq_true rfl) rfl rfl h (fun r9 x8 h => ?_)
      refine T_istore (lv2 := [(8, vi r9), (7, vi r6), (0, vr 0), (1, vi l1), (2, vi l2), (6, vi l6)]) (dk dt_look 178 rfl) (by decide) rfl ?_
      refine T_aload_n 2 (dk dt_look 179 rfl) rfl rfl ?_
      refine T_getI 0 88 (dk dt_look 180 rfl) fl_623 mk_0 ml_0 (by decide) rfl ?_
      refine T_istore (lv2 := [(9, vi (x8.1 0 88)), (8, vi r9), (7, vi r6), (0, vr 0), (1, vi l1), (2, vi l2), (6, vi l6)]) (dk dt_look 181 rfl) (by decide) rfl ?_
      refine T_aload_n 3 (dk dt_look 182 rfl) rfl rfl ?_
      refine T_getI 0 89 (dk dt_look 183 rfl) fl_620 mk_0 ml_0 (by decide) rfl ?_
      refine T_if_ne 352 (dk dt_look 184 rfl) (by decide) (fun c10 => ?_) (fun c10 => ?_)
      · have h := h.1 c10
        refine T_iconst (v := 0) (dk dt_look 187 rfl) (by decide +kernel) ?_
        exact T_sub [3, 4, 5, 6, 2, 1, 0] rfl h
      · have h := h.2 c10
        refine T_iconst (v := 1) (dk dt_look 185 rfl) (by decide +kernel) ?_
        refine T_goto 353 (dk dt_look 186 rfl) (by decide) ?_
        exact T_sub [3, 4, 5, 6, 2, 1, 0] rfl h
    · have h := h.2 c4
      refine T_goto 557 (dk dt_look 167 rfl) (by decide) ?_
      refine T_iinc (v := l6 + 1) (lv2 := [(6, vi (l6 + 1)), (0, vr 0), (1, vi l1), (2, vi l2)]) 3 (dk dt_look 295 rfl) rfl rfl (by decide) rfl ?_
      refine T_goto 292 (dk dt_look 296 rfl) (by decide) ?_
      exact T_sub [1, 2, 3, 0] rfl h
set_option maxRecDepth 100000 in
set_option maxHeartbeats 4000000 in
theorem sg_look_353 {G : mG} {d : Nat} {x : gd} {P : Option gv → gd → Prop} (l1 : Int32) (l2 : Int32) (l6 : Int32) (l7 : Int32) (l8 : Int32) (l9 : Int32) (s0 : Int32)
    (h : MT G d z_isAccess 0 [(0, vr 0), (1, vi l8)] [] x (ri (fun r2 x1 => ((r2 = (0 : Int32) → MT G (d + 1) z_look 400 [(0, vr 0), (1, vi l1), (2, vi l2), (6, vi l6), (7, vi l7), (8, vi l8), (9, vi l9), (10, vi s0), (11, vi 0)] [] x1 P) ∧ (¬ (r2 = (0 : Int32)) → ((l9 = (-1 : Int32) → MT G (d + 1) z_look 400 [(0, vr 0), (1, vi l1), (2, vi l2), (6, vi l6), (7, vi l7), (8, vi l8), (9, vi l9), (10, vi s0), (11, vi 0)] [] x1 P) ∧ (¬ (l9 = (-1 : Int32)) → vp_in ((24 * l1) + l9) 48 ∧ vp_in ((24 * l1) + l9) 48 ∧ (∀ x7 : gd, x7 = si x1 127 ((24 * l1) + l9 : Int32).toNatClampNeg ((x1.1 127 ((24 * l1) + l9 : Int32).toNatClampNeg) &&& l7) → MT G (d + 1) z_look 400 [(0, vr 0), (1, vi l1), (2, vi l2), (6, vi l6), (7, vi l7), (8, vi l8), (9, vi l9), (10, vi s0), (11, vi 0)] [] x7 P)))))))) :
    MT G (d + 1) z_look 353 [(0, vr 0), (1, vi l1), (2, vi l2), (6, vi l6), (7, vi l7), (8, vi l8), (9, vi l9)] [vi s0] x P := by
  refine T_istore (lv2 := [(10, vi s0), (0, vr 0), (1, vi l1), (2, vi l2), (6, vi l6), (7, vi l7), (8, vi l8), (9, vi l9)]) (dk dt_look 188 rfl) (by decide) rfl ?_
  refine T_aload_n 1 (dk dt_look 189 rfl) rfl rfl ?_
  refine T_iload 6 (dk dt_look 190 rfl) rfl ?_
  refine MT_callVi [vi l8] [] rfl (dk dt_look 191 rfl) cv_605 rfl rfl (Nat.le_of_ble_eq_true rfl) (Nat.le_of_ble_eq_true rfl) rfl rfl h (fun r2 x1 h => ?_)
  refine T_if_eq 397 (dk dt_look 192 rfl) (by decide) (fun c3 => ?_) (fun c3 => ?_)
  · have h := h.1 c3
    refine T_iconst (v := 0) (dk dt_look 214 rfl) (by decide +kernel) ?_
    refine T_istore (lv2 := [(11, vi 0), (10, vi s0), (0, vr 0), (1, vi l1), (2, vi l2), (6, vi l6), (7, vi l7), (8, vi l8), (9, vi l9)]) (dk dt_look 215 rfl) (by decide) rfl ?_
    exact T_sub [2, 3, 4, 5, 6, 7, 8, 1, 0] rfl h
  · have h := h.2 c3
    refine T_iload 7 (dk dt_look 193 rfl) rfl ?_
    refine T_iconst (v := (-1)) (dk dt_look 194 rfl) (by decide +kernel) ?_
    refine T_icmp_eq 397 (dk dt_look 195 rfl) (by decide) (fun c4 => ?_) (fun c4 => ?_)
    · have h := h.1 c4
      refine T_iconst (v := 0) (dk dt_look 214 rfl) (by decide +kernel) ?_
      refine T_istore (lv2 := [(11, vi 0), (10, vi s0), (0, vr 0), (1, vi l1), (2, vi l2), (6, vi l6), (7, vi l7), (8, vi l8), (9, vi l9)]) (dk dt_look 215 rfl) (by decide) rfl ?_
      exact T_sub [2, 3, 4, 5, 6, 7, 8, 1, 0] rfl h
    · have h := h.2 c4
      refine T_aload_n 1 (dk dt_look 196 rfl) rfl rfl ?_
      refine T_getR 0 126 127 (dk dt_look 197 rfl) fl_278 mk_0 ml_0 (by decide) rfl rfl ?_
      refine T_bipush (v := 24) (dk dt_look 198 rfl) (by decide +kernel) ?_
      refine T_iload_n 2 (dk dt_look 199 rfl) rfl rfl ?_
      refine T_imul (dk dt_look 200 rfl) ?_
      refine T_iload 7 (dk dt_look 201 rfl) rfl ?_
      refine T_iadd (dk dt_look 202 rfl) ?_
      refine T_aload_n 1 (dk dt_look 203 rfl) rfl rfl ?_
      refine T_getR 0 126 127 (dk dt_look 204 rfl) fl_278 mk_0 ml_0 (by decide) rfl rfl ?_
      refine T_bipush (v := 24) (dk dt_look 205 rfl) (by decide +kernel) ?_
      refine T_iload_n 2 (dk dt_look 206 rfl) rfl rfl ?_
      refine T_imul (dk dt_look 207 rfl) ?_
      refine T_iload 7 (dk dt_look 208 rfl) rfl ?_
      refine T_iadd (dk dt_look 209 rfl) ?_
      obtain ⟨h5, h⟩ := h
      refine T_iald 127 48 (dk dt_look 210 rfl) mk_127 ml_127 h5 ?_
      refine T_iload 5 (dk dt_look 211 rfl) rfl ?_
      refine T_iand (dk dt_look 212 rfl) ?_
      obtain ⟨h6, h⟩ := h
      obtain ⟨x7, ex7⟩ : ∃ z, z = si x1 127 ((24 * l1) + l9 : Int32).toNatClampNeg ((x1.1 127 ((24 * l1) + l9 : Int32).toNatClampNeg) &&& l7) := ⟨_, rfl⟩
      have h := h x7 ex7
      refine T_iast 127 48 (dk dt_look 213 rfl) mk_127 ml_127 h6 ?_
      rw [← ex7]
      refine T_iconst (v := 0) (dk dt_look 214 rfl) (by decide +kernel) ?_
      refine T_istore (lv2 := [(11, vi 0), (10, vi s0), (0, vr 0), (1, vi l1), (2, vi l2), (6, vi l6), (7, vi l7), (8, vi l8), (9, vi l9)]) (dk dt_look 215 rfl) (by decide) rfl ?_
      exact T_sub [2, 3, 4, 5, 6, 7, 8, 1, 0] rfl h
set_option maxRecDepth 100000 in
set_option maxHeartbeats 4000000 in
theorem sg_look_400 {G : mG} {d : Nat} {x : gd} {P : Option gv → gd → Prop} (l1 : Int32) (l2 : Int32) (l6 : Int32) (l7 : Int32) (l8 : Int32) (l9 : Int32) (l10 : Int32) (l11 : Int32)
    (h : (((x.1 0 24) ≤ l11 → MT G (d + 1) z_look 464 [(0, vr 0), (1, vi l1), (2, vi l2), (6, vi l6), (8, vi l8), (9, vi l9), (10, vi l10), (11, vi (l6 + 1))] [] x P) ∧ (¬ ((x.1 0 24) ≤ l11) → ((¬ (l8 = (5 : Int32)) → MT G (d + 1) z_look 464 [(0, vr 0), (1, vi l1), (2, vi l2), (6, vi l6), (8, vi l8), (9, vi l9), (10, vi l10), (11, vi (l6 + 1))] [] x P) ∧ (l8 = (5 : Int32) → ((¬ (((l7 >>> (l11 &&& 31 : Int32)) &&& 1) = (1 : Int32)) → MT G (d + 1) z_look 400 [(0, vr 0), (1, vi l1), (2, vi l2), (6, vi l6), (7, vi l7), (8, vi l8), (9, vi l9), (10, vi l10), (11, vi (l11 + 1))] [] x P) ∧ (((l7 >>> (l11 &&& 31 : Int32)) &&& 1) = (1 : Int32) → ((l11 = l9 → MT G (d + 1) z_look 400 [(0, vr 0), (1, vi l1), (2, vi l2), (6, vi l6), (7, vi l7), (8, vi l8), (9, vi l9), (10, vi l10), (11, vi (l11 + 1))] [] x P) ∧ (¬ (l11 = l9) → vp_in (((36 * l1) + (6 * l11)) + l9) 72 ∧ (∀ x6 : gd, x6 = si x 128 (((36 * l1) + (6 * l11)) + l9 : Int32).toNatClampNeg (vp_nar .boolean 1) → MT G (d + 1) z_look 400 [(0, vr 0), (1, vi l1), (2, vi l2), (6, vi l6), (7, vi l7), (8, vi l8), (9, vi l9), (10, vi l10), (11, vi (l11 + 1))] [] x6 P)))))))))) :
    MT G (d + 1) z_look 400 [(0, vr 0), (1, vi l1), (2, vi l2), (6, vi l6), (7, vi l7), (8, vi l8), (9, vi l9), (10, vi l10), (11, vi l11)] [] x P := by
  refine T_iload 8 (dk dt_look 216 rfl) rfl ?_
  refine T_aload_n 0 (dk dt_look 217 rfl) rfl rfl ?_
  refine T_getI 0 24 (dk dt_look 218 rfl) fl_458 mk_0 ml_0 (by decide) rfl ?_
  refine T_icmp_ge 458 (dk dt_look 219 rfl) (by decide) (fun c1 => ?_) (fun c1 => ?_)
  · have h := h.1 c1
    refine T_iload 3 (dk dt_look 248 rfl) rfl ?_
    refine T_iconst (v := 1) (dk dt_look 249 rfl) (by decide +kernel) ?_
    refine T_iadd (dk dt_look 250 rfl) ?_
    refine T_istore (lv2 := [(11, vi (l6 + 1)), (0, vr 0), (1, vi l1), (2, vi l2), (6, vi l6), (7, vi l7), (8, vi l8), (9, vi l9), (10, vi l10)]) (dk dt_look 251 rfl) (by decide) rfl ?_
    exact T_sub [1, 2, 3, 4, 6, 7, 8, 0] rfl h
  · have h := h.2 c1
    refine T_iload 5 (dk dt_look 220 rfl) rfl ?_
    refine T_iconst (v := 5) (dk dt_look 221 rfl) (by decide +kernel) ?_
    refine T_icmp_ne 458 (dk dt_look 222 rfl) (by decide) (fun c2 => ?_) (fun c2 => ?_)
    · have h := h.1 c2
      refine T_iload 3 (dk dt_look 248 rfl) rfl ?_
      refine T_iconst (v := 1) (dk dt_look 249 rfl) (by decide +kernel) ?_
      refine T_iadd (dk dt_look 250 rfl) ?_
      refine T_istore (lv2 := [(11, vi (l6 + 1)), (0, vr 0), (1, vi l1), (2, vi l2), (6, vi l6), (7, vi l7), (8, vi l8), (9, vi l9), (10, vi l10)]) (dk dt_look 251 rfl) (by decide) rfl ?_
      exact T_sub [1, 2, 3, 4, 6, 7, 8, 0] rfl h
    · have h := h.2 c2
      refine T_iload 4 (dk dt_look 223 rfl) rfl ?_
      refine T_iload 8 (dk dt_look 224 rfl) rfl ?_
      refine T_ishr (dk dt_look 225 rfl) ?_
      refine T_iconst (v := 1) (dk dt_look 226 rfl) (by decide +kernel) ?_
      refine T_iand (dk dt_look 227 rfl) ?_
      refine T_iconst (v := 1) (dk dt_look 228 rfl) (by decide +kernel) ?_
      refine T_icmp_ne 452 (dk dt_look 229 rfl) (by decide) (fun c3 => ?_) (fun c3 => ?_)
      · have h := h.1 c3
        refine T_iinc (v := l11 + 1) (lv2 := [(11, vi (l11 + 1)), (0, vr 0), (1, vi l1), (2, vi l2), (6, vi l6), (7, vi l7), (8, vi l8), (9, vi l9), (10, vi l10)]) 8 (dk dt_look 246 rfl) rfl rfl (by decide) rfl ?_
        refine T_goto 400 (dk dt_look 247 rfl) (by decide) ?_
        exact T_sub [1, 2, 3, 4, 5, 6, 7, 8, 0] rfl h
      · have h := h.2 c3
        refine T_iload 8 (dk dt_look 230 rfl) rfl ?_
        refine T_iload 6 (dk dt_look 231 rfl) rfl ?_
        refine T_icmp_eq 452 (dk dt_look 232 rfl) (by decide) (fun c4 => ?_) (fun c4 => ?_)
        · have h := h.1 c4
          refine T_iinc (v := l11 + 1) (lv2 := [(11, vi (l11 + 1)), (0, vr 0), (1, vi l1), (2, vi l2), (6, vi l6), (7, vi l7), (8, vi l8), (9, vi l9), (10, vi l10)]) 8 (dk dt_look 246 rfl) rfl rfl (by decide) rfl ?_
          refine T_goto 400 (dk dt_look 247 rfl) (by decide) ?_
          exact T_sub [1, 2, 3, 4, 5, 6, 7, 8, 0] rfl h
        · have h := h.2 c4
          refine T_aload_n 0 (dk dt_look 233 rfl) rfl rfl ?_
          refine T_getR 0 127 128 (dk dt_look 234 rfl) fl_281 mk_0 ml_0 (by decide) rfl rfl ?_
          refine T_bipush (v := 36) (dk dt_look 235 rfl) (by decide +kernel) ?_
          refine T_iload_n 1 (dk dt_look 236 rfl) rfl rfl ?_
          refine T_imul (dk dt_look 237 rfl) ?_
          refine T_bipush (v := 6) (dk dt_look 238 rfl) (by decide +kernel) ?_
          refine T_iload 8 (dk dt_look 239 rfl) rfl ?_
          refine T_imul (dk dt_look 240 rfl) ?_
          refine T_iadd (dk dt_look 241 rfl) ?_
          refine T_iload 6 (dk dt_look 242 rfl) rfl ?_
          refine T_iadd (dk dt_look 243 rfl) ?_
          refine T_iconst (v := 1) (dk dt_look 244 rfl) (by decide +kernel) ?_
          obtain ⟨h5, h⟩ := h
          obtain ⟨x6, ex6⟩ : ∃ z, z = si x 128 (((36 * l1) + (6 * l11)) + l9 : Int32).toNatClampNeg (vp_nar .boolean 1) := ⟨_, rfl⟩
          have h := h x6 ex6
          refine T_zast 128 72 (dk dt_look 245 rfl) mk_128 ml_128 h5 ?_
          rw [← ex6]
          refine T_iinc (v := l11 + 1) (lv2 := [(11, vi (l11 + 1)), (0, vr 0), (1, vi l1), (2, vi l2), (6, vi l6), (7, vi l7), (8, vi l8), (9, vi l9), (10, vi l10)]) 8 (dk dt_look 246 rfl) rfl rfl (by decide) rfl ?_
          refine T_goto 400 (dk dt_look 247 rfl) (by decide) ?_
          exact T_sub [1, 2, 3, 4, 5, 6, 7, 8, 0] rfl h
set_option maxRecDepth 100000 in
set_option maxHeartbeats 4000000 in
theorem sg_look_464 {G : mG} {d : Nat} {x : gd} {P : Option gv → gd → Prop} (l1 : Int32) (l2 : Int32) (l6 : Int32) (l8 : Int32) (l9 : Int32) (l10 : Int32) (l11 : Int32)
    (h : (((x.1 0 25) ≤ l11 → MT G (d + 1) z_look 292 [(0, vr 0), (1, vi l1), (2, vi l2), (6, vi (l6 + 1))] [] x P) ∧ (¬ ((x.1 0 25) ≤ l11) → MT G d z_isAccess 0 [(0, vr 0), (1, vi l8)] [] x (ri (fun r3 x2 => ((r3 = (0 : Int32) → MT G (d + 1) z_look 292 [(0, vr 0), (1, vi l1), (2, vi l2), (6, vi (l6 + 1))] [] x2 P) ∧ (¬ (r3 = (0 : Int32)) → ((l10 = (0 : Int32) → MT G (d + 1) z_look 292 [(0, vr 0), (1, vi l1), (2, vi l2), (6, vi (l6 + 1))] [] x2 P) ∧ (¬ (l10 = (0 : Int32)) → MT G d z_hasAct 0 [(0, vr 0), (1, vi l11)] [] x2 (ri (fun r7 x6 => ((r7 = (0 : Int32) → MT G (d + 1) z_look 464 [(0, vr 0), (1, vi l1), (2, vi l2), (6, vi l6), (8, vi l8), (9, vi l9), (10, vi l10), (11, vi (l11 + 1))] [] x6 P) ∧ (¬ (r7 = (0 : Int32)) → MT G d z_lookAt 0 [(0, vr 0), (1, vi l11)] [] x6 (rv (fun x9 => ((¬ ((x9.1 0 89) = (0 : Int32)) → MT G (d + 1) z_look 464 [(0, vr 0), (1, vi l1), (2, vi l2), (6, vi l6), (8, vi l8), (9, vi l9), (10, vi l10), (11, vi (l11 + 1))] [] x9 P) ∧ ((x9.1 0 89) = (0 : Int32) → MT G d z_sortOf 0 [(0, vr 0), (1, vi l11)] [] x9 (ri (fun r12 x11 => MT G d z_mayRace 0 [(0, vr 0), (1, vi l8), (2, vi r12)] [] x11 (ri (fun r14 x13 => ((r14 = (0 : Int32) → MT G (d + 1) z_look 464 [(0, vr 0), (1, vi l1), (2, vi l2), (6, vi l6), (8, vi l8), (9, vi l9), (10, vi l10), (11, vi (l11 + 1))] [] x13 P) ∧ (¬ (r14 = (0 : Int32)) → ((¬ ((x13.1 0 88) = l9) → MT G (d + 1) z_look 464 [(0, vr 0), (1, vi l1), (2, vi l2), (6, vi l6), (8, vi l8), (9, vi l9), (10, vi l10), (11, vi (l11 + 1))] [] x13 P) ∧ ((x13.1 0 88) = l9 → vp_in l9 24 ∧ ((¬ ((x13.1 37 (l9 : Int32).toNatClampNeg) = (0 : Int32)) → MT G (d + 1) z_look 464 [(0, vr 0), (1, vi l1), (2, vi l2), (6, vi l6), (8, vi l8), (9, vi l9), (10, vi l10), (11, vi (l11 + 1))] [] x13 P) ∧ ((x13.1 37 (l9 : Int32).toNatClampNeg) = (0 : Int32) → MT G d z_find 0 [(0, vr 0), (1, vi l1), (2, vi 10), (3, vi l2)] [] x13 (rv (fun x19 => MT G (d + 1) z_look 464 [(0, vr 0), (1, vi l1), (2, vi l2), (6, vi l6), (8, vi l8), (9, vi l9), (10, vi l10), (11, vi (l11 + 1))] [] x19 P))))))))))))))))))))))))))))) :
    MT G (d + 1) z_look 464 [(0, vr 0), (1, vi l1), (2, vi l2), (6, vi l6), (8, vi l8), (9, vi l9), (10, vi l10), (11, vi l11)] [] x P := by
  refine T_iload 7 (dk dt_look 252 rfl) rfl ?_
  refine T_aload_n 0 (dk dt_look 253 rfl) rfl rfl ?_
  refine T_getI 0 25 (dk dt_look 254 rfl) fl_461 mk_0 ml_0 (by decide) rfl ?_
  refine T_icmp_ge 557 (dk dt_look 255 rfl) (by decide) (fun c1 => ?_) (fun c1 => ?_)
  · have h := h.1 c1
    refine T_iinc (v := l6 + 1) (lv2 := [(6, vi (l6 + 1)), (0, vr 0), (1, vi l1), (2, vi l2), (8, vi l8), (9, vi l9), (10, vi l10), (11, vi l11)]) 3 (dk dt_look 295 rfl) rfl rfl (by decide) rfl ?_
    refine T_goto 292 (dk dt_look 296 rfl) (by decide) ?_
    exact T_sub [1, 2, 3, 0] rfl h
  · have h := h.2 c1
    refine T_aload_n 0 (dk dt_look 256 rfl) rfl rfl ?_
    refine T_iload 4 (dk dt_look 257 rfl) rfl ?_
    refine MT_callVi [vi l8] [] rfl (dk dt_look 258 rfl) cv_605 rfl rfl (Nat.le_of_ble_eq_true rfl) (Nat.le_of_ble_eq_true rfl) rfl rfl h (fun r3 x2 h => ?_)
    refine T_if_eq 557 (dk dt_look 259 rfl) (by decide) (fun c4 => ?_) (fun c4 => ?_)
    · have h := h.1 c4
      refine T_iinc (v := l6 + 1) (lv2 := [(6, vi (l6 + 1)), (0, vr 0), (1, vi l1), (2, vi l2), (8, vi l8), (9, vi l9), (10, vi l10), (11, vi l11)]) 3 (dk dt_look 295 rfl) rfl rfl (by decide) rfl ?_
      refine T_goto 292 (dk dt_look 296 rfl) (by decide) ?_
      exact T_sub [1, 2, 3, 0] rfl h
    · have h := h.2 c4
      refine T_iload 6 (dk dt_look 260 rfl) rfl ?_
      refine T_if_eq 557 (dk dt_look 261 rfl) (by decide) (fun c5 => ?_) (fun c5 => ?_)
      · have h := h.1 c5
        refine T_iinc (v := l6 + 1) (lv2 := [(6, vi (l6 + 1)), (0, vr 0), (1, vi l1), (2, vi l2), (8, vi l8), (9, vi l9), (10, vi l10), (11, vi l11)]) 3 (dk dt_look 295 rfl) rfl rfl (by decide) rfl ?_
        refine T_goto 292 (dk dt_look 296 rfl) (by decide) ?_
        exact T_sub [1, 2, 3, 0] rfl h
      · have h := h.2 c5
        refine T_aload_n 0 (dk dt_look 262 rfl) rfl rfl ?_
        refine T_iload 7 (dk dt_look 263 rfl) rfl ?_
        refine MT_callVi [vi l11] [] rfl (dk dt_look 264 rfl) cv_614 rfl rfl (Nat.le_of_ble_eq_true rfl) (Nat.le_of_ble_eq_true rfl) rfl rfl h (fun r7 x6 h => ?_)
        refine T_if_eq 551 (dk dt_look 265 rfl) (by decide) (fun c8 => ?_) (fun c8 => ?_)
        · have h := h.1 c8
          refine T_iinc (v := l11 + 1) (lv2 := [(11, vi (l11 + 1)), (0, vr 0), (1, vi l1), (2, vi l2), (6, vi l6), (8, vi l8), (9, vi l9), (10, vi l10)]) 7 (dk dt_look 293 rfl) rfl rfl (by decide) rfl ?_
          refine T_goto 464 (dk dt_look 294 rfl) (by decide) ?_
          exact T_sub [1, 2, 3, 4, 5, 6, 7, 0] rfl h
        · have h := h.2 c8
          refine T_aload_n 0 (dk dt_look 266 rfl) rfl rfl ?_
          refine T_iload 7 (dk dt_look 267 rfl) rfl ?_
          refine MT_callVv [vi l11] [] rfl (dk dt_look 268 rfl) cv_632 rfl rfl (Nat.le_of_ble_eq_true rfl) (Nat.le_of_ble_eq_true rfl) rfl rfl h (fun x9 h => ?_)
          refine T_aload_n 0 (dk dt_look 269 rfl) rfl rfl ?_
          refine T_getI 0 89 (dk dt_look 270 rfl) fl_620 mk_0 ml_0 (by decide) rfl ?_
          refine T_if_ne 551 (dk dt_look 271 rfl) (by decide) (fun c10 => ?_) (fun c10 => ?_)
          · have h := h.1 c10
            refine T_iinc (v := l11 + 1) (lv2 := [(11, vi (l11 + 1)), (0, vr 0), (1, vi l1), (2, vi l2), (6, vi l6), (8, vi l8), (9, vi l9), (10, vi l10)]) 7 (dk dt_look 293 rfl) rfl rfl (by decide) rfl ?_
            refine T_goto 464 (dk dt_look 294 rfl) (by decide) ?_
            exact T_sub [1, 2, 3, 4, 5, 6, 7, 0] rfl h
          · have h := h.2 c10
            refine T_aload_n 0 (dk dt_look 272 rfl) rfl rfl ?_
            refine T_iload 4 (dk dt_look 273 rfl) rfl ?_
            refine T_aload_n 0 (dk dt_look 274 rfl) rfl rfl ?_
            refine T_iload 7 (dk dt_look 275 rfl) rfl ?_
            refine MT_callVi [vi l11] [vi l8, vr 0] rfl (dk dt_look 276 rfl) cv_602 rfl rfl (Nat.le_of_ble_eq_true rfl) (Nat.le_of_ble_eq_true rfl) rfl rfl h (fun r12 x11 h => ?_)
            refine MT_callVi [vi l8, vi r12] [] rfl (dk dt_look 277 rfl) cv_671 rfl rfl (Nat.le_of_ble_eq_true rfl) (Nat.le_of_ble_eq_true rfl) rfl rfl h (fun r14 x13 h => ?_)
            refine T_if_eq 551 (dk dt_look 278 rfl) (by decide) (fun c15 => ?_) (fun c15 => ?_)
            · have h := h.1 c15
              refine T_iinc (v := l11 + 1) (lv2 := [(11, vi (l11 + 1)), (0, vr 0), (1, vi l1), (2, vi l2), (6, vi l6), (8, vi l8), (9, vi l9), (10, vi l10)]) 7 (dk dt_look 293 rfl) rfl rfl (by decide) rfl ?_
              refine T_goto 464 (dk dt_look 294 rfl) (by decide) ?_
              exact T_sub [1, 2, 3, 4, 5, 6, 7, 0] rfl h
            · have h := h.2 c15
              refine T_aload_n 0 (dk dt_look 279 rfl) rfl rfl ?_
              refine T_getI 0 88 (dk dt_look 280 rfl) fl_623 mk_0 ml_0 (by decide) rfl ?_
              refine T_iload 5 (dk dt_look 281 rfl) rfl ?_
              refine T_icmp_ne 551 (dk dt_look 282 rfl) (by decide) (fun c16 => ?_) (fun c16 => ?_)
              · have h := h.1 c16
                refine T_iinc (v := l11 + 1) (lv2 := [(11, vi (l11 + 1)), (0, vr 0), (1, vi l1), (2, vi l2), (6, vi l6), (8, vi l8), (9, vi l9), (10, vi l10)]) 7 (dk dt_look 293 rfl) rfl rfl (by decide) rfl ?_
                refine T_goto 464 (dk dt_look 294 rfl) (by decide) ?_
                exact T_sub [1, 2, 3, 4, 5, 6, 7, 0] rfl h
              · have h := h.2 c16
                refine T_aload_n 0 (dk dt_look 283 rfl) rfl rfl ?_
                refine T_getR 0 36 37 (dk dt_look 284 rfl) fl_73 mk_0 ml_0 (by decide) rfl rfl ?_
                refine T_iload 5 (dk dt_look 285 rfl) rfl ?_
                obtain ⟨h17, h⟩ := h
                refine T_zald 37 24 (dk dt_look 286 rfl) mk_37 ml_37 h17 ?_
                refine T_if_ne 551 (dk dt_look 287 rfl) (by decide) (fun c18 => ?_) (fun c18 => ?_)
                · have h := h.1 c18
                  refine T_iinc (v := l11 + 1) (lv2 := [(11, vi (l11 + 1)), (0, vr 0), (1, vi l1), (2, vi l2), (6, vi l6), (8, vi l8), (9, vi l9), (10, vi l10)]) 7 (dk dt_look 293 rfl) rfl rfl (by decide) rfl ?_
                  refine T_goto 464 (dk dt_look 294 rfl) (by decide) ?_
                  exact T_sub [1, 2, 3, 4, 5, 6, 7, 0] rfl h
                · have h := h.2 c18
                  refine T_aload_n 0 (dk dt_look 288 rfl) rfl rfl ?_
                  refine T_iload_n 1 (dk dt_look 289 rfl) rfl rfl ?_
                  refine T_bipush (v := 10) (dk dt_look 290 rfl) (by decide +kernel) ?_
                  refine T_iload_n 2 (dk dt_look 291 rfl) rfl rfl ?_
                  refine MT_callVv [vi l1, vi 10, vi l2] [] rfl (dk dt_look 292 rfl) cv_728 rfl rfl (Nat.le_of_ble_eq_true rfl) (Nat.le_of_ble_eq_true rfl) rfl rfl h (fun x19 h => ?_)
                  refine T_iinc (v := l11 + 1) (lv2 := [(11, vi (l11 + 1)), (0, vr 0), (1, vi l1), (2, vi l2), (6, vi l6), (8, vi l8), (9, vi l9), (10, vi l10)]) 7 (dk dt_look 293 rfl) rfl rfl (by decide) rfl ?_
                  refine T_goto 464 (dk dt_look 294 rfl) (by decide) ?_
                  exact T_sub [1, 2, 3, 4, 5, 6, 7, 0] rfl h
set_option maxRecDepth 100000 in
theorem dt_isLess : dck cX12_isLess [(0, .iconst 0, 1), (1, .istore_n 3, 1), (2, .iload_n 3, 1), (3, .bipush 24, 2), (5, .if_icmp .ge 65, 3), (8, .aload_n 0, 1), (9, .getfield 285, 3), (12, .bipush 24, 2), (14, .iload_n 1, 1), (15, .imul, 1), (16, .iload_n 3, 1), (17, .iadd, 1), (18, .iaload, 1), (19, .aload_n 0, 1), (20, .getfield 285, 3), (23, .bipush 24, 2), (25, .iload_n 2, 1), (26, .imul, 1), (27, .iload_n 3, 1), (28, .iadd, 1), (29, .iaload, 1), (30, .if_icmp .eq 34, 3), (33, .aload_n 0, 1), (34, .getfield 285, 3), (37, .bipush 24, 2), (39, .iload_n 1, 1), (40, .imul, 1), (41, .iload_n 3, 1), (42, .iadd, 1), (43, .iaload, 1), (44, .aload_n 0, 1), (45, .getfield 285, 3), (48, .bipush 24, 2), (50, .iload_n 2, 1), (51, .imul, 1), (52, .iload_n 3, 1), (53, .iadd, 1), (54, .iaload, 1), (55, .if_icmp .ge 7, 3), (58, .iconst 1, 1), (59, .goto 4, 3), (62, .iconst 0, 1), (63, .ireturn, 1), (64, .iinc 3 1, 3), (67, .goto (-65), 3), (70, .iconst 0, 1), (71, .ireturn, 1)] = true := by decide +kernel
set_option maxRecDepth 100000 in
set_option maxHeartbeats 4000000 in
theorem sg_isLess_0 {G : mG} {d : Nat} {x : gd} {P : Option gv → gd → Prop} (l1 : Int32) (l2 : Int32)
    (h : MT G d z_isLess 2 [(0, vr 0), (1, vi l1), (2, vi l2), (3, vi 0)] [] x P) :
    MT G d z_isLess 0 [(0, vr 0), (1, vi l1), (2, vi l2)] [] x P := by
  refine T_iconst (v := 0) (dk dt_isLess 0 rfl) (by decide +kernel) ?_
  refine T_istore_n (lv2 := [(3, vi 0), (0, vr 0), (1, vi l1), (2, vi l2)]) (dk dt_isLess 1 rfl) rfl (by decide) rfl ?_
  exact T_sub [1, 2, 3, 0] rfl h
set_option maxRecDepth 100000 in
set_option maxHeartbeats 4000000 in
theorem sg_isLess_2 {G : mG} {d : Nat} {x : gd} {P : Option gv → gd → Prop} (l1 : Int32) (l2 : Int32) (l3 : Int32)
    (h : (((24 : Int32) ≤ l3 → P (some (vi 0)) x) ∧ (¬ ((24 : Int32) ≤ l3) → vp_in ((24 * l1) + l3) 144000 ∧ vp_in ((24 * l2) + l3) 144000 ∧ (((x.1 129 ((24 * l1) + l3 : Int32).toNatClampNeg) = (x.1 129 ((24 * l2) + l3 : Int32).toNatClampNeg) → MT G d z_isLess 2 [(0, vr 0), (1, vi l1), (2, vi l2), (3, vi (l3 + 1))] [] x P) ∧ (¬ ((x.1 129 ((24 * l1) + l3 : Int32).toNatClampNeg) = (x.1 129 ((24 * l2) + l3 : Int32).toNatClampNeg)) → vp_in ((24 * l1) + l3) 144000 ∧ vp_in ((24 * l2) + l3) 144000 ∧ (((x.1 129 ((24 * l2) + l3 : Int32).toNatClampNeg) ≤ (x.1 129 ((24 * l1) + l3 : Int32).toNatClampNeg) → P (some (vi 0)) x) ∧ (¬ ((x.1 129 ((24 * l2) + l3 : Int32).toNatClampNeg) ≤ (x.1 129 ((24 * l1) + l3 : Int32).toNatClampNeg)) → P (some (vi 1)) x))))))) :
    MT G d z_isLess 2 [(0, vr 0), (1, vi l1), (2, vi l2), (3, vi l3)] [] x P := by
  refine T_iload_n 3 (dk dt_isLess 2 rfl) rfl rfl ?_
  refine T_bipush (v := 24) (dk dt_isLess 3 rfl) (by decide +kernel) ?_
  refine T_icmp_ge 70 (dk dt_isLess 4 rfl) (by decide) (fun c1 => ?_) (fun c1 => ?_)
  · have h := h.1 c1
    refine T_iconst (v := 0) (dk dt_isLess 45 rfl) (by decide +kernel) ?_
    exact MT_iret (dk dt_isLess 46 rfl) rfl rfl h
  · have h := h.2 c1
    refine T_aload_n 0 (dk dt_isLess 5 rfl) rfl rfl ?_
    refine T_getR 0 128 129 (dk dt_isLess 6 rfl) fl_285 mk_0 ml_0 (by decide) rfl rfl ?_
    refine T_bipush (v := 24) (dk dt_isLess 7 rfl) (by decide +kernel) ?_
    refine T_iload_n 1 (dk dt_isLess 8 rfl) rfl rfl ?_
    refine T_imul (dk dt_isLess 9 rfl) ?_
    refine T_iload_n 3 (dk dt_isLess 10 rfl) rfl rfl ?_
    refine T_iadd (dk dt_isLess 11 rfl) ?_
    obtain ⟨h2, h⟩ := h
    refine T_iald 129 144000 (dk dt_isLess 12 rfl) mk_129 ml_129 h2 ?_
    refine T_aload_n 0 (dk dt_isLess 13 rfl) rfl rfl ?_
    refine T_getR 0 128 129 (dk dt_isLess 14 rfl) fl_285 mk_0 ml_0 (by decide) rfl rfl ?_
    refine T_bipush (v := 24) (dk dt_isLess 15 rfl) (by decide +kernel) ?_
    refine T_iload_n 2 (dk dt_isLess 16 rfl) rfl rfl ?_
    refine T_imul (dk dt_isLess 17 rfl) ?_
    refine T_iload_n 3 (dk dt_isLess 18 rfl) rfl rfl ?_
    refine T_iadd (dk dt_isLess 19 rfl) ?_
    obtain ⟨h3, h⟩ := h
    refine T_iald 129 144000 (dk dt_isLess 20 rfl) mk_129 ml_129 h3 ?_
    refine T_icmp_eq 64 (dk dt_isLess 21 rfl) (by decide) (fun c4 => ?_) (fun c4 => ?_)
    · have h := h.1 c4
      refine T_iinc (v := l3 + 1) (lv2 := [(3, vi (l3 + 1)), (0, vr 0), (1, vi l1), (2, vi l2)]) 3 (dk dt_isLess 43 rfl) rfl rfl (by decide) rfl ?_
      refine T_goto 2 (dk dt_isLess 44 rfl) (by decide) ?_
      exact T_sub [1, 2, 3, 0] rfl h
    · have h := h.2 c4
      refine T_aload_n 0 (dk dt_isLess 22 rfl) rfl rfl ?_
      refine T_getR 0 128 129 (dk dt_isLess 23 rfl) fl_285 mk_0 ml_0 (by decide) rfl rfl ?_
      refine T_bipush (v := 24) (dk dt_isLess 24 rfl) (by decide +kernel) ?_
      refine T_iload_n 1 (dk dt_isLess 25 rfl) rfl rfl ?_
      refine T_imul (dk dt_isLess 26 rfl) ?_
      refine T_iload_n 3 (dk dt_isLess 27 rfl) rfl rfl ?_
      refine T_iadd (dk dt_isLess 28 rfl) ?_
      obtain ⟨h5, h⟩ := h
      refine T_iald 129 144000 (dk dt_isLess 29 rfl) mk_129 ml_129 h5 ?_
      refine T_aload_n 0 (dk dt_isLess 30 rfl) rfl rfl ?_
      refine T_getR 0 128 129 (dk dt_isLess 31 rfl) fl_285 mk_0 ml_0 (by decide) rfl rfl ?_
      refine T_bipush (v := 24) (dk dt_isLess 32 rfl) (by decide +kernel) ?_
      refine T_iload_n 2 (dk dt_isLess 33 rfl) rfl rfl ?_
      refine T_imul (dk dt_isLess 34 rfl) ?_
      refine T_iload_n 3 (dk dt_isLess 35 rfl) rfl rfl ?_
      refine T_iadd (dk dt_isLess 36 rfl) ?_
      obtain ⟨h6, h⟩ := h
      refine T_iald 129 144000 (dk dt_isLess 37 rfl) mk_129 ml_129 h6 ?_
      refine T_icmp_ge 62 (dk dt_isLess 38 rfl) (by decide) (fun c7 => ?_) (fun c7 => ?_)
      · have h := h.1 c7
        refine T_iconst (v := 0) (dk dt_isLess 41 rfl) (by decide +kernel) ?_
        exact MT_iret (dk dt_isLess 42 rfl) rfl rfl h
      · have h := h.2 c7
        refine T_iconst (v := 1) (dk dt_isLess 39 rfl) (by decide +kernel) ?_
        refine T_goto 63 (dk dt_isLess 40 rfl) (by decide) ?_
        exact MT_iret (dk dt_isLess 42 rfl) rfl rfl h
set_option maxRecDepth 100000 in
theorem dt_sortOutcomes : dck cX12_sortOutcomes [(0, .sipush 3000, 3), (3, .iload_n 1, 1), (4, .imul, 1), (5, .istore_n 2, 1), (6, .iload_n 2, 1), (7, .iconst 1, 1), (8, .iadd, 1), (9, .istore_n 3, 1), (10, .iload_n 3, 1), (11, .iload_n 2, 1), (12, .aload_n 0, 1), (13, .getfield 266, 3), (16, .iload_n 1, 1), (17, .iaload, 1), (18, .iadd, 1), (19, .if_icmp .ge 113, 3), (22, .iload_n 3, 1), (23, .istore 4, 2), (25, .iload 4, 2), (27, .iload_n 2, 1), (28, .if_icmp .le 98, 3), (31, .aload_n 0, 1), (32, .iload 4, 2), (34, .iload 4, 2), (36, .iconst 1, 1), (37, .isub, 1), (38, .invokevirtual 737, 3), (41, .ifCond .eq 85, 3), (44, .iconst 0, 1), (45, .istore 5, 2), (47, .iload 5, 2), (49, .bipush 24, 2), (51, .if_icmp .ge 69, 3), (54, .aload_n 0, 1), (55, .getfield 285, 3), (58, .bipush 24, 2), (60, .iload 4, 2), (62, .imul, 1), (63, .iload 5, 2), (65, .iadd, 1), (66, .iaload, 1), (67, .istore 6, 2), (69, .aload_n 0, 1), (70, .getfield 285, 3), (73, .bipush 24, 2), (75, .iload 4, 2), (77, .imul, 1), (78, .iload 5, 2), (80, .iadd, 1), (81, .aload_n 0, 1), (82, .getfield 285, 3), (85, .bipush 24, 2), (87, .iload 4, 2), (89, .iconst 1, 1), (90, .isub, 1), (91, .imul, 1), (92, .iload 5, 2), (94, .iadd, 1), (95, .iaload, 1), (96, .iastore, 1), (97, .aload_n 0, 1), (98, .getfield 285, 3), (101, .bipush 24, 2), (103, .iload 4, 2), (105, .iconst 1, 1), (106, .isub, 1), (107, .imul, 1), (108, .iload 5, 2), (110, .iadd, 1), (111, .iload 6, 2), (113, .iastore, 1), (114, .iinc 5 1, 3), (117, .goto (-70), 3), (120, .iinc 4 (-1), 3), (123, .goto (-98), 3), (126, .iinc 3 1, 3), (129, .goto (-119), 3), (132, .return_, 1)] = true := by decide +kernel
set_option maxRecDepth 100000 in
set_option maxHeartbeats 4000000 in
theorem sg_sortOutcomes_0 {G : mG} {d : Nat} {x : gd} {P : Option gv → gd → Prop} (l1 : Int32)
    (h : MT G (d + 1) z_sortOutcomes 10 [(0, vr 0), (1, vi l1), (2, vi (3000 * l1)), (3, vi ((3000 * l1) + 1))] [] x P) :
    MT G (d + 1) z_sortOutcomes 0 [(0, vr 0), (1, vi l1)] [] x P := by
  refine T_sipush (v := 3000) (dk dt_sortOutcomes 0 rfl) (by decide +kernel) ?_
  refine T_iload_n 1 (dk dt_sortOutcomes 1 rfl) rfl rfl ?_
  refine T_imul (dk dt_sortOutcomes 2 rfl) ?_
  refine T_istore_n (lv2 := [(2, vi (3000 * l1)), (0, vr 0), (1, vi l1)]) (dk dt_sortOutcomes 3 rfl) rfl (by decide) rfl ?_
  refine T_iload_n 0 (dk dt_sortOutcomes 4 rfl) rfl rfl ?_
  refine T_iconst (v := 1) (dk dt_sortOutcomes 5 rfl) (by decide +kernel) ?_
  refine T_iadd (dk dt_sortOutcomes 6 rfl) ?_
  refine T_istore_n (lv2 := [(3, vi ((3000 * l1) + 1)), (2, vi (3000 * l1)), (0, vr 0), (1, vi l1)]) (dk dt_sortOutcomes 7 rfl) rfl (by decide) rfl ?_
  exact T_sub [2, 3, 1, 0] rfl h
set_option maxRecDepth 100000 in
set_option maxHeartbeats 4000000 in
theorem sg_sortOutcomes_10 {G : mG} {d : Nat} {x : gd} {P : Option gv → gd → Prop} (l1 : Int32) (l2 : Int32) (l3 : Int32)
    (h : vp_in l1 2 ∧ (((l2 + (x.1 123 (l1 : Int32).toNatClampNeg)) ≤ l3 → P none x) ∧ (¬ ((l2 + (x.1 123 (l1 : Int32).toNatClampNeg)) ≤ l3) → MT G (d + 1) z_sortOutcomes 25 [(0, vr 0), (1, vi l1), (2, vi l2), (3, vi l3), (4, vi l3)] [] x P))) :
    MT G (d + 1) z_sortOutcomes 10 [(0, vr 0), (1, vi l1), (2, vi l2), (3, vi l3)] [] x P := by
  refine T_iload_n 3 (dk dt_sortOutcomes 8 rfl) rfl rfl ?_
  refine T_iload_n 2 (dk dt_sortOutcomes 9 rfl) rfl rfl ?_
  refine T_aload_n 0 (dk dt_sortOutcomes 10 rfl) rfl rfl ?_
  refine T_getR 0 122 123 (dk dt_sortOutcomes 11 rfl) fl_266 mk_0 ml_0 (by decide) rfl rfl ?_
  refine T_iload_n 1 (dk dt_sortOutcomes 12 rfl) rfl rfl ?_
  obtain ⟨h1, h⟩ := h
  refine T_iald 123 2 (dk dt_sortOutcomes 13 rfl) mk_123 ml_123 h1 ?_
  refine T_iadd (dk dt_sortOutcomes 14 rfl) ?_
  refine T_icmp_ge 132 (dk dt_sortOutcomes 15 rfl) (by decide) (fun c2 => ?_) (fun c2 => ?_)
  · have h := h.1 c2
    exact MT_vret (dk dt_sortOutcomes 77 rfl) rfl h
  · have h := h.2 c2
    refine T_iload_n 3 (dk dt_sortOutcomes 16 rfl) rfl rfl ?_
    refine T_istore (lv2 := [(4, vi l3), (0, vr 0), (1, vi l1), (2, vi l2), (3, vi l3)]) (dk dt_sortOutcomes 17 rfl) (by decide) rfl ?_
    exact T_sub [1, 2, 3, 4, 0] rfl h
set_option maxRecDepth 100000 in
set_option maxHeartbeats 4000000 in
theorem sg_sortOutcomes_25 {G : mG} {d : Nat} {x : gd} {P : Option gv → gd → Prop} (l1 : Int32) (l2 : Int32) (l3 : Int32) (l4 : Int32)
    (h : ((l4 ≤ l2 → MT G (d + 1) z_sortOutcomes 10 [(0, vr 0), (1, vi l1), (2, vi l2), (3, vi (l3 + 1))] [] x P) ∧ (¬ (l4 ≤ l2) → MT G d z_isLess 0 [(0, vr 0), (1, vi l4), (2, vi (l4 - 1))] [] x (ri (fun r3 x2 => ((r3 = (0 : Int32) → MT G (d + 1) z_sortOutcomes 10 [(0, vr 0), (1, vi l1), (2, vi l2), (3, vi (l3 + 1))] [] x2 P) ∧ (¬ (r3 = (0 : Int32)) → MT G (d + 1) z_sortOutcomes 47 [(0, vr 0), (1, vi l1), (2, vi l2), (3, vi l3), (4, vi l4), (5, vi 0)] [] x2 P))))))) :
    MT G (d + 1) z_sortOutcomes 25 [(0, vr 0), (1, vi l1), (2, vi l2), (3, vi l3), (4, vi l4)] [] x P := by
  refine T_iload 4 (dk dt_sortOutcomes 18 rfl) rfl ?_
  refine T_iload_n 2 (dk dt_sortOutcomes 19 rfl) rfl rfl ?_
  refine T_icmp_le 126 (dk dt_sortOutcomes 20 rfl) (by decide) (fun c1 => ?_) (fun c1 => ?_)
  · have h := h.1 c1
    refine T_iinc (v := l3 + 1) (lv2 := [(3, vi (l3 + 1)), (0, vr 0), (1, vi l1), (2, vi l2), (4, vi l4)]) 3 (dk dt_sortOutcomes 75 rfl) rfl rfl (by decide) rfl ?_
    refine T_goto 10 (dk dt_sortOutcomes 76 rfl) (by decide) ?_
    exact T_sub [1, 2, 3, 0] rfl h
  · have h := h.2 c1
    refine T_aload_n 0 (dk dt_sortOutcomes 21 rfl) rfl rfl ?_
    refine T_iload 4 (dk dt_sortOutcomes 22 rfl) rfl ?_
    refine T_iload 4 (dk dt_sortOutcomes 23 rfl) rfl ?_
    refine T_iconst (v := 1) (dk dt_sortOutcomes 24 rfl) (by decide +kernel) ?_
    refine T_isub (dk dt_sortOutcomes 25 rfl) ?_
    refine MT_callVi [vi l4, vi (l4 - 1)] [] rfl (dk dt_sortOutcomes 26 rfl) cv_737 rfl rfl (Nat.le_of_ble_eq_true rfl) (Nat.le_of_ble_eq_true rfl) rfl rfl h (fun r3 x2 h => ?_)
    refine T_if_eq 126 (dk dt_sortOutcomes 27 rfl) (by decide) (fun c4 => ?_) (fun c4 => ?_)
    · have h := h.1 c4
      refine T_iinc (v := l3 + 1) (lv2 := [(3, vi (l3 + 1)), (0, vr 0), (1, vi l1), (2, vi l2), (4, vi l4)]) 3 (dk dt_sortOutcomes 75 rfl) rfl rfl (by decide) rfl ?_
      refine T_goto 10 (dk dt_sortOutcomes 76 rfl) (by decide) ?_
      exact T_sub [1, 2, 3, 0] rfl h
    · have h := h.2 c4
      refine T_iconst (v := 0) (dk dt_sortOutcomes 28 rfl) (by decide +kernel) ?_
      refine T_istore (lv2 := [(5, vi 0), (0, vr 0), (1, vi l1), (2, vi l2), (3, vi l3), (4, vi l4)]) (dk dt_sortOutcomes 29 rfl) (by decide) rfl ?_
      exact T_sub [1, 2, 3, 4, 5, 0] rfl h
set_option maxRecDepth 100000 in
set_option maxHeartbeats 4000000 in
theorem sg_sortOutcomes_47 {G : mG} {d : Nat} {x : gd} {P : Option gv → gd → Prop} (l1 : Int32) (l2 : Int32) (l3 : Int32) (l4 : Int32) (l5 : Int32)
    (h : (((24 : Int32) ≤ l5 → MT G (d + 1) z_sortOutcomes 25 [(0, vr 0), (1, vi l1), (2, vi l2), (3, vi l3), (4, vi (l4 + (-1)))] [] x P) ∧ (¬ ((24 : Int32) ≤ l5) → vp_in ((24 * l4) + l5) 144000 ∧ vp_in ((24 * (l4 - 1)) + l5) 144000 ∧ vp_in ((24 * l4) + l5) 144000 ∧ (∀ x5 : gd, x5 = si x 129 ((24 * l4) + l5 : Int32).toNatClampNeg (x.1 129 ((24 * (l4 - 1)) + l5 : Int32).toNatClampNeg) → vp_in ((24 * (l4 - 1)) + l5) 144000 ∧ (∀ x7 : gd, x7 = si x5 129 ((24 * (l4 - 1)) + l5 : Int32).toNatClampNeg (x.1 129 ((24 * l4) + l5 : Int32).toNatClampNeg) → MT G (d + 1) z_sortOutcomes 47 [(0, vr 0), (1, vi l1), (2, vi l2), (3, vi l3), (4, vi l4), (5, vi (l5 + 1))] [] x7 P))))) :
    MT G (d + 1) z_sortOutcomes 47 [(0, vr 0), (1, vi l1), (2, vi l2), (3, vi l3), (4, vi l4), (5, vi l5)] [] x P := by
  refine T_iload 5 (dk dt_sortOutcomes 30 rfl) rfl ?_
  refine T_bipush (v := 24) (dk dt_sortOutcomes 31 rfl) (by decide +kernel) ?_
  refine T_icmp_ge 120 (dk dt_sortOutcomes 32 rfl) (by decide) (fun c1 => ?_) (fun c1 => ?_)
  · have h := h.1 c1
    refine T_iinc (v := l4 + (-1)) (lv2 := [(4, vi (l4 + (-1))), (0, vr 0), (1, vi l1), (2, vi l2), (3, vi l3), (5, vi l5)]) 4 (dk dt_sortOutcomes 73 rfl) rfl rfl (by decide) rfl ?_
    refine T_goto 25 (dk dt_sortOutcomes 74 rfl) (by decide) ?_
    exact T_sub [1, 2, 3, 4, 0] rfl h
  · have h := h.2 c1
    refine T_aload_n 0 (dk dt_sortOutcomes 33 rfl) rfl rfl ?_
    refine T_getR 0 128 129 (dk dt_sortOutcomes 34 rfl) fl_285 mk_0 ml_0 (by decide) rfl rfl ?_
    refine T_bipush (v := 24) (dk dt_sortOutcomes 35 rfl) (by decide +kernel) ?_
    refine T_iload 4 (dk dt_sortOutcomes 36 rfl) rfl ?_
    refine T_imul (dk dt_sortOutcomes 37 rfl) ?_
    refine T_iload 5 (dk dt_sortOutcomes 38 rfl) rfl ?_
    refine T_iadd (dk dt_sortOutcomes 39 rfl) ?_
    obtain ⟨h2, h⟩ := h
    refine T_iald 129 144000 (dk dt_sortOutcomes 40 rfl) mk_129 ml_129 h2 ?_
    refine T_istore (lv2 := [(6, vi (x.1 129 ((24 * l4) + l5 : Int32).toNatClampNeg)), (0, vr 0), (1, vi l1), (2, vi l2), (3, vi l3), (4, vi l4), (5, vi l5)]) (dk dt_sortOutcomes 41 rfl) (by decide) rfl ?_
    refine T_aload_n 1 (dk dt_sortOutcomes 42 rfl) rfl rfl ?_
    refine T_getR 0 128 129 (dk dt_sortOutcomes 43 rfl) fl_285 mk_0 ml_0 (by decide) rfl rfl ?_
    refine T_bipush (v := 24) (dk dt_sortOutcomes 44 rfl) (by decide +kernel) ?_
    refine T_iload 5 (dk dt_sortOutcomes 45 rfl) rfl ?_
    refine T_imul (dk dt_sortOutcomes 46 rfl) ?_
    refine T_iload 6 (dk dt_sortOutcomes 47 rfl) rfl ?_
    refine T_iadd (dk dt_sortOutcomes 48 rfl) ?_
    refine T_aload_n 1 (dk dt_sortOutcomes 49 rfl) rfl rfl ?_
    refine T_getR 0 128 129 (dk dt_sortOutcomes 50 rfl) fl_285 mk_0 ml_0 (by decide) rfl rfl ?_
    refine T_bipush (v := 24) (dk dt_sortOutcomes 51 rfl) (by decide +kernel) ?_
    refine T_iload 5 (dk dt_sortOutcomes 52 rfl) rfl ?_
    refine T_iconst (v := 1) (dk dt_sortOutcomes 53 rfl) (by decide +kernel) ?_
    refine T_isub (dk dt_sortOutcomes 54 rfl) ?_
    refine T_imul (dk dt_sortOutcomes 55 rfl) ?_
    refine T_iload 6 (dk dt_sortOutcomes 56 rfl) rfl ?_
    refine T_iadd (dk dt_sortOutcomes 57 rfl) ?_
    obtain ⟨h3, h⟩ := h
    refine T_iald 129 144000 (dk dt_sortOutcomes 58 rfl) mk_129 ml_129 h3 ?_
    obtain ⟨h4, h⟩ := h
    obtain ⟨x5, ex5⟩ : ∃ z, z = si x 129 ((24 * l4) + l5 : Int32).toNatClampNeg (x.1 129 ((24 * (l4 - 1)) + l5 : Int32).toNatClampNeg) := ⟨_, rfl⟩
    have h := h x5 ex5
    refine T_iast 129 144000 (dk dt_sortOutcomes 59 rfl) mk_129 ml_129 h4 ?_
    rw [← ex5]
    refine T_aload_n 1 (dk dt_sortOutcomes 60 rfl) rfl rfl ?_
    refine T_getR 0 128 129 (dk dt_sortOutcomes 61 rfl) fl_285 mk_0 ml_0 (by decide) rfl rfl ?_
    refine T_bipush (v := 24) (dk dt_sortOutcomes 62 rfl) (by decide +kernel) ?_
    refine T_iload 5 (dk dt_sortOutcomes 63 rfl) rfl ?_
    refine T_iconst (v := 1) (dk dt_sortOutcomes 64 rfl) (by decide +kernel) ?_
    refine T_isub (dk dt_sortOutcomes 65 rfl) ?_
    refine T_imul (dk dt_sortOutcomes 66 rfl) ?_
    refine T_iload 6 (dk dt_sortOutcomes 67 rfl) rfl ?_
    refine T_iadd (dk dt_sortOutcomes 68 rfl) ?_
    refine T_iload 0 (dk dt_sortOutcomes 69 rfl) rfl ?_
    obtain ⟨h6, h⟩ := h
    obtain ⟨x7, ex7⟩ : ∃ z, z = si x5 129 ((24 * (l4 - 1)) + l5 : Int32).toNatClampNeg (x.1 129 ((24 * l4) + l5 : Int32).toNatClampNeg) := ⟨_, rfl⟩
    have h := h x7 ex7
    refine T_iast 129 144000 (dk dt_sortOutcomes 70 rfl) mk_129 ml_129 h6 ?_
    rw [← ex7]
    refine T_iinc (v := l5 + 1) (lv2 := [(5, vi (l5 + 1)), (6, vi (x.1 129 ((24 * l4) + l5 : Int32).toNatClampNeg)), (0, vr 0), (1, vi l1), (2, vi l2), (3, vi l3), (4, vi l4)]) 6 (dk dt_sortOutcomes 71 rfl) rfl rfl (by decide) rfl ?_
    refine T_goto 47 (dk dt_sortOutcomes 72 rfl) (by decide) ?_
    exact T_sub [2, 3, 4, 5, 6, 0] rfl h
set_option maxRecDepth 100000 in
theorem dt_forgetTrying : dck cX12_forgetTrying [(0, .aload_n 0, 1), (1, .getfield 257, 3), (4, .iload_n 1, 1), (5, .iconst 0, 1), (6, .iastore, 1), (7, .aload_n 0, 1), (8, .getfield 260, 3), (11, .iload_n 1, 1), (12, .iconst 0, 1), (13, .bastore, 1), (14, .aload_n 0, 1), (15, .getfield 263, 3), (18, .iload_n 1, 1), (19, .iconst 0, 1), (20, .iastore, 1), (21, .aload_n 0, 1), (22, .getfield 266, 3), (25, .iload_n 1, 1), (26, .iconst 0, 1), (27, .iastore, 1), (28, .aload_n 0, 1), (29, .getfield 269, 3), (32, .iload_n 1, 1), (33, .iconst 0, 1), (34, .iastore, 1), (35, .aload_n 0, 1), (36, .getfield 272, 3), (39, .iload_n 1, 1), (40, .iconst 0, 1), (41, .iastore, 1), (42, .iconst 0, 1), (43, .istore_n 2, 1), (44, .iload_n 2, 1), (45, .bipush 11, 2), (47, .if_icmp .ge 21, 3), (50, .aload_n 0, 1), (51, .getfield 275, 3), (54, .bipush 11, 2), (56, .iload_n 1, 1), (57, .imul, 1), (58, .iload_n 2, 1), (59, .iadd, 1), (60, .iconst (-1), 1), (61, .iastore, 1), (62, .iinc 2 1, 3), (65, .goto (-21), 3), (68, .iconst 0, 1), (69, .istore_n 2, 1), (70, .iload_n 2, 1), (71, .bipush 24, 2), (73, .if_icmp .ge 28, 3), (76, .aload_n 0, 1), (77, .getfield 278, 3), (80, .bipush 24, 2), (82, .iload_n 1, 1), (83, .imul, 1), (84, .iload_n 2, 1), (85, .iadd, 1), (86, .iconst 1, 1), (87, .aload_n 0, 1), (88, .getfield 458, 3), (91, .ishl, 1), (92, .iconst 1, 1), (93, .isub, 1), (94, .iastore, 1), (95, .iinc 2 1, 3), (98, .goto (-28), 3), (101, .iconst 0, 1), (102, .istore_n 2, 1), (103, .iload_n 2, 1), (104, .bipush 36, 2), (106, .if_icmp .ge 21, 3), (109, .aload_n 0, 1), (110, .getfield 281, 3), (113, .bipush 36, 2), (115, .iload_n 1, 1), (116, .imul, 1), (117, .iload_n 2, 1), (118, .iadd, 1), (119, .iconst 0, 1), (120, .bastore, 1), (121, .iinc 2 1, 3), (124, .goto (-21), 3), (127, .return_, 1)] = true := by decide +kernel
set_option maxRecDepth 100000 in
set_option maxHeartbeats 4000000 in
theorem sg_forgetTrying_0 {G : mG} {d : Nat} {x : gd} {P : Option gv → gd → Prop} (l1 : Int32)
    (h : vp_in l1 2 ∧ (∀ x2 : gd, x2 = si x 120 (l1 : Int32).toNatClampNeg 0 → vp_in l1 2 ∧ (∀ x4 : gd, x4 = si x2 121 (l1 : Int32).toNatClampNeg (vp_nar .boolean 0) → vp_in l1 2 ∧ (∀ x6 : gd, x6 = si x4 122 (l1 : Int32).toNatClampNeg 0 → vp_in l1 2 ∧ (∀ x8 : gd, x8 = si x6 123 (l1 : Int32).toNatClampNeg 0 → vp_in l1 2 ∧ (∀ x10 : gd, x10 = si x8 124 (l1 : Int32).toNatClampNeg 0 → vp_in l1 2 ∧ (∀ x12 : gd, x12 = si x10 125 (l1 : Int32).toNatClampNeg 0 → MT G d z_forgetTrying 44 [(0, vr 0), (1, vi l1), (2, vi 0)] [] x12 P))))))) :
    MT G d z_forgetTrying 0 [(0, vr 0), (1, vi l1)] [] x P := by
  refine T_aload_n 0 (dk dt_forgetTrying 0 rfl) rfl rfl ?_
  refine T_getR 0 119 120 (dk dt_forgetTrying 1 rfl) fl_257 mk_0 ml_0 (by decide) rfl rfl ?_
  refine T_iload_n 1 (dk dt_forgetTrying 2 rfl) rfl rfl ?_
  refine T_iconst (v := 0) (dk dt_forgetTrying 3 rfl) (by decide +kernel) ?_
  obtain ⟨h1, h⟩ := h
  obtain ⟨x2, ex2⟩ : ∃ z, z = si x 120 (l1 : Int32).toNatClampNeg 0 := ⟨_, rfl⟩
  have h := h x2 ex2
  refine T_iast 120 2 (dk dt_forgetTrying 4 rfl) mk_120 ml_120 h1 ?_
  rw [← ex2]
  refine T_aload_n 0 (dk dt_forgetTrying 5 rfl) rfl rfl ?_
  refine T_getR 0 120 121 (dk dt_forgetTrying 6 rfl) fl_260 mk_0 ml_0 (by decide) rfl rfl ?_
  refine T_iload_n 1 (dk dt_forgetTrying 7 rfl) rfl rfl ?_
  refine T_iconst (v := 0) (dk dt_forgetTrying 8 rfl) (by decide +kernel) ?_
  obtain ⟨h3, h⟩ := h
  obtain ⟨x4, ex4⟩ : ∃ z, z = si x2 121 (l1 : Int32).toNatClampNeg (vp_nar .boolean 0) := ⟨_, rfl⟩
  have h := h x4 ex4
  refine T_zast 121 2 (dk dt_forgetTrying 9 rfl) mk_121 ml_121 h3 ?_
  rw [← ex4]
  refine T_aload_n 0 (dk dt_forgetTrying 10 rfl) rfl rfl ?_
  refine T_getR 0 121 122 (dk dt_forgetTrying 11 rfl) fl_263 mk_0 ml_0 (by decide) rfl rfl ?_
  refine T_iload_n 1 (dk dt_forgetTrying 12 rfl) rfl rfl ?_
  refine T_iconst (v := 0) (dk dt_forgetTrying 13 rfl) (by decide +kernel) ?_
  obtain ⟨h5, h⟩ := h
  obtain ⟨x6, ex6⟩ : ∃ z, z = si x4 122 (l1 : Int32).toNatClampNeg 0 := ⟨_, rfl⟩
  have h := h x6 ex6
  refine T_iast 122 2 (dk dt_forgetTrying 14 rfl) mk_122 ml_122 h5 ?_
  rw [← ex6]
  refine T_aload_n 0 (dk dt_forgetTrying 15 rfl) rfl rfl ?_
  refine T_getR 0 122 123 (dk dt_forgetTrying 16 rfl) fl_266 mk_0 ml_0 (by decide) rfl rfl ?_
  refine T_iload_n 1 (dk dt_forgetTrying 17 rfl) rfl rfl ?_
  refine T_iconst (v := 0) (dk dt_forgetTrying 18 rfl) (by decide +kernel) ?_
  obtain ⟨h7, h⟩ := h
  obtain ⟨x8, ex8⟩ : ∃ z, z = si x6 123 (l1 : Int32).toNatClampNeg 0 := ⟨_, rfl⟩
  have h := h x8 ex8
  refine T_iast 123 2 (dk dt_forgetTrying 19 rfl) mk_123 ml_123 h7 ?_
  rw [← ex8]
  refine T_aload_n 0 (dk dt_forgetTrying 20 rfl) rfl rfl ?_
  refine T_getR 0 123 124 (dk dt_forgetTrying 21 rfl) fl_269 mk_0 ml_0 (by decide) rfl rfl ?_
  refine T_iload_n 1 (dk dt_forgetTrying 22 rfl) rfl rfl ?_
  refine T_iconst (v := 0) (dk dt_forgetTrying 23 rfl) (by decide +kernel) ?_
  obtain ⟨h9, h⟩ := h
  obtain ⟨x10, ex10⟩ : ∃ z, z = si x8 124 (l1 : Int32).toNatClampNeg 0 := ⟨_, rfl⟩
  have h := h x10 ex10
  refine T_iast 124 2 (dk dt_forgetTrying 24 rfl) mk_124 ml_124 h9 ?_
  rw [← ex10]
  refine T_aload_n 0 (dk dt_forgetTrying 25 rfl) rfl rfl ?_
  refine T_getR 0 124 125 (dk dt_forgetTrying 26 rfl) fl_272 mk_0 ml_0 (by decide) rfl rfl ?_
  refine T_iload_n 1 (dk dt_forgetTrying 27 rfl) rfl rfl ?_
  refine T_iconst (v := 0) (dk dt_forgetTrying 28 rfl) (by decide +kernel) ?_
  obtain ⟨h11, h⟩ := h
  obtain ⟨x12, ex12⟩ : ∃ z, z = si x10 125 (l1 : Int32).toNatClampNeg 0 := ⟨_, rfl⟩
  have h := h x12 ex12
  refine T_iast 125 2 (dk dt_forgetTrying 29 rfl) mk_125 ml_125 h11 ?_
  rw [← ex12]
  refine T_iconst (v := 0) (dk dt_forgetTrying 30 rfl) (by decide +kernel) ?_
  refine T_istore_n (lv2 := [(2, vi 0), (0, vr 0), (1, vi l1)]) (dk dt_forgetTrying 31 rfl) rfl (by decide) rfl ?_
  exact T_sub [1, 2, 0] rfl h
set_option maxRecDepth 100000 in
set_option maxHeartbeats 4000000 in
theorem sg_forgetTrying_44 {G : mG} {d : Nat} {x : gd} {P : Option gv → gd → Prop} (l1 : Int32) (l2 : Int32)
    (h : (((11 : Int32) ≤ l2 → MT G d z_forgetTrying 70 [(0, vr 0), (1, vi l1), (2, vi 0)] [] x P) ∧ (¬ ((11 : Int32) ≤ l2) → vp_in ((11 * l1) + l2) 22 ∧ (∀ x3 : gd, x3 = si x 126 ((11 * l1) + l2 : Int32).toNatClampNeg (-1) → MT G d z_forgetTrying 44 [(0, vr 0), (1, vi l1), (2, vi (l2 + 1))] [] x3 P)))) :
    MT G d z_forgetTrying 44 [(0, vr 0), (1, vi l1), (2, vi l2)] [] x P := by
  refine T_iload_n 2 (dk dt_forgetTrying 32 rfl) rfl rfl ?_
  refine T_bipush (v := 11) (dk dt_forgetTrying 33 rfl) (by decide +kernel) ?_
  refine T_icmp_ge 68 (dk dt_forgetTrying 34 rfl) (by decide) (fun c1 => ?_) (fun c1 => ?_)
  · have h := h.1 c1
    refine T_iconst (v := 0) (dk dt_forgetTrying 46 rfl) (by decide +kernel) ?_
    refine T_istore_n (lv2 := [(2, vi 0), (0, vr 0), (1, vi l1)]) (dk dt_forgetTrying 47 rfl) rfl (by decide) rfl ?_
    exact T_sub [1, 2, 0] rfl h
  · have h := h.2 c1
    refine T_aload_n 0 (dk dt_forgetTrying 35 rfl) rfl rfl ?_
    refine T_getR 0 125 126 (dk dt_forgetTrying 36 rfl) fl_275 mk_0 ml_0 (by decide) rfl rfl ?_
    refine T_bipush (v := 11) (dk dt_forgetTrying 37 rfl) (by decide +kernel) ?_
    refine T_iload_n 1 (dk dt_forgetTrying 38 rfl) rfl rfl ?_
    refine T_imul (dk dt_forgetTrying 39 rfl) ?_
    refine T_iload_n 2 (dk dt_forgetTrying 40 rfl) rfl rfl ?_
    refine T_iadd (dk dt_forgetTrying 41 rfl) ?_
    refine T_iconst (v := (-1)) (dk dt_forgetTrying 42 rfl) (by decide +kernel) ?_
    obtain ⟨h2, h⟩ := h
    obtain ⟨x3, ex3⟩ : ∃ z, z = si x 126 ((11 * l1) + l2 : Int32).toNatClampNeg (-1) := ⟨_, rfl⟩
    have h := h x3 ex3
    refine T_iast 126 22 (dk dt_forgetTrying 43 rfl) mk_126 ml_126 h2 ?_
    rw [← ex3]
    refine T_iinc (v := l2 + 1) (lv2 := [(2, vi (l2 + 1)), (0, vr 0), (1, vi l1)]) 2 (dk dt_forgetTrying 44 rfl) rfl rfl (by decide) rfl ?_
    refine T_goto 44 (dk dt_forgetTrying 45 rfl) (by decide) ?_
    exact T_sub [1, 2, 0] rfl h
set_option maxRecDepth 100000 in
set_option maxHeartbeats 4000000 in
theorem sg_forgetTrying_70 {G : mG} {d : Nat} {x : gd} {P : Option gv → gd → Prop} (l1 : Int32) (l2 : Int32)
    (h : (((24 : Int32) ≤ l2 → MT G d z_forgetTrying 103 [(0, vr 0), (1, vi l1), (2, vi 0)] [] x P) ∧ (¬ ((24 : Int32) ≤ l2) → vp_in ((24 * l1) + l2) 48 ∧ (∀ x3 : gd, x3 = si x 127 ((24 * l1) + l2 : Int32).toNatClampNeg ((1 <<< ((x.1 0 24) &&& 31 : Int32)) - 1) → MT G d z_forgetTrying 70 [(0, vr 0), (1, vi l1), (2, vi (l2 + 1))] [] x3 P)))) :
    MT G d z_forgetTrying 70 [(0, vr 0), (1, vi l1), (2, vi l2)] [] x P := by
  refine T_iload_n 2 (dk dt_forgetTrying 48 rfl) rfl rfl ?_
  refine T_bipush (v := 24) (dk dt_forgetTrying 49 rfl) (by decide +kernel) ?_
  refine T_icmp_ge 101 (dk dt_forgetTrying 50 rfl) (by decide) (fun c1 => ?_) (fun c1 => ?_)
  · have h := h.1 c1
    refine T_iconst (v := 0) (dk dt_forgetTrying 67 rfl) (by decide +kernel) ?_
    refine T_istore_n (lv2 := [(2, vi 0), (0, vr 0), (1, vi l1)]) (dk dt_forgetTrying 68 rfl) rfl (by decide) rfl ?_
    exact T_sub [1, 2, 0] rfl h
  · have h := h.2 c1
    refine T_aload_n 0 (dk dt_forgetTrying 51 rfl) rfl rfl ?_
    refine T_getR 0 126 127 (dk dt_forgetTrying 52 rfl) fl_278 mk_0 ml_0 (by decide) rfl rfl ?_
    refine T_bipush (v := 24) (dk dt_forgetTrying 53 rfl) (by decide +kernel) ?_
    refine T_iload_n 1 (dk dt_forgetTrying 54 rfl) rfl rfl ?_
    refine T_imul (dk dt_forgetTrying 55 rfl) ?_
    refine T_iload_n 2 (dk dt_forgetTrying 56 rfl) rfl rfl ?_
    refine T_iadd (dk dt_forgetTrying 57 rfl) ?_
    refine T_iconst (v := 1) (dk dt_forgetTrying 58 rfl) (by decide +kernel) ?_
    refine T_aload_n 0 (dk dt_forgetTrying 59 rfl) rfl rfl ?_
    refine T_getI 0 24 (dk dt_forgetTrying 60 rfl) fl_458 mk_0 ml_0 (by decide) rfl ?_
    refine T_ishl (dk dt_forgetTrying 61 rfl) ?_
    refine T_iconst (v := 1) (dk dt_forgetTrying 62 rfl) (by decide +kernel) ?_
    refine T_isub (dk dt_forgetTrying 63 rfl) ?_
    obtain ⟨h2, h⟩ := h
    obtain ⟨x3, ex3⟩ : ∃ z, z = si x 127 ((24 * l1) + l2 : Int32).toNatClampNeg ((1 <<< ((x.1 0 24) &&& 31 : Int32)) - 1) := ⟨_, rfl⟩
    have h := h x3 ex3
    refine T_iast 127 48 (dk dt_forgetTrying 64 rfl) mk_127 ml_127 h2 ?_
    rw [← ex3]
    refine T_iinc (v := l2 + 1) (lv2 := [(2, vi (l2 + 1)), (0, vr 0), (1, vi l1)]) 2 (dk dt_forgetTrying 65 rfl) rfl rfl (by decide) rfl ?_
    refine T_goto 70 (dk dt_forgetTrying 66 rfl) (by decide) ?_
    exact T_sub [1, 2, 0] rfl h
set_option maxRecDepth 100000 in
set_option maxHeartbeats 4000000 in
theorem sg_forgetTrying_103 {G : mG} {d : Nat} {x : gd} {P : Option gv → gd → Prop} (l1 : Int32) (l2 : Int32)
    (h : (((36 : Int32) ≤ l2 → P none x) ∧ (¬ ((36 : Int32) ≤ l2) → vp_in ((36 * l1) + l2) 72 ∧ (∀ x3 : gd, x3 = si x 128 ((36 * l1) + l2 : Int32).toNatClampNeg (vp_nar .boolean 0) → MT G d z_forgetTrying 103 [(0, vr 0), (1, vi l1), (2, vi (l2 + 1))] [] x3 P)))) :
    MT G d z_forgetTrying 103 [(0, vr 0), (1, vi l1), (2, vi l2)] [] x P := by
  refine T_iload_n 2 (dk dt_forgetTrying 69 rfl) rfl rfl ?_
  refine T_bipush (v := 36) (dk dt_forgetTrying 70 rfl) (by decide +kernel) ?_
  refine T_icmp_ge 127 (dk dt_forgetTrying 71 rfl) (by decide) (fun c1 => ?_) (fun c1 => ?_)
  · have h := h.1 c1
    exact MT_vret (dk dt_forgetTrying 83 rfl) rfl h
  · have h := h.2 c1
    refine T_aload_n 0 (dk dt_forgetTrying 72 rfl) rfl rfl ?_
    refine T_getR 0 127 128 (dk dt_forgetTrying 73 rfl) fl_281 mk_0 ml_0 (by decide) rfl rfl ?_
    refine T_bipush (v := 36) (dk dt_forgetTrying 74 rfl) (by decide +kernel) ?_
    refine T_iload_n 1 (dk dt_forgetTrying 75 rfl) rfl rfl ?_
    refine T_imul (dk dt_forgetTrying 76 rfl) ?_
    refine T_iload_n 2 (dk dt_forgetTrying 77 rfl) rfl rfl ?_
    refine T_iadd (dk dt_forgetTrying 78 rfl) ?_
    refine T_iconst (v := 0) (dk dt_forgetTrying 79 rfl) (by decide +kernel) ?_
    obtain ⟨h2, h⟩ := h
    obtain ⟨x3, ex3⟩ : ∃ z, z = si x 128 ((36 * l1) + l2 : Int32).toNatClampNeg (vp_nar .boolean 0) := ⟨_, rfl⟩
    have h := h x3 ex3
    refine T_zast 128 72 (dk dt_forgetTrying 80 rfl) mk_128 ml_128 h2 ?_
    rw [← ex3]
    refine T_iinc (v := l2 + 1) (lv2 := [(2, vi (l2 + 1)), (0, vr 0), (1, vi l1)]) 2 (dk dt_forgetTrying 81 rfl) rfl rfl (by decide) rfl ?_
    refine T_goto 103 (dk dt_forgetTrying 82 rfl) (by decide) ?_
    exact T_sub [1, 2, 0] rfl h
