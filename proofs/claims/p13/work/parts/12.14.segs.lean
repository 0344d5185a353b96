set_option maxRecDepth 100000 in
theorem dt_answer : dck cX12_answer [(0, .iload_n 1, 1), (1, .ifCond .ne 71, 3), (4, .aload_n 0, 1), (5, .getfield 702, 3), (8, .ifCond .ne 7, 3), (11, .iconst 0, 1), (12, .goto 9, 3), (15, .aload_n 0, 1), (16, .getfield 248, 3), (19, .iconst 0, 1), (20, .iaload, 1), (21, .istore 4, 2), (23, .aload_n 0, 1), (24, .getfield 248, 3), (27, .iconst 0, 1), (28, .iload_n 2, 1), (29, .ifCond .eq 8, 3), (32, .iload_n 2, 1), (33, .iconst 3, 1), (34, .if_icmp .ne 7, 3), (37, .iload_n 3, 1), (38, .goto 17, 3), (41, .iload_n 2, 1), (42, .iconst 2, 1), (43, .if_icmp .ne 10, 3), (46, .iload 4, 2), (48, .iload_n 3, 1), (49, .iadd, 1), (50, .goto 5, 3), (53, .iload 4, 2), (55, .iastore, 1), (56, .aload_n 0, 1), (57, .iconst 1, 1), (58, .putfield 702, 3), (61, .iload_n 2, 1), (62, .ifCond .ne 7, 3), (65, .iconst 0, 1), (66, .goto 5, 3), (69, .iload 4, 2), (71, .ireturn, 1), (72, .iload_n 1, 1), (73, .iconst 3, 1), (74, .if_icmp .ne 162, 3), (77, .iconst (-1), 1), (78, .istore 4, 2), (80, .iconst 0, 1), (81, .istore 5, 2), (83, .iload 5, 2), (85, .aload_n 0, 1), (86, .getfield 702, 3), (89, .if_icmp .ge 29, 3), (92, .aload_n 0, 1), (93, .getfield 248, 3), (96, .iload 5, 2), (98, .iaload, 1), (99, .iload_n 3, 1), (100, .if_icmp .ne 8, 3), (103, .iload 5, 2), (105, .goto 5, 3), (108, .iload 4, 2), (110, .istore 4, 2), (112, .iinc 5 1, 3), (115, .goto (-32), 3), (118, .iload_n 2, 1), (119, .ifCond .ne 32, 3), (122, .iload 4, 2), (124, .iconst (-1), 1), (125, .if_icmp .ne 26, 3), (128, .aload_n 0, 1), (129, .getfield 248, 3), (132, .aload_n 0, 1), (133, .getfield 702, 3), (136, .iload_n 3, 1), (137, .iastore, 1), (138, .aload_n 0, 1), (139, .dup, 1), (140, .getfield 702, 3), (143, .iconst 1, 1), (144, .iadd, 1), (145, .putfield 702, 3), (148, .goto 40, 3), (151, .iload_n 2, 1), (152, .iconst 1, 1), (153, .if_icmp .ne 35, 3), (156, .iload 4, 2), (158, .iconst (-1), 1), (159, .if_icmp .eq 29, 3), (162, .aload_n 0, 1), (163, .dup, 1), (164, .getfield 702, 3), (167, .iconst 1, 1), (168, .isub, 1), (169, .putfield 702, 3), (172, .aload_n 0, 1), (173, .getfield 248, 3), (176, .iload 4, 2), (178, .aload_n 0, 1), (179, .getfield 248, 3), (182, .aload_n 0, 1), (183, .getfield 702, 3), (186, .iaload, 1), (187, .iastore, 1), (188, .iload_n 2, 1), (189, .ifCond .ne 20, 3), (192, .iload 4, 2), (194, .iconst (-1), 1), (195, .if_icmp .ne 7, 3), (198, .iconst 1, 1), (199, .goto 4, 3), (202, .iconst 0, 1), (203, .invokestatic 587, 3), (206, .goto 29, 3), (209, .iload_n 2, 1), (210, .iconst 3, 1), (211, .if_icmp .ne 10, 3), (214, .aload_n 0, 1), (215, .getfield 702, 3), (218, .goto 17, 3), (221, .iload 4, 2), (223, .iconst (-1), 1), (224, .if_icmp .eq 7, 3), (227, .iconst 1, 1), (228, .goto 4, 3), (231, .iconst 0, 1), (232, .invokestatic 587, 3), (235, .ireturn, 1), (236, .aload_n 0, 1), (237, .getfield 702, 3), (240, .istore 4, 2), (242, .iload_n 2, 1), (243, .ifCond .ne 25, 3), (246, .aload_n 0, 1), (247, .getfield 248, 3), (250, .aload_n 0, 1), (251, .getfield 702, 3), (254, .iload_n 3, 1), (255, .iastore, 1), (256, .aload_n 0, 1), (257, .dup, 1), (258, .getfield 702, 3), (261, .iconst 1, 1), (262, .iadd, 1), (263, .putfield 702, 3), (266, .iconst 0, 1), (267, .ireturn, 1), (268, .iload_n 2, 1), (269, .iconst 1, 1), (270, .if_icmp .ne 87, 3), (273, .iload 4, 2), (275, .ifCond .ne 5, 3), (278, .iconst (-1), 1), (279, .ireturn, 1), (280, .iload_n 1, 1), (281, .iconst 1, 1), (282, .if_icmp .ne 15, 3), (285, .aload_n 0, 1), (286, .getfield 248, 3), (289, .iload 4, 2), (291, .iconst 1, 1), (292, .isub, 1), (293, .iaload, 1), (294, .goto 9, 3), (297, .aload_n 0, 1), (298, .getfield 248, 3), (301, .iconst 0, 1), (302, .iaload, 1), (303, .istore 5, 2), (305, .iconst 0, 1), (306, .istore 6, 2), (308, .iload 6, 2), (310, .iconst 1, 1), (311, .iadd, 1), (312, .iload 4, 2), (314, .if_icmp .ge 30, 3), (317, .iload_n 1, 1), (318, .iconst 2, 1), (319, .if_icmp .ne 25, 3), (322, .aload_n 0, 1), (323, .getfield 248, 3), (326, .iload 6, 2), (328, .aload_n 0, 1), (329, .getfield 248, 3), (332, .iload 6, 2), (334, .iconst 1, 1), (335, .iadd, 1), (336, .iaload, 1), (337, .iastore, 1), (338, .iinc 6 1, 3), (341, .goto (-33), 3), (344, .aload_n 0, 1), (345, .dup, 1), (346, .getfield 702, 3), (349, .iconst 1, 1), (350, .isub, 1), (351, .putfield 702, 3), (354, .iload 5, 2), (356, .ireturn, 1), (357, .aload_n 0, 1), (358, .iload_n 2, 1), (359, .iconst 3, 1), (360, .if_icmp .ne 7, 3), (363, .iconst 0, 1), (364, .goto 7, 3), (367, .aload_n 0, 1), (368, .getfield 702, 3), (371, .putfield 702, 3), (374, .iload 4, 2), (376, .ireturn, 1)] = true := by decide +kernel
set_option maxRecDepth 100000 in
set_option maxHeartbeats 4000000 in
theorem sg_answer_0 {G : mG} {d : Nat} {x : gd} {P : Option gv → gd → Prop} (l1 : Int32) (l2 : Int32) (l3 : Int32)
    (h : ((¬ (l1 = (0 : Int32)) → ((¬ (l1 = (3 : Int32)) → ((¬ (l2 = (0 : Int32)) → ((¬ (l2 = (1 : Int32)) → ((¬ (l2 = (3 : Int32)) → (∀ x6 : gd, x6 = si x 0 116 (x.1 0 116) → P (some (vi (x.1 0 116))) x6)) ∧ (l2 = (3 : Int32) → (∀ x7 : gd, x7 = si x 0 116 0 → P (some (vi (x.1 0 116))) x7)))) ∧ (l2 = (1 : Int32) → ((¬ ((x.1 0 116) = (0 : Int32)) → ((¬ (l1 = (1 : Int32)) → vp_in 0 14 ∧ MT G (d + 1) z_answer 308 [(0, vr 0), (1, vi l1), (4, vi (x.1 0 116)), (5, vi (x.1 116 (0 : Int32).toNatClampNeg)), (6, vi 0)] [] x P) ∧ (l1 = (1 : Int32) → vp_in ((x.1 0 116) - 1) 14 ∧ MT G (d + 1) z_answer 308 [(0, vr 0), (1, vi l1), (4, vi (x.1 0 116)), (5, vi (x.1 116 ((x.1 0 116) - 1 : Int32).toNatClampNeg)), (6, vi 0)] [] x P))) ∧ ((x.1 0 116) = (0 : Int32) → P (some (vi (-1))) x))))) ∧ (l2 = (0 : Int32) → vp_in (x.1 0 116) 14 ∧ (∀ x13 : gd, x13 = si x 116 (x.1 0 116 : Int32).toNatClampNeg l3 → (∀ x14 : gd, x14 = si x13 0 116 ((x13.1 0 116) + 1) → P (some (vi 0)) x14))))) ∧ (l1 = (3 : Int32) → MT G (d + 1) z_answer 83 [(0, vr 0), (2, vi l2), (3, vi l3), (4, vi (-1)), (5, vi 0)] [] x P))) ∧ (l1 = (0 : Int32) → ((¬ ((x.1 0 116) = (0 : Int32)) → vp_in 0 14 ∧ MT G (d + 1) z_answer 21 [(0, vr 0), (2, vi l2), (3, vi l3)] [vi (x.1 116 (0 : Int32).toNatClampNeg)] x P) ∧ ((x.1 0 116) = (0 : Int32) → MT G (d + 1) z_answer 21 [(0, vr 0), (2, vi l2), (3, vi l3)] [vi 0] x P))))) :
    MT G (d + 1) z_answer 0 [(0, vr 0), (1, vi l1), (2, vi l2), (3, vi l3)] [] x P := by
  refine T_iload_n 1 (dk dt_answer 0 rfl) rfl rfl ?_
  refine T_if_ne 72 (dk dt_answer 1 rfl) (by decide) (fun c1 => ?_) (fun c1 => ?_)
  · have h := h.1 c1
    refine T_iload_n 1 (dk dt_answer 40 rfl) rfl rfl ?_
    refine T_iconst (v := 3) (dk dt_answer 41 rfl) (by decide +kernel) ?_
    refine T_icmp_ne 236 (dk dt_answer 42 rfl) (by decide) (fun c2 => ?_) (fun c2 => ?_)
    · have h := h.1 c2
      refine T_aload_n 0 (dk dt_answer 126 rfl) rfl rfl ?_
      refine T_getI 0 116 (dk dt_answer 127 rfl) fl_702 mk_0 ml_0 (by decide) rfl ?_
      refine T_istore (lv2 := [(4, vi (x.1 0 116)), (0, vr 0), (1, vi l1), (2, vi l2), (3, vi l3)]) (dk dt_answer 128 rfl) (by decide) rfl ?_
      refine T_iload_n 3 (dk dt_answer 129 rfl) rfl rfl ?_
      refine T_if_ne 268 (dk dt_answer 130 rfl) (by decide) (fun c3 => ?_) (fun c3 => ?_)
      · have h := h.1 c3
        refine T_iload_n 3 (dk dt_answer 145 rfl) rfl rfl ?_
        refine T_iconst (v := 1) (dk dt_answer 146 rfl) (by decide +kernel) ?_
        refine T_icmp_ne 357 (dk dt_answer 147 rfl) (by decide) (fun c4 => ?_) (fun c4 => ?_)
        · have h := h.1 c4
          refine T_aload_n 1 (dk dt_answer 197 rfl) rfl rfl ?_
          refine T_iload_n 3 (dk dt_answer 198 rfl) rfl rfl ?_
          refine T_iconst (v := 3) (dk dt_answer 199 rfl) (by decide +kernel) ?_
          refine T_icmp_ne 367 (dk dt_answer 200 rfl) (by decide) (fun c5 => ?_) (fun c5 => ?_)
          · have h := h.1 c5
            refine T_aload_n 1 (dk dt_answer 203 rfl) rfl rfl ?_
            refine T_getI 0 116 (dk dt_answer 204 rfl) fl_702 mk_0 ml_0 (by decide) rfl ?_
            obtain ⟨x6, ex6⟩ : ∃ z, z = si x 0 116 (x.1 0 116) := ⟨_, rfl⟩
            have h := h x6 ex6
            refine T_putI 0 116 (dk dt_answer 205 rfl) fl_702 mk_0 ml_0 (by decide) rfl ⟨rfl, rfl⟩ ?_
            rw [← ex6]
            refine T_iload 0 (dk dt_answer 206 rfl) rfl ?_
            exact MT_iret (dk dt_answer 207 rfl) rfl rfl h
          · have h := h.2 c5
            refine T_iconst (v := 0) (dk dt_answer 201 rfl) (by decide +kernel) ?_
            refine T_goto 371 (dk dt_answer 202 rfl) (by decide) ?_
            obtain ⟨x7, ex7⟩ : ∃ z, z = si x 0 116 0 := ⟨_, rfl⟩
            have h := h x7 ex7
            refine T_putI 0 116 (dk dt_answer 205 rfl) fl_702 mk_0 ml_0 (by decide) rfl ⟨rfl, rfl⟩ ?_
            rw [← ex7]
            refine T_iload 0 (dk dt_answer 206 rfl) rfl ?_
            exact MT_iret (dk dt_answer 207 rfl) rfl rfl h
        · have h := h.2 c4
          refine T_iload 0 (dk dt_answer 148 rfl) rfl ?_
          refine T_if_ne 280 (dk dt_answer 149 rfl) (by decide) (fun c8 => ?_) (fun c8 => ?_)
          · have h := h.1 c8
            refine T_iload_n 2 (dk dt_answer 152 rfl) rfl rfl ?_
            refine T_iconst (v := 1) (dk dt_answer 153 rfl) (by decide +kernel) ?_
            refine T_icmp_ne 297 (dk dt_answer 154 rfl) (by decide) (fun c9 => ?_) (fun c9 => ?_)
            · have h := h.1 c9
              refine T_aload_n 1 (dk dt_answer 162 rfl) rfl rfl ?_
              refine T_getR 0 115 116 (dk dt_answer 163 rfl) fl_248 mk_0 ml_0 (by decide) rfl rfl ?_
              refine T_iconst (v := 0) (dk dt_answer 164 rfl) (by decide +kernel) ?_
              obtain ⟨h10, h⟩ := h
              refine T_iald 116 14 (dk dt_answer 165 rfl) mk_116 ml_116 h10 ?_
              refine T_istore (lv2 := [(5, vi (x.1 116 (0 : Int32).toNatClampNeg)), (4, vi (x.1 0 116)), (0, vr 0), (1, vi l1), (2, vi l2), (3, vi l3)]) (dk dt_answer 166 rfl) (by decide) rfl ?_
              refine T_iconst (v := 0) (dk dt_answer 167 rfl) (by decide +kernel) ?_
              refine T_istore (lv2 := [(6, vi 0), (5, vi (x.1 116 (0 : Int32).toNatClampNeg)), (4, vi (x.1 0 116)), (0, vr 0), (1, vi l1), (2, vi l2), (3, vi l3)]) (dk dt_answer 168 rfl) (by decide) rfl ?_
              exact T_sub [3, 4, 2, 1, 0] rfl h
            · have h := h.2 c9
              refine T_aload_n 1 (dk dt_answer 155 rfl) rfl rfl ?_
              refine T_getR 0 115 116 (dk dt_answer 156 rfl) fl_248 mk_0 ml_0 (by decide) rfl rfl ?_
              refine T_iload 0 (dk dt_answer 157 rfl) rfl ?_
              refine T_iconst (v := 1) (dk dt_answer 158 rfl) (by decide +kernel) ?_
              refine T_isub (dk dt_answer 159 rfl) ?_
              obtain ⟨h11, h⟩ := h
              refine T_iald 116 14 (dk dt_answer 160 rfl) mk_116 ml_116 h11 ?_
              refine T_goto 303 (dk dt_answer 161 rfl) (by decide) ?_
              refine T_istore (lv2 := [(5, vi (x.1 116 ((x.1 0 116) - 1 : Int32).toNatClampNeg)), (4, vi (x.1 0 116)), (0, vr 0), (1, vi l1), (2, vi l2), (3, vi l3)]) (dk dt_answer 166 rfl) (by decide) rfl ?_
              refine T_iconst (v := 0) (dk dt_answer 167 rfl) (by decide +kernel) ?_
              refine T_istore (lv2 := [(6, vi 0), (5, vi (x.1 116 ((x.1 0 116) - 1 : Int32).toNatClampNeg)), (4, vi (x.1 0 116)), (0, vr 0), (1, vi l1), (2, vi l2), (3, vi l3)]) (dk dt_answer 168 rfl) (by decide) rfl ?_
              exact T_sub [3, 4, 2, 1, 0] rfl h
          · have h := h.2 c8
            refine T_iconst (v := (-1)) (dk dt_answer 150 rfl) (by decide +kernel) ?_
            exact MT_iret (dk dt_answer 151 rfl) rfl rfl h
      · have h := h.2 c3
        refine T_aload_n 1 (dk dt_answer 131 rfl) rfl rfl ?_
        refine T_getR 0 115 116 (dk dt_answer 132 rfl) fl_248 mk_0 ml_0 (by decide) rfl rfl ?_
        refine T_aload_n 1 (dk dt_answer 133 rfl) rfl rfl ?_
        refine T_getI 0 116 (dk dt_answer 134 rfl) fl_702 mk_0 ml_0 (by decide) rfl ?_
        refine T_iload_n 4 (dk dt_answer 135 rfl) rfl rfl ?_
        obtain ⟨h12, h⟩ := h
        obtain ⟨x13, ex13⟩ : ∃ z, z = si x 116 (x.1 0 116 : Int32).toNatClampNeg l3 := ⟨_, rfl⟩
        have h := h x13 ex13
        refine T_iast 116 14 (dk dt_answer 136 rfl) mk_116 ml_116 h12 ?_
        rw [← ex13]
        refine T_aload_n 1 (dk dt_answer 137 rfl) rfl rfl ?_
        refine T_dup (dk dt_answer 138 rfl) rfl ?_
        refine T_getI 0 116 (dk dt_answer 139 rfl) fl_702 mk_0 ml_0 (by decide) rfl ?_
        refine T_iconst (v := 1) (dk dt_answer 140 rfl) (by decide +kernel) ?_
        refine T_iadd (dk dt_answer 141 rfl) ?_
        obtain ⟨x14, ex14⟩ : ∃ z, z = si x13 0 116 ((x13.1 0 116) + 1) := ⟨_, rfl⟩
        have h := h x14 ex14
        refine T_putI 0 116 (dk dt_answer 142 rfl) fl_702 mk_0 ml_0 (by decide) rfl ⟨rfl, rfl⟩ ?_
        rw [← ex14]
        refine T_iconst (v := 0) (dk dt_answer 143 rfl) (by decide +kernel) ?_
        exact MT_iret (dk dt_answer 144 rfl) rfl rfl h
    · have h := h.2 c2
      refine T_iconst (v := (-1)) (dk dt_answer 43 rfl) (by decide +kernel) ?_
      refine T_istore (lv2 := [(4, vi (-1)), (0, vr 0), (1, vi l1), (2, vi l2), (3, vi l3)]) (dk dt_answer 44 rfl) (by decide) rfl ?_
      refine T_iconst (v := 0) (dk dt_answer 45 rfl) (by decide +kernel) ?_
      refine T_istore (lv2 := [(5, vi 0), (4, vi (-1)), (0, vr 0), (1, vi l1), (2, vi l2), (3, vi l3)]) (dk dt_answer 46 rfl) (by decide) rfl ?_
      exact T_sub [2, 4, 5, 1, 0] rfl h
  · have h := h.2 c1
    refine T_aload_n 0 (dk dt_answer 2 rfl) rfl rfl ?_
    refine T_getI 0 116 (dk dt_answer 3 rfl) fl_702 mk_0 ml_0 (by decide) rfl ?_
    refine T_if_ne 15 (dk dt_answer 4 rfl) (by decide) (fun c15 => ?_) (fun c15 => ?_)
    · have h := h.1 c15
      refine T_aload_n 0 (dk dt_answer 7 rfl) rfl rfl ?_
      refine T_getR 0 115 116 (dk dt_answer 8 rfl) fl_248 mk_0 ml_0 (by decide) rfl rfl ?_
      refine T_iconst (v := 0) (dk dt_answer 9 rfl) (by decide +kernel) ?_
      obtain ⟨h16, h⟩ := h
      refine T_iald 116 14 (dk dt_answer 10 rfl) mk_116 ml_116 h16 ?_
      exact T_sub [0, 2, 3] rfl h
    · have h := h.2 c15
      refine T_iconst (v := 0) (dk dt_answer 5 rfl) (by decide +kernel) ?_
      refine T_goto 21 (dk dt_answer 6 rfl) (by decide) ?_
      exact T_sub [0, 2, 3] rfl h
set_option maxRecDepth 100000 in
set_option maxHeartbeats 4000000 in
theorem sg_answer_21 {G : mG} {d : Nat} {x : gd} {P : Option gv → gd → Prop} (l2 : Int32) (l3 : Int32) (s0 : Int32)
    (h : ((l2 = (0 : Int32) → MT G (d + 1) z_answer 55 [(0, vr 0), (2, vi l2), (4, vi s0)] [vi l3, vi 0, vr 116] x P) ∧ (¬ (l2 = (0 : Int32)) → ((¬ (l2 = (3 : Int32)) → ((¬ (l2 = (2 : Int32)) → MT G (d + 1) z_answer 55 [(0, vr 0), (2, vi l2), (4, vi s0)] [vi s0, vi 0, vr 116] x P) ∧ (l2 = (2 : Int32) → MT G (d + 1) z_answer 55 [(0, vr 0), (2, vi l2), (4, vi s0)] [vi (s0 + l3), vi 0, vr 116] x P))) ∧ (l2 = (3 : Int32) → MT G (d + 1) z_answer 55 [(0, vr 0), (2, vi l2), (4, vi s0)] [vi l3, vi 0, vr 116] x P))))) :
    MT G (d + 1) z_answer 21 [(0, vr 0), (2, vi l2), (3, vi l3)] [vi s0] x P := by
  refine T_istore (lv2 := [(4, vi s0), (0, vr 0), (2, vi l2), (3, vi l3)]) (dk dt_answer 11 rfl) (by decide) rfl ?_
  refine T_aload_n 1 (dk dt_answer 12 rfl) rfl rfl ?_
  refine T_getR 0 115 116 (dk dt_answer 13 rfl) fl_248 mk_0 ml_0 (by decide) rfl rfl ?_
  refine T_iconst (v := 0) (dk dt_answer 14 rfl) (by decide +kernel) ?_
  refine T_iload_n 2 (dk dt_answer 15 rfl) rfl rfl ?_
  refine T_if_eq 37 (dk dt_answer 16 rfl) (by decide) (fun c1 => ?_) (fun c1 => ?_)
  · have h := h.1 c1
    refine T_iload_n 3 (dk dt_answer 20 rfl) rfl rfl ?_
    refine T_goto 55 (dk dt_answer 21 rfl) (by decide) ?_
    exact T_sub [1, 2, 0] rfl h
  · have h := h.2 c1
    refine T_iload_n 2 (dk dt_answer 17 rfl) rfl rfl ?_
    refine T_iconst (v := 3) (dk dt_answer 18 rfl) (by decide +kernel) ?_
    refine T_icmp_ne 41 (dk dt_answer 19 rfl) (by decide) (fun c2 => ?_) (fun c2 => ?_)
    · have h := h.1 c2
      refine T_iload_n 2 (dk dt_answer 22 rfl) rfl rfl ?_
      refine T_iconst (v := 2) (dk dt_answer 23 rfl) (by decide +kernel) ?_
      refine T_icmp_ne 53 (dk dt_answer 24 rfl) (by decide) (fun c3 => ?_) (fun c3 => ?_)
      · have h := h.1 c3
        refine T_iload 0 (dk dt_answer 29 rfl) rfl ?_
        exact T_sub [1, 2, 0] rfl h
      · have h := h.2 c3
        refine T_iload 0 (dk dt_answer 25 rfl) rfl ?_
        refine T_iload_n 3 (dk dt_answer 26 rfl) rfl rfl ?_
        refine T_iadd (dk dt_answer 27 rfl) ?_
        refine T_goto 55 (dk dt_answer 28 rfl) (by decide) ?_
        exact T_sub [1, 2, 0] rfl h
    · have h := h.2 c2
      refine T_iload_n 3 (dk dt_answer 20 rfl) rfl rfl ?_
      refine T_goto 55 (dk dt_answer 21 rfl) (by decide) ?_
      exact T_sub [1, 2, 0] rfl h
set_option maxRecDepth 100000 in
set_option maxHeartbeats 4000000 in
theorem sg_answer_55 {G : mG} {d : Nat} {x : gd} {P : Option gv → gd → Prop} (l2 : Int32) (l4 : Int32) (s0 : Int32) (s1 : Int32)
    (h : vp_in s1 14 ∧ (∀ x2 : gd, x2 = si x 116 (s1 : Int32).toNatClampNeg s0 → (∀ x3 : gd, x3 = si x2 0 116 1 → ((¬ (l2 = (0 : Int32)) → P (some (vi l4)) x3) ∧ (l2 = (0 : Int32) → P (some (vi 0)) x3))))) :
    MT G (d + 1) z_answer 55 [(0, vr 0), (2, vi l2), (4, vi l4)] [vi s0, vi s1, vr 116] x P := by
  obtain ⟨h1, h⟩ := h
  obtain ⟨x2, ex2⟩ : ∃ z, z = si x 116 (s1 : Int32).toNatClampNeg s0 := ⟨_, rfl⟩
  have h := h x2 ex2
  refine T_iast 116 14 (dk dt_answer 30 rfl) mk_116 ml_116 h1 ?_
  rw [← ex2]
  refine T_aload_n 0 (dk dt_answer 31 rfl) rfl rfl ?_
  refine T_iconst (v := 1) (dk dt_answer 32 rfl) (by decide +kernel) ?_
  obtain ⟨x3, ex3⟩ : ∃ z, z = si x2 0 116 1 := ⟨_, rfl⟩
  have h := h x3 ex3
  refine T_putI 0 116 (dk dt_answer 33 rfl) fl_702 mk_0 ml_0 (by decide) rfl ⟨rfl, rfl⟩ ?_
  rw [← ex3]
  refine T_iload_n 1 (dk dt_answer 34 rfl) rfl rfl ?_
  refine T_if_ne 69 (dk dt_answer 35 rfl) (by decide) (fun c4 => ?_) (fun c4 => ?_)
  · have h := h.1 c4
    refine T_iload 2 (dk dt_answer 38 rfl) rfl ?_
    exact MT_iret (dk dt_answer 39 rfl) rfl rfl h
  · have h := h.2 c4
    refine T_iconst (v := 0) (dk dt_answer 36 rfl) (by decide +kernel) ?_
    refine T_goto 71 (dk dt_answer 37 rfl) (by decide) ?_
    exact MT_iret (dk dt_answer 39 rfl) rfl rfl h
set_option maxRecDepth 100000 in
set_option maxHeartbeats 4000000 in
theorem sg_answer_83 {G : mG} {d : Nat} {x : gd} {P : Option gv → gd → Prop} (l2 : Int32) (l3 : Int32) (l4 : Int32) (l5 : Int32)
    (h : (((x.1 0 116) ≤ l5 → ((¬ (l2 = (0 : Int32)) → MT G (d + 1) z_answer 151 [(0, vr 0), (2, vi l2), (4, vi l4)] [] x P) ∧ (l2 = (0 : Int32) → ((¬ (l4 = (-1 : Int32)) → MT G (d + 1) z_answer 151 [(0, vr 0), (2, vi l2), (4, vi l4)] [] x P) ∧ (l4 = (-1 : Int32) → vp_in (x.1 0 116) 14 ∧ (∀ x5 : gd, x5 = si x 116 (x.1 0 116 : Int32).toNatClampNeg l3 → (∀ x6 : gd, x6 = si x5 0 116 ((x5.1 0 116) + 1) → MT G (d + 1) z_answer 188 [(0, vr 0), (2, vi l2), (4, vi l4)] [] x6 P))))))) ∧ (¬ ((x.1 0 116) ≤ l5) → vp_in l5 14 ∧ ((¬ ((x.1 116 (l5 : Int32).toNatClampNeg) = l3) → MT G (d + 1) z_answer 83 [(0, vr 0), (2, vi l2), (3, vi l3), (4, vi l4), (5, vi (l5 + 1))] [] x P) ∧ ((x.1 116 (l5 : Int32).toNatClampNeg) = l3 → MT G (d + 1) z_answer 83 [(0, vr 0), (2, vi l2), (3, vi l3), (4, vi l5), (5, vi (l5 + 1))] [] x P))))) :
    MT G (d + 1) z_answer 83 [(0, vr 0), (2, vi l2), (3, vi l3), (4, vi l4), (5, vi l5)] [] x P := by
  refine T_iload 4 (dk dt_answer 47 rfl) rfl ?_
  refine T_aload_n 0 (dk dt_answer 48 rfl) rfl rfl ?_
  refine T_getI 0 116 (dk dt_answer 49 rfl) fl_702 mk_0 ml_0 (by decide) rfl ?_
  refine T_icmp_ge 118 (dk dt_answer 50 rfl) (by decide) (fun c1 => ?_) (fun c1 => ?_)
  · have h := h.1 c1
    refine T_iload_n 1 (dk dt_answer 63 rfl) rfl rfl ?_
    refine T_if_ne 151 (dk dt_answer 64 rfl) (by decide) (fun c2 => ?_) (fun c2 => ?_)
    · have h := h.1 c2
      exact T_sub [0, 1, 3] rfl h
    · have h := h.2 c2
      refine T_iload 3 (dk dt_answer 65 rfl) rfl ?_
      refine T_iconst (v := (-1)) (dk dt_answer 66 rfl) (by decide +kernel) ?_
      refine T_icmp_ne 151 (dk dt_answer 67 rfl) (by decide) (fun c3 => ?_) (fun c3 => ?_)
      · have h := h.1 c3
        exact T_sub [0, 1, 3] rfl h
      · have h := h.2 c3
        refine T_aload_n 0 (dk dt_answer 68 rfl) rfl rfl ?_
        refine T_getR 0 115 116 (dk dt_answer 69 rfl) fl_248 mk_0 ml_0 (by decide) rfl rfl ?_
        refine T_aload_n 0 (dk dt_answer 70 rfl) rfl rfl ?_
        refine T_getI 0 116 (dk dt_answer 71 rfl) fl_702 mk_0 ml_0 (by decide) rfl ?_
        refine T_iload_n 2 (dk dt_answer 72 rfl) rfl rfl ?_
        obtain ⟨h4, h⟩ := h
        obtain ⟨x5, ex5⟩ : ∃ z, z = si x 116 (x.1 0 116 : Int32).toNatClampNeg l3 := ⟨_, rfl⟩
        have h := h x5 ex5
        refine T_iast 116 14 (dk dt_answer 73 rfl) mk_116 ml_116 h4 ?_
        rw [← ex5]
        refine T_aload_n 0 (dk dt_answer 74 rfl) rfl rfl ?_
        refine T_dup (dk dt_answer 75 rfl) rfl ?_
        refine T_getI 0 116 (dk dt_answer 76 rfl) fl_702 mk_0 ml_0 (by decide) rfl ?_
        refine T_iconst (v := 1) (dk dt_answer 77 rfl) (by decide +kernel) ?_
        refine T_iadd (dk dt_answer 78 rfl) ?_
        obtain ⟨x6, ex6⟩ : ∃ z, z = si x5 0 116 ((x5.1 0 116) + 1) := ⟨_, rfl⟩
        have h := h x6 ex6
        refine T_putI 0 116 (dk dt_answer 79 rfl) fl_702 mk_0 ml_0 (by decide) rfl ⟨rfl, rfl⟩ ?_
        rw [← ex6]
        refine T_goto 188 (dk dt_answer 80 rfl) (by decide) ?_
        exact T_sub [0, 1, 3] rfl h
  · have h := h.2 c1
    refine T_aload_n 0 (dk dt_answer 51 rfl) rfl rfl ?_
    refine T_getR 0 115 116 (dk dt_answer 52 rfl) fl_248 mk_0 ml_0 (by decide) rfl rfl ?_
    refine T_iload 4 (dk dt_answer 53 rfl) rfl ?_
    obtain ⟨h7, h⟩ := h
    refine T_iald 116 14 (dk dt_answer 54 rfl) mk_116 ml_116 h7 ?_
    refine T_iload_n 2 (dk dt_answer 55 rfl) rfl rfl ?_
    refine T_icmp_ne 108 (dk dt_answer 56 rfl) (by decide) (fun c8 => ?_) (fun c8 => ?_)
    · have h := h.1 c8
      refine T_iload 3 (dk dt_answer 59 rfl) rfl ?_
      refine T_istore (lv2 := [(4, vi l4), (0, vr 0), (2, vi l2), (3, vi l3), (5, vi l5)]) (dk dt_answer 60 rfl) (by decide) rfl ?_
      refine T_iinc (v := l5 + 1) (lv2 := [(5, vi (l5 + 1)), (4, vi l4), (0, vr 0), (2, vi l2), (3, vi l3)]) 4 (dk dt_answer 61 rfl) rfl rfl (by decide) rfl ?_
      refine T_goto 83 (dk dt_answer 62 rfl) (by decide) ?_
      exact T_sub [2, 3, 4, 1, 0] rfl h
    · have h := h.2 c8
      refine T_iload 4 (dk dt_answer 57 rfl) rfl ?_
      refine T_goto 110 (dk dt_answer 58 rfl) (by decide) ?_
      refine T_istore (lv2 := [(4, vi l5), (0, vr 0), (2, vi l2), (3, vi l3), (5, vi l5)]) (dk dt_answer 60 rfl) (by decide) rfl ?_
      refine T_iinc (v := l5 + 1) (lv2 := [(5, vi (l5 + 1)), (4, vi l5), (0, vr 0), (2, vi l2), (3, vi l3)]) 4 (dk dt_answer 61 rfl) rfl rfl (by decide) rfl ?_
      refine T_goto 83 (dk dt_answer 62 rfl) (by decide) ?_
      exact T_sub [2, 3, 4, 1, 0] rfl h
set_option maxRecDepth 100000 in
set_option maxHeartbeats 4000000 in
theorem sg_answer_151 {G : mG} {d : Nat} {x : gd} {P : Option gv → gd → Prop} (l2 : Int32) (l4 : Int32)
    (h : ((¬ (l2 = (1 : Int32)) → MT G (d + 1) z_answer 188 [(0, vr 0), (2, vi l2), (4, vi l4)] [] x P) ∧ (l2 = (1 : Int32) → ((l4 = (-1 : Int32) → MT G (d + 1) z_answer 188 [(0, vr 0), (2, vi l2), (4, vi l4)] [] x P) ∧ (¬ (l4 = (-1 : Int32)) → (∀ x3 : gd, x3 = si x 0 116 ((x.1 0 116) - 1) → vp_in (x3.1 0 116) 14 ∧ vp_in l4 14 ∧ (∀ x6 : gd, x6 = si x3 116 (l4 : Int32).toNatClampNeg (x3.1 116 (x3.1 0 116 : Int32).toNatClampNeg) → MT G (d + 1) z_answer 188 [(0, vr 0), (2, vi l2), (4, vi l4)] [] x6 P))))))) :
    MT G (d + 1) z_answer 151 [(0, vr 0), (2, vi l2), (4, vi l4)] [] x P := by
  refine T_iload_n 1 (dk dt_answer 81 rfl) rfl rfl ?_
  refine T_iconst (v := 1) (dk dt_answer 82 rfl) (by decide +kernel) ?_
  refine T_icmp_ne 188 (dk dt_answer 83 rfl) (by decide) (fun c1 => ?_) (fun c1 => ?_)
  · have h := h.1 c1
    exact h
  · have h := h.2 c1
    refine T_iload 2 (dk dt_answer 84 rfl) rfl ?_
    refine T_iconst (v := (-1)) (dk dt_answer 85 rfl) (by decide +kernel) ?_
    refine T_icmp_eq 188 (dk dt_answer 86 rfl) (by decide) (fun c2 => ?_) (fun c2 => ?_)
    · have h := h.1 c2
      exact h
    · have h := h.2 c2
      refine T_aload_n 0 (dk dt_answer 87 rfl) rfl rfl ?_
      refine T_dup (dk dt_answer 88 rfl) rfl ?_
      refine T_getI 0 116 (dk dt_answer 89 rfl) fl_702 mk_0 ml_0 (by decide) rfl ?_
      refine T_iconst (v := 1) (dk dt_answer 90 rfl) (by decide +kernel) ?_
      refine T_isub (dk dt_answer 91 rfl) ?_
      obtain ⟨x3, ex3⟩ : ∃ z, z = si x 0 116 ((x.1 0 116) - 1) := ⟨_, rfl⟩
      have h := h x3 ex3
      refine T_putI 0 116 (dk dt_answer 92 rfl) fl_702 mk_0 ml_0 (by decide) rfl ⟨rfl, rfl⟩ ?_
      rw [← ex3]
      refine T_aload_n 0 (dk dt_answer 93 rfl) rfl rfl ?_
      refine T_getR 0 115 116 (dk dt_answer 94 rfl) fl_248 mk_0 ml_0 (by decide) rfl rfl ?_
      refine T_iload 2 (dk dt_answer 95 rfl) rfl ?_
      refine T_aload_n 0 (dk dt_answer 96 rfl) rfl rfl ?_
      refine T_getR 0 115 116 (dk dt_answer 97 rfl) fl_248 mk_0 ml_0 (by decide) rfl rfl ?_
      refine T_aload_n 0 (dk dt_answer 98 rfl) rfl rfl ?_
      refine T_getI 0 116 (dk dt_answer 99 rfl) fl_702 mk_0 ml_0 (by decide) rfl ?_
      obtain ⟨h4, h⟩ := h
      refine T_iald 116 14 (dk dt_answer 100 rfl) mk_116 ml_116 h4 ?_
      obtain ⟨h5, h⟩ := h
      obtain ⟨x6, ex6⟩ : ∃ z, z = si x3 116 (l4 : Int32).toNatClampNeg (x3.1 116 (x3.1 0 116 : Int32).toNatClampNeg) := ⟨_, rfl⟩
      have h := h x6 ex6
      refine T_iast 116 14 (dk dt_answer 101 rfl) mk_116 ml_116 h5 ?_
      rw [← ex6]
      exact h
set_option maxRecDepth 100000 in
set_option maxHeartbeats 4000000 in
theorem sg_answer_188 {G : mG} {d : Nat} {x : gd} {P : Option gv → gd → Prop} (l2 : Int32) (l4 : Int32)
    (h : ((¬ (l2 = (0 : Int32)) → ((¬ (l2 = (3 : Int32)) → ((l4 = (-1 : Int32) → MT G (d + 1) z_answer 232 [(0, vr 0)] [vi 0] x P) ∧ (¬ (l4 = (-1 : Int32)) → MT G (d + 1) z_answer 232 [(0, vr 0)] [vi 1] x P))) ∧ (l2 = (3 : Int32) → P (some (vi (x.1 0 116))) x))) ∧ (l2 = (0 : Int32) → ((¬ (l4 = (-1 : Int32)) → MT G (d + 1) z_answer 203 [(0, vr 0)] [vi 0] x P) ∧ (l4 = (-1 : Int32) → MT G (d + 1) z_answer 203 [(0, vr 0)] [vi 1] x P))))) :
    MT G (d + 1) z_answer 188 [(0, vr 0), (2, vi l2), (4, vi l4)] [] x P := by
  refine T_iload_n 1 (dk dt_answer 102 rfl) rfl rfl ?_
  refine T_if_ne 209 (dk dt_answer 103 rfl) (by decide) (fun c1 => ?_) (fun c1 => ?_)
  · have h := h.1 c1
    refine T_iload_n 1 (dk dt_answer 112 rfl) rfl rfl ?_
    refine T_iconst (v := 3) (dk dt_answer 113 rfl) (by decide +kernel) ?_
    refine T_icmp_ne 221 (dk dt_answer 114 rfl) (by decide) (fun c2 => ?_) (fun c2 => ?_)
    · have h := h.1 c2
      refine T_iload 2 (dk dt_answer 118 rfl) rfl ?_
      refine T_iconst (v := (-1)) (dk dt_answer 119 rfl) (by decide +kernel) ?_
      refine T_icmp_eq 231 (dk dt_answer 120 rfl) (by decide) (fun c3 => ?_) (fun c3 => ?_)
      · have h := h.1 c3
        refine T_iconst (v := 0) (dk dt_answer 123 rfl) (by decide +kernel) ?_
        exact T_sub [0] rfl h
      · have h := h.2 c3
        refine T_iconst (v := 1) (dk dt_answer 121 rfl) (by decide +kernel) ?_
        refine T_goto 232 (dk dt_answer 122 rfl) (by decide) ?_
        exact T_sub [0] rfl h
    · have h := h.2 c2
      refine T_aload_n 0 (dk dt_answer 115 rfl) rfl rfl ?_
      refine T_getI 0 116 (dk dt_answer 116 rfl) fl_702 mk_0 ml_0 (by decide) rfl ?_
      refine T_goto 235 (dk dt_answer 117 rfl) (by decide) ?_
      exact MT_iret (dk dt_answer 125 rfl) rfl rfl h
  · have h := h.2 c1
    refine T_iload 2 (dk dt_answer 104 rfl) rfl ?_
    refine T_iconst (v := (-1)) (dk dt_answer 105 rfl) (by decide +kernel) ?_
    refine T_icmp_ne 202 (dk dt_answer 106 rfl) (by decide) (fun c4 => ?_) (fun c4 => ?_)
    · have h := h.1 c4
      refine T_iconst (v := 0) (dk dt_answer 109 rfl) (by decide +kernel) ?_
      exact T_sub [0] rfl h
    · have h := h.2 c4
      refine T_iconst (v := 1) (dk dt_answer 107 rfl) (by decide +kernel) ?_
      refine T_goto 203 (dk dt_answer 108 rfl) (by decide) ?_
      exact T_sub [0] rfl h
set_option maxRecDepth 100000 in
set_option maxHeartbeats 4000000 in
theorem sg_answer_203 {G : mG} {d : Nat} {x : gd} {P : Option gv → gd → Prop} (s0 : Int32)
    (h : MT G d z_one 0 [(0, vi s0)] [] x (ri (fun r2 x1 => P (some (vi r2)) x1))) :
    MT G (d + 1) z_answer 203 [(0, vr 0)] [vi s0] x P := by
  refine MT_callSi [vi s0] [] rfl (dk dt_answer 110 rfl) cs_587 rfl (Nat.le_of_ble_eq_true rfl) (Nat.le_of_ble_eq_true rfl) rfl rfl h (fun r2 x1 h => ?_)
  refine T_goto 235 (dk dt_answer 111 rfl) (by decide) ?_
  exact MT_iret (dk dt_answer 125 rfl) rfl rfl h
set_option maxRecDepth 100000 in
set_option maxHeartbeats 4000000 in
theorem sg_answer_232 {G : mG} {d : Nat} {x : gd} {P : Option gv → gd → Prop} (s0 : Int32)
    (h : MT G d z_one 0 [(0, vi s0)] [] x (ri (fun r2 x1 => P (some (vi r2)) x1))) :
    MT G (d + 1) z_answer 232 [(0, vr 0)] [vi s0] x P := by
  refine MT_callSi [vi s0] [] rfl (dk dt_answer 124 rfl) cs_587 rfl (Nat.le_of_ble_eq_true rfl) (Nat.le_of_ble_eq_true rfl) rfl rfl h (fun r2 x1 h => ?_)
  exact MT_iret (dk dt_answer 125 rfl) rfl rfl h
set_option maxRecDepth 100000 in
set_option maxHeartbeats 4000000 in
theorem sg_answer_308 {G : mG} {d : Nat} {x : gd} {P : Option gv → gd → Prop} (l1 : Int32) (l4 : Int32) (l5 : Int32) (l6 : Int32)
    (h : ((l4 ≤ (l6 + 1) → (∀ x2 : gd, x2 = si x 0 116 ((x.1 0 116) - 1) → P (some (vi l5)) x2)) ∧ (¬ (l4 ≤ (l6 + 1)) → ((¬ (l1 = (2 : Int32)) → (∀ x4 : gd, x4 = si x 0 116 ((x.1 0 116) - 1) → P (some (vi l5)) x4)) ∧ (l1 = (2 : Int32) → vp_in (l6 + 1) 14 ∧ vp_in l6 14 ∧ (∀ x7 : gd, x7 = si x 116 (l6 : Int32).toNatClampNeg (x.1 116 (l6 + 1 : Int32).toNatClampNeg) → MT G (d + 1) z_answer 308 [(0, vr 0), (1, vi l1), (4, vi l4), (5, vi l5), (6, vi (l6 + 1))] [] x7 P)))))) :
    MT G (d + 1) z_answer 308 [(0, vr 0), (1, vi l1), (4, vi l4), (5, vi l5), (6, vi l6)] [] x P := by
  refine T_iload 4 (dk dt_answer 169 rfl) rfl ?_
  refine T_iconst (v := 1) (dk dt_answer 170 rfl) (by decide +kernel) ?_
  refine T_iadd (dk dt_answer 171 rfl) ?_
  refine T_iload 2 (dk dt_answer 172 rfl) rfl ?_
  refine T_icmp_ge 344 (dk dt_answer 173 rfl) (by decide) (fun c1 => ?_) (fun c1 => ?_)
  · have h := h.1 c1
    refine T_aload_n 0 (dk dt_answer 189 rfl) rfl rfl ?_
    refine T_dup (dk dt_answer 190 rfl) rfl ?_
    refine T_getI 0 116 (dk dt_answer 191 rfl) fl_702 mk_0 ml_0 (by decide) rfl ?_
    refine T_iconst (v := 1) (dk dt_answer 192 rfl) (by decide +kernel) ?_
    refine T_isub (dk dt_answer 193 rfl) ?_
    obtain ⟨x2, ex2⟩ : ∃ z, z = si x 0 116 ((x.1 0 116) - 1) := ⟨_, rfl⟩
    have h := h x2 ex2
    refine T_putI 0 116 (dk dt_answer 194 rfl) fl_702 mk_0 ml_0 (by decide) rfl ⟨rfl, rfl⟩ ?_
    rw [← ex2]
    refine T_iload 3 (dk dt_answer 195 rfl) rfl ?_
    exact MT_iret (dk dt_answer 196 rfl) rfl rfl h
  · have h := h.2 c1
    refine T_iload_n 1 (dk dt_answer 174 rfl) rfl rfl ?_
    refine T_iconst (v := 2) (dk dt_answer 175 rfl) (by decide +kernel) ?_
    refine T_icmp_ne 344 (dk dt_answer 176 rfl) (by decide) (fun c3 => ?_) (fun c3 => ?_)
    · have h := h.1 c3
      refine T_aload_n 0 (dk dt_answer 189 rfl) rfl rfl ?_
      refine T_dup (dk dt_answer 190 rfl) rfl ?_
      refine T_getI 0 116 (dk dt_answer 191 rfl) fl_702 mk_0 ml_0 (by decide) rfl ?_
      refine T_iconst (v := 1) (dk dt_answer 192 rfl) (by decide +kernel) ?_
      refine T_isub (dk dt_answer 193 rfl) ?_
      obtain ⟨x4, ex4⟩ : ∃ z, z = si x 0 116 ((x.1 0 116) - 1) := ⟨_, rfl⟩
      have h := h x4 ex4
      refine T_putI 0 116 (dk dt_answer 194 rfl) fl_702 mk_0 ml_0 (by decide) rfl ⟨rfl, rfl⟩ ?_
      rw [← ex4]
      refine T_iload 3 (dk dt_answer 195 rfl) rfl ?_
      exact MT_iret (dk dt_answer 196 rfl) rfl rfl h
    · have h := h.2 c3
      refine T_aload_n 0 (dk dt_answer 177 rfl) rfl rfl ?_
      refine T_getR 0 115 116 (dk dt_answer 178 rfl) fl_248 mk_0 ml_0 (by decide) rfl rfl ?_
      refine T_iload 4 (dk dt_answer 179 rfl) rfl ?_
      refine T_aload_n 0 (dk dt_answer 180 rfl) rfl rfl ?_
      refine T_getR 0 115 116 (dk dt_answer 181 rfl) fl_248 mk_0 ml_0 (by decide) rfl rfl ?_
      refine T_iload 4 (dk dt_answer 182 rfl) rfl ?_
      refine T_iconst (v := 1) (dk dt_answer 183 rfl) (by decide +kernel) ?_
      refine T_iadd (dk dt_answer 184 rfl) ?_
      obtain ⟨h5, h⟩ := h
      refine T_iald 116 14 (dk dt_answer 185 rfl) mk_116 ml_116 h5 ?_
      obtain ⟨h6, h⟩ := h
      obtain ⟨x7, ex7⟩ : ∃ z, z = si x 116 (l6 : Int32).toNatClampNeg (x.1 116 (l6 + 1 : Int32).toNatClampNeg) := ⟨_, rfl⟩
      have h := h x7 ex7
      refine T_iast 116 14 (dk dt_answer 186 rfl) mk_116 ml_116 h6 ?_
      rw [← ex7]
      refine T_iinc (v := l6 + 1) (lv2 := [(6, vi (l6 + 1)), (0, vr 0), (1, vi l1), (4, vi l4), (5, vi l5)]) 4 (dk dt_answer 187 rfl) rfl rfl (by decide) rfl ?_
      refine T_goto 308 (dk dt_answer 188 rfl) (by decide) ?_
      exact T_sub [1, 2, 3, 4, 0] rfl h
set_option maxRecDepth 100000 in
theorem dt_fits : dck cX12_fits [(0, .aload_n 0, 1), (1, .iconst 0, 1), (2, .putfield 702, 3), (5, .iconst 1, 1), (6, .istore_n 3, 1), (7, .iconst 0, 1), (8, .istore 4, 2), (10, .iload 4, 2), (12, .iload_n 2, 1), (13, .if_icmp .ge 72, 3), (16, .aload_n 0, 1), (17, .getfield 242, 3), (20, .iload 4, 2), (22, .iaload, 1), (23, .istore 5, 2), (25, .aload_n 0, 1), (26, .iload_n 1, 1), (27, .aload_n 0, 1), (28, .getfield 227, 3), (31, .iload 5, 2), (33, .iaload, 1), (34, .aload_n 0, 1), (35, .getfield 230, 3), (38, .iload 5, 2), (40, .iaload, 1), (41, .invokevirtual 705, 3), (44, .istore 6, 2), (46, .iload_n 3, 1), (47, .ifCond .eq 30, 3), (50, .aload_n 0, 1), (51, .getfield 239, 3), (54, .iload 5, 2), (56, .iaload, 1), (57, .iconst (-1), 1), (58, .if_icmp .eq 15, 3), (61, .aload_n 0, 1), (62, .getfield 233, 3), (65, .iload 5, 2), (67, .iaload, 1), (68, .iload 6, 2), (70, .if_icmp .ne 7, 3), (73, .iconst 1, 1), (74, .goto 4, 3), (77, .iconst 0, 1), (78, .istore_n 3, 1), (79, .iinc 4 1, 3), (82, .goto (-72), 3), (85, .iload_n 3, 1), (86, .ireturn, 1)] = true := by decide +kernel
set_option maxRecDepth 100000 in
set_option maxHeartbeats 4000000 in
theorem sg_fits_0 {G : mG} {d : Nat} {x : gd} {P : Option gv → gd → Prop} (l1 : Int32) (l2 : Int32)
    (h : (∀ x1 : gd, x1 = si x 0 116 0 → MT G (d + 1) z_fits 10 [(0, vr 0), (1, vi l1), (2, vi l2), (3, vi 1), (4, vi 0)] [] x1 P)) :
    MT G (d + 1) z_fits 0 [(0, vr 0), (1, vi l1), (2, vi l2)] [] x P := by
  refine T_aload_n 0 (dk dt_fits 0 rfl) rfl rfl ?_
  refine T_iconst (v := 0) (dk dt_fits 1 rfl) (by decide +kernel) ?_
  obtain ⟨x1, ex1⟩ : ∃ z, z = si x 0 116 0 := ⟨_, rfl⟩
  have h := h x1 ex1
  refine T_putI 0 116 (dk dt_fits 2 rfl) fl_702 mk_0 ml_0 (by decide) rfl ⟨rfl, rfl⟩ ?_
  rw [← ex1]
  refine T_iconst (v := 1) (dk dt_fits 3 rfl) (by decide +kernel) ?_
  refine T_istore_n (lv2 := [(3, vi 1), (0, vr 0), (1, vi l1), (2, vi l2)]) (dk dt_fits 4 rfl) rfl (by decide) rfl ?_
  refine T_iconst (v := 0) (dk dt_fits 5 rfl) (by decide +kernel) ?_
  refine T_istore (lv2 := [(4, vi 0), (3, vi 1), (0, vr 0), (1, vi l1), (2, vi l2)]) (dk dt_fits 6 rfl) (by decide) rfl ?_
  exact T_sub [2, 3, 4, 1, 0] rfl h
set_option maxRecDepth 100000 in
set_option maxHeartbeats 4000000 in
theorem sg_fits_10 {G : mG} {d : Nat} {x : gd} {P : Option gv → gd → Prop} (l1 : Int32) (l2 : Int32) (l3 : Int32) (l4 : Int32)
    (h : ((l2 ≤ l4 → gbool l3 ∧ P (some (vi l3)) x) ∧ (¬ (l2 ≤ l4) → vp_in l4 14 ∧ vp_in (x.1 114 (l4 : Int32).toNatClampNeg) 14 ∧ vp_in (x.1 114 (l4 : Int32).toNatClampNeg) 14 ∧ MT G d z_answer 0 [(0, vr 0), (1, vi l1), (2, vi (x.1 109 (x.1 114 (l4 : Int32).toNatClampNeg : Int32).toNatClampNeg)), (3, vi (x.1 110 (x.1 114 (l4 : Int32).toNatClampNeg : Int32).toNatClampNeg))] [] x (ri (fun r6 x5 => ((l3 = (0 : Int32) → MT G (d + 1) z_fits 10 [(0, vr 0), (1, vi l1), (2, vi l2), (3, vi 0), (4, vi (l4 + 1))] [] x5 P) ∧ (¬ (l3 = (0 : Int32)) → vp_in (x.1 114 (l4 : Int32).toNatClampNeg) 14 ∧ (((x5.1 113 (x.1 114 (l4 : Int32).toNatClampNeg : Int32).toNatClampNeg) = (-1 : Int32) → MT G (d + 1) z_fits 10 [(0, vr 0), (1, vi l1), (2, vi l2), (3, vi 1), (4, vi (l4 + 1))] [] x5 P) ∧ (¬ ((x5.1 113 (x.1 114 (l4 : Int32).toNatClampNeg : Int32).toNatClampNeg) = (-1 : Int32)) → vp_in (x.1 114 (l4 : Int32).toNatClampNeg) 14 ∧ ((¬ ((x5.1 111 (x.1 114 (l4 : Int32).toNatClampNeg : Int32).toNatClampNeg) = r6) → MT G (d + 1) z_fits 10 [(0, vr 0), (1, vi l1), (2, vi l2), (3, vi 0), (4, vi (l4 + 1))] [] x5 P) ∧ ((x5.1 111 (x.1 114 (l4 : Int32).toNatClampNeg : Int32).toNatClampNeg) = r6 → MT G (d + 1) z_fits 10 [(0, vr 0), (1, vi l1), (2, vi l2), (3, vi 1), (4, vi (l4 + 1))] [] x5 P))))))))))) :
    MT G (d + 1) z_fits 10 [(0, vr 0), (1, vi l1), (2, vi l2), (3, vi l3), (4, vi l4)] [] x P := by
  refine T_iload 4 (dk dt_fits 7 rfl) rfl ?_
  refine T_iload_n 2 (dk dt_fits 8 rfl) rfl rfl ?_
  refine T_icmp_ge 85 (dk dt_fits 9 rfl) (by decide) (fun c1 => ?_) (fun c1 => ?_)
  · have h := h.1 c1
    refine T_iload_n 3 (dk dt_fits 47 rfl) rfl rfl ?_
    exact MT_iret (dk dt_fits 48 rfl) rfl h.1.1 h.2
  · have h := h.2 c1
    refine T_aload_n 0 (dk dt_fits 10 rfl) rfl rfl ?_
    refine T_getR 0 113 114 (dk dt_fits 11 rfl) fl_242 mk_0 ml_0 (by decide) rfl rfl ?_
    refine T_iload 4 (dk dt_fits 12 rfl) rfl ?_
    obtain ⟨h2, h⟩ := h
    refine T_iald 114 14 (dk dt_fits 13 rfl) mk_114 ml_114 h2 ?_
    refine T_istore (lv2 := [(5, vi (x.1 114 (l4 : Int32).toNatClampNeg)), (0, vr 0), (1, vi l1), (2, vi l2), (3, vi l3), (4, vi l4)]) (dk dt_fits 14 rfl) (by decide) rfl ?_
    refine T_aload_n 1 (dk dt_fits 15 rfl) rfl rfl ?_
    refine T_iload_n 2 (dk dt_fits 16 rfl) rfl rfl ?_
    refine T_aload_n 1 (dk dt_fits 17 rfl) rfl rfl ?_
    refine T_getR 0 108 109 (dk dt_fits 18 rfl) fl_227 mk_0 ml_0 (by decide) rfl rfl ?_
    refine T_iload 0 (dk dt_fits 19 rfl) rfl ?_
    obtain ⟨h3, h⟩ := h
    refine T_iald 109 14 (dk dt_fits 20 rfl) mk_109 ml_109 h3 ?_
    refine T_aload_n 1 (dk dt_fits 21 rfl) rfl rfl ?_
    refine T_getR 0 109 110 (dk dt_fits 22 rfl) fl_230 mk_0 ml_0 (by decide) rfl rfl ?_
    refine T_iload 0 (dk dt_fits 23 rfl) rfl ?_
    obtain ⟨h4, h⟩ := h
    refine T_iald 110 14 (dk dt_fits 24 rfl) mk_110 ml_110 h4 ?_
    refine MT_callVi [vi l1, vi (x.1 109 (x.1 114 (l4 : Int32).toNatClampNeg : Int32).toNatClampNeg), vi (x.1 110 (x.1 114 (l4 : Int32).toNatClampNeg : Int32).toNatClampNeg)] [] rfl (dk dt_fits 25 rfl) cv_705 rfl rfl (Nat.le_of_ble_eq_true rfl) (Nat.le_of_ble_eq_true rfl) rfl rfl h (fun r6 x5 h => ?_)
    refine T_istore (lv2 := [(6, vi r6), (5, vi (x.1 114 (l4 : Int32).toNatClampNeg)), (0, vr 0), (1, vi l1), (2, vi l2), (3, vi l3), (4, vi l4)]) (dk dt_fits 26 rfl) (by decide) rfl ?_
    refine T_iload_n 5 (dk dt_fits 27 rfl) rfl rfl ?_
    refine T_if_eq 77 (dk dt_fits 28 rfl) (by decide) (fun c7 => ?_) (fun c7 => ?_)
    · have h := h.1 c7
      refine T_iconst (v := 0) (dk dt_fits 43 rfl) (by decide +kernel) ?_
      refine T_istore_n (lv2 := [(3, vi 0), (6, vi r6), (5, vi (x.1 114 (l4 : Int32).toNatClampNeg)), (0, vr 0), (1, vi l1), (2, vi l2), (4, vi l4)]) (dk dt_fits 44 rfl) rfl (by decide) rfl ?_
      refine T_iinc (v := l4 + 1) (lv2 := [(4, vi (l4 + 1)), (3, vi 0), (6, vi r6), (5, vi (x.1 114 (l4 : Int32).toNatClampNeg)), (0, vr 0), (1, vi l1), (2, vi l2)]) 6 (dk dt_fits 45 rfl) rfl rfl (by decide) rfl ?_
      refine T_goto 10 (dk dt_fits 46 rfl) (by decide) ?_
      exact T_sub [4, 5, 6, 1, 0] rfl h
    · have h := h.2 c7
      refine T_aload_n 2 (dk dt_fits 29 rfl) rfl rfl ?_
      refine T_getR 0 112 113 (dk dt_fits 30 rfl) fl_239 mk_0 ml_0 (by decide) rfl rfl ?_
      refine T_iload 1 (dk dt_fits 31 rfl) rfl ?_
      obtain ⟨h8, h⟩ := h
      refine T_iald 113 14 (dk dt_fits 32 rfl) mk_113 ml_113 h8 ?_
      refine T_iconst (v := (-1)) (dk dt_fits 33 rfl) (by decide +kernel) ?_
      refine T_icmp_eq 73 (dk dt_fits 34 rfl) (by decide) (fun c9 => ?_) (fun c9 => ?_)
      · have h := h.1 c9
        refine T_iconst (v := 1) (dk dt_fits 41 rfl) (by decide +kernel) ?_
        refine T_goto 78 (dk dt_fits 42 rfl) (by decide) ?_
        refine T_istore_n (lv2 := [(3, vi 1), (6, vi r6), (5, vi (x.1 114 (l4 : Int32).toNatClampNeg)), (0, vr 0), (1, vi l1), (2, vi l2), (4, vi l4)]) (dk dt_fits 44 rfl) rfl (by decide) rfl ?_
        refine T_iinc (v := l4 + 1) (lv2 := [(4, vi (l4 + 1)), (3, vi 1), (6, vi r6), (5, vi (x.1 114 (l4 : Int32).toNatClampNeg)), (0, vr 0), (1, vi l1), (2, vi l2)]) 6 (dk dt_fits 45 rfl) rfl rfl (by decide) rfl ?_
        refine T_goto 10 (dk dt_fits 46 rfl) (by decide) ?_
        exact T_sub [4, 5, 6, 1, 0] rfl h
      · have h := h.2 c9
        refine T_aload_n 2 (dk dt_fits 35 rfl) rfl rfl ?_
        refine T_getR 0 110 111 (dk dt_fits 36 rfl) fl_233 mk_0 ml_0 (by decide) rfl rfl ?_
        refine T_iload 1 (dk dt_fits 37 rfl) rfl ?_
        obtain ⟨h10, h⟩ := h
        refine T_iald 111 14 (dk dt_fits 38 rfl) mk_111 ml_111 h10 ?_
        refine T_iload 0 (dk dt_fits 39 rfl) rfl ?_
        refine T_icmp_ne 77 (dk dt_fits 40 rfl) (by decide) (fun c11 => ?_) (fun c11 => ?_)
        · have h := h.1 c11
          refine T_iconst (v := 0) (dk dt_fits 43 rfl) (by decide +kernel) ?_
          refine T_istore_n (lv2 := [(3, vi 0), (6, vi r6), (5, vi (x.1 114 (l4 : Int32).toNatClampNeg)), (0, vr 0), (1, vi l1), (2, vi l2), (4, vi l4)]) (dk dt_fits 44 rfl) rfl (by decide) rfl ?_
          refine T_iinc (v := l4 + 1) (lv2 := [(4, vi (l4 + 1)), (3, vi 0), (6, vi r6), (5, vi (x.1 114 (l4 : Int32).toNatClampNeg)), (0, vr 0), (1, vi l1), (2, vi l2)]) 6 (dk dt_fits 45 rfl) rfl rfl (by decide) rfl ?_
          refine T_goto 10 (dk dt_fits 46 rfl) (by decide) ?_
          exact T_sub [4, 5, 6, 1, 0] rfl h
        · have h := h.2 c11
          refine T_iconst (v := 1) (dk dt_fits 41 rfl) (by decide +kernel) ?_
          refine T_goto 78 (dk dt_fits 42 rfl) (by decide) ?_
          refine T_istore_n (lv2 := [(3, vi 1), (6, vi r6), (5, vi (x.1 114 (l4 : Int32).toNatClampNeg)), (0, vr 0), (1, vi l1), (2, vi l2), (4, vi l4)]) (dk dt_fits 44 rfl) rfl (by decide) rfl ?_
          refine T_iinc (v := l4 + 1) (lv2 := [(4, vi (l4 + 1)), (3, vi 1), (6, vi r6), (5, vi (x.1 114 (l4 : Int32).toNatClampNeg)), (0, vr 0), (1, vi l1), (2, vi l2)]) 6 (dk dt_fits 45 rfl) rfl rfl (by decide) rfl ?_
          refine T_goto 10 (dk dt_fits 46 rfl) (by decide) ?_
          exact T_sub [4, 5, 6, 1, 0] rfl h
set_option maxRecDepth 100000 in
theorem dt_mayCome : dck cX12_mayCome [(0, .iconst 0, 1), (1, .istore_n 3, 1), (2, .iload_n 3, 1), (3, .aload_n 0, 1), (4, .getfield 699, 3), (7, .if_icmp .ge 44, 3), (10, .iload_n 2, 1), (11, .iload_n 3, 1), (12, .ishr, 1), (13, .iconst 1, 1), (14, .iand, 1), (15, .ifCond .ne 30, 3), (18, .aload_n 0, 1), (19, .getfield 239, 3), (22, .iload_n 3, 1), (23, .iaload, 1), (24, .iconst (-1), 1), (25, .if_icmp .eq 20, 3), (28, .aload_n 0, 1), (29, .getfield 239, 3), (32, .iload_n 3, 1), (33, .iaload, 1), (34, .aload_n 0, 1), (35, .getfield 236, 3), (38, .iload_n 1, 1), (39, .iaload, 1), (40, .if_icmp .ge 5, 3), (43, .iconst 0, 1), (44, .ireturn, 1), (45, .iinc 3 1, 3), (48, .goto (-46), 3), (51, .iload_n 2, 1), (52, .iload_n 1, 1), (53, .ishr, 1), (54, .iconst 1, 1), (55, .iand, 1), (56, .ifCond .ne 7, 3), (59, .iconst 1, 1), (60, .goto 4, 3), (63, .iconst 0, 1), (64, .ireturn, 1)] = true := by decide +kernel
set_option maxRecDepth 100000 in
set_option maxHeartbeats 4000000 in
theorem sg_mayCome_0 {G : mG} {d : Nat} {x : gd} {P : Option gv → gd → Prop} (l1 : Int32) (l2 : Int32)
    (h : MT G d z_mayCome 2 [(0, vr 0), (1, vi l1), (2, vi l2), (3, vi 0)] [] x P) :
    MT G d z_mayCome 0 [(0, vr 0), (1, vi l1), (2, vi l2)] [] x P := by
  refine T_iconst (v := 0) (dk dt_mayCome 0 rfl) (by decide +kernel) ?_
  refine T_istore_n (lv2 := [(3, vi 0), (0, vr 0), (1, vi l1), (2, vi l2)]) (dk dt_mayCome 1 rfl) rfl (by decide) rfl ?_
  exact T_sub [1, 2, 3, 0] rfl h
set_option maxRecDepth 100000 in
set_option maxHeartbeats 4000000 in
theorem sg_mayCome_2 {G : mG} {d : Nat} {x : gd} {P : Option gv → gd → Prop} (l1 : Int32) (l2 : Int32) (l3 : Int32)
    (h : (((x.1 0 107) ≤ l3 → ((¬ (((l2 >>> (l1 &&& 31 : Int32)) &&& 1) = (0 : Int32)) → P (some (vi 0)) x) ∧ (((l2 >>> (l1 &&& 31 : Int32)) &&& 1) = (0 : Int32) → P (some (vi 1)) x))) ∧ (¬ ((x.1 0 107) ≤ l3) → ((¬ (((l2 >>> (l3 &&& 31 : Int32)) &&& 1) = (0 : Int32)) → MT G d z_mayCome 2 [(0, vr 0), (1, vi l1), (2, vi l2), (3, vi (l3 + 1))] [] x P) ∧ (((l2 >>> (l3 &&& 31 : Int32)) &&& 1) = (0 : Int32) → vp_in l3 14 ∧ (((x.1 113 (l3 : Int32).toNatClampNeg) = (-1 : Int32) → MT G d z_mayCome 2 [(0, vr 0), (1, vi l1), (2, vi l2), (3, vi (l3 + 1))] [] x P) ∧ (¬ ((x.1 113 (l3 : Int32).toNatClampNeg) = (-1 : Int32)) → vp_in l3 14 ∧ vp_in l1 14 ∧ (((x.1 112 (l1 : Int32).toNatClampNeg) ≤ (x.1 113 (l3 : Int32).toNatClampNeg) → MT G d z_mayCome 2 [(0, vr 0), (1, vi l1), (2, vi l2), (3, vi (l3 + 1))] [] x P) ∧ (¬ ((x.1 112 (l1 : Int32).toNatClampNeg) ≤ (x.1 113 (l3 : Int32).toNatClampNeg)) → P (some (vi 0)) x))))))))) :
    MT G d z_mayCome 2 [(0, vr 0), (1, vi l1), (2, vi l2), (3, vi l3)] [] x P := by
  refine T_iload_n 3 (dk dt_mayCome 2 rfl) rfl rfl ?_
  refine T_aload_n 0 (dk dt_mayCome 3 rfl) rfl rfl ?_
  refine T_getI 0 107 (dk dt_mayCome 4 rfl) fl_699 mk_0 ml_0 (by decide) rfl ?_
  refine T_icmp_ge 51 (dk dt_mayCome 5 rfl) (by decide) (fun c1 => ?_) (fun c1 => ?_)
  · have h := h.1 c1
    refine T_iload_n 2 (dk dt_mayCome 31 rfl) rfl rfl ?_
    refine T_iload_n 1 (dk dt_mayCome 32 rfl) rfl rfl ?_
    refine T_ishr (dk dt_mayCome 33 rfl) ?_
    refine T_iconst (v := 1) (dk dt_mayCome 34 rfl) (by decide +kernel) ?_
    refine T_iand (dk dt_mayCome 35 rfl) ?_
    refine T_if_ne 63 (dk dt_mayCome 36 rfl) (by decide) (fun c2 => ?_) (fun c2 => ?_)
    · have h := h.1 c2
      refine T_iconst (v := 0) (dk dt_mayCome 39 rfl) (by decide +kernel) ?_
      exact MT_iret (dk dt_mayCome 40 rfl) rfl rfl h
    · have h := h.2 c2
      refine T_iconst (v := 1) (dk dt_mayCome 37 rfl) (by decide +kernel) ?_
      refine T_goto 64 (dk dt_mayCome 38 rfl) (by decide) ?_
      exact MT_iret (dk dt_mayCome 40 rfl) rfl rfl h
  · have h := h.2 c1
    refine T_iload_n 2 (dk dt_mayCome 6 rfl) rfl rfl ?_
    refine T_iload_n 3 (dk dt_mayCome 7 rfl) rfl rfl ?_
    refine T_ishr (dk dt_mayCome 8 rfl) ?_
    refine T_iconst (v := 1) (dk dt_mayCome 9 rfl) (by decide +kernel) ?_
    refine T_iand (dk dt_mayCome 10 rfl) ?_
    refine T_if_ne 45 (dk dt_mayCome 11 rfl) (by decide) (fun c3 => ?_) (fun c3 => ?_)
    · have h := h.1 c3
      refine T_iinc (v := l3 + 1) (lv2 := [(3, vi (l3 + 1)), (0, vr 0), (1, vi l1), (2, vi l2)]) 3 (dk dt_mayCome 29 rfl) rfl rfl (by decide) rfl ?_
      refine T_goto 2 (dk dt_mayCome 30 rfl) (by decide) ?_
      exact T_sub [1, 2, 3, 0] rfl h
    · have h := h.2 c3
      refine T_aload_n 0 (dk dt_mayCome 12 rfl) rfl rfl ?_
      refine T_getR 0 112 113 (dk dt_mayCome 13 rfl) fl_239 mk_0 ml_0 (by decide) rfl rfl ?_
      refine T_iload_n 3 (dk dt_mayCome 14 rfl) rfl rfl ?_
      obtain ⟨h4, h⟩ := h
      refine T_iald 113 14 (dk dt_mayCome 15 rfl) mk_113 ml_113 h4 ?_
      refine T_iconst (v := (-1)) (dk dt_mayCome 16 rfl) (by decide +kernel) ?_
      refine T_icmp_eq 45 (dk dt_mayCome 17 rfl) (by decide) (fun c5 => ?_) (fun c5 => ?_)
      · have h := h.1 c5
        refine T_iinc (v := l3 + 1) (lv2 := [(3, vi (l3 + 1)), (0, vr 0), (1, vi l1), (2, vi l2)]) 3 (dk dt_mayCome 29 rfl) rfl rfl (by decide) rfl ?_
        refine T_goto 2 (dk dt_mayCome 30 rfl) (by decide) ?_
        exact T_sub [1, 2, 3, 0] rfl h
      · have h := h.2 c5
        refine T_aload_n 0 (dk dt_mayCome 18 rfl) rfl rfl ?_
        refine T_getR 0 112 113 (dk dt_mayCome 19 rfl) fl_239 mk_0 ml_0 (by decide) rfl rfl ?_
        refine T_iload_n 3 (dk dt_mayCome 20 rfl) rfl rfl ?_
        obtain ⟨h6, h⟩ := h
        refine T_iald 113 14 (dk dt_mayCome 21 rfl) mk_113 ml_113 h6 ?_
        refine T_aload_n 0 (dk dt_mayCome 22 rfl) rfl rfl ?_
        refine T_getR 0 111 112 (dk dt_mayCome 23 rfl) fl_236 mk_0 ml_0 (by decide) rfl rfl ?_
        refine T_iload_n 1 (dk dt_mayCome 24 rfl) rfl rfl ?_
        obtain ⟨h7, h⟩ := h
        refine T_iald 112 14 (dk dt_mayCome 25 rfl) mk_112 ml_112 h7 ?_
        refine T_icmp_ge 45 (dk dt_mayCome 26 rfl) (by decide) (fun c8 => ?_) (fun c8 => ?_)
        · have h := h.1 c8
          refine T_iinc (v := l3 + 1) (lv2 := [(3, vi (l3 + 1)), (0, vr 0), (1, vi l1), (2, vi l2)]) 3 (dk dt_mayCome 29 rfl) rfl rfl (by decide) rfl ?_
          refine T_goto 2 (dk dt_mayCome 30 rfl) (by decide) ?_
          exact T_sub [1, 2, 3, 0] rfl h
        · have h := h.2 c8
          refine T_iconst (v := 0) (dk dt_mayCome 27 rfl) (by decide +kernel) ?_
          exact MT_iret (dk dt_mayCome 28 rfl) rfl rfl h
set_option maxRecDepth 100000 in
theorem dt_isLinear : dck cX12_isLinear [(0, .iconst 0, 1), (1, .istore_n 2, 1), (2, .iconst 0, 1), (3, .istore_n 3, 1), (4, .iload_n 3, 1), (5, .aload_n 0, 1), (6, .getfield 699, 3), (9, .if_icmp .ge 29, 3), (12, .aload_n 0, 1), (13, .getfield 239, 3), (16, .iload_n 3, 1), (17, .iaload, 1), (18, .iconst (-1), 1), (19, .if_icmp .eq 11, 3), (22, .iload_n 2, 1), (23, .iconst 1, 1), (24, .iload_n 3, 1), (25, .ishl, 1), (26, .ior, 1), (27, .goto 4, 3), (30, .iload_n 2, 1), (31, .istore_n 2, 1), (32, .iinc 3 1, 3), (35, .goto (-31), 3), (38, .iconst 0, 1), (39, .istore_n 3, 1), (40, .iconst 0, 1), (41, .istore 4, 2), (43, .aload_n 0, 1), (44, .getfield 245, 3), (47, .iconst 0, 1), (48, .iconst (-1), 1), (49, .iastore, 1), (50, .iload 4, 2), (52, .ifCond .lt 152, 3), (55, .iload_n 3, 1), (56, .iload_n 2, 1), (57, .iand, 1), (58, .iload_n 2, 1), (59, .if_icmp .ne 5, 3), (62, .iconst 1, 1), (63, .ireturn, 1), (64, .aload_n 0, 1), (65, .getfield 245, 3), (68, .iload 4, 2), (70, .iaload, 1), (71, .iconst 1, 1), (72, .iadd, 1), (73, .istore 5, 2), (75, .iconst 0, 1), (76, .istore 6, 2), (78, .iload 5, 2), (80, .aload_n 0, 1), (81, .getfield 699, 3), (84, .if_icmp .ge 56, 3), (87, .iload 6, 2), (89, .ifCond .ne 51, 3), (92, .aload_n 0, 1), (93, .iload 5, 2), (95, .iload_n 3, 1), (96, .invokevirtual 708, 3), (99, .ifCond .eq 23, 3), (102, .aload_n 0, 1), (103, .getfield 242, 3), (106, .iload 4, 2), (108, .iload 5, 2), (110, .iastore, 1), (111, .aload_n 0, 1), (112, .iload_n 1, 1), (113, .iload 4, 2), (115, .iconst 1, 1), (116, .iadd, 1), (117, .invokevirtual 711, 3), (120, .istore 6, 2), (122, .iload 5, 2), (124, .iload 6, 2), (126, .ifCond .eq 7, 3), (129, .iconst 0, 1), (130, .goto 4, 3), (133, .iconst 1, 1), (134, .iadd, 1), (135, .istore 5, 2), (137, .goto (-59), 3), (140, .iload 6, 2), (142, .ifCond .eq 33, 3), (145, .aload_n 0, 1), (146, .getfield 245, 3), (149, .iload 4, 2), (151, .iload 5, 2), (153, .iastore, 1), (154, .iload_n 3, 1), (155, .iconst 1, 1), (156, .iload 5, 2), (158, .ishl, 1), (159, .ior, 1), (160, .istore_n 3, 1), (161, .iinc 4 1, 3), (164, .aload_n 0, 1), (165, .getfield 245, 3), (168, .iload 4, 2), (170, .iconst (-1), 1), (171, .iastore, 1), (172, .goto 29, 3), (175, .iinc 4 (-1), 3), (178, .iload 4, 2), (180, .ifCond .lt 19, 3), (183, .iload_n 3, 1), (184, .iconst 1, 1), (185, .aload_n 0, 1), (186, .getfield 245, 3), (189, .iload 4, 2), (191, .iaload, 1), (192, .ishl, 1), (193, .iconst (-1), 1), (194, .ixor, 1), (195, .iand, 1), (196, .goto 4, 3), (199, .iload_n 3, 1), (200, .istore_n 3, 1), (201, .goto (-151), 3), (204, .iconst 0, 1), (205, .ireturn, 1)] = true := by decide +kernel
set_option maxRecDepth 100000 in
set_option maxHeartbeats 4000000 in
theorem sg_isLinear_0 {G : mG} {d : Nat} {x : gd} {P : Option gv → gd → Prop} (l1 : Int32)
    (h : MT G (d + 1) z_isLinear 4 [(0, vr 0), (1, vi l1), (2, vi 0), (3, vi 0)] [] x P) :
    MT G (d + 1) z_isLinear 0 [(0, vr 0), (1, vi l1)] [] x P := by
  refine T_iconst (v := 0) (dk dt_isLinear 0 rfl) (by decide +kernel) ?_
  refine T_istore_n (lv2 := [(2, vi 0), (0, vr 0), (1, vi l1)]) (dk dt_isLinear 1 rfl) rfl (by decide) rfl ?_
  refine T_iconst (v := 0) (dk dt_isLinear 2 rfl) (by decide +kernel) ?_
  refine T_istore_n (lv2 := [(3, vi 0), (2, vi 0), (0, vr 0), (1, vi l1)]) (dk dt_isLinear 3 rfl) rfl (by decide) rfl ?_
  exact T_sub [2, 3, 1, 0] rfl h
set_option maxRecDepth 100000 in
set_option maxHeartbeats 4000000 in
theorem sg_isLinear_4 {G : mG} {d : Nat} {x : gd} {P : Option gv → gd → Prop} (l1 : Int32) (l2 : Int32) (l3 : Int32)
    (h : (((x.1 0 107) ≤ l3 → vp_in 0 14 ∧ (∀ x3 : gd, x3 = si x 115 (0 : Int32).toNatClampNeg (-1) → MT G (d + 1) z_isLinear 50 [(0, vr 0), (1, vi l1), (2, vi l2), (3, vi 0), (4, vi 0)] [] x3 P)) ∧ (¬ ((x.1 0 107) ≤ l3) → vp_in l3 14 ∧ (((x.1 113 (l3 : Int32).toNatClampNeg) = (-1 : Int32) → MT G (d + 1) z_isLinear 4 [(0, vr 0), (1, vi l1), (2, vi l2), (3, vi (l3 + 1))] [] x P) ∧ (¬ ((x.1 113 (l3 : Int32).toNatClampNeg) = (-1 : Int32)) → MT G (d + 1) z_isLinear 4 [(0, vr 0), (1, vi l1), (2, vi (l2 ||| (1 <<< (l3 &&& 31 : Int32)))), (3, vi (l3 + 1))] [] x P))))) :
    MT G (d + 1) z_isLinear 4 [(0, vr 0), (1, vi l1), (2, vi l2), (3, vi l3)] [] x P := by
  refine T_iload_n 3 (dk dt_isLinear 4 rfl) rfl rfl ?_
  refine T_aload_n 0 (dk dt_isLinear 5 rfl) rfl rfl ?_
  refine T_getI 0 107 (dk dt_isLinear 6 rfl) fl_699 mk_0 ml_0 (by decide) rfl ?_
  refine T_icmp_ge 38 (dk dt_isLinear 7 rfl) (by decide) (fun c1 => ?_) (fun c1 => ?_)
  · have h := h.1 c1
    refine T_iconst (v := 0) (dk dt_isLinear 24 rfl) (by decide +kernel) ?_
    refine T_istore_n (lv2 := [(3, vi 0), (0, vr 0), (1, vi l1), (2, vi l2)]) (dk dt_isLinear 25 rfl) rfl (by decide) rfl ?_
    refine T_iconst (v := 0) (dk dt_isLinear 26 rfl) (by decide +kernel) ?_
    refine T_istore (lv2 := [(4, vi 0), (3, vi 0), (0, vr 0), (1, vi l1), (2, vi l2)]) (dk dt_isLinear 27 rfl) (by decide) rfl ?_
    refine T_aload_n 2 (dk dt_isLinear 28 rfl) rfl rfl ?_
    refine T_getR 0 114 115 (dk dt_isLinear 29 rfl) fl_245 mk_0 ml_0 (by decide) rfl rfl ?_
    refine T_iconst (v := 0) (dk dt_isLinear 30 rfl) (by decide +kernel) ?_
    refine T_iconst (v := (-1)) (dk dt_isLinear 31 rfl) (by decide +kernel) ?_
    obtain ⟨h2, h⟩ := h
    obtain ⟨x3, ex3⟩ : ∃ z, z = si x 115 (0 : Int32).toNatClampNeg (-1) := ⟨_, rfl⟩
    have h := h x3 ex3
    refine T_iast 115 14 (dk dt_isLinear 32 rfl) mk_115 ml_115 h2 ?_
    rw [← ex3]
    exact T_sub [2, 3, 4, 1, 0] rfl h
  · have h := h.2 c1
    refine T_aload_n 0 (dk dt_isLinear 8 rfl) rfl rfl ?_
    refine T_getR 0 112 113 (dk dt_isLinear 9 rfl) fl_239 mk_0 ml_0 (by decide) rfl rfl ?_
    refine T_iload_n 3 (dk dt_isLinear 10 rfl) rfl rfl ?_
    obtain ⟨h4, h⟩ := h
    refine T_iald 113 14 (dk dt_isLinear 11 rfl) mk_113 ml_113 h4 ?_
    refine T_iconst (v := (-1)) (dk dt_isLinear 12 rfl) (by decide +kernel) ?_
    refine T_icmp_eq 30 (dk dt_isLinear 13 rfl) (by decide) (fun c5 => ?_) (fun c5 => ?_)
    · have h := h.1 c5
      refine T_iload_n 2 (dk dt_isLinear 20 rfl) rfl rfl ?_
      refine T_istore_n (lv2 := [(2, vi l2), (0, vr 0), (1, vi l1), (3, vi l3)]) (dk dt_isLinear 21 rfl) rfl (by decide) rfl ?_
      refine T_iinc (v := l3 + 1) (lv2 := [(3, vi (l3 + 1)), (2, vi l2), (0, vr 0), (1, vi l1)]) 3 (dk dt_isLinear 22 rfl) rfl rfl (by decide) rfl ?_
      refine T_goto 4 (dk dt_isLinear 23 rfl) (by decide) ?_
      exact T_sub [2, 3, 1, 0] rfl h
    · have h := h.2 c5
      refine T_iload_n 2 (dk dt_isLinear 14 rfl) rfl rfl ?_
      refine T_iconst (v := 1) (dk dt_isLinear 15 rfl) (by decide +kernel) ?_
      refine T_iload_n 3 (dk dt_isLinear 16 rfl) rfl rfl ?_
      refine T_ishl (dk dt_isLinear 17 rfl) ?_
      refine T_ior (dk dt_isLinear 18 rfl) ?_
      refine T_goto 31 (dk dt_isLinear 19 rfl) (by decide) ?_
      refine T_istore_n (lv2 := [(2, vi (l2 ||| (1 <<< (l3 &&& 31 : Int32)))), (0, vr 0), (1, vi l1), (3, vi l3)]) (dk dt_isLinear 21 rfl) rfl (by decide) rfl ?_
      refine T_iinc (v := l3 + 1) (lv2 := [(3, vi (l3 + 1)), (2, vi (l2 ||| (1 <<< (l3 &&& 31 : Int32)))), (0, vr 0), (1, vi l1)]) 3 (dk dt_isLinear 22 rfl) rfl rfl (by decide) rfl ?_
      refine T_goto 4 (dk dt_isLinear 23 rfl) (by decide) ?_
      exact T_sub [2, 3, 1, 0] rfl h
set_option maxRecDepth 100000 in
set_option maxHeartbeats 4000000 in
theorem sg_isLinear_50 {G : mG} {d : Nat} {x : gd} {P : Option gv → gd → Prop} (l1 : Int32) (l2 : Int32) (l3 : Int32) (l4 : Int32)
    (h : ((l4 < (0 : Int32) → P (some (vi 0)) x) ∧ (¬ (l4 < (0 : Int32)) → ((¬ ((l3 &&& l2) = l2) → vp_in l4 14 ∧ MT G (d + 1) z_isLinear 78 [(0, vr 0), (1, vi l1), (2, vi l2), (3, vi l3), (4, vi l4), (5, vi ((x.1 115 (l4 : Int32).toNatClampNeg) + 1)), (6, vi 0)] [] x P) ∧ ((l3 &&& l2) = l2 → P (some (vi 1)) x))))) :
    MT G (d + 1) z_isLinear 50 [(0, vr 0), (1, vi l1), (2, vi l2), (3, vi l3), (4, vi l4)] [] x P := by
  refine T_iload 4 (dk dt_isLinear 33 rfl) rfl ?_
  refine T_if_lt 204 (dk dt_isLinear 34 rfl) (by decide) (fun c1 => ?_) (fun c1 => ?_)
  · have h := h.1 c1
    refine T_iconst (v := 0) (dk dt_isLinear 120 rfl) (by decide +kernel) ?_
    exact MT_iret (dk dt_isLinear 121 rfl) rfl rfl h
  · have h := h.2 c1
    refine T_iload_n 3 (dk dt_isLinear 35 rfl) rfl rfl ?_
    refine T_iload_n 2 (dk dt_isLinear 36 rfl) rfl rfl ?_
    refine T_iand (dk dt_isLinear 37 rfl) ?_
    refine T_iload_n 2 (dk dt_isLinear 38 rfl) rfl rfl ?_
    refine T_icmp_ne 64 (dk dt_isLinear 39 rfl) (by decide) (fun c2 => ?_) (fun c2 => ?_)
    · have h := h.1 c2
      refine T_aload_n 0 (dk dt_isLinear 42 rfl) rfl rfl ?_
      refine T_getR 0 114 115 (dk dt_isLinear 43 rfl) fl_245 mk_0 ml_0 (by decide) rfl rfl ?_
      refine T_iload 4 (dk dt_isLinear 44 rfl) rfl ?_
      obtain ⟨h3, h⟩ := h
      refine T_iald 115 14 (dk dt_isLinear 45 rfl) mk_115 ml_115 h3 ?_
      refine T_iconst (v := 1) (dk dt_isLinear 46 rfl) (by decide +kernel) ?_
      refine T_iadd (dk dt_isLinear 47 rfl) ?_
      refine T_istore (lv2 := [(5, vi ((x.1 115 (l4 : Int32).toNatClampNeg) + 1)), (0, vr 0), (1, vi l1), (2, vi l2), (3, vi l3), (4, vi l4)]) (dk dt_isLinear 48 rfl) (by decide) rfl ?_
      refine T_iconst (v := 0) (dk dt_isLinear 49 rfl) (by decide +kernel) ?_
      refine T_istore (lv2 := [(6, vi 0), (5, vi ((x.1 115 (l4 : Int32).toNatClampNeg) + 1)), (0, vr 0), (1, vi l1), (2, vi l2), (3, vi l3), (4, vi l4)]) (dk dt_isLinear 50 rfl) (by decide) rfl ?_
      exact T_sub [2, 3, 4, 5, 6, 1, 0] rfl h
    · have h := h.2 c2
      refine T_iconst (v := 1) (dk dt_isLinear 40 rfl) (by decide +kernel) ?_
      exact MT_iret (dk dt_isLinear 41 rfl) rfl rfl h
set_option maxRecDepth 100000 in
set_option maxHeartbeats 4000000 in
theorem sg_isLinear_78 {G : mG} {d : Nat} {x : gd} {P : Option gv → gd → Prop} (l1 : Int32) (l2 : Int32) (l3 : Int32) (l4 : Int32) (l5 : Int32) (l6 : Int32)
    (h : (((x.1 0 107) ≤ l5 → MT G (d + 1) z_isLinear 140 [(0, vr 0), (1, vi l1), (2, vi l2), (3, vi l3), (4, vi l4), (5, vi l5), (6, vi l6)] [] x P) ∧ (¬ ((x.1 0 107) ≤ l5) → ((¬ (l6 = (0 : Int32)) → MT G (d + 1) z_isLinear 140 [(0, vr 0), (1, vi l1), (2, vi l2), (3, vi l3), (4, vi l4), (5, vi l5), (6, vi l6)] [] x P) ∧ (l6 = (0 : Int32) → MT G d z_mayCome 0 [(0, vr 0), (1, vi l5), (2, vi l3)] [] x (ri (fun r4 x3 => ((r4 = (0 : Int32) → MT G (d + 1) z_isLinear 122 [(0, vr 0), (1, vi l1), (2, vi l2), (3, vi l3), (4, vi l4), (5, vi l5), (6, vi l6)] [] x3 P) ∧ (¬ (r4 = (0 : Int32)) → vp_in l4 14 ∧ (∀ x7 : gd, x7 = si x3 114 (l4 : Int32).toNatClampNeg l5 → MT G d z_fits 0 [(0, vr 0), (1, vi l1), (2, vi (l4 + 1))] [] x7 (ri (fun r9 x8 => MT G (d + 1) z_isLinear 122 [(0, vr 0), (1, vi l1), (2, vi l2), (3, vi l3), (4, vi l4), (5, vi l5), (6, vi r9)] [] x8 P)))))))))))) :
    MT G (d + 1) z_isLinear 78 [(0, vr 0), (1, vi l1), (2, vi l2), (3, vi l3), (4, vi l4), (5, vi l5), (6, vi l6)] [] x P := by
  refine T_iload 5 (dk dt_isLinear 51 rfl) rfl ?_
  refine T_aload_n 0 (dk dt_isLinear 52 rfl) rfl rfl ?_
  refine T_getI 0 107 (dk dt_isLinear 53 rfl) fl_699 mk_0 ml_0 (by decide) rfl ?_
  refine T_icmp_ge 140 (dk dt_isLinear 54 rfl) (by decide) (fun c1 => ?_) (fun c1 => ?_)
  · have h := h.1 c1
    exact h
  · have h := h.2 c1
    refine T_iload 6 (dk dt_isLinear 55 rfl) rfl ?_
    refine T_if_ne 140 (dk dt_isLinear 56 rfl) (by decide) (fun c2 => ?_) (fun c2 => ?_)
    · have h := h.1 c2
      exact h
    · have h := h.2 c2
      refine T_aload_n 0 (dk dt_isLinear 57 rfl) rfl rfl ?_
      refine T_iload 5 (dk dt_isLinear 58 rfl) rfl ?_
      refine T_iload_n 3 (dk dt_isLinear 59 rfl) rfl rfl ?_
      refine MT_callVi [vi l5, vi l3] [] rfl (dk dt_isLinear 60 rfl) cv_708 rfl rfl (Nat.le_of_ble_eq_true rfl) (Nat.le_of_ble_eq_true rfl) rfl rfl h (fun r4 x3 h => ?_)
      refine T_if_eq 122 (dk dt_isLinear 61 rfl) (by decide) (fun c5 => ?_) (fun c5 => ?_)
      · have h := h.1 c5
        exact h
      · have h := h.2 c5
        refine T_aload_n 0 (dk dt_isLinear 62 rfl) rfl rfl ?_
        refine T_getR 0 113 114 (dk dt_isLinear 63 rfl) fl_242 mk_0 ml_0 (by decide) rfl rfl ?_
        refine T_iload 4 (dk dt_isLinear 64 rfl) rfl ?_
        refine T_iload 5 (dk dt_isLinear 65 rfl) rfl ?_
        obtain ⟨h6, h⟩ := h
        obtain ⟨x7, ex7⟩ : ∃ z, z = si x3 114 (l4 : Int32).toNatClampNeg l5 := ⟨_, rfl⟩
        have h := h x7 ex7
        refine T_iast 114 14 (dk dt_isLinear 66 rfl) mk_114 ml_114 h6 ?_
        rw [← ex7]
        refine T_aload_n 0 (dk dt_isLinear 67 rfl) rfl rfl ?_
        refine T_iload_n 1 (dk dt_isLinear 68 rfl) rfl rfl ?_
        refine T_iload 4 (dk dt_isLinear 69 rfl) rfl ?_
        refine T_iconst (v := 1) (dk dt_isLinear 70 rfl) (by decide +kernel) ?_
        refine T_iadd (dk dt_isLinear 71 rfl) ?_
        refine MT_callVi [vi l1, vi (l4 + 1)] [] rfl (dk dt_isLinear 72 rfl) cv_711 rfl rfl (Nat.le_of_ble_eq_true rfl) (Nat.le_of_ble_eq_true rfl) rfl rfl h (fun r9 x8 h => ?_)
        refine T_istore (lv2 := [(6, vi r9), (0, vr 0), (1, vi l1), (2, vi l2), (3, vi l3), (4, vi l4), (5, vi l5)]) (dk dt_isLinear 73 rfl) (by decide) rfl ?_
        exact T_sub [1, 2, 3, 4, 5, 6, 0] rfl h
set_option maxRecDepth 100000 in
set_option maxHeartbeats 4000000 in
theorem sg_isLinear_122 {G : mG} {d : Nat} {x : gd} {P : Option gv → gd → Prop} (l1 : Int32) (l2 : Int32) (l3 : Int32) (l4 : Int32) (l5 : Int32) (l6 : Int32)
    (h : ((l6 = (0 : Int32) → MT G (d + 1) z_isLinear 78 [(0, vr 0), (1, vi l1), (2, vi l2), (3, vi l3), (4, vi l4), (5, vi (l5 + 1)), (6, vi l6)] [] x P) ∧ (¬ (l6 = (0 : Int32)) → MT G (d + 1) z_isLinear 78 [(0, vr 0), (1, vi l1), (2, vi l2), (3, vi l3), (4, vi l4), (5, vi (l5 + 0)), (6, vi l6)] [] x P))) :
    MT G (d + 1) z_isLinear 122 [(0, vr 0), (1, vi l1), (2, vi l2), (3, vi l3), (4, vi l4), (5, vi l5), (6, vi l6)] [] x P := by
  refine T_iload 5 (dk dt_isLinear 74 rfl) rfl ?_
  refine T_iload 6 (dk dt_isLinear 75 rfl) rfl ?_
  refine T_if_eq 133 (dk dt_isLinear 76 rfl) (by decide) (fun c1 => ?_) (fun c1 => ?_)
  · have h := h.1 c1
    refine T_iconst (v := 1) (dk dt_isLinear 79 rfl) (by decide +kernel) ?_
    refine T_iadd (dk dt_isLinear 80 rfl) ?_
    refine T_istore (lv2 := [(5, vi (l5 + 1)), (0, vr 0), (1, vi l1), (2, vi l2), (3, vi l3), (4, vi l4), (6, vi l6)]) (dk dt_isLinear 81 rfl) (by decide) rfl ?_
    refine T_goto 78 (dk dt_isLinear 82 rfl) (by decide) ?_
    exact T_sub [1, 2, 3, 4, 5, 0, 6] rfl h
  · have h := h.2 c1
    refine T_iconst (v := 0) (dk dt_isLinear 77 rfl) (by decide +kernel) ?_
    refine T_goto 134 (dk dt_isLinear 78 rfl) (by decide) ?_
    refine T_iadd (dk dt_isLinear 80 rfl) ?_
    refine T_istore (lv2 := [(5, vi (l5 + 0)), (0, vr 0), (1, vi l1), (2, vi l2), (3, vi l3), (4, vi l4), (6, vi l6)]) (dk dt_isLinear 81 rfl) (by decide) rfl ?_
    refine T_goto 78 (dk dt_isLinear 82 rfl) (by decide) ?_
    exact T_sub [1, 2, 3, 4, 5, 0, 6] rfl h
set_option maxRecDepth 100000 in
set_option maxHeartbeats 4000000 in
theorem sg_isLinear_140 {G : mG} {d : Nat} {x : gd} {P : Option gv → gd → Prop} (l1 : Int32) (l2 : Int32) (l3 : Int32) (l4 : Int32) (l5 : Int32) (l6 : Int32)
    (h : ((l6 = (0 : Int32) → (((l4 + (-1)) < (0 : Int32) → MT G (d + 1) z_isLinear 50 [(0, vr 0), (1, vi l1), (2, vi l2), (3, vi l3), (4, vi (l4 + (-1)))] [] x P) ∧ (¬ ((l4 + (-1)) < (0 : Int32)) → vp_in (l4 + (-1)) 14 ∧ MT G (d + 1) z_isLinear 50 [(0, vr 0), (1, vi l1), (2, vi l2), (3, vi (l3 &&& ((1 <<< ((x.1 115 (l4 + (-1) : Int32).toNatClampNeg) &&& 31 : Int32)) ^^^ (-1)))), (4, vi (l4 + (-1)))] [] x P))) ∧ (¬ (l6 = (0 : Int32)) → vp_in l4 14 ∧ (∀ x5 : gd, x5 = si x 115 (l4 : Int32).toNatClampNeg l5 → vp_in (l4 + 1) 14 ∧ (∀ x7 : gd, x7 = si x5 115 (l4 + 1 : Int32).toNatClampNeg (-1) → MT G (d + 1) z_isLinear 50 [(0, vr 0), (1, vi l1), (2, vi l2), (3, vi (l3 ||| (1 <<< (l5 &&& 31 : Int32)))), (4, vi (l4 + 1))] [] x7 P))))) :
    MT G (d + 1) z_isLinear 140 [(0, vr 0), (1, vi l1), (2, vi l2), (3, vi l3), (4, vi l4), (5, vi l5), (6, vi l6)] [] x P := by
  refine T_iload 6 (dk dt_isLinear 83 rfl) rfl ?_
  refine T_if_eq 175 (dk dt_isLinear 84 rfl) (by decide) (fun c1 => ?_) (fun c1 => ?_)
  · have h := h.1 c1
    refine T_iinc (v := l4 + (-1)) (lv2 := [(4, vi (l4 + (-1))), (0, vr 0), (1, vi l1), (2, vi l2), (3, vi l3), (5, vi l5), (6, vi l6)]) 4 (dk dt_isLinear 103 rfl) rfl rfl (by decide) rfl ?_
    refine T_iload 0 (dk dt_isLinear 104 rfl) rfl ?_
    refine T_if_lt 199 (dk dt_isLinear 105 rfl) (by decide) (fun c2 => ?_) (fun c2 => ?_)
    · have h := h.1 c2
      refine T_iload_n 4 (dk dt_isLinear 117 rfl) rfl rfl ?_
      refine T_istore_n (lv2 := [(3, vi l3), (4, vi (l4 + (-1))), (0, vr 0), (1, vi l1), (2, vi l2), (5, vi l5), (6, vi l6)]) (dk dt_isLinear 118 rfl) rfl (by decide) rfl ?_
      refine T_goto 50 (dk dt_isLinear 119 rfl) (by decide) ?_
      exact T_sub [2, 3, 4, 0, 1] rfl h
    · have h := h.2 c2
      refine T_iload_n 4 (dk dt_isLinear 106 rfl) rfl rfl ?_
      refine T_iconst (v := 1) (dk dt_isLinear 107 rfl) (by decide +kernel) ?_
      refine T_aload_n 1 (dk dt_isLinear 108 rfl) rfl rfl ?_
      refine T_getR 0 114 115 (dk dt_isLinear 109 rfl) fl_245 mk_0 ml_0 (by decide) rfl rfl ?_
      refine T_iload 0 (dk dt_isLinear 110 rfl) rfl ?_
      obtain ⟨h3, h⟩ := h
      refine T_iald 115 14 (dk dt_isLinear 111 rfl) mk_115 ml_115 h3 ?_
      refine T_ishl (dk dt_isLinear 112 rfl) ?_
      refine T_iconst (v := (-1)) (dk dt_isLinear 113 rfl) (by decide +kernel) ?_
      refine T_ixor (dk dt_isLinear 114 rfl) ?_
      refine T_iand (dk dt_isLinear 115 rfl) ?_
      refine T_goto 200 (dk dt_isLinear 116 rfl) (by decide) ?_
      refine T_istore_n (lv2 := [(3, vi (l3 &&& ((1 <<< ((x.1 115 (l4 + (-1) : Int32).toNatClampNeg) &&& 31 : Int32)) ^^^ (-1)))), (4, vi (l4 + (-1))), (0, vr 0), (1, vi l1), (2, vi l2), (5, vi l5), (6, vi l6)]) (dk dt_isLinear 118 rfl) rfl (by decide) rfl ?_
      refine T_goto 50 (dk dt_isLinear 119 rfl) (by decide) ?_
      exact T_sub [2, 3, 4, 0, 1] rfl h
  · have h := h.2 c1
    refine T_aload_n 0 (dk dt_isLinear 85 rfl) rfl rfl ?_
    refine T_getR 0 114 115 (dk dt_isLinear 86 rfl) fl_245 mk_0 ml_0 (by decide) rfl rfl ?_
    refine T_iload 4 (dk dt_isLinear 87 rfl) rfl ?_
    refine T_iload 5 (dk dt_isLinear 88 rfl) rfl ?_
    obtain ⟨h4, h⟩ := h
    obtain ⟨x5, ex5⟩ : ∃ z, z = si x 115 (l4 : Int32).toNatClampNeg l5 := ⟨_, rfl⟩
    have h := h x5 ex5
    refine T_iast 115 14 (dk dt_isLinear 89 rfl) mk_115 ml_115 h4 ?_
    rw [← ex5]
    refine T_iload_n 3 (dk dt_isLinear 90 rfl) rfl rfl ?_
    refine T_iconst (v := 1) (dk dt_isLinear 91 rfl) (by decide +kernel) ?_
    refine T_iload 5 (dk dt_isLinear 92 rfl) rfl ?_
    refine T_ishl (dk dt_isLinear 93 rfl) ?_
    refine T_ior (dk dt_isLinear 94 rfl) ?_
    refine T_istore_n (lv2 := [(3, vi (l3 ||| (1 <<< (l5 &&& 31 : Int32)))), (0, vr 0), (1, vi l1), (2, vi l2), (4, vi l4), (5, vi l5), (6, vi l6)]) (dk dt_isLinear 95 rfl) rfl (by decide) rfl ?_
    refine T_iinc (v := l4 + 1) (lv2 := [(4, vi (l4 + 1)), (3, vi (l3 ||| (1 <<< (l5 &&& 31 : Int32)))), (0, vr 0), (1, vi l1), (2, vi l2), (5, vi l5), (6, vi l6)]) 4 (dk dt_isLinear 96 rfl) rfl rfl (by decide) rfl ?_
    refine T_aload_n 2 (dk dt_isLinear 97 rfl) rfl rfl ?_
    refine T_getR 0 114 115 (dk dt_isLinear 98 rfl) fl_245 mk_0 ml_0 (by decide) rfl rfl ?_
    refine T_iload 0 (dk dt_isLinear 99 rfl) rfl ?_
    refine T_iconst (v := (-1)) (dk dt_isLinear 100 rfl) (by decide +kernel) ?_
    obtain ⟨h6, h⟩ := h
    obtain ⟨x7, ex7⟩ : ∃ z, z = si x5 115 (l4 + 1 : Int32).toNatClampNeg (-1) := ⟨_, rfl⟩
    have h := h x7 ex7
    refine T_iast 115 14 (dk dt_isLinear 101 rfl) mk_115 ml_115 h6 ?_
    rw [← ex7]
    refine T_goto 201 (dk dt_isLinear 102 rfl) (by decide) ?_
    refine T_goto 50 (dk dt_isLinear 119 rfl) (by decide) ?_
    exact T_sub [2, 3, 4, 1, 0] rfl h
set_option maxRecDepth 100000 in
theorem dt_linear : dck cX12_linear [(0, .aload_n 0, 1), (1, .iconst 0, 1), (2, .putfield 316, 3), (5, .aload_n 0, 1), (6, .invokevirtual 680, 3), (9, .ifCond .ne 25, 3), (12, .aload_n 0, 1), (13, .iload_n 1, 1), (14, .iconst 0, 1), (15, .iconst 3, 1), (16, .invokestatic 322, 3), (19, .ifCond .ne 7, 3), (22, .iconst 1, 1), (23, .goto 4, 3), (26, .iconst 0, 1), (27, .iconst 2, 1), (28, .invokevirtual 558, 3), (31, .ifCond .eq 5, 3), (34, .iconst 0, 1), (35, .ireturn, 1), (36, .aload_n 0, 1), (37, .sipush 1000, 3), (40, .invokevirtual 714, 3), (43, .istore_n 2, 1), (44, .aload_n 0, 1), (45, .getfield 699, 3), (48, .bipush 12, 2), (50, .if_icmp .le 5, 3), (53, .iconst (-1), 1), (54, .ireturn, 1), (55, .iconst 1, 1), (56, .istore_n 3, 1), (57, .iload_n 3, 1), (58, .iload_n 2, 1), (59, .if_icmp .gt 29, 3), (62, .aload_n 0, 1), (63, .iload_n 3, 1), (64, .invokevirtual 714, 3), (67, .istore 4, 2), (69, .aload_n 0, 1), (70, .iload_n 1, 1), (71, .invokevirtual 717, 3), (74, .ifCond .ne 8, 3), (77, .bipush (-2), 2), (79, .iload_n 3, 1), (80, .isub, 1), (81, .ireturn, 1), (82, .iinc 3 1, 3), (85, .goto (-28), 3), (88, .iconst 1, 1), (89, .ireturn, 1)] = true := by decide +kernel
set_option maxRecDepth 100000 in
set_option maxHeartbeats 4000000 in
theorem sg_linear_0 {G : mG} {d : Nat} {x : gd} {P : Option gv → gd → Prop} (l1 : Int32)
    (h : (∀ x1 : gd, x1 = si x 0 0 0 → MT G d z_noRun 0 [(0, vr 0)] [] x1 (ri (fun r3 x2 => ((¬ (r3 = (0 : Int32)) → P (some (vi 0)) x2) ∧ (r3 = (0 : Int32) → MT G d z_in 0 [(0, vi l1), (1, vi 0), (2, vi 3)] [] x2 (ri (fun r6 x5 => ((¬ (r6 = (0 : Int32)) → MT G (d + 1) z_linear 27 [(0, vr 0), (1, vi l1)] [vi 0, vr 0] x5 P) ∧ (r6 = (0 : Int32) → MT G (d + 1) z_linear 27 [(0, vr 0), (1, vi l1)] [vi 1, vr 0] x5 P)))))))))) :
    MT G (d + 1) z_linear 0 [(0, vr 0), (1, vi l1)] [] x P := by
  refine T_aload_n 0 (dk dt_linear 0 rfl) rfl rfl ?_
  refine T_iconst (v := 0) (dk dt_linear 1 rfl) (by decide +kernel) ?_
  obtain ⟨x1, ex1⟩ : ∃ z, z = si x 0 0 0 := ⟨_, rfl⟩
  have h := h x1 ex1
  refine T_putI 0 0 (dk dt_linear 2 rfl) fl_316 mk_0 ml_0 (by decide) rfl ⟨rfl, rfl⟩ ?_
  rw [← ex1]
  refine T_aload_n 0 (dk dt_linear 3 rfl) rfl rfl ?_
  refine MT_callVi [] [] rfl (dk dt_linear 4 rfl) cv_680 rfl rfl (Nat.le_of_ble_eq_true rfl) (Nat.le_of_ble_eq_true rfl) rfl rfl h (fun r3 x2 h => ?_)
  refine T_if_ne 34 (dk dt_linear 5 rfl) (by decide) (fun c4 => ?_) (fun c4 => ?_)
  · have h := h.1 c4
    refine T_iconst (v := 0) (dk dt_linear 18 rfl) (by decide +kernel) ?_
    exact MT_iret (dk dt_linear 19 rfl) rfl rfl h
  · have h := h.2 c4
    refine T_aload_n 0 (dk dt_linear 6 rfl) rfl rfl ?_
    refine T_iload_n 1 (dk dt_linear 7 rfl) rfl rfl ?_
    refine T_iconst (v := 0) (dk dt_linear 8 rfl) (by decide +kernel) ?_
    refine T_iconst (v := 3) (dk dt_linear 9 rfl) (by decide +kernel) ?_
    refine MT_callSi [vi l1, vi 0, vi 3] [vr 0] rfl (dk dt_linear 10 rfl) cs_322 rfl (Nat.le_of_ble_eq_true rfl) (Nat.le_of_ble_eq_true rfl) rfl rfl h (fun r6 x5 h => ?_)
    refine T_if_ne 26 (dk dt_linear 11 rfl) (by decide) (fun c7 => ?_) (fun c7 => ?_)
    · have h := h.1 c7
      refine T_iconst (v := 0) (dk dt_linear 14 rfl) (by decide +kernel) ?_
      exact h
    · have h := h.2 c7
      refine T_iconst (v := 1) (dk dt_linear 12 rfl) (by decide +kernel) ?_
      refine T_goto 27 (dk dt_linear 13 rfl) (by decide) ?_
      exact h
set_option maxRecDepth 100000 in
set_option maxHeartbeats 4000000 in
theorem sg_linear_27 {G : mG} {d : Nat} {x : gd} {P : Option gv → gd → Prop} (l1 : Int32) (s0 : Int32)
    (h : MT G d z_refuses 0 [(0, vr 0), (1, vi s0), (2, vi 2)] [] x (ri (fun r2 x1 => ((r2 = (0 : Int32) → MT G d z_takeCalls 0 [(0, vr 0), (1, vi 1000)] [] x1 (ri (fun r5 x4 => (((x4.1 0 107) ≤ (12 : Int32) → MT G (d + 1) z_linear 57 [(0, vr 0), (1, vi l1), (2, vi r5), (3, vi 1)] [] x4 P) ∧ (¬ ((x4.1 0 107) ≤ (12 : Int32)) → P (some (vi (-1))) x4))))) ∧ (¬ (r2 = (0 : Int32)) → P (some (vi 0)) x1))))) :
    MT G (d + 1) z_linear 27 [(0, vr 0), (1, vi l1)] [vi s0, vr 0] x P := by
  refine T_iconst (v := 2) (dk dt_linear 15 rfl) (by decide +kernel) ?_
  refine MT_callVi [vi s0, vi 2] [] rfl (dk dt_linear 16 rfl) cv_558 rfl rfl (Nat.le_of_ble_eq_true rfl) (Nat.le_of_ble_eq_true rfl) rfl rfl h (fun r2 x1 h => ?_)
  refine T_if_eq 36 (dk dt_linear 17 rfl) (by decide) (fun c3 => ?_) (fun c3 => ?_)
  · have h := h.1 c3
    refine T_aload_n 0 (dk dt_linear 20 rfl) rfl rfl ?_
    refine T_sipush (v := 1000) (dk dt_linear 21 rfl) (by decide +kernel) ?_
    refine MT_callVi [vi 1000] [] rfl (dk dt_linear 22 rfl) cv_714 rfl rfl (Nat.le_of_ble_eq_true rfl) (Nat.le_of_ble_eq_true rfl) rfl rfl h (fun r5 x4 h => ?_)
    refine T_istore_n (lv2 := [(2, vi r5), (0, vr 0), (1, vi l1)]) (dk dt_linear 23 rfl) rfl (by decide) rfl ?_
    refine T_aload_n 1 (dk dt_linear 24 rfl) rfl rfl ?_
    refine T_getI 0 107 (dk dt_linear 25 rfl) fl_699 mk_0 ml_0 (by decide) rfl ?_
    refine T_bipush (v := 12) (dk dt_linear 26 rfl) (by decide +kernel) ?_
    refine T_icmp_le 55 (dk dt_linear 27 rfl) (by decide) (fun c6 => ?_) (fun c6 => ?_)
    · have h := h.1 c6
      refine T_iconst (v := 1) (dk dt_linear 30 rfl) (by decide +kernel) ?_
      refine T_istore_n (lv2 := [(3, vi 1), (2, vi r5), (0, vr 0), (1, vi l1)]) (dk dt_linear 31 rfl) rfl (by decide) rfl ?_
      exact T_sub [2, 3, 1, 0] rfl h
    · have h := h.2 c6
      refine T_iconst (v := (-1)) (dk dt_linear 28 rfl) (by decide +kernel) ?_
      exact MT_iret (dk dt_linear 29 rfl) rfl rfl h
  · have h := h.2 c3
    refine T_iconst (v := 0) (dk dt_linear 18 rfl) (by decide +kernel) ?_
    exact MT_iret (dk dt_linear 19 rfl) rfl rfl h
set_option maxRecDepth 100000 in
set_option maxHeartbeats 4000000 in
theorem sg_linear_57 {G : mG} {d : Nat} {x : gd} {P : Option gv → gd → Prop} (l1 : Int32) (l2 : Int32) (l3 : Int32)
    (h : ((l2 < l3 → P (some (vi 1)) x) ∧ (¬ (l2 < l3) → MT G d z_takeCalls 0 [(0, vr 0), (1, vi l3)] [] x (ri (fun r3 x2 => MT G d z_isLinear 0 [(0, vr 0), (1, vi l1)] [] x2 (ri (fun r5 x4 => ((¬ (r5 = (0 : Int32)) → MT G (d + 1) z_linear 57 [(0, vr 0), (1, vi l1), (2, vi l2), (3, vi (l3 + 1))] [] x4 P) ∧ (r5 = (0 : Int32) → P (some (vi ((-2) - l3))) x4))))))))) :
    MT G (d + 1) z_linear 57 [(0, vr 0), (1, vi l1), (2, vi l2), (3, vi l3)] [] x P := by
  refine T_iload_n 3 (dk dt_linear 32 rfl) rfl rfl ?_
  refine T_iload_n 2 (dk dt_linear 33 rfl) rfl rfl ?_
  refine T_icmp_gt 88 (dk dt_linear 34 rfl) (by decide) (fun c1 => ?_) (fun c1 => ?_)
  · have h := h.1 c1
    refine T_iconst (v := 1) (dk dt_linear 49 rfl) (by decide +kernel) ?_
    exact MT_iret (dk dt_linear 50 rfl) rfl rfl h
  · have h := h.2 c1
    refine T_aload_n 0 (dk dt_linear 35 rfl) rfl rfl ?_
    refine T_iload_n 3 (dk dt_linear 36 rfl) rfl rfl ?_
    refine MT_callVi [vi l3] [] rfl (dk dt_linear 37 rfl) cv_714 rfl rfl (Nat.le_of_ble_eq_true rfl) (Nat.le_of_ble_eq_true rfl) rfl rfl h (fun r3 x2 h => ?_)
    refine T_istore (lv2 := [(4, vi r3), (0, vr 0), (1, vi l1), (2, vi l2), (3, vi l3)]) (dk dt_linear 38 rfl) (by decide) rfl ?_
    refine T_aload_n 1 (dk dt_linear 39 rfl) rfl rfl ?_
    refine T_iload_n 2 (dk dt_linear 40 rfl) rfl rfl ?_
    refine MT_callVi [vi l1] [] rfl (dk dt_linear 41 rfl) cv_717 rfl rfl (Nat.le_of_ble_eq_true rfl) (Nat.le_of_ble_eq_true rfl) rfl rfl h (fun r5 x4 h => ?_)
    refine T_if_ne 82 (dk dt_linear 42 rfl) (by decide) (fun c6 => ?_) (fun c6 => ?_)
    · have h := h.1 c6
      refine T_iinc (v := l3 + 1) (lv2 := [(3, vi (l3 + 1)), (4, vi r3), (0, vr 0), (1, vi l1), (2, vi l2)]) 4 (dk dt_linear 47 rfl) rfl rfl (by decide) rfl ?_
      refine T_goto 57 (dk dt_linear 48 rfl) (by decide) ?_
      exact T_sub [2, 3, 4, 0] rfl h
    · have h := h.2 c6
      refine T_bipush (v := (-2)) (dk dt_linear 43 rfl) (by decide +kernel) ?_
      refine T_iload_n 4 (dk dt_linear 44 rfl) rfl rfl ?_
      refine T_isub (dk dt_linear 45 rfl) ?_
      exact MT_iret (dk dt_linear 46 rfl) rfl rfl h
