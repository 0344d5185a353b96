set_option maxRecDepth 100000 in
theorem dt_tryAll : dck cX12_tryAll [(0, .aload_n 0, 1), (1, .iload_n 1, 1), (2, .invokevirtual 740, 3), (5, .iconst 0, 1), (6, .istore_n 3, 1), (7, .iload_n 3, 1), (8, .sipush 4096, 3), (11, .if_icmp .ge 16, 3), (14, .aload_n 0, 1), (15, .getfield 304, 3), (18, .iload_n 3, 1), (19, .iconst (-1), 1), (20, .iastore, 1), (21, .iinc 3 1, 3), (24, .goto (-17), 3), (27, .aload_n 0, 1), (28, .invokevirtual 650, 3), (31, .aload_n 0, 1), (32, .iload_n 1, 1), (33, .invokevirtual 743, 3), (36, .istore_n 3, 1), (37, .aload_n 0, 1), (38, .getfield 257, 3), (41, .iload_n 1, 1), (42, .iconst 1, 1), (43, .iastore, 1), (44, .aload_n 0, 1), (45, .getfield 288, 3), (48, .sipush 3000, 3), (51, .iload_n 1, 1), (52, .imul, 1), (53, .iconst (-1), 1), (54, .iastore, 1), (55, .aload_n 0, 1), (56, .getfield 294, 3), (59, .sipush 3000, 3), (62, .iload_n 1, 1), (63, .imul, 1), (64, .iconst 0, 1), (65, .iastore, 1), (66, .aload_n 0, 1), (67, .iload_n 1, 1), (68, .iconst 0, 1), (69, .invokevirtual 746, 3), (72, .iconst 0, 1), (73, .istore 4, 2), (75, .iload 4, 2), (77, .aload_n 0, 1), (78, .getfield 257, 3), (81, .iload_n 1, 1), (82, .iaload, 1), (83, .if_icmp .ge 237, 3), (86, .aload_n 0, 1), (87, .getfield 260, 3), (90, .iload_n 1, 1), (91, .baload, 1), (92, .ifCond .ne 228, 3), (95, .aload_n 0, 1), (96, .aload_n 0, 1), (97, .getfield 298, 3), (100, .sipush 240, 3), (103, .iload 4, 2), (105, .imul, 1), (106, .invokevirtual 749, 3), (109, .aload_n 0, 1), (110, .invokevirtual 653, 3), (113, .aload_n 0, 1), (114, .getfield 611, 3), (117, .istore 5, 2), (119, .iconst 0, 1), (120, .istore 6, 2), (122, .iload 6, 2), (124, .iload 5, 2), (126, .if_icmp .ge 188, 3), (129, .aload_n 0, 1), (130, .getfield 260, 3), (133, .iload_n 1, 1), (134, .baload, 1), (135, .ifCond .ne 179, 3), (138, .aload_n 0, 1), (139, .aload_n 0, 1), (140, .getfield 298, 3), (143, .sipush 240, 3), (146, .iload 4, 2), (148, .imul, 1), (149, .invokevirtual 749, 3), (152, .aload_n 0, 1), (153, .invokevirtual 653, 3), (156, .aload_n 0, 1), (157, .getfield 187, 3), (160, .iload 6, 2), (162, .iaload, 1), (163, .iconst (-1), 1), (164, .if_icmp .eq 24, 3), (167, .aload_n 0, 1), (168, .aload_n 0, 1), (169, .getfield 184, 3), (172, .iload 6, 2), (174, .iaload, 1), (175, .aload_n 0, 1), (176, .getfield 187, 3), (179, .iload 6, 2), (181, .iaload, 1), (182, .invokevirtual 659, 3), (185, .goto 21, 3), (188, .aload_n 0, 1), (189, .aload_n 0, 1), (190, .getfield 184, 3), (193, .iload 6, 2), (195, .iaload, 1), (196, .aload_n 0, 1), (197, .getfield 190, 3), (200, .iload 6, 2), (202, .iaload, 1), (203, .invokevirtual 662, 3), (206, .aload_n 0, 1), (207, .iload_n 1, 1), (208, .invokevirtual 743, 3), (211, .istore_n 3, 1), (212, .iload_n 3, 1), (213, .aload_n 0, 1), (214, .getfield 257, 3), (217, .iload_n 1, 1), (218, .iaload, 1), (219, .if_icmp .ne 89, 3), (222, .iload_n 3, 1), (223, .iload_n 2, 1), (224, .if_icmp .ne 13, 3), (227, .aload_n 0, 1), (228, .getfield 260, 3), (231, .iload_n 1, 1), (232, .iconst 1, 1), (233, .bastore, 1), (234, .goto 74, 3), (237, .aload_n 0, 1), (238, .getfield 288, 3), (241, .sipush 3000, 3), (244, .iload_n 1, 1), (245, .imul, 1), (246, .iload_n 3, 1), (247, .iadd, 1), (248, .iload 4, 2), (250, .iastore, 1), (251, .aload_n 0, 1), (252, .getfield 291, 3), (255, .sipush 3000, 3), (258, .iload_n 1, 1), (259, .imul, 1), (260, .iload_n 3, 1), (261, .iadd, 1), (262, .iload 6, 2), (264, .iastore, 1), (265, .aload_n 0, 1), (266, .getfield 294, 3), (269, .sipush 3000, 3), (272, .iload_n 1, 1), (273, .imul, 1), (274, .iload_n 3, 1), (275, .iadd, 1), (276, .aload_n 0, 1), (277, .getfield 294, 3), (280, .sipush 3000, 3), (283, .iload_n 1, 1), (284, .imul, 1), (285, .iload 4, 2), (287, .iadd, 1), (288, .iaload, 1), (289, .iconst 1, 1), (290, .iadd, 1), (291, .iastore, 1), (292, .aload_n 0, 1), (293, .getfield 257, 3), (296, .iload_n 1, 1), (297, .dup2, 1), (298, .iaload, 1), (299, .iconst 1, 1), (300, .iadd, 1), (301, .iastore, 1), (302, .aload_n 0, 1), (303, .iload_n 1, 1), (304, .iload_n 3, 1), (305, .invokevirtual 746, 3), (308, .iinc 6 1, 3), (311, .goto (-189), 3), (314, .iinc 4 1, 3), (317, .goto (-242), 3), (320, .aload_n 0, 1), (321, .iload_n 1, 1), (322, .invokevirtual 752, 3), (325, .return_, 1)] = true := by decide +kernel
set_option maxRecDepth 100000 in
set_option maxHeartbeats 4000000 in
theorem sg_tryAll_0 {G : mG} {d : Nat} {x : gd} {P : Option gv → gd → Prop} (l1 : Int32) (l2 : Int32)
    (h : MT G d z_forgetTrying 0 [(0, vr 0), (1, vi l1)] [] x (rv (fun x1 => MT G (d + 1) z_tryAll 7 [(0, vr 0), (1, vi l1), (2, vi l2), (3, vi 0)] [] x1 P))) :
    MT G (d + 1) z_tryAll 0 [(0, vr 0), (1, vi l1), (2, vi l2)] [] x P := by
  refine T_aload_n 0 (dk dt_tryAll 0 rfl) rfl rfl ?_
  refine T_iload_n 1 (dk dt_tryAll 1 rfl) rfl rfl ?_
  refine MT_callVv [vi l1] [] rfl (dk dt_tryAll 2 rfl) cv_740 rfl rfl (Nat.le_of_ble_eq_true rfl) (Nat.le_of_ble_eq_true rfl) rfl rfl h (fun x1 h => ?_)
  refine T_iconst (v := 0) (dk dt_tryAll 3 rfl) (by decide +kernel) ?_
  refine T_istore_n (lv2 := [(3, vi 0), (0, vr 0), (1, vi l1), (2, vi l2)]) (dk dt_tryAll 4 rfl) rfl (by decide) rfl ?_
  exact T_sub [1, 2, 3, 0] rfl h
set_option maxRecDepth 100000 in
set_option maxHeartbeats 4000000 in
theorem sg_tryAll_7 {G : mG} {d : Nat} {x : gd} {P : Option gv → gd → Prop} (l1 : Int32) (l2 : Int32) (l3 : Int32)
    (h : (((4096 : Int32) ≤ l3 → MT G d z_setFirst 0 [(0, vr 0)] [] x (rv (fun x2 => MT G d z_seek 0 [(0, vr 0), (1, vi l1)] [] x2 (ri (fun r4 x3 => vp_in l1 2 ∧ (∀ x6 : gd, x6 = si x3 120 (l1 : Int32).toNatClampNeg 1 → vp_in (3000 * l1) 6000 ∧ (∀ x8 : gd, x8 = si x6 130 (3000 * l1 : Int32).toNatClampNeg (-1) → vp_in (3000 * l1) 6000 ∧ (∀ x10 : gd, x10 = si x8 132 (3000 * l1 : Int32).toNatClampNeg 0 → MT G d z_look 0 [(0, vr 0), (1, vi l1), (2, vi 0)] [] x10 (rv (fun x11 => MT G (d + 1) z_tryAll 75 [(0, vr 0), (1, vi l1), (2, vi l2), (4, vi 0)] [] x11 P)))))))))) ∧ (¬ ((4096 : Int32) ≤ l3) → vp_in l3 4096 ∧ (∀ x13 : gd, x13 = si x 135 (l3 : Int32).toNatClampNeg (-1) → MT G (d + 1) z_tryAll 7 [(0, vr 0), (1, vi l1), (2, vi l2), (3, vi (l3 + 1))] [] x13 P)))) :
    MT G (d + 1) z_tryAll 7 [(0, vr 0), (1, vi l1), (2, vi l2), (3, vi l3)] [] x P := by
  refine T_iload_n 3 (dk dt_tryAll 5 rfl) rfl rfl ?_
  refine T_sipush (v := 4096) (dk dt_tryAll 6 rfl) (by decide +kernel) ?_
  refine T_icmp_ge 27 (dk dt_tryAll 7 rfl) (by decide) (fun c1 => ?_) (fun c1 => ?_)
  · have h := h.1 c1
    refine T_aload_n 0 (dk dt_tryAll 15 rfl) rfl rfl ?_
    refine MT_callVv [] [] rfl (dk dt_tryAll 16 rfl) cv_650 rfl rfl (Nat.le_of_ble_eq_true rfl) (Nat.le_of_ble_eq_true rfl) rfl rfl h (fun x2 h => ?_)
    refine T_aload_n 0 (dk dt_tryAll 17 rfl) rfl rfl ?_
    refine T_iload_n 1 (dk dt_tryAll 18 rfl) rfl rfl ?_
    refine MT_callVi [vi l1] [] rfl (dk dt_tryAll 19 rfl) cv_743 rfl rfl (Nat.le_of_ble_eq_true rfl) (Nat.le_of_ble_eq_true rfl) rfl rfl h (fun r4 x3 h => ?_)
    refine T_istore_n (lv2 := [(3, vi r4), (0, vr 0), (1, vi l1), (2, vi l2)]) (dk dt_tryAll 20 rfl) rfl (by decide) rfl ?_
    refine T_aload_n 1 (dk dt_tryAll 21 rfl) rfl rfl ?_
    refine T_getR 0 119 120 (dk dt_tryAll 22 rfl) fl_257 mk_0 ml_0 (by decide) rfl rfl ?_
    refine T_iload_n 2 (dk dt_tryAll 23 rfl) rfl rfl ?_
    refine T_iconst (v := 1) (dk dt_tryAll 24 rfl) (by decide +kernel) ?_
    obtain ⟨h5, h⟩ := h
    obtain ⟨x6, ex6⟩ : ∃ z, z = si x3 120 (l1 : Int32).toNatClampNeg 1 := ⟨_, rfl⟩
    have h := h x6 ex6
    refine T_iast 120 2 (dk dt_tryAll 25 rfl) mk_120 ml_120 h5 ?_
    rw [← ex6]
    refine T_aload_n 1 (dk dt_tryAll 26 rfl) rfl rfl ?_
    refine T_getR 0 129 130 (dk dt_tryAll 27 rfl) fl_288 mk_0 ml_0 (by decide) rfl rfl ?_
    refine T_sipush (v := 3000) (dk dt_tryAll 28 rfl) (by decide +kernel) ?_
    refine T_iload_n 2 (dk dt_tryAll 29 rfl) rfl rfl ?_
    refine T_imul (dk dt_tryAll 30 rfl) ?_
    refine T_iconst (v := (-1)) (dk dt_tryAll 31 rfl) (by decide +kernel) ?_
    obtain ⟨h7, h⟩ := h
    obtain ⟨x8, ex8⟩ : ∃ z, z = si x6 130 (3000 * l1 : Int32).toNatClampNeg (-1) := ⟨_, rfl⟩
    have h := h x8 ex8
    refine T_iast 130 6000 (dk dt_tryAll 32 rfl) mk_130 ml_130 h7 ?_
    rw [← ex8]
    refine T_aload_n 1 (dk dt_tryAll 33 rfl) rfl rfl ?_
    refine T_getR 0 131 132 (dk dt_tryAll 34 rfl) fl_294 mk_0 ml_0 (by decide) rfl rfl ?_
    refine T_sipush (v := 3000) (dk dt_tryAll 35 rfl) (by decide +kernel) ?_
    refine T_iload_n 2 (dk dt_tryAll 36 rfl) rfl rfl ?_
    refine T_imul (dk dt_tryAll 37 rfl) ?_
    refine T_iconst (v := 0) (dk dt_tryAll 38 rfl) (by decide +kernel) ?_
    obtain ⟨h9, h⟩ := h
    obtain ⟨x10, ex10⟩ : ∃ z, z = si x8 132 (3000 * l1 : Int32).toNatClampNeg 0 := ⟨_, rfl⟩
    have h := h x10 ex10
    refine T_iast 132 6000 (dk dt_tryAll 39 rfl) mk_132 ml_132 h9 ?_
    rw [← ex10]
    refine T_aload_n 1 (dk dt_tryAll 40 rfl) rfl rfl ?_
    refine T_iload_n 2 (dk dt_tryAll 41 rfl) rfl rfl ?_
    refine T_iconst (v := 0) (dk dt_tryAll 42 rfl) (by decide +kernel) ?_
    refine MT_callVv [vi l1, vi 0] [] rfl (dk dt_tryAll 43 rfl) cv_746 rfl rfl (Nat.le_of_ble_eq_true rfl) (Nat.le_of_ble_eq_true rfl) rfl rfl h (fun x11 h => ?_)
    refine T_iconst (v := 0) (dk dt_tryAll 44 rfl) (by decide +kernel) ?_
    refine T_istore (lv2 := [(4, vi 0), (3, vi r4), (0, vr 0), (1, vi l1), (2, vi l2)]) (dk dt_tryAll 45 rfl) (by decide) rfl ?_
    exact T_sub [2, 3, 4, 0] rfl h
  · have h := h.2 c1
    refine T_aload_n 0 (dk dt_tryAll 8 rfl) rfl rfl ?_
    refine T_getR 0 134 135 (dk dt_tryAll 9 rfl) fl_304 mk_0 ml_0 (by decide) rfl rfl ?_
    refine T_iload_n 3 (dk dt_tryAll 10 rfl) rfl rfl ?_
    refine T_iconst (v := (-1)) (dk dt_tryAll 11 rfl) (by decide +kernel) ?_
    obtain ⟨h12, h⟩ := h
    obtain ⟨x13, ex13⟩ : ∃ z, z = si x 135 (l3 : Int32).toNatClampNeg (-1) := ⟨_, rfl⟩
    have h := h x13 ex13
    refine T_iast 135 4096 (dk dt_tryAll 12 rfl) mk_135 ml_135 h12 ?_
    rw [← ex13]
    refine T_iinc (v := l3 + 1) (lv2 := [(3, vi (l3 + 1)), (0, vr 0), (1, vi l1), (2, vi l2)]) 3 (dk dt_tryAll 13 rfl) rfl rfl (by decide) rfl ?_
    refine T_goto 7 (dk dt_tryAll 14 rfl) (by decide) ?_
    exact T_sub [1, 2, 3, 0] rfl h
set_option maxRecDepth 100000 in
set_option maxHeartbeats 4000000 in
theorem sg_tryAll_75 {G : mG} {d : Nat} {x : gd} {P : Option gv → gd → Prop} (l1 : Int32) (l2 : Int32) (l4 : Int32)
    (h : vp_in l1 2 ∧ (((x.1 120 (l1 : Int32).toNatClampNeg) ≤ l4 → MT G (d + 1) z_tryAll 320 [(0, vr 0), (1, vi l1)] [] x P) ∧ (¬ ((x.1 120 (l1 : Int32).toNatClampNeg) ≤ l4) → vp_in l1 2 ∧ ((¬ ((x.1 121 (l1 : Int32).toNatClampNeg) = (0 : Int32)) → MT G (d + 1) z_tryAll 320 [(0, vr 0), (1, vi l1)] [] x P) ∧ ((x.1 121 (l1 : Int32).toNatClampNeg) = (0 : Int32) → MT G d z_unpack 0 [(0, vr 0), (1, vr 133), (2, vi (240 * l4))] [] x (rv (fun x5 => MT G d z_findChoices 0 [(0, vr 0)] [] x5 (rv (fun x6 => MT G (d + 1) z_tryAll 122 [(0, vr 0), (1, vi l1), (2, vi l2), (4, vi l4), (5, vi (x6.1 0 84)), (6, vi 0)] [] x6 P))))))))) :
    MT G (d + 1) z_tryAll 75 [(0, vr 0), (1, vi l1), (2, vi l2), (4, vi l4)] [] x P := by
  refine T_iload 3 (dk dt_tryAll 46 rfl) rfl ?_
  refine T_aload_n 0 (dk dt_tryAll 47 rfl) rfl rfl ?_
  refine T_getR 0 119 120 (dk dt_tryAll 48 rfl) fl_257 mk_0 ml_0 (by decide) rfl rfl ?_
  refine T_iload_n 1 (dk dt_tryAll 49 rfl) rfl rfl ?_
  obtain ⟨h1, h⟩ := h
  refine T_iald 120 2 (dk dt_tryAll 50 rfl) mk_120 ml_120 h1 ?_
  refine T_icmp_ge 320 (dk dt_tryAll 51 rfl) (by decide) (fun c2 => ?_) (fun c2 => ?_)
  · have h := h.1 c2
    exact T_sub [0, 1] rfl h
  · have h := h.2 c2
    refine T_aload_n 0 (dk dt_tryAll 52 rfl) rfl rfl ?_
    refine T_getR 0 120 121 (dk dt_tryAll 53 rfl) fl_260 mk_0 ml_0 (by decide) rfl rfl ?_
    refine T_iload_n 1 (dk dt_tryAll 54 rfl) rfl rfl ?_
    obtain ⟨h3, h⟩ := h
    refine T_zald 121 2 (dk dt_tryAll 55 rfl) mk_121 ml_121 h3 ?_
    refine T_if_ne 320 (dk dt_tryAll 56 rfl) (by decide) (fun c4 => ?_) (fun c4 => ?_)
    · have h := h.1 c4
      exact T_sub [0, 1] rfl h
    · have h := h.2 c4
      refine T_aload_n 0 (dk dt_tryAll 57 rfl) rfl rfl ?_
      refine T_aload_n 0 (dk dt_tryAll 58 rfl) rfl rfl ?_
      refine T_getR 0 132 133 (dk dt_tryAll 59 rfl) fl_298 mk_0 ml_0 (by decide) rfl rfl ?_
      refine T_sipush (v := 240) (dk dt_tryAll 60 rfl) (by decide +kernel) ?_
      refine T_iload 3 (dk dt_tryAll 61 rfl) rfl ?_
      refine T_imul (dk dt_tryAll 62 rfl) ?_
      refine MT_callVv [vr 133, vi (240 * l4)] [] rfl (dk dt_tryAll 63 rfl) cv_749 rfl rfl (Nat.le_of_ble_eq_true rfl) (Nat.le_of_ble_eq_true rfl) rfl rfl h (fun x5 h => ?_)
      refine T_aload_n 0 (dk dt_tryAll 64 rfl) rfl rfl ?_
      refine MT_callVv [] [] rfl (dk dt_tryAll 65 rfl) cv_653 rfl rfl (Nat.le_of_ble_eq_true rfl) (Nat.le_of_ble_eq_true rfl) rfl rfl h (fun x6 h => ?_)
      refine T_aload_n 0 (dk dt_tryAll 66 rfl) rfl rfl ?_
      refine T_getI 0 84 (dk dt_tryAll 67 rfl) fl_611 mk_0 ml_0 (by decide) rfl ?_
      refine T_istore (lv2 := [(5, vi (x6.1 0 84)), (0, vr 0), (1, vi l1), (2, vi l2), (4, vi l4)]) (dk dt_tryAll 68 rfl) (by decide) rfl ?_
      refine T_iconst (v := 0) (dk dt_tryAll 69 rfl) (by decide +kernel) ?_
      refine T_istore (lv2 := [(6, vi 0), (5, vi (x6.1 0 84)), (0, vr 0), (1, vi l1), (2, vi l2), (4, vi l4)]) (dk dt_tryAll 70 rfl) (by decide) rfl ?_
      exact T_sub [2, 3, 4, 5, 1, 0] rfl h
set_option maxRecDepth 100000 in
set_option maxHeartbeats 4000000 in
theorem sg_tryAll_122 {G : mG} {d : Nat} {x : gd} {P : Option gv → gd → Prop} (l1 : Int32) (l2 : Int32) (l4 : Int32) (l5 : Int32) (l6 : Int32)
    (h : ((l5 ≤ l6 → MT G (d + 1) z_tryAll 75 [(0, vr 0), (1, vi l1), (2, vi l2), (4, vi (l4 + 1))] [] x P) ∧ (¬ (l5 ≤ l6) → vp_in l1 2 ∧ ((¬ ((x.1 121 (l1 : Int32).toNatClampNeg) = (0 : Int32)) → MT G (d + 1) z_tryAll 75 [(0, vr 0), (1, vi l1), (2, vi l2), (4, vi (l4 + 1))] [] x P) ∧ ((x.1 121 (l1 : Int32).toNatClampNeg) = (0 : Int32) → MT G d z_unpack 0 [(0, vr 0), (1, vr 133), (2, vi (240 * l4))] [] x (rv (fun x4 => MT G d z_findChoices 0 [(0, vr 0)] [] x4 (rv (fun x5 => vp_in l6 200 ∧ (((x5.1 87 (l6 : Int32).toNatClampNeg) = (-1 : Int32) → vp_in l6 200 ∧ vp_in l6 200 ∧ MT G d z_doAct 0 [(0, vr 0), (1, vi (x5.1 86 (l6 : Int32).toNatClampNeg)), (2, vi (x5.1 88 (l6 : Int32).toNatClampNeg))] [] x5 (rv (fun x10 => MT G (d + 1) z_tryAll 206 [(0, vr 0), (1, vi l1), (2, vi l2), (4, vi l4), (5, vi l5), (6, vi l6)] [] x10 P))) ∧ (¬ ((x5.1 87 (l6 : Int32).toNatClampNeg) = (-1 : Int32)) → vp_in l6 200 ∧ vp_in l6 200 ∧ MT G d z_doLate 0 [(0, vr 0), (1, vi (x5.1 86 (l6 : Int32).toNatClampNeg)), (2, vi (x5.1 87 (l6 : Int32).toNatClampNeg))] [] x5 (rv (fun x13 => MT G (d + 1) z_tryAll 206 [(0, vr 0), (1, vi l1), (2, vi l2), (4, vi l4), (5, vi l5), (6, vi l6)] [] x13 P))))))))))))) :
    MT G (d + 1) z_tryAll 122 [(0, vr 0), (1, vi l1), (2, vi l2), (4, vi l4), (5, vi l5), (6, vi l6)] [] x P := by
  refine T_iload 5 (dk dt_tryAll 71 rfl) rfl ?_
  refine T_iload 4 (dk dt_tryAll 72 rfl) rfl ?_
  refine T_icmp_ge 314 (dk dt_tryAll 73 rfl) (by decide) (fun c1 => ?_) (fun c1 => ?_)
  · have h := h.1 c1
    refine T_iinc (v := l4 + 1) (lv2 := [(4, vi (l4 + 1)), (0, vr 0), (1, vi l1), (2, vi l2), (5, vi l5), (6, vi l6)]) 3 (dk dt_tryAll 184 rfl) rfl rfl (by decide) rfl ?_
    refine T_goto 75 (dk dt_tryAll 185 rfl) (by decide) ?_
    exact T_sub [1, 2, 3, 0] rfl h
  · have h := h.2 c1
    refine T_aload_n 0 (dk dt_tryAll 74 rfl) rfl rfl ?_
    refine T_getR 0 120 121 (dk dt_tryAll 75 rfl) fl_260 mk_0 ml_0 (by decide) rfl rfl ?_
    refine T_iload_n 1 (dk dt_tryAll 76 rfl) rfl rfl ?_
    obtain ⟨h2, h⟩ := h
    refine T_zald 121 2 (dk dt_tryAll 77 rfl) mk_121 ml_121 h2 ?_
    refine T_if_ne 314 (dk dt_tryAll 78 rfl) (by decide) (fun c3 => ?_) (fun c3 => ?_)
    · have h := h.1 c3
      refine T_iinc (v := l4 + 1) (lv2 := [(4, vi (l4 + 1)), (0, vr 0), (1, vi l1), (2, vi l2), (5, vi l5), (6, vi l6)]) 3 (dk dt_tryAll 184 rfl) rfl rfl (by decide) rfl ?_
      refine T_goto 75 (dk dt_tryAll 185 rfl) (by decide) ?_
      exact T_sub [1, 2, 3, 0] rfl h
    · have h := h.2 c3
      refine T_aload_n 0 (dk dt_tryAll 79 rfl) rfl rfl ?_
      refine T_aload_n 0 (dk dt_tryAll 80 rfl) rfl rfl ?_
      refine T_getR 0 132 133 (dk dt_tryAll 81 rfl) fl_298 mk_0 ml_0 (by decide) rfl rfl ?_
      refine T_sipush (v := 240) (dk dt_tryAll 82 rfl) (by decide +kernel) ?_
      refine T_iload 3 (dk dt_tryAll 83 rfl) rfl ?_
      refine T_imul (dk dt_tryAll 84 rfl) ?_
      refine MT_callVv [vr 133, vi (240 * l4)] [] rfl (dk dt_tryAll 85 rfl) cv_749 rfl rfl (Nat.le_of_ble_eq_true rfl) (Nat.le_of_ble_eq_true rfl) rfl rfl h (fun x4 h => ?_)
      refine T_aload_n 0 (dk dt_tryAll 86 rfl) rfl rfl ?_
      refine MT_callVv [] [] rfl (dk dt_tryAll 87 rfl) cv_653 rfl rfl (Nat.le_of_ble_eq_true rfl) (Nat.le_of_ble_eq_true rfl) rfl rfl h (fun x5 h => ?_)
      refine T_aload_n 0 (dk dt_tryAll 88 rfl) rfl rfl ?_
      refine T_getR 0 86 87 (dk dt_tryAll 89 rfl) fl_187 mk_0 ml_0 (by decide) rfl rfl ?_
      refine T_iload 5 (dk dt_tryAll 90 rfl) rfl ?_
      obtain ⟨h6, h⟩ := h
      refine T_iald 87 200 (dk dt_tryAll 91 rfl) mk_87 ml_87 h6 ?_
      refine T_iconst (v := (-1)) (dk dt_tryAll 92 rfl) (by decide +kernel) ?_
      refine T_icmp_eq 188 (dk dt_tryAll 93 rfl) (by decide) (fun c7 => ?_) (fun c7 => ?_)
      · have h := h.1 c7
        refine T_aload_n 0 (dk dt_tryAll 105 rfl) rfl rfl ?_
        refine T_aload_n 0 (dk dt_tryAll 106 rfl) rfl rfl ?_
        refine T_getR 0 85 86 (dk dt_tryAll 107 rfl) fl_184 mk_0 ml_0 (by decide) rfl rfl ?_
        refine T_iload 5 (dk dt_tryAll 108 rfl) rfl ?_
        obtain ⟨h8, h⟩ := h
        refine T_iald 86 200 (dk dt_tryAll 109 rfl) mk_86 ml_86 h8 ?_
        refine T_aload_n 0 (dk dt_tryAll 110 rfl) rfl rfl ?_
        refine T_getR 0 87 88 (dk dt_tryAll 111 rfl) fl_190 mk_0 ml_0 (by decide) rfl rfl ?_
        refine T_iload 5 (dk dt_tryAll 112 rfl) rfl ?_
        obtain ⟨h9, h⟩ := h
        refine T_iald 88 200 (dk dt_tryAll 113 rfl) mk_88 ml_88 h9 ?_
        refine MT_callVv [vi (x5.1 86 (l6 : Int32).toNatClampNeg), vi (x5.1 88 (l6 : Int32).toNatClampNeg)] [] rfl (dk dt_tryAll 114 rfl) cv_662 rfl rfl (Nat.le_of_ble_eq_true rfl) (Nat.le_of_ble_eq_true rfl) rfl rfl h (fun x10 h => ?_)
        exact h
      · have h := h.2 c7
        refine T_aload_n 0 (dk dt_tryAll 94 rfl) rfl rfl ?_
        refine T_aload_n 0 (dk dt_tryAll 95 rfl) rfl rfl ?_
        refine T_getR 0 85 86 (dk dt_tryAll 96 rfl) fl_184 mk_0 ml_0 (by decide) rfl rfl ?_
        refine T_iload 5 (dk dt_tryAll 97 rfl) rfl ?_
        obtain ⟨h11, h⟩ := h
        refine T_iald 86 200 (dk dt_tryAll 98 rfl) mk_86 ml_86 h11 ?_
        refine T_aload_n 0 (dk dt_tryAll 99 rfl) rfl rfl ?_
        refine T_getR 0 86 87 (dk dt_tryAll 100 rfl) fl_187 mk_0 ml_0 (by decide) rfl rfl ?_
        refine T_iload 5 (dk dt_tryAll 101 rfl) rfl ?_
        obtain ⟨h12, h⟩ := h
        refine T_iald 87 200 (dk dt_tryAll 102 rfl) mk_87 ml_87 h12 ?_
        refine MT_callVv [vi (x5.1 86 (l6 : Int32).toNatClampNeg), vi (x5.1 87 (l6 : Int32).toNatClampNeg)] [] rfl (dk dt_tryAll 103 rfl) cv_659 rfl rfl (Nat.le_of_ble_eq_true rfl) (Nat.le_of_ble_eq_true rfl) rfl rfl h (fun x13 h => ?_)
        refine T_goto 206 (dk dt_tryAll 104 rfl) (by decide) ?_
        exact h
set_option maxRecDepth 100000 in
set_option maxHeartbeats 4000000 in
theorem sg_tryAll_206 {G : mG} {d : Nat} {x : gd} {P : Option gv → gd → Prop} (l1 : Int32) (l2 : Int32) (l4 : Int32) (l5 : Int32) (l6 : Int32)
    (h : MT G d z_seek 0 [(0, vr 0), (1, vi l1)] [] x (ri (fun r2 x1 => vp_in l1 2 ∧ ((¬ (r2 = (x1.1 120 (l1 : Int32).toNatClampNeg)) → MT G (d + 1) z_tryAll 122 [(0, vr 0), (1, vi l1), (2, vi l2), (4, vi l4), (5, vi l5), (6, vi (l6 + 1))] [] x1 P) ∧ (r2 = (x1.1 120 (l1 : Int32).toNatClampNeg) → ((¬ (r2 = l2) → vp_in ((3000 * l1) + r2) 6000 ∧ (∀ x7 : gd, x7 = si x1 130 ((3000 * l1) + r2 : Int32).toNatClampNeg l4 → vp_in ((3000 * l1) + r2) 6000 ∧ (∀ x9 : gd, x9 = si x7 131 ((3000 * l1) + r2 : Int32).toNatClampNeg l6 → vp_in ((3000 * l1) + l4) 6000 ∧ vp_in ((3000 * l1) + r2) 6000 ∧ (∀ x12 : gd, x12 = si x9 132 ((3000 * l1) + r2 : Int32).toNatClampNeg ((x9.1 132 ((3000 * l1) + l4 : Int32).toNatClampNeg) + 1) → vp_in l1 2 ∧ vp_in l1 2 ∧ (∀ x15 : gd, x15 = si x12 120 (l1 : Int32).toNatClampNeg ((x12.1 120 (l1 : Int32).toNatClampNeg) + 1) → MT G d z_look 0 [(0, vr 0), (1, vi l1), (2, vi r2)] [] x15 (rv (fun x16 => MT G (d + 1) z_tryAll 122 [(0, vr 0), (1, vi l1), (2, vi l2), (4, vi l4), (5, vi l5), (6, vi (l6 + 1))] [] x16 P))))))) ∧ (r2 = l2 → vp_in l1 2 ∧ (∀ x18 : gd, x18 = si x1 121 (l1 : Int32).toNatClampNeg (vp_nar .boolean 1) → MT G (d + 1) z_tryAll 122 [(0, vr 0), (1, vi l1), (2, vi l2), (4, vi l4), (5, vi l5), (6, vi (l6 + 1))] [] x18 P)))))))) :
    MT G (d + 1) z_tryAll 206 [(0, vr 0), (1, vi l1), (2, vi l2), (4, vi l4), (5, vi l5), (6, vi l6)] [] x P := by
  refine T_aload_n 0 (dk dt_tryAll 115 rfl) rfl rfl ?_
  refine T_iload_n 1 (dk dt_tryAll 116 rfl) rfl rfl ?_
  refine MT_callVi [vi l1] [] rfl (dk dt_tryAll 117 rfl) cv_743 rfl rfl (Nat.le_of_ble_eq_true rfl) (Nat.le_of_ble_eq_true rfl) rfl rfl h (fun r2 x1 h => ?_)
  refine T_istore_n (lv2 := [(3, vi r2), (0, vr 0), (1, vi l1), (2, vi l2), (4, vi l4), (5, vi l5), (6, vi l6)]) (dk dt_tryAll 118 rfl) rfl (by decide) rfl ?_
  refine T_iload_n 0 (dk dt_tryAll 119 rfl) rfl rfl ?_
  refine T_aload_n 1 (dk dt_tryAll 120 rfl) rfl rfl ?_
  refine T_getR 0 119 120 (dk dt_tryAll 121 rfl) fl_257 mk_0 ml_0 (by decide) rfl rfl ?_
  refine T_iload_n 2 (dk dt_tryAll 122 rfl) rfl rfl ?_
  obtain ⟨h3, h⟩ := h
  refine T_iald 120 2 (dk dt_tryAll 123 rfl) mk_120 ml_120 h3 ?_
  refine T_icmp_ne 308 (dk dt_tryAll 124 rfl) (by decide) (fun c4 => ?_) (fun c4 => ?_)
  · have h := h.1 c4
    refine T_iinc (v := l6 + 1) (lv2 := [(6, vi (l6 + 1)), (3, vi r2), (0, vr 0), (1, vi l1), (2, vi l2), (4, vi l4), (5, vi l5)]) 6 (dk dt_tryAll 182 rfl) rfl rfl (by decide) rfl ?_
    refine T_goto 122 (dk dt_tryAll 183 rfl) (by decide) ?_
    exact T_sub [2, 3, 4, 5, 6, 0] rfl h
  · have h := h.2 c4
    refine T_iload_n 0 (dk dt_tryAll 125 rfl) rfl rfl ?_
    refine T_iload_n 3 (dk dt_tryAll 126 rfl) rfl rfl ?_
    refine T_icmp_ne 237 (dk dt_tryAll 127 rfl) (by decide) (fun c5 => ?_) (fun c5 => ?_)
    · have h := h.1 c5
      refine T_aload_n 1 (dk dt_tryAll 134 rfl) rfl rfl ?_
      refine T_getR 0 129 130 (dk dt_tryAll 135 rfl) fl_288 mk_0 ml_0 (by decide) rfl rfl ?_
      refine T_sipush (v := 3000) (dk dt_tryAll 136 rfl) (by decide +kernel) ?_
      refine T_iload_n 2 (dk dt_tryAll 137 rfl) rfl rfl ?_
      refine T_imul (dk dt_tryAll 138 rfl) ?_
      refine T_iload_n 0 (dk dt_tryAll 139 rfl) rfl rfl ?_
      refine T_iadd (dk dt_tryAll 140 rfl) ?_
      refine T_iload 4 (dk dt_tryAll 141 rfl) rfl ?_
      obtain ⟨h6, h⟩ := h
      obtain ⟨x7, ex7⟩ : ∃ z, z = si x1 130 ((3000 * l1) + r2 : Int32).toNatClampNeg l4 := ⟨_, rfl⟩
      have h := h x7 ex7
      refine T_iast 130 6000 (dk dt_tryAll 142 rfl) mk_130 ml_130 h6 ?_
      rw [← ex7]
      refine T_aload_n 1 (dk dt_tryAll 143 rfl) rfl rfl ?_
      refine T_getR 0 130 131 (dk dt_tryAll 144 rfl) fl_291 mk_0 ml_0 (by decide) rfl rfl ?_
      refine T_sipush (v := 3000) (dk dt_tryAll 145 rfl) (by decide +kernel) ?_
      refine T_iload_n 2 (dk dt_tryAll 146 rfl) rfl rfl ?_
      refine T_imul (dk dt_tryAll 147 rfl) ?_
      refine T_iload_n 0 (dk dt_tryAll 148 rfl) rfl rfl ?_
      refine T_iadd (dk dt_tryAll 149 rfl) ?_
      refine T_iload 6 (dk dt_tryAll 150 rfl) rfl ?_
      obtain ⟨h8, h⟩ := h
      obtain ⟨x9, ex9⟩ : ∃ z, z = si x7 131 ((3000 * l1) + r2 : Int32).toNatClampNeg l6 := ⟨_, rfl⟩
      have h := h x9 ex9
      refine T_iast 131 6000 (dk dt_tryAll 151 rfl) mk_131 ml_131 h8 ?_
      rw [← ex9]
      refine T_aload_n 1 (dk dt_tryAll 152 rfl) rfl rfl ?_
      refine T_getR 0 131 132 (dk dt_tryAll 153 rfl) fl_294 mk_0 ml_0 (by decide) rfl rfl ?_
      refine T_sipush (v := 3000) (dk dt_tryAll 154 rfl) (by decide +kernel) ?_
      refine T_iload_n 2 (dk dt_tryAll 155 rfl) rfl rfl ?_
      refine T_imul (dk dt_tryAll 156 rfl) ?_
      refine T_iload_n 0 (dk dt_tryAll 157 rfl) rfl rfl ?_
      refine T_iadd (dk dt_tryAll 158 rfl) ?_
      refine T_aload_n 1 (dk dt_tryAll 159 rfl) rfl rfl ?_
      refine T_getR 0 131 132 (dk dt_tryAll 160 rfl) fl_294 mk_0 ml_0 (by decide) rfl rfl ?_
      refine T_sipush (v := 3000) (dk dt_tryAll 161 rfl) (by decide +kernel) ?_
      refine T_iload_n 2 (dk dt_tryAll 162 rfl) rfl rfl ?_
      refine T_imul (dk dt_tryAll 163 rfl) ?_
      refine T_iload 4 (dk dt_tryAll 164 rfl) rfl ?_
      refine T_iadd (dk dt_tryAll 165 rfl) ?_
      obtain ⟨h10, h⟩ := h
      refine T_iald 132 6000 (dk dt_tryAll 166 rfl) mk_132 ml_132 h10 ?_
      refine T_iconst (v := 1) (dk dt_tryAll 167 rfl) (by decide +kernel) ?_
      refine T_iadd (dk dt_tryAll 168 rfl) ?_
      obtain ⟨h11, h⟩ := h
      obtain ⟨x12, ex12⟩ : ∃ z, z = si x9 132 ((3000 * l1) + r2 : Int32).toNatClampNeg ((x9.1 132 ((3000 * l1) + l4 : Int32).toNatClampNeg) + 1) := ⟨_, rfl⟩
      have h := h x12 ex12
      refine T_iast 132 6000 (dk dt_tryAll 169 rfl) mk_132 ml_132 h11 ?_
      rw [← ex12]
      refine T_aload_n 1 (dk dt_tryAll 170 rfl) rfl rfl ?_
      refine T_getR 0 119 120 (dk dt_tryAll 171 rfl) fl_257 mk_0 ml_0 (by decide) rfl rfl ?_
      refine T_iload_n 2 (dk dt_tryAll 172 rfl) rfl rfl ?_
      refine T_dup2 (dk dt_tryAll 173 rfl) rfl rfl ?_
      obtain ⟨h13, h⟩ := h
      refine T_iald 120 2 (dk dt_tryAll 174 rfl) mk_120 ml_120 h13 ?_
      refine T_iconst (v := 1) (dk dt_tryAll 175 rfl) (by decide +kernel) ?_
      refine T_iadd (dk dt_tryAll 176 rfl) ?_
      obtain ⟨h14, h⟩ := h
      obtain ⟨x15, ex15⟩ : ∃ z, z = si x12 120 (l1 : Int32).toNatClampNeg ((x12.1 120 (l1 : Int32).toNatClampNeg) + 1) := ⟨_, rfl⟩
      have h := h x15 ex15
      refine T_iast 120 2 (dk dt_tryAll 177 rfl) mk_120 ml_120 h14 ?_
      rw [← ex15]
      refine T_aload_n 1 (dk dt_tryAll 178 rfl) rfl rfl ?_
      refine T_iload_n 2 (dk dt_tryAll 179 rfl) rfl rfl ?_
      refine T_iload_n 0 (dk dt_tryAll 180 rfl) rfl rfl ?_
      refine MT_callVv [vi l1, vi r2] [] rfl (dk dt_tryAll 181 rfl) cv_746 rfl rfl (Nat.le_of_ble_eq_true rfl) (Nat.le_of_ble_eq_true rfl) rfl rfl h (fun x16 h => ?_)
      refine T_iinc (v := l6 + 1) (lv2 := [(6, vi (l6 + 1)), (3, vi r2), (0, vr 0), (1, vi l1), (2, vi l2), (4, vi l4), (5, vi l5)]) 6 (dk dt_tryAll 182 rfl) rfl rfl (by decide) rfl ?_
      refine T_goto 122 (dk dt_tryAll 183 rfl) (by decide) ?_
      exact T_sub [2, 3, 4, 5, 6, 0] rfl h
    · have h := h.2 c5
      refine T_aload_n 1 (dk dt_tryAll 128 rfl) rfl rfl ?_
      refine T_getR 0 120 121 (dk dt_tryAll 129 rfl) fl_260 mk_0 ml_0 (by decide) rfl rfl ?_
      refine T_iload_n 2 (dk dt_tryAll 130 rfl) rfl rfl ?_
      refine T_iconst (v := 1) (dk dt_tryAll 131 rfl) (by decide +kernel) ?_
      obtain ⟨h17, h⟩ := h
      obtain ⟨x18, ex18⟩ : ∃ z, z = si x1 121 (l1 : Int32).toNatClampNeg (vp_nar .boolean 1) := ⟨_, rfl⟩
      have h := h x18 ex18
      refine T_zast 121 2 (dk dt_tryAll 132 rfl) mk_121 ml_121 h17 ?_
      rw [← ex18]
      refine T_goto 308 (dk dt_tryAll 133 rfl) (by decide) ?_
      refine T_iinc (v := l6 + 1) (lv2 := [(6, vi (l6 + 1)), (3, vi r2), (0, vr 0), (1, vi l1), (2, vi l2), (4, vi l4), (5, vi l5)]) 6 (dk dt_tryAll 182 rfl) rfl rfl (by decide) rfl ?_
      refine T_goto 122 (dk dt_tryAll 183 rfl) (by decide) ?_
      exact T_sub [2, 3, 4, 5, 6, 0] rfl h
set_option maxRecDepth 100000 in
set_option maxHeartbeats 4000000 in
theorem sg_tryAll_320 {G : mG} {d : Nat} {x : gd} {P : Option gv → gd → Prop} (l1 : Int32)
    (h : MT G d z_sortOutcomes 0 [(0, vr 0), (1, vi l1)] [] x (rv (fun x1 => P none x1))) :
    MT G (d + 1) z_tryAll 320 [(0, vr 0), (1, vi l1)] [] x P := by
  refine T_aload_n 0 (dk dt_tryAll 186 rfl) rfl rfl ?_
  refine T_iload_n 1 (dk dt_tryAll 187 rfl) rfl rfl ?_
  refine MT_callVv [vi l1] [] rfl (dk dt_tryAll 188 rfl) cv_752 rfl rfl (Nat.le_of_ble_eq_true rfl) (Nat.le_of_ble_eq_true rfl) rfl rfl h (fun x1 h => ?_)
  exact MT_vret (dk dt_tryAll 189 rfl) rfl h
set_option maxRecDepth 100000 in
theorem dt_attempt : dck cX12_attempt [(0, .aload_n 0, 1), (1, .iconst 0, 1), (2, .putfield 316, 3), (5, .aload_n 0, 1), (6, .aload_n 0, 1), (7, .getfield 565, 3), (10, .ifCond .ne 7, 3), (13, .iconst 1, 1), (14, .goto 4, 3), (17, .iconst 0, 1), (18, .iconst 1, 1), (19, .invokevirtual 558, 3), (22, .ifCond .ne 36, 3), (25, .aload_n 0, 1), (26, .iload_n 1, 1), (27, .iconst 0, 1), (28, .iconst 1, 1), (29, .invokestatic 322, 3), (32, .ifCond .eq 14, 3), (35, .iload_n 2, 1), (36, .iconst 1, 1), (37, .sipush 3000, 3), (40, .invokestatic 322, 3), (43, .ifCond .ne 7, 3), (46, .iconst 1, 1), (47, .goto 4, 3), (50, .iconst 0, 1), (51, .iconst 2, 1), (52, .invokevirtual 558, 3), (55, .ifCond .eq 5, 3), (58, .iconst 0, 1), (59, .ireturn, 1), (60, .aload_n 0, 1), (61, .getfield 608, 3), (64, .istore_n 3, 1), (65, .aload_n 0, 1), (66, .getfield 569, 3), (69, .ifCond .eq 12, 3), (72, .aload_n 0, 1), (73, .aload_n 0, 1), (74, .getfield 307, 3), (77, .iconst 0, 1), (78, .invokevirtual 723, 3), (81, .aload_n 0, 1), (82, .iload_n 1, 1), (83, .putfield 608, 3), (86, .aload_n 0, 1), (87, .iload_n 1, 1), (88, .iload_n 2, 1), (89, .invokevirtual 755, 3), (92, .aload_n 0, 1), (93, .getfield 254, 3), (96, .iload_n 1, 1), (97, .iconst 1, 1), (98, .bastore, 1), (99, .aload_n 0, 1), (100, .iload_n 3, 1), (101, .putfield 608, 3), (104, .aload_n 0, 1), (105, .getfield 569, 3), (108, .ifCond .eq 16, 3), (111, .aload_n 0, 1), (112, .aload_n 0, 1), (113, .getfield 307, 3), (116, .iconst 0, 1), (117, .invokevirtual 749, 3), (120, .aload_n 0, 1), (121, .invokevirtual 653, 3), (124, .aload_n 0, 1), (125, .getfield 257, 3), (128, .iload_n 1, 1), (129, .iaload, 1), (130, .ireturn, 1)] = true := by decide +kernel
set_option maxRecDepth 100000 in
set_option maxHeartbeats 4000000 in
theorem sg_attempt_0 {G : mG} {d : Nat} {x : gd} {P : Option gv → gd → Prop} (l1 : Int32) (l2 : Int32)
    (h : (∀ x1 : gd, x1 = si x 0 0 0 → ((¬ ((x1.1 0 66) = (0 : Int32)) → MT G (d + 1) z_attempt 18 [(0, vr 0), (1, vi l1), (2, vi l2)] [vi 0, vr 0] x1 P) ∧ ((x1.1 0 66) = (0 : Int32) → MT G (d + 1) z_attempt 18 [(0, vr 0), (1, vi l1), (2, vi l2)] [vi 1, vr 0] x1 P)))) :
    MT G (d + 1) z_attempt 0 [(0, vr 0), (1, vi l1), (2, vi l2)] [] x P := by
  refine T_aload_n 0 (dk dt_attempt 0 rfl) rfl rfl ?_
  refine T_iconst (v := 0) (dk dt_attempt 1 rfl) (by decide +kernel) ?_
  obtain ⟨x1, ex1⟩ : ∃ z, z = si x 0 0 0 := ⟨_, rfl⟩
  have h := h x1 ex1
  refine T_putI 0 0 (dk dt_attempt 2 rfl) fl_316 mk_0 ml_0 (by decide) rfl ⟨rfl, rfl⟩ ?_
  rw [← ex1]
  refine T_aload_n 0 (dk dt_attempt 3 rfl) rfl rfl ?_
  refine T_aload_n 0 (dk dt_attempt 4 rfl) rfl rfl ?_
  refine T_getI 0 66 (dk dt_attempt 5 rfl) fl_565 mk_0 ml_0 (by decide) rfl ?_
  refine T_if_ne 17 (dk dt_attempt 6 rfl) (by decide) (fun c2 => ?_) (fun c2 => ?_)
  · have h := h.1 c2
    refine T_iconst (v := 0) (dk dt_attempt 9 rfl) (by decide +kernel) ?_
    exact h
  · have h := h.2 c2
    refine T_iconst (v := 1) (dk dt_attempt 7 rfl) (by decide +kernel) ?_
    refine T_goto 18 (dk dt_attempt 8 rfl) (by decide) ?_
    exact h
set_option maxRecDepth 100000 in
set_option maxHeartbeats 4000000 in
theorem sg_attempt_18 {G : mG} {d : Nat} {x : gd} {P : Option gv → gd → Prop} (l1 : Int32) (l2 : Int32) (s0 : Int32)
    (h : MT G d z_refuses 0 [(0, vr 0), (1, vi s0), (2, vi 1)] [] x (ri (fun r2 x1 => ((¬ (r2 = (0 : Int32)) → P (some (vi 0)) x1) ∧ (r2 = (0 : Int32) → MT G d z_in 0 [(0, vi l1), (1, vi 0), (2, vi 1)] [] x1 (ri (fun r5 x4 => ((r5 = (0 : Int32) → MT G (d + 1) z_attempt 51 [(0, vr 0), (1, vi l1), (2, vi l2)] [vi 1, vr 0] x4 P) ∧ (¬ (r5 = (0 : Int32)) → MT G d z_in 0 [(0, vi l2), (1, vi 1), (2, vi 3000)] [] x4 (ri (fun r8 x7 => ((¬ (r8 = (0 : Int32)) → MT G (d + 1) z_attempt 51 [(0, vr 0), (1, vi l1), (2, vi l2)] [vi 0, vr 0] x7 P) ∧ (r8 = (0 : Int32) → MT G (d + 1) z_attempt 51 [(0, vr 0), (1, vi l1), (2, vi l2)] [vi 1, vr 0] x7 P))))))))))))) :
    MT G (d + 1) z_attempt 18 [(0, vr 0), (1, vi l1), (2, vi l2)] [vi s0, vr 0] x P := by
  refine T_iconst (v := 1) (dk dt_attempt 10 rfl) (by decide +kernel) ?_
  refine MT_callVi [vi s0, vi 1] [] rfl (dk dt_attempt 11 rfl) cv_558 rfl rfl (Nat.le_of_ble_eq_true rfl) (Nat.le_of_ble_eq_true rfl) rfl rfl h (fun r2 x1 h => ?_)
  refine T_if_ne 58 (dk dt_attempt 12 rfl) (by decide) (fun c3 => ?_) (fun c3 => ?_)
  · have h := h.1 c3
    refine T_iconst (v := 0) (dk dt_attempt 30 rfl) (by decide +kernel) ?_
    exact MT_iret (dk dt_attempt 31 rfl) rfl rfl h
  · have h := h.2 c3
    refine T_aload_n 0 (dk dt_attempt 13 rfl) rfl rfl ?_
    refine T_iload_n 1 (dk dt_attempt 14 rfl) rfl rfl ?_
    refine T_iconst (v := 0) (dk dt_attempt 15 rfl) (by decide +kernel) ?_
    refine T_iconst (v := 1) (dk dt_attempt 16 rfl) (by decide +kernel) ?_
    refine MT_callSi [vi l1, vi 0, vi 1] [vr 0] rfl (dk dt_attempt 17 rfl) cs_322 rfl (Nat.le_of_ble_eq_true rfl) (Nat.le_of_ble_eq_true rfl) rfl rfl h (fun r5 x4 h => ?_)
    refine T_if_eq 46 (dk dt_attempt 18 rfl) (by decide) (fun c6 => ?_) (fun c6 => ?_)
    · have h := h.1 c6
      refine T_iconst (v := 1) (dk dt_attempt 24 rfl) (by decide +kernel) ?_
      refine T_goto 51 (dk dt_attempt 25 rfl) (by decide) ?_
      exact h
    · have h := h.2 c6
      refine T_iload_n 2 (dk dt_attempt 19 rfl) rfl rfl ?_
      refine T_iconst (v := 1) (dk dt_attempt 20 rfl) (by decide +kernel) ?_
      refine T_sipush (v := 3000) (dk dt_attempt 21 rfl) (by decide +kernel) ?_
      refine MT_callSi [vi l2, vi 1, vi 3000] [vr 0] rfl (dk dt_attempt 22 rfl) cs_322 rfl (Nat.le_of_ble_eq_true rfl) (Nat.le_of_ble_eq_true rfl) rfl rfl h (fun r8 x7 h => ?_)
      refine T_if_ne 50 (dk dt_attempt 23 rfl) (by decide) (fun c9 => ?_) (fun c9 => ?_)
      · have h := h.1 c9
        refine T_iconst (v := 0) (dk dt_attempt 26 rfl) (by decide +kernel) ?_
        exact h
      · have h := h.2 c9
        refine T_iconst (v := 1) (dk dt_attempt 24 rfl) (by decide +kernel) ?_
        refine T_goto 51 (dk dt_attempt 25 rfl) (by decide) ?_
        exact h
set_option maxRecDepth 100000 in
set_option maxHeartbeats 4000000 in
theorem sg_attempt_51 {G : mG} {d : Nat} {x : gd} {P : Option gv → gd → Prop} (l1 : Int32) (l2 : Int32) (s0 : Int32)
    (h : MT G d z_refuses 0 [(0, vr 0), (1, vi s0), (2, vi 2)] [] x (ri (fun r2 x1 => ((r2 = (0 : Int32) → (((x1.1 0 67) = (0 : Int32) → MT G (d + 1) z_attempt 81 [(0, vr 0), (1, vi l1), (2, vi l2), (3, vi (x1.1 0 68))] [] x1 P) ∧ (¬ ((x1.1 0 67) = (0 : Int32)) → MT G d z_pack 0 [(0, vr 0), (1, vr 136), (2, vi 0)] [] x1 (rv (fun x5 => MT G (d + 1) z_attempt 81 [(0, vr 0), (1, vi l1), (2, vi l2), (3, vi (x1.1 0 68))] [] x5 P))))) ∧ (¬ (r2 = (0 : Int32)) → P (some (vi 0)) x1))))) :
    MT G (d + 1) z_attempt 51 [(0, vr 0), (1, vi l1), (2, vi l2)] [vi s0, vr 0] x P := by
  refine T_iconst (v := 2) (dk dt_attempt 27 rfl) (by decide +kernel) ?_
  refine MT_callVi [vi s0, vi 2] [] rfl (dk dt_attempt 28 rfl) cv_558 rfl rfl (Nat.le_of_ble_eq_true rfl) (Nat.le_of_ble_eq_true rfl) rfl rfl h (fun r2 x1 h => ?_)
  refine T_if_eq 60 (dk dt_attempt 29 rfl) (by decide) (fun c3 => ?_) (fun c3 => ?_)
  · have h := h.1 c3
    refine T_aload_n 0 (dk dt_attempt 32 rfl) rfl rfl ?_
    refine T_getI 0 68 (dk dt_attempt 33 rfl) fl_608 mk_0 ml_0 (by decide) rfl ?_
    refine T_istore_n (lv2 := [(3, vi (x1.1 0 68)), (0, vr 0), (1, vi l1), (2, vi l2)]) (dk dt_attempt 34 rfl) rfl (by decide) rfl ?_
    refine T_aload_n 1 (dk dt_attempt 35 rfl) rfl rfl ?_
    refine T_getI 0 67 (dk dt_attempt 36 rfl) fl_569 mk_0 ml_0 (by decide) rfl ?_
    refine T_if_eq 81 (dk dt_attempt 37 rfl) (by decide) (fun c4 => ?_) (fun c4 => ?_)
    · have h := h.1 c4
      exact T_sub [1, 2, 3, 0] rfl h
    · have h := h.2 c4
      refine T_aload_n 1 (dk dt_attempt 38 rfl) rfl rfl ?_
      refine T_aload_n 1 (dk dt_attempt 39 rfl) rfl rfl ?_
      refine T_getR 0 135 136 (dk dt_attempt 40 rfl) fl_307 mk_0 ml_0 (by decide) rfl rfl ?_
      refine T_iconst (v := 0) (dk dt_attempt 41 rfl) (by decide +kernel) ?_
      refine MT_callVv [vr 136, vi 0] [] rfl (dk dt_attempt 42 rfl) cv_723 rfl rfl (Nat.le_of_ble_eq_true rfl) (Nat.le_of_ble_eq_true rfl) rfl rfl h (fun x5 h => ?_)
      exact T_sub [1, 2, 3, 0] rfl h
  · have h := h.2 c3
    refine T_iconst (v := 0) (dk dt_attempt 30 rfl) (by decide +kernel) ?_
    exact MT_iret (dk dt_attempt 31 rfl) rfl rfl h
set_option maxRecDepth 100000 in
set_option maxHeartbeats 4000000 in
theorem sg_attempt_81 {G : mG} {d : Nat} {x : gd} {P : Option gv → gd → Prop} (l1 : Int32) (l2 : Int32) (l3 : Int32)
    (h : (∀ x1 : gd, x1 = si x 0 68 l1 → MT G d z_tryAll 0 [(0, vr 0), (1, vi l1), (2, vi l2)] [] x1 (rv (fun x2 => vp_in l1 2 ∧ (∀ x4 : gd, x4 = si x2 119 (l1 : Int32).toNatClampNeg (vp_nar .boolean 1) → (∀ x5 : gd, x5 = si x4 0 68 l3 → (((x5.1 0 67) = (0 : Int32) → vp_in l1 2 ∧ P (some (vi (x5.1 120 (l1 : Int32).toNatClampNeg))) x5) ∧ (¬ ((x5.1 0 67) = (0 : Int32)) → MT G d z_unpack 0 [(0, vr 0), (1, vr 136), (2, vi 0)] [] x5 (rv (fun x8 => MT G d z_findChoices 0 [(0, vr 0)] [] x8 (rv (fun x9 => vp_in l1 2 ∧ P (some (vi (x9.1 120 (l1 : Int32).toNatClampNeg))) x9)))))))))))) :
    MT G (d + 1) z_attempt 81 [(0, vr 0), (1, vi l1), (2, vi l2), (3, vi l3)] [] x P := by
  refine T_aload_n 0 (dk dt_attempt 43 rfl) rfl rfl ?_
  refine T_iload_n 1 (dk dt_attempt 44 rfl) rfl rfl ?_
  obtain ⟨x1, ex1⟩ : ∃ z, z = si x 0 68 l1 := ⟨_, rfl⟩
  have h := h x1 ex1
  refine T_putI 0 68 (dk dt_attempt 45 rfl) fl_608 mk_0 ml_0 (by decide) rfl ⟨rfl, rfl⟩ ?_
  rw [← ex1]
  refine T_aload_n 0 (dk dt_attempt 46 rfl) rfl rfl ?_
  refine T_iload_n 1 (dk dt_attempt 47 rfl) rfl rfl ?_
  refine T_iload_n 2 (dk dt_attempt 48 rfl) rfl rfl ?_
  refine MT_callVv [vi l1, vi l2] [] rfl (dk dt_attempt 49 rfl) cv_755 rfl rfl (Nat.le_of_ble_eq_true rfl) (Nat.le_of_ble_eq_true rfl) rfl rfl h (fun x2 h => ?_)
  refine T_aload_n 0 (dk dt_attempt 50 rfl) rfl rfl ?_
  refine T_getR 0 118 119 (dk dt_attempt 51 rfl) fl_254 mk_0 ml_0 (by decide) rfl rfl ?_
  refine T_iload_n 1 (dk dt_attempt 52 rfl) rfl rfl ?_
  refine T_iconst (v := 1) (dk dt_attempt 53 rfl) (by decide +kernel) ?_
  obtain ⟨h3, h⟩ := h
  obtain ⟨x4, ex4⟩ : ∃ z, z = si x2 119 (l1 : Int32).toNatClampNeg (vp_nar .boolean 1) := ⟨_, rfl⟩
  have h := h x4 ex4
  refine T_zast 119 2 (dk dt_attempt 54 rfl) mk_119 ml_119 h3 ?_
  rw [← ex4]
  refine T_aload_n 0 (dk dt_attempt 55 rfl) rfl rfl ?_
  refine T_iload_n 3 (dk dt_attempt 56 rfl) rfl rfl ?_
  obtain ⟨x5, ex5⟩ : ∃ z, z = si x4 0 68 l3 := ⟨_, rfl⟩
  have h := h x5 ex5
  refine T_putI 0 68 (dk dt_attempt 57 rfl) fl_608 mk_0 ml_0 (by decide) rfl ⟨rfl, rfl⟩ ?_
  rw [← ex5]
  refine T_aload_n 0 (dk dt_attempt 58 rfl) rfl rfl ?_
  refine T_getI 0 67 (dk dt_attempt 59 rfl) fl_569 mk_0 ml_0 (by decide) rfl ?_
  refine T_if_eq 124 (dk dt_attempt 60 rfl) (by decide) (fun c6 => ?_) (fun c6 => ?_)
  · have h := h.1 c6
    refine T_aload_n 0 (dk dt_attempt 68 rfl) rfl rfl ?_
    refine T_getR 0 119 120 (dk dt_attempt 69 rfl) fl_257 mk_0 ml_0 (by decide) rfl rfl ?_
    refine T_iload_n 1 (dk dt_attempt 70 rfl) rfl rfl ?_
    obtain ⟨h7, h⟩ := h
    refine T_iald 120 2 (dk dt_attempt 71 rfl) mk_120 ml_120 h7 ?_
    exact MT_iret (dk dt_attempt 72 rfl) rfl rfl h
  · have h := h.2 c6
    refine T_aload_n 0 (dk dt_attempt 61 rfl) rfl rfl ?_
    refine T_aload_n 0 (dk dt_attempt 62 rfl) rfl rfl ?_
    refine T_getR 0 135 136 (dk dt_attempt 63 rfl) fl_307 mk_0 ml_0 (by decide) rfl rfl ?_
    refine T_iconst (v := 0) (dk dt_attempt 64 rfl) (by decide +kernel) ?_
    refine MT_callVv [vr 136, vi 0] [] rfl (dk dt_attempt 65 rfl) cv_749 rfl rfl (Nat.le_of_ble_eq_true rfl) (Nat.le_of_ble_eq_true rfl) rfl rfl h (fun x8 h => ?_)
    refine T_aload_n 0 (dk dt_attempt 66 rfl) rfl rfl ?_
    refine MT_callVv [] [] rfl (dk dt_attempt 67 rfl) cv_653 rfl rfl (Nat.le_of_ble_eq_true rfl) (Nat.le_of_ble_eq_true rfl) rfl rfl h (fun x9 h => ?_)
    refine T_aload_n 0 (dk dt_attempt 68 rfl) rfl rfl ?_
    refine T_getR 0 119 120 (dk dt_attempt 69 rfl) fl_257 mk_0 ml_0 (by decide) rfl rfl ?_
    refine T_iload_n 1 (dk dt_attempt 70 rfl) rfl rfl ?_
    obtain ⟨h10, h⟩ := h
    refine T_iald 120 2 (dk dt_attempt 71 rfl) mk_120 ml_120 h10 ?_
    exact MT_iret (dk dt_attempt 72 rfl) rfl rfl h
set_option maxRecDepth 100000 in
theorem dt_tried : dck cX12_tried [(0, .aload_n 0, 1), (1, .iconst 0, 1), (2, .putfield 316, 3), (5, .aload_n 0, 1), (6, .iload_n 1, 1), (7, .iconst 0, 1), (8, .iconst 1, 1), (9, .invokestatic 322, 3), (12, .ifCond .ne 7, 3), (15, .iconst 1, 1), (16, .goto 4, 3), (19, .iconst 0, 1), (20, .iconst 1, 1), (21, .invokevirtual 558, 3), (24, .ifCond .ne 34, 3), (27, .aload_n 0, 1), (28, .iload_n 2, 1), (29, .iconst 0, 1), (30, .iconst 5, 1), (31, .invokestatic 322, 3), (34, .ifCond .ne 7, 3), (37, .iconst 1, 1), (38, .goto 4, 3), (41, .iconst 0, 1), (42, .iconst 2, 1), (43, .invokevirtual 558, 3), (46, .ifCond .ne 12, 3), (49, .aload_n 0, 1), (50, .getfield 254, 3), (53, .iload_n 1, 1), (54, .baload, 1), (55, .ifCond .ne 5, 3), (58, .iconst 0, 1), (59, .ireturn, 1), (60, .iload_n 2, 1), (61, .ifCond .ne 12, 3), (64, .aload_n 0, 1), (65, .getfield 257, 3), (68, .iload_n 1, 1), (69, .iaload, 1), (70, .goto 68, 3), (73, .iload_n 2, 1), (74, .iconst 1, 1), (75, .if_icmp .ne 15, 3), (78, .aload_n 0, 1), (79, .getfield 260, 3), (82, .iload_n 1, 1), (83, .baload, 1), (84, .invokestatic 587, 3), (87, .goto 51, 3), (90, .iload_n 2, 1), (91, .iconst 2, 1), (92, .if_icmp .ne 12, 3), (95, .aload_n 0, 1), (96, .getfield 263, 3), (99, .iload_n 1, 1), (100, .iaload, 1), (101, .goto 37, 3), (104, .iload_n 2, 1), (105, .iconst 3, 1), (106, .if_icmp .ne 12, 3), (109, .aload_n 0, 1), (110, .getfield 266, 3), (113, .iload_n 1, 1), (114, .iaload, 1), (115, .goto 23, 3), (118, .iload_n 2, 1), (119, .iconst 4, 1), (120, .if_icmp .ne 12, 3), (123, .aload_n 0, 1), (124, .getfield 269, 3), (127, .iload_n 1, 1), (128, .iaload, 1), (129, .goto 9, 3), (132, .aload_n 0, 1), (133, .getfield 272, 3), (136, .iload_n 1, 1), (137, .iaload, 1), (138, .ireturn, 1)] = true := by decide +kernel
set_option maxRecDepth 100000 in
set_option maxHeartbeats 4000000 in
theorem sg_tried_0 {G : mG} {d : Nat} {x : gd} {P : Option gv → gd → Prop} (l1 : Int32) (l2 : Int32)
    (h : (∀ x1 : gd, x1 = si x 0 0 0 → MT G d z_in 0 [(0, vi l1), (1, vi 0), (2, vi 1)] [] x1 (ri (fun r3 x2 => ((¬ (r3 = (0 : Int32)) → MT G (d + 1) z_tried 20 [(0, vr 0), (1, vi l1), (2, vi l2)] [vi 0, vr 0] x2 P) ∧ (r3 = (0 : Int32) → MT G (d + 1) z_tried 20 [(0, vr 0), (1, vi l1), (2, vi l2)] [vi 1, vr 0] x2 P)))))) :
    MT G (d + 1) z_tried 0 [(0, vr 0), (1, vi l1), (2, vi l2)] [] x P := by
  refine T_aload_n 0 (dk dt_tried 0 rfl) rfl rfl ?_
  refine T_iconst (v := 0) (dk dt_tried 1 rfl) (by decide +kernel) ?_
  obtain ⟨x1, ex1⟩ : ∃ z, z = si x 0 0 0 := ⟨_, rfl⟩
  have h := h x1 ex1
  refine T_putI 0 0 (dk dt_tried 2 rfl) fl_316 mk_0 ml_0 (by decide) rfl ⟨rfl, rfl⟩ ?_
  rw [← ex1]
  refine T_aload_n 0 (dk dt_tried 3 rfl) rfl rfl ?_
  refine T_iload_n 1 (dk dt_tried 4 rfl) rfl rfl ?_
  refine T_iconst (v := 0) (dk dt_tried 5 rfl) (by decide +kernel) ?_
  refine T_iconst (v := 1) (dk dt_tried 6 rfl) (by decide +kernel) ?_
  refine MT_callSi [vi l1, vi 0, vi 1] [vr 0] rfl (dk dt_tried 7 rfl) cs_322 rfl (Nat.le_of_ble_eq_true rfl) (Nat.le_of_ble_eq_true rfl) rfl rfl h (fun r3 x2 h => ?_)
  refine T_if_ne 19 (dk dt_tried 8 rfl) (by decide) (fun c4 => ?_) (fun c4 => ?_)
  · have h := h.1 c4
    refine T_iconst (v := 0) (dk dt_tried 11 rfl) (by decide +kernel) ?_
    exact h
  · have h := h.2 c4
    refine T_iconst (v := 1) (dk dt_tried 9 rfl) (by decide +kernel) ?_
    refine T_goto 20 (dk dt_tried 10 rfl) (by decide) ?_
    exact h
set_option maxRecDepth 100000 in
set_option maxHeartbeats 4000000 in
theorem sg_tried_20 {G : mG} {d : Nat} {x : gd} {P : Option gv → gd → Prop} (l1 : Int32) (l2 : Int32) (s0 : Int32)
    (h : MT G d z_refuses 0 [(0, vr 0), (1, vi s0), (2, vi 1)] [] x (ri (fun r2 x1 => ((¬ (r2 = (0 : Int32)) → P (some (vi 0)) x1) ∧ (r2 = (0 : Int32) → MT G d z_in 0 [(0, vi l2), (1, vi 0), (2, vi 5)] [] x1 (ri (fun r5 x4 => ((¬ (r5 = (0 : Int32)) → MT G (d + 1) z_tried 42 [(0, vr 0), (1, vi l1), (2, vi l2)] [vi 0, vr 0] x4 P) ∧ (r5 = (0 : Int32) → MT G (d + 1) z_tried 42 [(0, vr 0), (1, vi l1), (2, vi l2)] [vi 1, vr 0] x4 P))))))))) :
    MT G (d + 1) z_tried 20 [(0, vr 0), (1, vi l1), (2, vi l2)] [vi s0, vr 0] x P := by
  refine T_iconst (v := 1) (dk dt_tried 12 rfl) (by decide +kernel) ?_
  refine MT_callVi [vi s0, vi 1] [] rfl (dk dt_tried 13 rfl) cv_558 rfl rfl (Nat.le_of_ble_eq_true rfl) (Nat.le_of_ble_eq_true rfl) rfl rfl h (fun r2 x1 h => ?_)
  refine T_if_ne 58 (dk dt_tried 14 rfl) (by decide) (fun c3 => ?_) (fun c3 => ?_)
  · have h := h.1 c3
    refine T_iconst (v := 0) (dk dt_tried 32 rfl) (by decide +kernel) ?_
    exact MT_iret (dk dt_tried 33 rfl) rfl rfl h
  · have h := h.2 c3
    refine T_aload_n 0 (dk dt_tried 15 rfl) rfl rfl ?_
    refine T_iload_n 2 (dk dt_tried 16 rfl) rfl rfl ?_
    refine T_iconst (v := 0) (dk dt_tried 17 rfl) (by decide +kernel) ?_
    refine T_iconst (v := 5) (dk dt_tried 18 rfl) (by decide +kernel) ?_
    refine MT_callSi [vi l2, vi 0, vi 5] [vr 0] rfl (dk dt_tried 19 rfl) cs_322 rfl (Nat.le_of_ble_eq_true rfl) (Nat.le_of_ble_eq_true rfl) rfl rfl h (fun r5 x4 h => ?_)
    refine T_if_ne 41 (dk dt_tried 20 rfl) (by decide) (fun c6 => ?_) (fun c6 => ?_)
    · have h := h.1 c6
      refine T_iconst (v := 0) (dk dt_tried 23 rfl) (by decide +kernel) ?_
      exact h
    · have h := h.2 c6
      refine T_iconst (v := 1) (dk dt_tried 21 rfl) (by decide +kernel) ?_
      refine T_goto 42 (dk dt_tried 22 rfl) (by decide) ?_
      exact h
set_option maxRecDepth 100000 in
set_option maxHeartbeats 4000000 in
theorem sg_tried_42 {G : mG} {d : Nat} {x : gd} {P : Option gv → gd → Prop} (l1 : Int32) (l2 : Int32) (s0 : Int32)
    (h : MT G d z_refuses 0 [(0, vr 0), (1, vi s0), (2, vi 2)] [] x (ri (fun r2 x1 => ((¬ (r2 = (0 : Int32)) → P (some (vi 0)) x1) ∧ (r2 = (0 : Int32) → vp_in l1 2 ∧ ((¬ ((x1.1 119 (l1 : Int32).toNatClampNeg) = (0 : Int32)) → ((¬ (l2 = (0 : Int32)) → ((¬ (l2 = (1 : Int32)) → ((¬ (l2 = (2 : Int32)) → ((¬ (l2 = (3 : Int32)) → ((¬ (l2 = (4 : Int32)) → vp_in l1 2 ∧ P (some (vi (x1.1 125 (l1 : Int32).toNatClampNeg))) x1) ∧ (l2 = (4 : Int32) → vp_in l1 2 ∧ P (some (vi (x1.1 124 (l1 : Int32).toNatClampNeg))) x1))) ∧ (l2 = (3 : Int32) → vp_in l1 2 ∧ P (some (vi (x1.1 123 (l1 : Int32).toNatClampNeg))) x1))) ∧ (l2 = (2 : Int32) → vp_in l1 2 ∧ P (some (vi (x1.1 122 (l1 : Int32).toNatClampNeg))) x1))) ∧ (l2 = (1 : Int32) → vp_in l1 2 ∧ MT G d z_one 0 [(0, vi (x1.1 121 (l1 : Int32).toNatClampNeg))] [] x1 (ri (fun r17 x16 => P (some (vi r17)) x16))))) ∧ (l2 = (0 : Int32) → vp_in l1 2 ∧ P (some (vi (x1.1 120 (l1 : Int32).toNatClampNeg))) x1))) ∧ ((x1.1 119 (l1 : Int32).toNatClampNeg) = (0 : Int32) → P (some (vi 0)) x1))))))) :
    MT G (d + 1) z_tried 42 [(0, vr 0), (1, vi l1), (2, vi l2)] [vi s0, vr 0] x P := by
  refine T_iconst (v := 2) (dk dt_tried 24 rfl) (by decide +kernel) ?_
  refine MT_callVi [vi s0, vi 2] [] rfl (dk dt_tried 25 rfl) cv_558 rfl rfl (Nat.le_of_ble_eq_true rfl) (Nat.le_of_ble_eq_true rfl) rfl rfl h (fun r2 x1 h => ?_)
  refine T_if_ne 58 (dk dt_tried 26 rfl) (by decide) (fun c3 => ?_) (fun c3 => ?_)
  · have h := h.1 c3
    refine T_iconst (v := 0) (dk dt_tried 32 rfl) (by decide +kernel) ?_
    exact MT_iret (dk dt_tried 33 rfl) rfl rfl h
  · have h := h.2 c3
    refine T_aload_n 0 (dk dt_tried 27 rfl) rfl rfl ?_
    refine T_getR 0 118 119 (dk dt_tried 28 rfl) fl_254 mk_0 ml_0 (by decide) rfl rfl ?_
    refine T_iload_n 1 (dk dt_tried 29 rfl) rfl rfl ?_
    obtain ⟨h4, h⟩ := h
    refine T_zald 119 2 (dk dt_tried 30 rfl) mk_119 ml_119 h4 ?_
    refine T_if_ne 60 (dk dt_tried 31 rfl) (by decide) (fun c5 => ?_) (fun c5 => ?_)
    · have h := h.1 c5
      refine T_iload_n 2 (dk dt_tried 34 rfl) rfl rfl ?_
      refine T_if_ne 73 (dk dt_tried 35 rfl) (by decide) (fun c6 => ?_) (fun c6 => ?_)
      · have h := h.1 c6
        refine T_iload_n 2 (dk dt_tried 41 rfl) rfl rfl ?_
        refine T_iconst (v := 1) (dk dt_tried 42 rfl) (by decide +kernel) ?_
        refine T_icmp_ne 90 (dk dt_tried 43 rfl) (by decide) (fun c7 => ?_) (fun c7 => ?_)
        · have h := h.1 c7
          refine T_iload_n 2 (dk dt_tried 50 rfl) rfl rfl ?_
          refine T_iconst (v := 2) (dk dt_tried 51 rfl) (by decide +kernel) ?_
          refine T_icmp_ne 104 (dk dt_tried 52 rfl) (by decide) (fun c8 => ?_) (fun c8 => ?_)
          · have h := h.1 c8
            refine T_iload_n 2 (dk dt_tried 58 rfl) rfl rfl ?_
            refine T_iconst (v := 3) (dk dt_tried 59 rfl) (by decide +kernel) ?_
            refine T_icmp_ne 118 (dk dt_tried 60 rfl) (by decide) (fun c9 => ?_) (fun c9 => ?_)
            · have h := h.1 c9
              refine T_iload_n 2 (dk dt_tried 66 rfl) rfl rfl ?_
              refine T_iconst (v := 4) (dk dt_tried 67 rfl) (by decide +kernel) ?_
              refine T_icmp_ne 132 (dk dt_tried 68 rfl) (by decide) (fun c10 => ?_) (fun c10 => ?_)
              · have h := h.1 c10
                refine T_aload_n 0 (dk dt_tried 74 rfl) rfl rfl ?_
                refine T_getR 0 124 125 (dk dt_tried 75 rfl) fl_272 mk_0 ml_0 (by decide) rfl rfl ?_
                refine T_iload_n 1 (dk dt_tried 76 rfl) rfl rfl ?_
                obtain ⟨h11, h⟩ := h
                refine T_iald 125 2 (dk dt_tried 77 rfl) mk_125 ml_125 h11 ?_
                exact MT_iret (dk dt_tried 78 rfl) rfl rfl h
              · have h := h.2 c10
                refine T_aload_n 0 (dk dt_tried 69 rfl) rfl rfl ?_
                refine T_getR 0 123 124 (dk dt_tried 70 rfl) fl_269 mk_0 ml_0 (by decide) rfl rfl ?_
                refine T_iload_n 1 (dk dt_tried 71 rfl) rfl rfl ?_
                obtain ⟨h12, h⟩ := h
                refine T_iald 124 2 (dk dt_tried 72 rfl) mk_124 ml_124 h12 ?_
                refine T_goto 138 (dk dt_tried 73 rfl) (by decide) ?_
                exact MT_iret (dk dt_tried 78 rfl) rfl rfl h
            · have h := h.2 c9
              refine T_aload_n 0 (dk dt_tried 61 rfl) rfl rfl ?_
              refine T_getR 0 122 123 (dk dt_tried 62 rfl) fl_266 mk_0 ml_0 (by decide) rfl rfl ?_
              refine T_iload_n 1 (dk dt_tried 63 rfl) rfl rfl ?_
              obtain ⟨h13, h⟩ := h
              refine T_iald 123 2 (dk dt_tried 64 rfl) mk_123 ml_123 h13 ?_
              refine T_goto 138 (dk dt_tried 65 rfl) (by decide) ?_
              exact MT_iret (dk dt_tried 78 rfl) rfl rfl h
          · have h := h.2 c8
            refine T_aload_n 0 (dk dt_tried 53 rfl) rfl rfl ?_
            refine T_getR 0 121 122 (dk dt_tried 54 rfl) fl_263 mk_0 ml_0 (by decide) rfl rfl ?_
            refine T_iload_n 1 (dk dt_tried 55 rfl) rfl rfl ?_
            obtain ⟨h14, h⟩ := h
            refine T_iald 122 2 (dk dt_tried 56 rfl) mk_122 ml_122 h14 ?_
            refine T_goto 138 (dk dt_tried 57 rfl) (by decide) ?_
            exact MT_iret (dk dt_tried 78 rfl) rfl rfl h
        · have h := h.2 c7
          refine T_aload_n 0 (dk dt_tried 44 rfl) rfl rfl ?_
          refine T_getR 0 120 121 (dk dt_tried 45 rfl) fl_260 mk_0 ml_0 (by decide) rfl rfl ?_
          refine T_iload_n 1 (dk dt_tried 46 rfl) rfl rfl ?_
          obtain ⟨h15, h⟩ := h
          refine T_zald 121 2 (dk dt_tried 47 rfl) mk_121 ml_121 h15 ?_
          refine MT_callSi [vi (x1.1 121 (l1 : Int32).toNatClampNeg)] [] rfl (dk dt_tried 48 rfl) cs_587 rfl (Nat.le_of_ble_eq_true rfl) (Nat.le_of_ble_eq_true rfl) rfl rfl h (fun r17 x16 h => ?_)
          refine T_goto 138 (dk dt_tried 49 rfl) (by decide) ?_
          exact MT_iret (dk dt_tried 78 rfl) rfl rfl h
      · have h := h.2 c6
        refine T_aload_n 0 (dk dt_tried 36 rfl) rfl rfl ?_
        refine T_getR 0 119 120 (dk dt_tried 37 rfl) fl_257 mk_0 ml_0 (by decide) rfl rfl ?_
        refine T_iload_n 1 (dk dt_tried 38 rfl) rfl rfl ?_
        obtain ⟨h18, h⟩ := h
        refine T_iald 120 2 (dk dt_tried 39 rfl) mk_120 ml_120 h18 ?_
        refine T_goto 138 (dk dt_tried 40 rfl) (by decide) ?_
        exact MT_iret (dk dt_tried 78 rfl) rfl rfl h
    · have h := h.2 c5
      refine T_iconst (v := 0) (dk dt_tried 32 rfl) (by decide +kernel) ?_
      exact MT_iret (dk dt_tried 33 rfl) rfl rfl h
set_option maxRecDepth 100000 in
theorem dt_outcome : dck cX12_outcome [(0, .aload_n 0, 1), (1, .iconst 0, 1), (2, .putfield 316, 3), (5, .aload_n 0, 1), (6, .iload_n 1, 1), (7, .iconst 0, 1), (8, .iconst 1, 1), (9, .invokestatic 322, 3), (12, .ifCond .ne 7, 3), (15, .iconst 1, 1), (16, .goto 4, 3), (19, .iconst 0, 1), (20, .iconst 1, 1), (21, .invokevirtual 558, 3), (24, .ifCond .ne 55, 3), (27, .aload_n 0, 1), (28, .aload_n 0, 1), (29, .getfield 254, 3), (32, .iload_n 1, 1), (33, .baload, 1), (34, .ifCond .eq 33, 3), (37, .iload_n 2, 1), (38, .iconst 0, 1), (39, .aload_n 0, 1), (40, .getfield 266, 3), (43, .iload_n 1, 1), (44, .iaload, 1), (45, .iconst 1, 1), (46, .isub, 1), (47, .invokestatic 322, 3), (50, .ifCond .eq 17, 3), (53, .iload_n 3, 1), (54, .iconst 0, 1), (55, .aload_n 0, 1), (56, .getfield 448, 3), (59, .iconst 1, 1), (60, .isub, 1), (61, .invokestatic 322, 3), (64, .ifCond .ne 7, 3), (67, .iconst 1, 1), (68, .goto 4, 3), (71, .iconst 0, 1), (72, .iconst 2, 1), (73, .invokevirtual 558, 3), (76, .ifCond .eq 5, 3), (79, .iconst 0, 1), (80, .ireturn, 1), (81, .aload_n 0, 1), (82, .getfield 285, 3), (85, .ldc_w 727, 3), (88, .iload_n 1, 1), (89, .imul, 1), (90, .bipush 24, 2), (92, .iload_n 2, 1), (93, .imul, 1), (94, .iadd, 1), (95, .iload_n 3, 1), (96, .iadd, 1), (97, .iaload, 1), (98, .ireturn, 1)] = true := by decide +kernel
set_option maxRecDepth 100000 in
set_option maxHeartbeats 4000000 in
theorem sg_outcome_0 {G : mG} {d : Nat} {x : gd} {P : Option gv → gd → Prop} (l1 : Int32) (l2 : Int32) (l3 : Int32)
    (h : (∀ x1 : gd, x1 = si x 0 0 0 → MT G d z_in 0 [(0, vi l1), (1, vi 0), (2, vi 1)] [] x1 (ri (fun r3 x2 => ((¬ (r3 = (0 : Int32)) → MT G (d + 1) z_outcome 20 [(0, vr 0), (1, vi l1), (2, vi l2), (3, vi l3)] [vi 0, vr 0] x2 P) ∧ (r3 = (0 : Int32) → MT G (d + 1) z_outcome 20 [(0, vr 0), (1, vi l1), (2, vi l2), (3, vi l3)] [vi 1, vr 0] x2 P)))))) :
    MT G (d + 1) z_outcome 0 [(0, vr 0), (1, vi l1), (2, vi l2), (3, vi l3)] [] x P := by
  refine T_aload_n 0 (dk dt_outcome 0 rfl) rfl rfl ?_
  refine T_iconst (v := 0) (dk dt_outcome 1 rfl) (by decide +kernel) ?_
  obtain ⟨x1, ex1⟩ : ∃ z, z = si x 0 0 0 := ⟨_, rfl⟩
  have h := h x1 ex1
  refine T_putI 0 0 (dk dt_outcome 2 rfl) fl_316 mk_0 ml_0 (by decide) rfl ⟨rfl, rfl⟩ ?_
  rw [← ex1]
  refine T_aload_n 0 (dk dt_outcome 3 rfl) rfl rfl ?_
  refine T_iload_n 1 (dk dt_outcome 4 rfl) rfl rfl ?_
  refine T_iconst (v := 0) (dk dt_outcome 5 rfl) (by decide +kernel) ?_
  refine T_iconst (v := 1) (dk dt_outcome 6 rfl) (by decide +kernel) ?_
  refine MT_callSi [vi l1, vi 0, vi 1] [vr 0] rfl (dk dt_outcome 7 rfl) cs_322 rfl (Nat.le_of_ble_eq_true rfl) (Nat.le_of_ble_eq_true rfl) rfl rfl h (fun r3 x2 h => ?_)
  refine T_if_ne 19 (dk dt_outcome 8 rfl) (by decide) (fun c4 => ?_) (fun c4 => ?_)
  · have h := h.1 c4
    refine T_iconst (v := 0) (dk dt_outcome 11 rfl) (by decide +kernel) ?_
    exact h
  · have h := h.2 c4
    refine T_iconst (v := 1) (dk dt_outcome 9 rfl) (by decide +kernel) ?_
    refine T_goto 20 (dk dt_outcome 10 rfl) (by decide) ?_
    exact h
set_option maxRecDepth 100000 in
set_option maxHeartbeats 4000000 in
theorem sg_outcome_20 {G : mG} {d : Nat} {x : gd} {P : Option gv → gd → Prop} (l1 : Int32) (l2 : Int32) (l3 : Int32) (s0 : Int32)
    (h : MT G d z_refuses 0 [(0, vr 0), (1, vi s0), (2, vi 1)] [] x (ri (fun r2 x1 => ((¬ (r2 = (0 : Int32)) → P (some (vi 0)) x1) ∧ (r2 = (0 : Int32) → vp_in l1 2 ∧ (((x1.1 119 (l1 : Int32).toNatClampNeg) = (0 : Int32) → MT G (d + 1) z_outcome 72 [(0, vr 0), (1, vi l1), (2, vi l2), (3, vi l3)] [vi 1, vr 0] x1 P) ∧ (¬ ((x1.1 119 (l1 : Int32).toNatClampNeg) = (0 : Int32)) → vp_in l1 2 ∧ MT G d z_in 0 [(0, vi l2), (1, vi 0), (2, vi ((x1.1 123 (l1 : Int32).toNatClampNeg) - 1))] [] x1 (ri (fun r8 x7 => ((r8 = (0 : Int32) → MT G (d + 1) z_outcome 72 [(0, vr 0), (1, vi l1), (2, vi l2), (3, vi l3)] [vi 1, vr 0] x7 P) ∧ (¬ (r8 = (0 : Int32)) → MT G d z_in 0 [(0, vi l3), (1, vi 0), (2, vi ((x7.1 0 23) - 1))] [] x7 (ri (fun r11 x10 => ((¬ (r11 = (0 : Int32)) → MT G (d + 1) z_outcome 72 [(0, vr 0), (1, vi l1), (2, vi l2), (3, vi l3)] [vi 0, vr 0] x10 P) ∧ (r11 = (0 : Int32) → MT G (d + 1) z_outcome 72 [(0, vr 0), (1, vi l1), (2, vi l2), (3, vi l3)] [vi 1, vr 0] x10 P))))))))))))))) :
    MT G (d + 1) z_outcome 20 [(0, vr 0), (1, vi l1), (2, vi l2), (3, vi l3)] [vi s0, vr 0] x P := by
  refine T_iconst (v := 1) (dk dt_outcome 12 rfl) (by decide +kernel) ?_
  refine MT_callVi [vi s0, vi 1] [] rfl (dk dt_outcome 13 rfl) cv_558 rfl rfl (Nat.le_of_ble_eq_true rfl) (Nat.le_of_ble_eq_true rfl) rfl rfl h (fun r2 x1 h => ?_)
  refine T_if_ne 79 (dk dt_outcome 14 rfl) (by decide) (fun c3 => ?_) (fun c3 => ?_)
  · have h := h.1 c3
    refine T_iconst (v := 0) (dk dt_outcome 45 rfl) (by decide +kernel) ?_
    exact MT_iret (dk dt_outcome 46 rfl) rfl rfl h
  · have h := h.2 c3
    refine T_aload_n 0 (dk dt_outcome 15 rfl) rfl rfl ?_
    refine T_aload_n 0 (dk dt_outcome 16 rfl) rfl rfl ?_
    refine T_getR 0 118 119 (dk dt_outcome 17 rfl) fl_254 mk_0 ml_0 (by decide) rfl rfl ?_
    refine T_iload_n 1 (dk dt_outcome 18 rfl) rfl rfl ?_
    obtain ⟨h4, h⟩ := h
    refine T_zald 119 2 (dk dt_outcome 19 rfl) mk_119 ml_119 h4 ?_
    refine T_if_eq 67 (dk dt_outcome 20 rfl) (by decide) (fun c5 => ?_) (fun c5 => ?_)
    · have h := h.1 c5
      refine T_iconst (v := 1) (dk dt_outcome 39 rfl) (by decide +kernel) ?_
      refine T_goto 72 (dk dt_outcome 40 rfl) (by decide) ?_
      exact h
    · have h := h.2 c5
      refine T_iload_n 2 (dk dt_outcome 21 rfl) rfl rfl ?_
      refine T_iconst (v := 0) (dk dt_outcome 22 rfl) (by decide +kernel) ?_
      refine T_aload_n 0 (dk dt_outcome 23 rfl) rfl rfl ?_
      refine T_getR 0 122 123 (dk dt_outcome 24 rfl) fl_266 mk_0 ml_0 (by decide) rfl rfl ?_
      refine T_iload_n 1 (dk dt_outcome 25 rfl) rfl rfl ?_
      obtain ⟨h6, h⟩ := h
      refine T_iald 123 2 (dk dt_outcome 26 rfl) mk_123 ml_123 h6 ?_
      refine T_iconst (v := 1) (dk dt_outcome 27 rfl) (by decide +kernel) ?_
      refine T_isub (dk dt_outcome 28 rfl) ?_
      refine MT_callSi [vi l2, vi 0, vi ((x1.1 123 (l1 : Int32).toNatClampNeg) - 1)] [vr 0] rfl (dk dt_outcome 29 rfl) cs_322 rfl (Nat.le_of_ble_eq_true rfl) (Nat.le_of_ble_eq_true rfl) rfl rfl h (fun r8 x7 h => ?_)
      refine T_if_eq 67 (dk dt_outcome 30 rfl) (by decide) (fun c9 => ?_) (fun c9 => ?_)
      · have h := h.1 c9
        refine T_iconst (v := 1) (dk dt_outcome 39 rfl) (by decide +kernel) ?_
        refine T_goto 72 (dk dt_outcome 40 rfl) (by decide) ?_
        exact h
      · have h := h.2 c9
        refine T_iload_n 3 (dk dt_outcome 31 rfl) rfl rfl ?_
        refine T_iconst (v := 0) (dk dt_outcome 32 rfl) (by decide +kernel) ?_
        refine T_aload_n 0 (dk dt_outcome 33 rfl) rfl rfl ?_
        refine T_getI 0 23 (dk dt_outcome 34 rfl) fl_448 mk_0 ml_0 (by decide) rfl ?_
        refine T_iconst (v := 1) (dk dt_outcome 35 rfl) (by decide +kernel) ?_
        refine T_isub (dk dt_outcome 36 rfl) ?_
        refine MT_callSi [vi l3, vi 0, vi ((x7.1 0 23) - 1)] [vr 0] rfl (dk dt_outcome 37 rfl) cs_322 rfl (Nat.le_of_ble_eq_true rfl) (Nat.le_of_ble_eq_true rfl) rfl rfl h (fun r11 x10 h => ?_)
        refine T_if_ne 71 (dk dt_outcome 38 rfl) (by decide) (fun c12 => ?_) (fun c12 => ?_)
        · have h := h.1 c12
          refine T_iconst (v := 0) (dk dt_outcome 41 rfl) (by decide +kernel) ?_
          exact h
        · have h := h.2 c12
          refine T_iconst (v := 1) (dk dt_outcome 39 rfl) (by decide +kernel) ?_
          refine T_goto 72 (dk dt_outcome 40 rfl) (by decide) ?_
          exact h
set_option maxRecDepth 100000 in
set_option maxHeartbeats 4000000 in
theorem sg_outcome_72 {G : mG} {d : Nat} {x : gd} {P : Option gv → gd → Prop} (l1 : Int32) (l2 : Int32) (l3 : Int32) (s0 : Int32)
    (h : MT G d z_refuses 0 [(0, vr 0), (1, vi s0), (2, vi 2)] [] x (ri (fun r2 x1 => ((r2 = (0 : Int32) → vp_in (((72000 * l1) + (24 * l2)) + l3) 144000 ∧ P (some (vi (x1.1 129 (((72000 * l1) + (24 * l2)) + l3 : Int32).toNatClampNeg))) x1) ∧ (¬ (r2 = (0 : Int32)) → P (some (vi 0)) x1))))) :
    MT G (d + 1) z_outcome 72 [(0, vr 0), (1, vi l1), (2, vi l2), (3, vi l3)] [vi s0, vr 0] x P := by
  refine T_iconst (v := 2) (dk dt_outcome 42 rfl) (by decide +kernel) ?_
  refine MT_callVi [vi s0, vi 2] [] rfl (dk dt_outcome 43 rfl) cv_558 rfl rfl (Nat.le_of_ble_eq_true rfl) (Nat.le_of_ble_eq_true rfl) rfl rfl h (fun r2 x1 h => ?_)
  refine T_if_eq 81 (dk dt_outcome 44 rfl) (by decide) (fun c3 => ?_) (fun c3 => ?_)
  · have h := h.1 c3
    refine T_aload_n 0 (dk dt_outcome 47 rfl) rfl rfl ?_
    refine T_getR 0 128 129 (dk dt_outcome 48 rfl) fl_285 mk_0 ml_0 (by decide) rfl rfl ?_
    refine T_ldcw (v := 72000) (dk dt_outcome 49 rfl) kc_727 ?_
    refine T_iload_n 1 (dk dt_outcome 50 rfl) rfl rfl ?_
    refine T_imul (dk dt_outcome 51 rfl) ?_
    refine T_bipush (v := 24) (dk dt_outcome 52 rfl) (by decide +kernel) ?_
    refine T_iload_n 2 (dk dt_outcome 53 rfl) rfl rfl ?_
    refine T_imul (dk dt_outcome 54 rfl) ?_
    refine T_iadd (dk dt_outcome 55 rfl) ?_
    refine T_iload_n 3 (dk dt_outcome 56 rfl) rfl rfl ?_
    refine T_iadd (dk dt_outcome 57 rfl) ?_
    obtain ⟨h4, h⟩ := h
    refine T_iald 129 144000 (dk dt_outcome 58 rfl) mk_129 ml_129 h4 ?_
    exact MT_iret (dk dt_outcome 59 rfl) rfl rfl h
  · have h := h.2 c3
    refine T_iconst (v := 0) (dk dt_outcome 45 rfl) (by decide +kernel) ?_
    exact MT_iret (dk dt_outcome 46 rfl) rfl rfl h
set_option maxRecDepth 100000 in
theorem dt_finding : dck cX12_finding [(0, .aload_n 0, 1), (1, .iconst 0, 1), (2, .putfield 316, 3), (5, .aload_n 0, 1), (6, .iload_n 1, 1), (7, .iconst 0, 1), (8, .iconst 1, 1), (9, .invokestatic 322, 3), (12, .ifCond .eq 13, 3), (15, .iload_n 2, 1), (16, .iconst 0, 1), (17, .bipush 10, 2), (19, .invokestatic 322, 3), (22, .ifCond .ne 7, 3), (25, .iconst 1, 1), (26, .goto 4, 3), (29, .iconst 0, 1), (30, .iconst 1, 1), (31, .invokevirtual 558, 3), (34, .ifCond .eq 5, 3), (37, .iconst 0, 1), (38, .ireturn, 1), (39, .aload_n 0, 1), (40, .getfield 254, 3), (43, .iload_n 1, 1), (44, .baload, 1), (45, .ifCond .eq 17, 3), (48, .aload_n 0, 1), (49, .getfield 275, 3), (52, .bipush 11, 2), (54, .iload_n 1, 1), (55, .imul, 1), (56, .iload_n 2, 1), (57, .iadd, 1), (58, .iaload, 1), (59, .goto 4, 3), (62, .iconst (-1), 1), (63, .istore_n 3, 1), (64, .iload_n 3, 1), (65, .iconst (-1), 1), (66, .if_icmp .ne 7, 3), (69, .iconst (-1), 1), (70, .goto 15, 3), (73, .aload_n 0, 1), (74, .getfield 294, 3), (77, .sipush 3000, 3), (80, .iload_n 1, 1), (81, .imul, 1), (82, .iload_n 3, 1), (83, .iadd, 1), (84, .iaload, 1), (85, .ireturn, 1)] = true := by decide +kernel
set_option maxRecDepth 100000 in
set_option maxHeartbeats 4000000 in
theorem sg_finding_0 {G : mG} {d : Nat} {x : gd} {P : Option gv → gd → Prop} (l1 : Int32) (l2 : Int32)
    (h : (∀ x1 : gd, x1 = si x 0 0 0 → MT G d z_in 0 [(0, vi l1), (1, vi 0), (2, vi 1)] [] x1 (ri (fun r3 x2 => ((r3 = (0 : Int32) → MT G (d + 1) z_finding 30 [(0, vr 0), (1, vi l1), (2, vi l2)] [vi 1, vr 0] x2 P) ∧ (¬ (r3 = (0 : Int32)) → MT G d z_in 0 [(0, vi l2), (1, vi 0), (2, vi 10)] [] x2 (ri (fun r6 x5 => ((¬ (r6 = (0 : Int32)) → MT G (d + 1) z_finding 30 [(0, vr 0), (1, vi l1), (2, vi l2)] [vi 0, vr 0] x5 P) ∧ (r6 = (0 : Int32) → MT G (d + 1) z_finding 30 [(0, vr 0), (1, vi l1), (2, vi l2)] [vi 1, vr 0] x5 P)))))))))) :
    MT G (d + 1) z_finding 0 [(0, vr 0), (1, vi l1), (2, vi l2)] [] x P := by
  refine T_aload_n 0 (dk dt_finding 0 rfl) rfl rfl ?_
  refine T_iconst (v := 0) (dk dt_finding 1 rfl) (by decide +kernel) ?_
  obtain ⟨x1, ex1⟩ : ∃ z, z = si x 0 0 0 := ⟨_, rfl⟩
  have h := h x1 ex1
  refine T_putI 0 0 (dk dt_finding 2 rfl) fl_316 mk_0 ml_0 (by decide) rfl ⟨rfl, rfl⟩ ?_
  rw [← ex1]
  refine T_aload_n 0 (dk dt_finding 3 rfl) rfl rfl ?_
  refine T_iload_n 1 (dk dt_finding 4 rfl) rfl rfl ?_
  refine T_iconst (v := 0) (dk dt_finding 5 rfl) (by decide +kernel) ?_
  refine T_iconst (v := 1) (dk dt_finding 6 rfl) (by decide +kernel) ?_
  refine MT_callSi [vi l1, vi 0, vi 1] [vr 0] rfl (dk dt_finding 7 rfl) cs_322 rfl (Nat.le_of_ble_eq_true rfl) (Nat.le_of_ble_eq_true rfl) rfl rfl h (fun r3 x2 h => ?_)
  refine T_if_eq 25 (dk dt_finding 8 rfl) (by decide) (fun c4 => ?_) (fun c4 => ?_)
  · have h := h.1 c4
    refine T_iconst (v := 1) (dk dt_finding 14 rfl) (by decide +kernel) ?_
    refine T_goto 30 (dk dt_finding 15 rfl) (by decide) ?_
    exact h
  · have h := h.2 c4
    refine T_iload_n 2 (dk dt_finding 9 rfl) rfl rfl ?_
    refine T_iconst (v := 0) (dk dt_finding 10 rfl) (by decide +kernel) ?_
    refine T_bipush (v := 10) (dk dt_finding 11 rfl) (by decide +kernel) ?_
    refine MT_callSi [vi l2, vi 0, vi 10] [vr 0] rfl (dk dt_finding 12 rfl) cs_322 rfl (Nat.le_of_ble_eq_true rfl) (Nat.le_of_ble_eq_true rfl) rfl rfl h (fun r6 x5 h => ?_)
    refine T_if_ne 29 (dk dt_finding 13 rfl) (by decide) (fun c7 => ?_) (fun c7 => ?_)
    · have h := h.1 c7
      refine T_iconst (v := 0) (dk dt_finding 16 rfl) (by decide +kernel) ?_
      exact h
    · have h := h.2 c7
      refine T_iconst (v := 1) (dk dt_finding 14 rfl) (by decide +kernel) ?_
      refine T_goto 30 (dk dt_finding 15 rfl) (by decide) ?_
      exact h
set_option maxRecDepth 100000 in
set_option maxHeartbeats 4000000 in
theorem sg_finding_30 {G : mG} {d : Nat} {x : gd} {P : Option gv → gd → Prop} (l1 : Int32) (l2 : Int32) (s0 : Int32)
    (h : MT G d z_refuses 0 [(0, vr 0), (1, vi s0), (2, vi 1)] [] x (ri (fun r2 x1 => ((r2 = (0 : Int32) → vp_in l1 2 ∧ (((x1.1 119 (l1 : Int32).toNatClampNeg) = (0 : Int32) → MT G (d + 1) z_finding 63 [(0, vr 0), (1, vi l1)] [vi (-1)] x1 P) ∧ (¬ ((x1.1 119 (l1 : Int32).toNatClampNeg) = (0 : Int32)) → vp_in ((11 * l1) + l2) 22 ∧ MT G (d + 1) z_finding 63 [(0, vr 0), (1, vi l1)] [vi (x1.1 126 ((11 * l1) + l2 : Int32).toNatClampNeg)] x1 P))) ∧ (¬ (r2 = (0 : Int32)) → P (some (vi 0)) x1))))) :
    MT G (d + 1) z_finding 30 [(0, vr 0), (1, vi l1), (2, vi l2)] [vi s0, vr 0] x P := by
  refine T_iconst (v := 1) (dk dt_finding 17 rfl) (by decide +kernel) ?_
  refine MT_callVi [vi s0, vi 1] [] rfl (dk dt_finding 18 rfl) cv_558 rfl rfl (Nat.le_of_ble_eq_true rfl) (Nat.le_of_ble_eq_true rfl) rfl rfl h (fun r2 x1 h => ?_)
  refine T_if_eq 39 (dk dt_finding 19 rfl) (by decide) (fun c3 => ?_) (fun c3 => ?_)
  · have h := h.1 c3
    refine T_aload_n 0 (dk dt_finding 22 rfl) rfl rfl ?_
    refine T_getR 0 118 119 (dk dt_finding 23 rfl) fl_254 mk_0 ml_0 (by decide) rfl rfl ?_
    refine T_iload_n 1 (dk dt_finding 24 rfl) rfl rfl ?_
    obtain ⟨h4, h⟩ := h
    refine T_zald 119 2 (dk dt_finding 25 rfl) mk_119 ml_119 h4 ?_
    refine T_if_eq 62 (dk dt_finding 26 rfl) (by decide) (fun c5 => ?_) (fun c5 => ?_)
    · have h := h.1 c5
      refine T_iconst (v := (-1)) (dk dt_finding 36 rfl) (by decide +kernel) ?_
      exact T_sub [0, 1] rfl h
    · have h := h.2 c5
      refine T_aload_n 0 (dk dt_finding 27 rfl) rfl rfl ?_
      refine T_getR 0 125 126 (dk dt_finding 28 rfl) fl_275 mk_0 ml_0 (by decide) rfl rfl ?_
      refine T_bipush (v := 11) (dk dt_finding 29 rfl) (by decide +kernel) ?_
      refine T_iload_n 1 (dk dt_finding 30 rfl) rfl rfl ?_
      refine T_imul (dk dt_finding 31 rfl) ?_
      refine T_iload_n 2 (dk dt_finding 32 rfl) rfl rfl ?_
      refine T_iadd (dk dt_finding 33 rfl) ?_
      obtain ⟨h6, h⟩ := h
      refine T_iald 126 22 (dk dt_finding 34 rfl) mk_126 ml_126 h6 ?_
      refine T_goto 63 (dk dt_finding 35 rfl) (by decide) ?_
      exact T_sub [0, 1] rfl h
  · have h := h.2 c3
    refine T_iconst (v := 0) (dk dt_finding 20 rfl) (by decide +kernel) ?_
    exact MT_iret (dk dt_finding 21 rfl) rfl rfl h
set_option maxRecDepth 100000 in
set_option maxHeartbeats 4000000 in
theorem sg_finding_63 {G : mG} {d : Nat} {x : gd} {P : Option gv → gd → Prop} (l1 : Int32) (s0 : Int32)
    (h : ((¬ (s0 = (-1 : Int32)) → vp_in ((3000 * l1) + s0) 6000 ∧ P (some (vi (x.1 132 ((3000 * l1) + s0 : Int32).toNatClampNeg))) x) ∧ (s0 = (-1 : Int32) → P (some (vi (-1))) x))) :
    MT G (d + 1) z_finding 63 [(0, vr 0), (1, vi l1)] [vi s0] x P := by
  refine T_istore_n (lv2 := [(3, vi s0), (0, vr 0), (1, vi l1)]) (dk dt_finding 37 rfl) rfl (by decide) rfl ?_
  refine T_iload_n 0 (dk dt_finding 38 rfl) rfl rfl ?_
  refine T_iconst (v := (-1)) (dk dt_finding 39 rfl) (by decide +kernel) ?_
  refine T_icmp_ne 73 (dk dt_finding 40 rfl) (by decide) (fun c1 => ?_) (fun c1 => ?_)
  · have h := h.1 c1
    refine T_aload_n 1 (dk dt_finding 43 rfl) rfl rfl ?_
    refine T_getR 0 131 132 (dk dt_finding 44 rfl) fl_294 mk_0 ml_0 (by decide) rfl rfl ?_
    refine T_sipush (v := 3000) (dk dt_finding 45 rfl) (by decide +kernel) ?_
    refine T_iload_n 2 (dk dt_finding 46 rfl) rfl rfl ?_
    refine T_imul (dk dt_finding 47 rfl) ?_
    refine T_iload_n 0 (dk dt_finding 48 rfl) rfl rfl ?_
    refine T_iadd (dk dt_finding 49 rfl) ?_
    obtain ⟨h2, h⟩ := h
    refine T_iald 132 6000 (dk dt_finding 50 rfl) mk_132 ml_132 h2 ?_
    exact MT_iret (dk dt_finding 51 rfl) rfl rfl h
  · have h := h.2 c1
    refine T_iconst (v := (-1)) (dk dt_finding 41 rfl) (by decide +kernel) ?_
    refine T_goto 85 (dk dt_finding 42 rfl) (by decide) ?_
    exact MT_iret (dk dt_finding 51 rfl) rfl rfl h
set_option maxRecDepth 100000 in
theorem dt_show : dck cX12_show [(0, .aload_n 0, 1), (1, .iconst 0, 1), (2, .putfield 316, 3), (5, .aload_n 0, 1), (6, .iload_n 1, 1), (7, .iconst 0, 1), (8, .iconst 1, 1), (9, .invokestatic 322, 3), (12, .ifCond .eq 13, 3), (15, .iload_n 2, 1), (16, .iconst 0, 1), (17, .bipush 10, 2), (19, .invokestatic 322, 3), (22, .ifCond .ne 7, 3), (25, .iconst 1, 1), (26, .goto 4, 3), (29, .iconst 0, 1), (30, .iconst 1, 1), (31, .invokevirtual 558, 3), (34, .ifCond .eq 5, 3), (37, .iconst 0, 1), (38, .ireturn, 1), (39, .aload_n 0, 1), (40, .getfield 254, 3), (43, .iload_n 1, 1), (44, .baload, 1), (45, .ifCond .eq 17, 3), (48, .aload_n 0, 1), (49, .getfield 275, 3), (52, .bipush 11, 2), (54, .iload_n 1, 1), (55, .imul, 1), (56, .iload_n 2, 1), (57, .iadd, 1), (58, .iaload, 1), (59, .goto 4, 3), (62, .iconst (-1), 1), (63, .istore_n 3, 1), (64, .aload_n 0, 1), (65, .iload_n 3, 1), (66, .iconst (-1), 1), (67, .if_icmp .ne 7, 3), (70, .iconst 1, 1), (71, .goto 4, 3), (74, .iconst 0, 1), (75, .iconst 2, 1), (76, .invokevirtual 558, 3), (79, .ifCond .ne 34, 3), (82, .aload_n 0, 1), (83, .aload_n 0, 1), (84, .getfield 294, 3), (87, .sipush 3000, 3), (90, .iload_n 1, 1), (91, .imul, 1), (92, .iload_n 3, 1), (93, .iadd, 1), (94, .iaload, 1), (95, .sipush 400, 3), (98, .if_icmp .le 7, 3), (101, .iconst 1, 1), (102, .goto 4, 3), (105, .iconst 0, 1), (106, .iconst 2, 1), (107, .invokevirtual 558, 3), (110, .ifCond .eq 5, 3), (113, .iconst 0, 1), (114, .ireturn, 1), (115, .aload_n 0, 1), (116, .getfield 294, 3), (119, .sipush 3000, 3), (122, .iload_n 1, 1), (123, .imul, 1), (124, .iload_n 3, 1), (125, .iadd, 1), (126, .iaload, 1), (127, .istore 4, 2), (129, .iload 4, 2), (131, .iconst 1, 1), (132, .isub, 1), (133, .istore 5, 2), (135, .iload 5, 2), (137, .ifCond .lt 41, 3), (140, .aload_n 0, 1), (141, .getfield 310, 3), (144, .iload 5, 2), (146, .aload_n 0, 1), (147, .getfield 291, 3), (150, .sipush 3000, 3), (153, .iload_n 1, 1), (154, .imul, 1), (155, .iload_n 3, 1), (156, .iadd, 1), (157, .iaload, 1), (158, .iastore, 1), (159, .aload_n 0, 1), (160, .getfield 288, 3), (163, .sipush 3000, 3), (166, .iload_n 1, 1), (167, .imul, 1), (168, .iload_n 3, 1), (169, .iadd, 1), (170, .iaload, 1), (171, .istore_n 3, 1), (172, .iinc 5 (-1), 3), (175, .goto (-40), 3), (178, .aload_n 0, 1), (179, .iload_n 1, 1), (180, .invokevirtual 677, 3), (183, .iconst 0, 1), (184, .istore 5, 2), (186, .iload 5, 2), (188, .iload 4, 2), (190, .if_icmp .ge 20, 3), (193, .aload_n 0, 1), (194, .aload_n 0, 1), (195, .getfield 310, 3), (198, .iload 5, 2), (200, .iaload, 1), (201, .invokevirtual 683, 3), (204, .iinc 5 1, 3), (207, .goto (-21), 3), (210, .aload_n 0, 1), (211, .getfield 644, 3), (214, .ireturn, 1)] = true := by decide +kernel
set_option maxRecDepth 100000 in
set_option maxHeartbeats 4000000 in
theorem sg_show_0 {G : mG} {d : Nat} {x : gd} {P : Option gv → gd → Prop} (l1 : Int32) (l2 : Int32)
    (h : (∀ x1 : gd, x1 = si x 0 0 0 → MT G d z_in 0 [(0, vi l1), (1, vi 0), (2, vi 1)] [] x1 (ri (fun r3 x2 => ((r3 = (0 : Int32) → MT G (d + 1) z_show 30 [(0, vr 0), (1, vi l1), (2, vi l2)] [vi 1, vr 0] x2 P) ∧ (¬ (r3 = (0 : Int32)) → MT G d z_in 0 [(0, vi l2), (1, vi 0), (2, vi 10)] [] x2 (ri (fun r6 x5 => ((¬ (r6 = (0 : Int32)) → MT G (d + 1) z_show 30 [(0, vr 0), (1, vi l1), (2, vi l2)] [vi 0, vr 0] x5 P) ∧ (r6 = (0 : Int32) → MT G (d + 1) z_show 30 [(0, vr 0), (1, vi l1), (2, vi l2)] [vi 1, vr 0] x5 P)))))))))) :
    MT G (d + 1) z_show 0 [(0, vr 0), (1, vi l1), (2, vi l2)] [] x P := by
  refine T_aload_n 0 (dk dt_show 0 rfl) rfl rfl ?_
  refine T_iconst (v := 0) (dk dt_show 1 rfl) (by decide +kernel) ?_
  obtain ⟨x1, ex1⟩ : ∃ z, z = si x 0 0 0 := ⟨_, rfl⟩
  have h := h x1 ex1
  refine T_putI 0 0 (dk dt_show 2 rfl) fl_316 mk_0 ml_0 (by decide) rfl ⟨rfl, rfl⟩ ?_
  rw [← ex1]
  refine T_aload_n 0 (dk dt_show 3 rfl) rfl rfl ?_
  refine T_iload_n 1 (dk dt_show 4 rfl) rfl rfl ?_
  refine T_iconst (v := 0) (dk dt_show 5 rfl) (by decide +kernel) ?_
  refine T_iconst (v := 1) (dk dt_show 6 rfl) (by decide +kernel) ?_
  refine MT_callSi [vi l1, vi 0, vi 1] [vr 0] rfl (dk dt_show 7 rfl) cs_322 rfl (Nat.le_of_ble_eq_true rfl) (Nat.le_of_ble_eq_true rfl) rfl rfl h (fun r3 x2 h => ?_)
  refine T_if_eq 25 (dk dt_show 8 rfl) (by decide) (fun c4 => ?_) (fun c4 => ?_)
  · have h := h.1 c4
    refine T_iconst (v := 1) (dk dt_show 14 rfl) (by decide +kernel) ?_
    refine T_goto 30 (dk dt_show 15 rfl) (by decide) ?_
    exact h
  · have h := h.2 c4
    refine T_iload_n 2 (dk dt_show 9 rfl) rfl rfl ?_
    refine T_iconst (v := 0) (dk dt_show 10 rfl) (by decide +kernel) ?_
    refine T_bipush (v := 10) (dk dt_show 11 rfl) (by decide +kernel) ?_
    refine MT_callSi [vi l2, vi 0, vi 10] [vr 0] rfl (dk dt_show 12 rfl) cs_322 rfl (Nat.le_of_ble_eq_true rfl) (Nat.le_of_ble_eq_true rfl) rfl rfl h (fun r6 x5 h => ?_)
    refine T_if_ne 29 (dk dt_show 13 rfl) (by decide) (fun c7 => ?_) (fun c7 => ?_)
    · have h := h.1 c7
      refine T_iconst (v := 0) (dk dt_show 16 rfl) (by decide +kernel) ?_
      exact h
    · have h := h.2 c7
      refine T_iconst (v := 1) (dk dt_show 14 rfl) (by decide +kernel) ?_
      refine T_goto 30 (dk dt_show 15 rfl) (by decide) ?_
      exact h
set_option maxRecDepth 100000 in
set_option maxHeartbeats 4000000 in
theorem sg_show_30 {G : mG} {d : Nat} {x : gd} {P : Option gv → gd → Prop} (l1 : Int32) (l2 : Int32) (s0 : Int32)
    (h : MT G d z_refuses 0 [(0, vr 0), (1, vi s0), (2, vi 1)] [] x (ri (fun r2 x1 => ((r2 = (0 : Int32) → vp_in l1 2 ∧ (((x1.1 119 (l1 : Int32).toNatClampNeg) = (0 : Int32) → MT G (d + 1) z_show 63 [(0, vr 0), (1, vi l1)] [vi (-1)] x1 P) ∧ (¬ ((x1.1 119 (l1 : Int32).toNatClampNeg) = (0 : Int32)) → vp_in ((11 * l1) + l2) 22 ∧ MT G (d + 1) z_show 63 [(0, vr 0), (1, vi l1)] [vi (x1.1 126 ((11 * l1) + l2 : Int32).toNatClampNeg)] x1 P))) ∧ (¬ (r2 = (0 : Int32)) → P (some (vi 0)) x1))))) :
    MT G (d + 1) z_show 30 [(0, vr 0), (1, vi l1), (2, vi l2)] [vi s0, vr 0] x P := by
  refine T_iconst (v := 1) (dk dt_show 17 rfl) (by decide +kernel) ?_
  refine MT_callVi [vi s0, vi 1] [] rfl (dk dt_show 18 rfl) cv_558 rfl rfl (Nat.le_of_ble_eq_true rfl) (Nat.le_of_ble_eq_true rfl) rfl rfl h (fun r2 x1 h => ?_)
  refine T_if_eq 39 (dk dt_show 19 rfl) (by decide) (fun c3 => ?_) (fun c3 => ?_)
  · have h := h.1 c3
    refine T_aload_n 0 (dk dt_show 22 rfl) rfl rfl ?_
    refine T_getR 0 118 119 (dk dt_show 23 rfl) fl_254 mk_0 ml_0 (by decide) rfl rfl ?_
    refine T_iload_n 1 (dk dt_show 24 rfl) rfl rfl ?_
    obtain ⟨h4, h⟩ := h
    refine T_zald 119 2 (dk dt_show 25 rfl) mk_119 ml_119 h4 ?_
    refine T_if_eq 62 (dk dt_show 26 rfl) (by decide) (fun c5 => ?_) (fun c5 => ?_)
    · have h := h.1 c5
      refine T_iconst (v := (-1)) (dk dt_show 36 rfl) (by decide +kernel) ?_
      exact T_sub [0, 1] rfl h
    · have h := h.2 c5
      refine T_aload_n 0 (dk dt_show 27 rfl) rfl rfl ?_
      refine T_getR 0 125 126 (dk dt_show 28 rfl) fl_275 mk_0 ml_0 (by decide) rfl rfl ?_
      refine T_bipush (v := 11) (dk dt_show 29 rfl) (by decide +kernel) ?_
      refine T_iload_n 1 (dk dt_show 30 rfl) rfl rfl ?_
      refine T_imul (dk dt_show 31 rfl) ?_
      refine T_iload_n 2 (dk dt_show 32 rfl) rfl rfl ?_
      refine T_iadd (dk dt_show 33 rfl) ?_
      obtain ⟨h6, h⟩ := h
      refine T_iald 126 22 (dk dt_show 34 rfl) mk_126 ml_126 h6 ?_
      refine T_goto 63 (dk dt_show 35 rfl) (by decide) ?_
      exact T_sub [0, 1] rfl h
  · have h := h.2 c3
    refine T_iconst (v := 0) (dk dt_show 20 rfl) (by decide +kernel) ?_
    exact MT_iret (dk dt_show 21 rfl) rfl rfl h
set_option maxRecDepth 100000 in
set_option maxHeartbeats 4000000 in
theorem sg_show_63 {G : mG} {d : Nat} {x : gd} {P : Option gv → gd → Prop} (l1 : Int32) (s0 : Int32)
    (h : ((¬ (s0 = (-1 : Int32)) → MT G (d + 1) z_show 75 [(0, vr 0), (1, vi l1), (3, vi s0)] [vi 0, vr 0] x P) ∧ (s0 = (-1 : Int32) → MT G (d + 1) z_show 75 [(0, vr 0), (1, vi l1), (3, vi s0)] [vi 1, vr 0] x P))) :
    MT G (d + 1) z_show 63 [(0, vr 0), (1, vi l1)] [vi s0] x P := by
  refine T_istore_n (lv2 := [(3, vi s0), (0, vr 0), (1, vi l1)]) (dk dt_show 37 rfl) rfl (by decide) rfl ?_
  refine T_aload_n 1 (dk dt_show 38 rfl) rfl rfl ?_
  refine T_iload_n 0 (dk dt_show 39 rfl) rfl rfl ?_
  refine T_iconst (v := (-1)) (dk dt_show 40 rfl) (by decide +kernel) ?_
  refine T_icmp_ne 74 (dk dt_show 41 rfl) (by decide) (fun c1 => ?_) (fun c1 => ?_)
  · have h := h.1 c1
    refine T_iconst (v := 0) (dk dt_show 44 rfl) (by decide +kernel) ?_
    exact T_sub [1, 2, 0] rfl h
  · have h := h.2 c1
    refine T_iconst (v := 1) (dk dt_show 42 rfl) (by decide +kernel) ?_
    refine T_goto 75 (dk dt_show 43 rfl) (by decide) ?_
    exact T_sub [1, 2, 0] rfl h
set_option maxRecDepth 100000 in
set_option maxHeartbeats 4000000 in
theorem sg_show_75 {G : mG} {d : Nat} {x : gd} {P : Option gv → gd → Prop} (l1 : Int32) (l3 : Int32) (s0 : Int32)
    (h : MT G d z_refuses 0 [(0, vr 0), (1, vi s0), (2, vi 2)] [] x (ri (fun r2 x1 => ((¬ (r2 = (0 : Int32)) → P (some (vi 0)) x1) ∧ (r2 = (0 : Int32) → vp_in ((3000 * l1) + l3) 6000 ∧ (((x1.1 132 ((3000 * l1) + l3 : Int32).toNatClampNeg) ≤ (400 : Int32) → MT G (d + 1) z_show 106 [(0, vr 0), (1, vi l1), (3, vi l3)] [vi 0, vr 0] x1 P) ∧ (¬ ((x1.1 132 ((3000 * l1) + l3 : Int32).toNatClampNeg) ≤ (400 : Int32)) → MT G (d + 1) z_show 106 [(0, vr 0), (1, vi l1), (3, vi l3)] [vi 1, vr 0] x1 P))))))) :
    MT G (d + 1) z_show 75 [(0, vr 0), (1, vi l1), (3, vi l3)] [vi s0, vr 0] x P := by
  refine T_iconst (v := 2) (dk dt_show 45 rfl) (by decide +kernel) ?_
  refine MT_callVi [vi s0, vi 2] [] rfl (dk dt_show 46 rfl) cv_558 rfl rfl (Nat.le_of_ble_eq_true rfl) (Nat.le_of_ble_eq_true rfl) rfl rfl h (fun r2 x1 h => ?_)
  refine T_if_ne 113 (dk dt_show 47 rfl) (by decide) (fun c3 => ?_) (fun c3 => ?_)
  · have h := h.1 c3
    refine T_iconst (v := 0) (dk dt_show 65 rfl) (by decide +kernel) ?_
    exact MT_iret (dk dt_show 66 rfl) rfl rfl h
  · have h := h.2 c3
    refine T_aload_n 0 (dk dt_show 48 rfl) rfl rfl ?_
    refine T_aload_n 0 (dk dt_show 49 rfl) rfl rfl ?_
    refine T_getR 0 131 132 (dk dt_show 50 rfl) fl_294 mk_0 ml_0 (by decide) rfl rfl ?_
    refine T_sipush (v := 3000) (dk dt_show 51 rfl) (by decide +kernel) ?_
    refine T_iload_n 1 (dk dt_show 52 rfl) rfl rfl ?_
    refine T_imul (dk dt_show 53 rfl) ?_
    refine T_iload_n 2 (dk dt_show 54 rfl) rfl rfl ?_
    refine T_iadd (dk dt_show 55 rfl) ?_
    obtain ⟨h4, h⟩ := h
    refine T_iald 132 6000 (dk dt_show 56 rfl) mk_132 ml_132 h4 ?_
    refine T_sipush (v := 400) (dk dt_show 57 rfl) (by decide +kernel) ?_
    refine T_icmp_le 105 (dk dt_show 58 rfl) (by decide) (fun c5 => ?_) (fun c5 => ?_)
    · have h := h.1 c5
      refine T_iconst (v := 0) (dk dt_show 61 rfl) (by decide +kernel) ?_
      exact h
    · have h := h.2 c5
      refine T_iconst (v := 1) (dk dt_show 59 rfl) (by decide +kernel) ?_
      refine T_goto 106 (dk dt_show 60 rfl) (by decide) ?_
      exact h
set_option maxRecDepth 100000 in
set_option maxHeartbeats 4000000 in
theorem sg_show_106 {G : mG} {d : Nat} {x : gd} {P : Option gv → gd → Prop} (l1 : Int32) (l3 : Int32) (s0 : Int32)
    (h : MT G d z_refuses 0 [(0, vr 0), (1, vi s0), (2, vi 2)] [] x (ri (fun r2 x1 => ((r2 = (0 : Int32) → vp_in ((3000 * l1) + l3) 6000 ∧ MT G (d + 1) z_show 135 [(0, vr 0), (1, vi l1), (3, vi l3), (4, vi (x1.1 132 ((3000 * l1) + l3 : Int32).toNatClampNeg)), (5, vi ((x1.1 132 ((3000 * l1) + l3 : Int32).toNatClampNeg) - 1))] [] x1 P) ∧ (¬ (r2 = (0 : Int32)) → P (some (vi 0)) x1))))) :
    MT G (d + 1) z_show 106 [(0, vr 0), (1, vi l1), (3, vi l3)] [vi s0, vr 0] x P := by
  refine T_iconst (v := 2) (dk dt_show 62 rfl) (by decide +kernel) ?_
  refine MT_callVi [vi s0, vi 2] [] rfl (dk dt_show 63 rfl) cv_558 rfl rfl (Nat.le_of_ble_eq_true rfl) (Nat.le_of_ble_eq_true rfl) rfl rfl h (fun r2 x1 h => ?_)
  refine T_if_eq 115 (dk dt_show 64 rfl) (by decide) (fun c3 => ?_) (fun c3 => ?_)
  · have h := h.1 c3
    refine T_aload_n 0 (dk dt_show 67 rfl) rfl rfl ?_
    refine T_getR 0 131 132 (dk dt_show 68 rfl) fl_294 mk_0 ml_0 (by decide) rfl rfl ?_
    refine T_sipush (v := 3000) (dk dt_show 69 rfl) (by decide +kernel) ?_
    refine T_iload_n 1 (dk dt_show 70 rfl) rfl rfl ?_
    refine T_imul (dk dt_show 71 rfl) ?_
    refine T_iload_n 2 (dk dt_show 72 rfl) rfl rfl ?_
    refine T_iadd (dk dt_show 73 rfl) ?_
    obtain ⟨h4, h⟩ := h
    refine T_iald 132 6000 (dk dt_show 74 rfl) mk_132 ml_132 h4 ?_
    refine T_istore (lv2 := [(4, vi (x1.1 132 ((3000 * l1) + l3 : Int32).toNatClampNeg)), (0, vr 0), (1, vi l1), (3, vi l3)]) (dk dt_show 75 rfl) (by decide) rfl ?_
    refine T_iload 0 (dk dt_show 76 rfl) rfl ?_
    refine T_iconst (v := 1) (dk dt_show 77 rfl) (by decide +kernel) ?_
    refine T_isub (dk dt_show 78 rfl) ?_
    refine T_istore (lv2 := [(5, vi ((x1.1 132 ((3000 * l1) + l3 : Int32).toNatClampNeg) - 1)), (4, vi (x1.1 132 ((3000 * l1) + l3 : Int32).toNatClampNeg)), (0, vr 0), (1, vi l1), (3, vi l3)]) (dk dt_show 79 rfl) (by decide) rfl ?_
    exact T_sub [2, 3, 4, 1, 0] rfl h
  · have h := h.2 c3
    refine T_iconst (v := 0) (dk dt_show 65 rfl) (by decide +kernel) ?_
    exact MT_iret (dk dt_show 66 rfl) rfl rfl h
set_option maxRecDepth 100000 in
set_option maxHeartbeats 4000000 in
theorem sg_show_135 {G : mG} {d : Nat} {x : gd} {P : Option gv → gd → Prop} (l1 : Int32) (l3 : Int32) (l4 : Int32) (l5 : Int32)
    (h : ((l5 < (0 : Int32) → MT G d z_startRun 0 [(0, vr 0), (1, vi l1)] [] x (rv (fun x2 => MT G (d + 1) z_show 186 [(0, vr 0), (4, vi l4), (5, vi 0)] [] x2 P))) ∧ (¬ (l5 < (0 : Int32)) → vp_in ((3000 * l1) + l3) 6000 ∧ vp_in l5 400 ∧ (∀ x5 : gd, x5 = si x 138 (l5 : Int32).toNatClampNeg (x.1 131 ((3000 * l1) + l3 : Int32).toNatClampNeg) → vp_in ((3000 * l1) + l3) 6000 ∧ MT G (d + 1) z_show 135 [(0, vr 0), (1, vi l1), (3, vi (x5.1 130 ((3000 * l1) + l3 : Int32).toNatClampNeg)), (4, vi l4), (5, vi (l5 + (-1)))] [] x5 P)))) :
    MT G (d + 1) z_show 135 [(0, vr 0), (1, vi l1), (3, vi l3), (4, vi l4), (5, vi l5)] [] x P := by
  refine T_iload 4 (dk dt_show 80 rfl) rfl ?_
  refine T_if_lt 178 (dk dt_show 81 rfl) (by decide) (fun c1 => ?_) (fun c1 => ?_)
  · have h := h.1 c1
    refine T_aload_n 0 (dk dt_show 105 rfl) rfl rfl ?_
    refine T_iload_n 1 (dk dt_show 106 rfl) rfl rfl ?_
    refine MT_callVv [vi l1] [] rfl (dk dt_show 107 rfl) cv_677 rfl rfl (Nat.le_of_ble_eq_true rfl) (Nat.le_of_ble_eq_true rfl) rfl rfl h (fun x2 h => ?_)
    refine T_iconst (v := 0) (dk dt_show 108 rfl) (by decide +kernel) ?_
    refine T_istore (lv2 := [(5, vi 0), (0, vr 0), (1, vi l1), (3, vi l3), (4, vi l4)]) (dk dt_show 109 rfl) (by decide) rfl ?_
    exact T_sub [1, 4, 0] rfl h
  · have h := h.2 c1
    refine T_aload_n 0 (dk dt_show 82 rfl) rfl rfl ?_
    refine T_getR 0 137 138 (dk dt_show 83 rfl) fl_310 mk_0 ml_0 (by decide) rfl rfl ?_
    refine T_iload 4 (dk dt_show 84 rfl) rfl ?_
    refine T_aload_n 0 (dk dt_show 85 rfl) rfl rfl ?_
    refine T_getR 0 130 131 (dk dt_show 86 rfl) fl_291 mk_0 ml_0 (by decide) rfl rfl ?_
    refine T_sipush (v := 3000) (dk dt_show 87 rfl) (by decide +kernel) ?_
    refine T_iload_n 1 (dk dt_show 88 rfl) rfl rfl ?_
    refine T_imul (dk dt_show 89 rfl) ?_
    refine T_iload_n 2 (dk dt_show 90 rfl) rfl rfl ?_
    refine T_iadd (dk dt_show 91 rfl) ?_
    obtain ⟨h3, h⟩ := h
    refine T_iald 131 6000 (dk dt_show 92 rfl) mk_131 ml_131 h3 ?_
    obtain ⟨h4, h⟩ := h
    obtain ⟨x5, ex5⟩ : ∃ z, z = si x 138 (l5 : Int32).toNatClampNeg (x.1 131 ((3000 * l1) + l3 : Int32).toNatClampNeg) := ⟨_, rfl⟩
    have h := h x5 ex5
    refine T_iast 138 400 (dk dt_show 93 rfl) mk_138 ml_138 h4 ?_
    rw [← ex5]
    refine T_aload_n 0 (dk dt_show 94 rfl) rfl rfl ?_
    refine T_getR 0 129 130 (dk dt_show 95 rfl) fl_288 mk_0 ml_0 (by decide) rfl rfl ?_
    refine T_sipush (v := 3000) (dk dt_show 96 rfl) (by decide +kernel) ?_
    refine T_iload_n 1 (dk dt_show 97 rfl) rfl rfl ?_
    refine T_imul (dk dt_show 98 rfl) ?_
    refine T_iload_n 2 (dk dt_show 99 rfl) rfl rfl ?_
    refine T_iadd (dk dt_show 100 rfl) ?_
    obtain ⟨h6, h⟩ := h
    refine T_iald 130 6000 (dk dt_show 101 rfl) mk_130 ml_130 h6 ?_
    refine T_istore_n (lv2 := [(3, vi (x5.1 130 ((3000 * l1) + l3 : Int32).toNatClampNeg)), (0, vr 0), (1, vi l1), (4, vi l4), (5, vi l5)]) (dk dt_show 102 rfl) rfl (by decide) rfl ?_
    refine T_iinc (v := l5 + (-1)) (lv2 := [(5, vi (l5 + (-1))), (3, vi (x5.1 130 ((3000 * l1) + l3 : Int32).toNatClampNeg)), (0, vr 0), (1, vi l1), (4, vi l4)]) 4 (dk dt_show 103 rfl) rfl rfl (by decide) rfl ?_
    refine T_goto 135 (dk dt_show 104 rfl) (by decide) ?_
    exact T_sub [2, 3, 1, 4, 0] rfl h
set_option maxRecDepth 100000 in
set_option maxHeartbeats 4000000 in
theorem sg_show_186 {G : mG} {d : Nat} {x : gd} {P : Option gv → gd → Prop} (l4 : Int32) (l5 : Int32)
    (h : ((l4 ≤ l5 → P (some (vi (x.1 0 94))) x) ∧ (¬ (l4 ≤ l5) → vp_in l5 400 ∧ MT G d z_doChoice 0 [(0, vr 0), (1, vi (x.1 138 (l5 : Int32).toNatClampNeg))] [] x (rv (fun x3 => MT G (d + 1) z_show 186 [(0, vr 0), (4, vi l4), (5, vi (l5 + 1))] [] x3 P))))) :
    MT G (d + 1) z_show 186 [(0, vr 0), (4, vi l4), (5, vi l5)] [] x P := by
  refine T_iload 2 (dk dt_show 110 rfl) rfl ?_
  refine T_iload 1 (dk dt_show 111 rfl) rfl ?_
  refine T_icmp_ge 210 (dk dt_show 112 rfl) (by decide) (fun c1 => ?_) (fun c1 => ?_)
  · have h := h.1 c1
    refine T_aload_n 0 (dk dt_show 121 rfl) rfl rfl ?_
    refine T_getI 0 94 (dk dt_show 122 rfl) fl_644 mk_0 ml_0 (by decide) rfl ?_
    exact MT_iret (dk dt_show 123 rfl) rfl rfl h
  · have h := h.2 c1
    refine T_aload_n 0 (dk dt_show 113 rfl) rfl rfl ?_
    refine T_aload_n 0 (dk dt_show 114 rfl) rfl rfl ?_
    refine T_getR 0 137 138 (dk dt_show 115 rfl) fl_310 mk_0 ml_0 (by decide) rfl rfl ?_
    refine T_iload 2 (dk dt_show 116 rfl) rfl ?_
    obtain ⟨h2, h⟩ := h
    refine T_iald 138 400 (dk dt_show 117 rfl) mk_138 ml_138 h2 ?_
    refine MT_callVv [vi (x.1 138 (l5 : Int32).toNatClampNeg)] [] rfl (dk dt_show 118 rfl) cv_683 rfl rfl (Nat.le_of_ble_eq_true rfl) (Nat.le_of_ble_eq_true rfl) rfl rfl h (fun x3 h => ?_)
    refine T_iinc (v := l5 + 1) (lv2 := [(5, vi (l5 + 1)), (0, vr 0), (4, vi l4)]) 2 (dk dt_show 119 rfl) rfl rfl (by decide) rfl ?_
    refine T_goto 186 (dk dt_show 120 rfl) (by decide) ?_
    exact T_sub [1, 2, 0] rfl h
