set_option maxRecDepth 100000 in
theorem dt_common : dck cX12_common [(0, .aload_n 0, 1), (1, .iconst 0, 1), (2, .putfield 316, 3), (5, .aload_n 0, 1), (6, .iload_n 1, 1), (7, .iconst 0, 1), (8, .iconst 1, 1), (9, .invokestatic 322, 3), (12, .ifCond .ne 7, 3), (15, .iconst 1, 1), (16, .goto 4, 3), (19, .iconst 0, 1), (20, .iconst 1, 1), (21, .invokevirtual 558, 3), (24, .ifCond .ne 30, 3), (27, .aload_n 0, 1), (28, .iload_n 2, 1), (29, .iconst 0, 1), (30, .aload_n 0, 1), (31, .getfield 448, 3), (34, .iconst 1, 1), (35, .isub, 1), (36, .invokestatic 322, 3), (39, .ifCond .ne 7, 3), (42, .iconst 1, 1), (43, .goto 4, 3), (46, .iconst 0, 1), (47, .iconst 2, 1), (48, .invokevirtual 558, 3), (51, .ifCond .eq 5, 3), (54, .iconst 0, 1), (55, .ireturn, 1), (56, .aload_n 0, 1), (57, .getfield 254, 3), (60, .iload_n 1, 1), (61, .baload, 1), (62, .ifCond .eq 17, 3), (65, .aload_n 0, 1), (66, .getfield 278, 3), (69, .bipush 24, 2), (71, .iload_n 1, 1), (72, .imul, 1), (73, .iload_n 2, 1), (74, .iadd, 1), (75, .iaload, 1), (76, .goto 11, 3), (79, .iconst 1, 1), (80, .aload_n 0, 1), (81, .getfield 458, 3), (84, .ishl, 1), (85, .iconst 1, 1), (86, .isub, 1), (87, .ireturn, 1)] = true := by decide +kernel
set_option maxRecDepth 100000 in
set_option maxHeartbeats 4000000 in
theorem sg_common_0 {G : mG} {d : Nat} {x : gd} {P : Option gv → gd → Prop} (l1 : Int32) (l2 : Int32)
    (h : (∀ x1 : gd, x1 = si x 0 0 0 → MT G d z_in 0 [(0, vi l1), (1, vi 0), (2, vi 1)] [] x1 (ri (fun r3 x2 => ((¬ (r3 = (0 : Int32)) → MT G (d + 1) z_common 20 [(0, vr 0), (1, vi l1), (2, vi l2)] [vi 0, vr 0] x2 P) ∧ (r3 = (0 : Int32) → MT G (d + 1) z_common 20 [(0, vr 0), (1, vi l1), (2, vi l2)] [vi 1, vr 0] x2 P)))))) :
    MT G (d + 1) z_common 0 [(0, vr 0), (1, vi l1), (2, vi l2)] [] x P := by
  refine T_aload_n 0 (dk dt_common 0 rfl) rfl rfl ?_
  refine T_iconst (v := 0) (dk dt_common 1 rfl) (by decide +kernel) ?_
  obtain ⟨x1, ex1⟩ : ∃ z, z = si x 0 0 0 := ⟨_, rfl⟩
  have h := h x1 ex1
  refine T_putI 0 0 (dk dt_common 2 rfl) fl_316 mk_0 ml_0 (by decide) rfl ⟨rfl, rfl⟩ ?_
  rw [← ex1]
  refine T_aload_n 0 (dk dt_common 3 rfl) rfl rfl ?_
  refine T_iload_n 1 (dk dt_common 4 rfl) rfl rfl ?_
  refine T_iconst (v := 0) (dk dt_common 5 rfl) (by decide +kernel) ?_
  refine T_iconst (v := 1) (dk dt_common 6 rfl) (by decide +kernel) ?_
  refine MT_callSi [vi l1, vi 0, vi 1] [vr 0] rfl (dk dt_common 7 rfl) cs_322 rfl (Nat.le_of_ble_eq_true rfl) (Nat.le_of_ble_eq_true rfl) rfl rfl h (fun r3 x2 h => ?_)
  refine T_if_ne 19 (dk dt_common 8 rfl) (by decide) (fun c4 => ?_) (fun c4 => ?_)
  · have h := h.1 c4
    refine T_iconst (v := 0) (dk dt_common 11 rfl) (by decide +kernel) ?_
    exact h
  · have h := h.2 c4
    refine T_iconst (v := 1) (dk dt_common 9 rfl) (by decide +kernel) ?_
    refine T_goto 20 (dk dt_common 10 rfl) (by decide) ?_
    exact h
set_option maxRecDepth 100000 in
set_option maxHeartbeats 4000000 in
theorem sg_common_20 {G : mG} {d : Nat} {x : gd} {P : Option gv → gd → Prop} (l1 : Int32) (l2 : Int32) (s0 : Int32)
    (h : MT G d z_refuses 0 [(0, vr 0), (1, vi s0), (2, vi 1)] [] x (ri (fun r2 x1 => ((¬ (r2 = (0 : Int32)) → P (some (vi 0)) x1) ∧ (r2 = (0 : Int32) → MT G d z_in 0 [(0, vi l2), (1, vi 0), (2, vi ((x1.1 0 23) - 1))] [] x1 (ri (fun r5 x4 => ((¬ (r5 = (0 : Int32)) → MT G (d + 1) z_common 47 [(0, vr 0), (1, vi l1), (2, vi l2)] [vi 0, vr 0] x4 P) ∧ (r5 = (0 : Int32) → MT G (d + 1) z_common 47 [(0, vr 0), (1, vi l1), (2, vi l2)] [vi 1, vr 0] x4 P))))))))) :
    MT G (d + 1) z_common 20 [(0, vr 0), (1, vi l1), (2, vi l2)] [vi s0, vr 0] x P := by
  refine T_iconst (v := 1) (dk dt_common 12 rfl) (by decide +kernel) ?_
  refine MT_callVi [vi s0, vi 1] [] rfl (dk dt_common 13 rfl) cv_558 rfl rfl (Nat.le_of_ble_eq_true rfl) (Nat.le_of_ble_eq_true rfl) rfl rfl h (fun r2 x1 h => ?_)
  refine T_if_ne 54 (dk dt_common 14 rfl) (by decide) (fun c3 => ?_) (fun c3 => ?_)
  · have h := h.1 c3
    refine T_iconst (v := 0) (dk dt_common 30 rfl) (by decide +kernel) ?_
    exact MT_iret (dk dt_common 31 rfl) rfl rfl h
  · have h := h.2 c3
    refine T_aload_n 0 (dk dt_common 15 rfl) rfl rfl ?_
    refine T_iload_n 2 (dk dt_common 16 rfl) rfl rfl ?_
    refine T_iconst (v := 0) (dk dt_common 17 rfl) (by decide +kernel) ?_
    refine T_aload_n 0 (dk dt_common 18 rfl) rfl rfl ?_
    refine T_getI 0 23 (dk dt_common 19 rfl) fl_448 mk_0 ml_0 (by decide) rfl ?_
    refine T_iconst (v := 1) (dk dt_common 20 rfl) (by decide +kernel) ?_
    refine T_isub (dk dt_common 21 rfl) ?_
    refine MT_callSi [vi l2, vi 0, vi ((x1.1 0 23) - 1)] [vr 0] rfl (dk dt_common 22 rfl) cs_322 rfl (Nat.le_of_ble_eq_true rfl) (Nat.le_of_ble_eq_true rfl) rfl rfl h (fun r5 x4 h => ?_)
    refine T_if_ne 46 (dk dt_common 23 rfl) (by decide) (fun c6 => ?_) (fun c6 => ?_)
    · have h := h.1 c6
      refine T_iconst (v := 0) (dk dt_common 26 rfl) (by decide +kernel) ?_
      exact h
    · have h := h.2 c6
      refine T_iconst (v := 1) (dk dt_common 24 rfl) (by decide +kernel) ?_
      refine T_goto 47 (dk dt_common 25 rfl) (by decide) ?_
      exact h
set_option maxRecDepth 100000 in
set_option maxHeartbeats 4000000 in
theorem sg_common_47 {G : mG} {d : Nat} {x : gd} {P : Option gv → gd → Prop} (l1 : Int32) (l2 : Int32) (s0 : Int32)
    (h : MT G d z_refuses 0 [(0, vr 0), (1, vi s0), (2, vi 2)] [] x (ri (fun r2 x1 => ((r2 = (0 : Int32) → vp_in l1 2 ∧ (((x1.1 119 (l1 : Int32).toNatClampNeg) = (0 : Int32) → P (some (vi ((1 <<< ((x1.1 0 24) &&& 31 : Int32)) - 1))) x1) ∧ (¬ ((x1.1 119 (l1 : Int32).toNatClampNeg) = (0 : Int32)) → vp_in ((24 * l1) + l2) 48 ∧ P (some (vi (x1.1 127 ((24 * l1) + l2 : Int32).toNatClampNeg))) x1))) ∧ (¬ (r2 = (0 : Int32)) → P (some (vi 0)) x1))))) :
    MT G (d + 1) z_common 47 [(0, vr 0), (1, vi l1), (2, vi l2)] [vi s0, vr 0] x P := by
  refine T_iconst (v := 2) (dk dt_common 27 rfl) (by decide +kernel) ?_
  refine MT_callVi [vi s0, vi 2] [] rfl (dk dt_common 28 rfl) cv_558 rfl rfl (Nat.le_of_ble_eq_true rfl) (Nat.le_of_ble_eq_true rfl) rfl rfl h (fun r2 x1 h => ?_)
  refine T_if_eq 56 (dk dt_common 29 rfl) (by decide) (fun c3 => ?_) (fun c3 => ?_)
  · have h := h.1 c3
    refine T_aload_n 0 (dk dt_common 32 rfl) rfl rfl ?_
    refine T_getR 0 118 119 (dk dt_common 33 rfl) fl_254 mk_0 ml_0 (by decide) rfl rfl ?_
    refine T_iload_n 1 (dk dt_common 34 rfl) rfl rfl ?_
    obtain ⟨h4, h⟩ := h
    refine T_zald 119 2 (dk dt_common 35 rfl) mk_119 ml_119 h4 ?_
    refine T_if_eq 79 (dk dt_common 36 rfl) (by decide) (fun c5 => ?_) (fun c5 => ?_)
    · have h := h.1 c5
      refine T_iconst (v := 1) (dk dt_common 46 rfl) (by decide +kernel) ?_
      refine T_aload_n 0 (dk dt_common 47 rfl) rfl rfl ?_
      refine T_getI 0 24 (dk dt_common 48 rfl) fl_458 mk_0 ml_0 (by decide) rfl ?_
      refine T_ishl (dk dt_common 49 rfl) ?_
      refine T_iconst (v := 1) (dk dt_common 50 rfl) (by decide +kernel) ?_
      refine T_isub (dk dt_common 51 rfl) ?_
      exact MT_iret (dk dt_common 52 rfl) rfl rfl h
    · have h := h.2 c5
      refine T_aload_n 0 (dk dt_common 37 rfl) rfl rfl ?_
      refine T_getR 0 126 127 (dk dt_common 38 rfl) fl_278 mk_0 ml_0 (by decide) rfl rfl ?_
      refine T_bipush (v := 24) (dk dt_common 39 rfl) (by decide +kernel) ?_
      refine T_iload_n 1 (dk dt_common 40 rfl) rfl rfl ?_
      refine T_imul (dk dt_common 41 rfl) ?_
      refine T_iload_n 2 (dk dt_common 42 rfl) rfl rfl ?_
      refine T_iadd (dk dt_common 43 rfl) ?_
      obtain ⟨h6, h⟩ := h
      refine T_iald 127 48 (dk dt_common 44 rfl) mk_127 ml_127 h6 ?_
      refine T_goto 87 (dk dt_common 45 rfl) (by decide) ?_
      exact MT_iret (dk dt_common 52 rfl) rfl rfl h
  · have h := h.2 c3
    refine T_iconst (v := 0) (dk dt_common 30 rfl) (by decide +kernel) ?_
    exact MT_iret (dk dt_common 31 rfl) rfl rfl h
set_option maxRecDepth 100000 in
theorem dt_ring : dck cX12_ring [(0, .aload_n 0, 1), (1, .iconst 0, 1), (2, .putfield 316, 3), (5, .aload_n 0, 1), (6, .iload_n 1, 1), (7, .iconst 0, 1), (8, .iconst 1, 1), (9, .invokestatic 322, 3), (12, .ifCond .ne 7, 3), (15, .iconst 1, 1), (16, .goto 4, 3), (19, .iconst 0, 1), (20, .iconst 1, 1), (21, .invokevirtual 558, 3), (24, .ifCond .ne 12, 3), (27, .aload_n 0, 1), (28, .getfield 254, 3), (31, .iload_n 1, 1), (32, .baload, 1), (33, .ifCond .ne 5, 3), (36, .iconst 0, 1), (37, .ireturn, 1), (38, .iconst 0, 1), (39, .istore_n 2, 1), (40, .iconst 0, 1), (41, .istore_n 3, 1), (42, .iload_n 3, 1), (43, .aload_n 0, 1), (44, .getfield 458, 3), (47, .if_icmp .ge 209, 3), (50, .iconst 0, 1), (51, .istore 4, 2), (53, .iload 4, 2), (55, .aload_n 0, 1), (56, .getfield 458, 3), (59, .if_icmp .ge 17, 3), (62, .aload_n 0, 1), (63, .getfield 313, 3), (66, .iload 4, 2), (68, .iconst 0, 1), (69, .iastore, 1), (70, .iinc 4 1, 3), (73, .goto (-20), 3), (76, .iconst 1, 1), (77, .istore 4, 2), (79, .iload 4, 2), (81, .aload_n 0, 1), (82, .getfield 458, 3), (85, .if_icmp .gt 131, 3), (88, .iconst 0, 1), (89, .istore 5, 2), (91, .iload 5, 2), (93, .aload_n 0, 1), (94, .getfield 458, 3), (97, .if_icmp .ge 113, 3), (100, .iload 4, 2), (102, .iconst 1, 1), (103, .if_icmp .ne 17, 3), (106, .iload 5, 2), (108, .iload_n 3, 1), (109, .if_icmp .ne 7, 3), (112, .iconst 1, 1), (113, .goto 26, 3), (116, .iconst 0, 1), (117, .goto 22, 3), (120, .aload_n 0, 1), (121, .getfield 313, 3), (124, .iload 5, 2), (126, .iaload, 1), (127, .iload 4, 2), (129, .iconst 1, 1), (130, .isub, 1), (131, .if_icmp .ne 7, 3), (134, .iconst 1, 1), (135, .goto 4, 3), (138, .iconst 0, 1), (139, .istore 6, 2), (141, .iconst 0, 1), (142, .istore 7, 2), (144, .iload 7, 2), (146, .aload_n 0, 1), (147, .getfield 458, 3), (150, .if_icmp .ge 54, 3), (153, .iload 6, 2), (155, .ifCond .eq 49, 3), (158, .aload_n 0, 1), (159, .getfield 281, 3), (162, .bipush 36, 2), (164, .iload_n 1, 1), (165, .imul, 1), (166, .bipush 6, 2), (168, .iload 5, 2), (170, .imul, 1), (171, .iadd, 1), (172, .iload 7, 2), (174, .iadd, 1), (175, .baload, 1), (176, .ifCond .eq 22, 3), (179, .aload_n 0, 1), (180, .getfield 313, 3), (183, .iload 7, 2), (185, .iaload, 1), (186, .ifCond .ne 12, 3), (189, .aload_n 0, 1), (190, .getfield 313, 3), (193, .iload 7, 2), (195, .iload 4, 2), (197, .iastore, 1), (198, .iinc 7 1, 3), (201, .goto (-57), 3), (204, .iinc 5 1, 3), (207, .goto (-116), 3), (210, .iinc 4 1, 3), (213, .goto (-134), 3), (216, .aload_n 0, 1), (217, .getfield 313, 3), (220, .iload_n 3, 1), (221, .iaload, 1), (222, .ifCond .le 26, 3), (225, .iload_n 2, 1), (226, .ifCond .eq 13, 3), (229, .aload_n 0, 1), (230, .getfield 313, 3), (233, .iload_n 3, 1), (234, .iaload, 1), (235, .iload_n 2, 1), (236, .if_icmp .ge 12, 3), (239, .aload_n 0, 1), (240, .getfield 313, 3), (243, .iload_n 3, 1), (244, .iaload, 1), (245, .goto 4, 3), (248, .iload_n 2, 1), (249, .istore_n 2, 1), (250, .iinc 3 1, 3), (253, .goto (-211), 3), (256, .iload_n 2, 1), (257, .ireturn, 1)] = true := by decide +kernel
set_option maxRecDepth 100000 in
set_option maxHeartbeats 4000000 in
theorem sg_ring_0 {G : mG} {d : Nat} {x : gd} {P : Option gv → gd → Prop} (l1 : Int32)
    (h : (∀ x1 : gd, x1 = si x 0 0 0 → MT G d z_in 0 [(0, vi l1), (1, vi 0), (2, vi 1)] [] x1 (ri (fun r3 x2 => ((¬ (r3 = (0 : Int32)) → MT G (d + 1) z_ring 20 [(0, vr 0), (1, vi l1)] [vi 0, vr 0] x2 P) ∧ (r3 = (0 : Int32) → MT G (d + 1) z_ring 20 [(0, vr 0), (1, vi l1)] [vi 1, vr 0] x2 P)))))) :
    MT G (d + 1) z_ring 0 [(0, vr 0), (1, vi l1)] [] x P := by
  refine T_aload_n 0 (dk dt_ring 0 rfl) rfl rfl ?_
  refine T_iconst (v := 0) (dk dt_ring 1 rfl) (by decide +kernel) ?_
  obtain ⟨x1, ex1⟩ : ∃ z, z = si x 0 0 0 := ⟨_, rfl⟩
  have h := h x1 ex1
  refine T_putI 0 0 (dk dt_ring 2 rfl) fl_316 mk_0 ml_0 (by decide) rfl ⟨rfl, rfl⟩ ?_
  rw [← ex1]
  refine T_aload_n 0 (dk dt_ring 3 rfl) rfl rfl ?_
  refine T_iload_n 1 (dk dt_ring 4 rfl) rfl rfl ?_
  refine T_iconst (v := 0) (dk dt_ring 5 rfl) (by decide +kernel) ?_
  refine T_iconst (v := 1) (dk dt_ring 6 rfl) (by decide +kernel) ?_
  refine MT_callSi [vi l1, vi 0, vi 1] [vr 0] rfl (dk dt_ring 7 rfl) cs_322 rfl (Nat.le_of_ble_eq_true rfl) (Nat.le_of_ble_eq_true rfl) rfl rfl h (fun r3 x2 h => ?_)
  refine T_if_ne 19 (dk dt_ring 8 rfl) (by decide) (fun c4 => ?_) (fun c4 => ?_)
  · have h := h.1 c4
    refine T_iconst (v := 0) (dk dt_ring 11 rfl) (by decide +kernel) ?_
    exact h
  · have h := h.2 c4
    refine T_iconst (v := 1) (dk dt_ring 9 rfl) (by decide +kernel) ?_
    refine T_goto 20 (dk dt_ring 10 rfl) (by decide) ?_
    exact h
set_option maxRecDepth 100000 in
set_option maxHeartbeats 4000000 in
theorem sg_ring_20 {G : mG} {d : Nat} {x : gd} {P : Option gv → gd → Prop} (l1 : Int32) (s0 : Int32)
    (h : MT G d z_refuses 0 [(0, vr 0), (1, vi s0), (2, vi 1)] [] x (ri (fun r2 x1 => ((¬ (r2 = (0 : Int32)) → P (some (vi 0)) x1) ∧ (r2 = (0 : Int32) → vp_in l1 2 ∧ ((¬ ((x1.1 119 (l1 : Int32).toNatClampNeg) = (0 : Int32)) → MT G (d + 1) z_ring 42 [(0, vr 0), (1, vi l1), (2, vi 0), (3, vi 0)] [] x1 P) ∧ ((x1.1 119 (l1 : Int32).toNatClampNeg) = (0 : Int32) → P (some (vi 0)) x1))))))) :
    MT G (d + 1) z_ring 20 [(0, vr 0), (1, vi l1)] [vi s0, vr 0] x P := by
  refine T_iconst (v := 1) (dk dt_ring 12 rfl) (by decide +kernel) ?_
  refine MT_callVi [vi s0, vi 1] [] rfl (dk dt_ring 13 rfl) cv_558 rfl rfl (Nat.le_of_ble_eq_true rfl) (Nat.le_of_ble_eq_true rfl) rfl rfl h (fun r2 x1 h => ?_)
  refine T_if_ne 36 (dk dt_ring 14 rfl) (by decide) (fun c3 => ?_) (fun c3 => ?_)
  · have h := h.1 c3
    refine T_iconst (v := 0) (dk dt_ring 20 rfl) (by decide +kernel) ?_
    exact MT_iret (dk dt_ring 21 rfl) rfl rfl h
  · have h := h.2 c3
    refine T_aload_n 0 (dk dt_ring 15 rfl) rfl rfl ?_
    refine T_getR 0 118 119 (dk dt_ring 16 rfl) fl_254 mk_0 ml_0 (by decide) rfl rfl ?_
    refine T_iload_n 1 (dk dt_ring 17 rfl) rfl rfl ?_
    obtain ⟨h4, h⟩ := h
    refine T_zald 119 2 (dk dt_ring 18 rfl) mk_119 ml_119 h4 ?_
    refine T_if_ne 38 (dk dt_ring 19 rfl) (by decide) (fun c5 => ?_) (fun c5 => ?_)
    · have h := h.1 c5
      refine T_iconst (v := 0) (dk dt_ring 22 rfl) (by decide +kernel) ?_
      refine T_istore_n (lv2 := [(2, vi 0), (0, vr 0), (1, vi l1)]) (dk dt_ring 23 rfl) rfl (by decide) rfl ?_
      refine T_iconst (v := 0) (dk dt_ring 24 rfl) (by decide +kernel) ?_
      refine T_istore_n (lv2 := [(3, vi 0), (2, vi 0), (0, vr 0), (1, vi l1)]) (dk dt_ring 25 rfl) rfl (by decide) rfl ?_
      exact T_sub [2, 3, 1, 0] rfl h
    · have h := h.2 c5
      refine T_iconst (v := 0) (dk dt_ring 20 rfl) (by decide +kernel) ?_
      exact MT_iret (dk dt_ring 21 rfl) rfl rfl h
set_option maxRecDepth 100000 in
set_option maxHeartbeats 4000000 in
theorem sg_ring_42 {G : mG} {d : Nat} {x : gd} {P : Option gv → gd → Prop} (l1 : Int32) (l2 : Int32) (l3 : Int32)
    (h : (((x.1 0 24) ≤ l3 → P (some (vi l2)) x) ∧ (¬ ((x.1 0 24) ≤ l3) → MT G (d + 1) z_ring 53 [(0, vr 0), (1, vi l1), (2, vi l2), (3, vi l3), (4, vi 0)] [] x P))) :
    MT G (d + 1) z_ring 42 [(0, vr 0), (1, vi l1), (2, vi l2), (3, vi l3)] [] x P := by
  refine T_iload_n 3 (dk dt_ring 26 rfl) rfl rfl ?_
  refine T_aload_n 0 (dk dt_ring 27 rfl) rfl rfl ?_
  refine T_getI 0 24 (dk dt_ring 28 rfl) fl_458 mk_0 ml_0 (by decide) rfl ?_
  refine T_icmp_ge 256 (dk dt_ring 29 rfl) (by decide) (fun c1 => ?_) (fun c1 => ?_)
  · have h := h.1 c1
    refine T_iload_n 2 (dk dt_ring 136 rfl) rfl rfl ?_
    exact MT_iret (dk dt_ring 137 rfl) rfl rfl h
  · have h := h.2 c1
    refine T_iconst (v := 0) (dk dt_ring 30 rfl) (by decide +kernel) ?_
    refine T_istore (lv2 := [(4, vi 0), (0, vr 0), (1, vi l1), (2, vi l2), (3, vi l3)]) (dk dt_ring 31 rfl) (by decide) rfl ?_
    exact T_sub [1, 2, 3, 4, 0] rfl h
set_option maxRecDepth 100000 in
set_option maxHeartbeats 4000000 in
theorem sg_ring_53 {G : mG} {d : Nat} {x : gd} {P : Option gv → gd → Prop} (l1 : Int32) (l2 : Int32) (l3 : Int32) (l4 : Int32)
    (h : (((x.1 0 24) ≤ l4 → MT G (d + 1) z_ring 79 [(0, vr 0), (1, vi l1), (2, vi l2), (3, vi l3), (4, vi 1)] [] x P) ∧ (¬ ((x.1 0 24) ≤ l4) → vp_in l4 6 ∧ (∀ x3 : gd, x3 = si x 139 (l4 : Int32).toNatClampNeg 0 → MT G (d + 1) z_ring 53 [(0, vr 0), (1, vi l1), (2, vi l2), (3, vi l3), (4, vi (l4 + 1))] [] x3 P)))) :
    MT G (d + 1) z_ring 53 [(0, vr 0), (1, vi l1), (2, vi l2), (3, vi l3), (4, vi l4)] [] x P := by
  refine T_iload 4 (dk dt_ring 32 rfl) rfl ?_
  refine T_aload_n 0 (dk dt_ring 33 rfl) rfl rfl ?_
  refine T_getI 0 24 (dk dt_ring 34 rfl) fl_458 mk_0 ml_0 (by decide) rfl ?_
  refine T_icmp_ge 76 (dk dt_ring 35 rfl) (by decide) (fun c1 => ?_) (fun c1 => ?_)
  · have h := h.1 c1
    refine T_iconst (v := 1) (dk dt_ring 43 rfl) (by decide +kernel) ?_
    refine T_istore (lv2 := [(4, vi 1), (0, vr 0), (1, vi l1), (2, vi l2), (3, vi l3)]) (dk dt_ring 44 rfl) (by decide) rfl ?_
    exact T_sub [1, 2, 3, 4, 0] rfl h
  · have h := h.2 c1
    refine T_aload_n 0 (dk dt_ring 36 rfl) rfl rfl ?_
    refine T_getR 0 138 139 (dk dt_ring 37 rfl) fl_313 mk_0 ml_0 (by decide) rfl rfl ?_
    refine T_iload 4 (dk dt_ring 38 rfl) rfl ?_
    refine T_iconst (v := 0) (dk dt_ring 39 rfl) (by decide +kernel) ?_
    obtain ⟨h2, h⟩ := h
    obtain ⟨x3, ex3⟩ : ∃ z, z = si x 139 (l4 : Int32).toNatClampNeg 0 := ⟨_, rfl⟩
    have h := h x3 ex3
    refine T_iast 139 6 (dk dt_ring 40 rfl) mk_139 ml_139 h2 ?_
    rw [← ex3]
    refine T_iinc (v := l4 + 1) (lv2 := [(4, vi (l4 + 1)), (0, vr 0), (1, vi l1), (2, vi l2), (3, vi l3)]) 4 (dk dt_ring 41 rfl) rfl rfl (by decide) rfl ?_
    refine T_goto 53 (dk dt_ring 42 rfl) (by decide) ?_
    exact T_sub [1, 2, 3, 4, 0] rfl h
set_option maxRecDepth 100000 in
set_option maxHeartbeats 4000000 in
theorem sg_ring_79 {G : mG} {d : Nat} {x : gd} {P : Option gv → gd → Prop} (l1 : Int32) (l2 : Int32) (l3 : Int32) (l4 : Int32)
    (h : (((x.1 0 24) < l4 → vp_in l3 6 ∧ (((x.1 139 (l3 : Int32).toNatClampNeg) ≤ (0 : Int32) → MT G (d + 1) z_ring 42 [(0, vr 0), (1, vi l1), (2, vi l2), (3, vi (l3 + 1))] [] x P) ∧ (¬ ((x.1 139 (l3 : Int32).toNatClampNeg) ≤ (0 : Int32)) → ((l2 = (0 : Int32) → vp_in l3 6 ∧ MT G (d + 1) z_ring 42 [(0, vr 0), (1, vi l1), (2, vi (x.1 139 (l3 : Int32).toNatClampNeg)), (3, vi (l3 + 1))] [] x P) ∧ (¬ (l2 = (0 : Int32)) → vp_in l3 6 ∧ ((l2 ≤ (x.1 139 (l3 : Int32).toNatClampNeg) → MT G (d + 1) z_ring 42 [(0, vr 0), (1, vi l1), (2, vi l2), (3, vi (l3 + 1))] [] x P) ∧ (¬ (l2 ≤ (x.1 139 (l3 : Int32).toNatClampNeg)) → vp_in l3 6 ∧ MT G (d + 1) z_ring 42 [(0, vr 0), (1, vi l1), (2, vi (x.1 139 (l3 : Int32).toNatClampNeg)), (3, vi (l3 + 1))] [] x P))))))) ∧ (¬ ((x.1 0 24) < l4) → MT G (d + 1) z_ring 91 [(0, vr 0), (1, vi l1), (2, vi l2), (3, vi l3), (4, vi l4), (5, vi 0)] [] x P))) :
    MT G (d + 1) z_ring 79 [(0, vr 0), (1, vi l1), (2, vi l2), (3, vi l3), (4, vi l4)] [] x P := by
  refine T_iload 4 (dk dt_ring 45 rfl) rfl ?_
  refine T_aload_n 0 (dk dt_ring 46 rfl) rfl rfl ?_
  refine T_getI 0 24 (dk dt_ring 47 rfl) fl_458 mk_0 ml_0 (by decide) rfl ?_
  refine T_icmp_gt 216 (dk dt_ring 48 rfl) (by decide) (fun c1 => ?_) (fun c1 => ?_)
  · have h := h.1 c1
    refine T_aload_n 0 (dk dt_ring 114 rfl) rfl rfl ?_
    refine T_getR 0 138 139 (dk dt_ring 115 rfl) fl_313 mk_0 ml_0 (by decide) rfl rfl ?_
    refine T_iload_n 3 (dk dt_ring 116 rfl) rfl rfl ?_
    obtain ⟨h2, h⟩ := h
    refine T_iald 139 6 (dk dt_ring 117 rfl) mk_139 ml_139 h2 ?_
    refine T_if_le 248 (dk dt_ring 118 rfl) (by decide) (fun c3 => ?_) (fun c3 => ?_)
    · have h := h.1 c3
      refine T_iload_n 2 (dk dt_ring 132 rfl) rfl rfl ?_
      refine T_istore_n (lv2 := [(2, vi l2), (0, vr 0), (1, vi l1), (3, vi l3), (4, vi l4)]) (dk dt_ring 133 rfl) rfl (by decide) rfl ?_
      refine T_iinc (v := l3 + 1) (lv2 := [(3, vi (l3 + 1)), (2, vi l2), (0, vr 0), (1, vi l1), (4, vi l4)]) 3 (dk dt_ring 134 rfl) rfl rfl (by decide) rfl ?_
      refine T_goto 42 (dk dt_ring 135 rfl) (by decide) ?_
      exact T_sub [2, 3, 1, 0] rfl h
    · have h := h.2 c3
      refine T_iload_n 2 (dk dt_ring 119 rfl) rfl rfl ?_
      refine T_if_eq 239 (dk dt_ring 120 rfl) (by decide) (fun c4 => ?_) (fun c4 => ?_)
      · have h := h.1 c4
        refine T_aload_n 0 (dk dt_ring 127 rfl) rfl rfl ?_
        refine T_getR 0 138 139 (dk dt_ring 128 rfl) fl_313 mk_0 ml_0 (by decide) rfl rfl ?_
        refine T_iload_n 3 (dk dt_ring 129 rfl) rfl rfl ?_
        obtain ⟨h5, h⟩ := h
        refine T_iald 139 6 (dk dt_ring 130 rfl) mk_139 ml_139 h5 ?_
        refine T_goto 249 (dk dt_ring 131 rfl) (by decide) ?_
        refine T_istore_n (lv2 := [(2, vi (x.1 139 (l3 : Int32).toNatClampNeg)), (0, vr 0), (1, vi l1), (3, vi l3), (4, vi l4)]) (dk dt_ring 133 rfl) rfl (by decide) rfl ?_
        refine T_iinc (v := l3 + 1) (lv2 := [(3, vi (l3 + 1)), (2, vi (x.1 139 (l3 : Int32).toNatClampNeg)), (0, vr 0), (1, vi l1), (4, vi l4)]) 3 (dk dt_ring 134 rfl) rfl rfl (by decide) rfl ?_
        refine T_goto 42 (dk dt_ring 135 rfl) (by decide) ?_
        exact T_sub [2, 3, 1, 0] rfl h
      · have h := h.2 c4
        refine T_aload_n 0 (dk dt_ring 121 rfl) rfl rfl ?_
        refine T_getR 0 138 139 (dk dt_ring 122 rfl) fl_313 mk_0 ml_0 (by decide) rfl rfl ?_
        refine T_iload_n 3 (dk dt_ring 123 rfl) rfl rfl ?_
        obtain ⟨h6, h⟩ := h
        refine T_iald 139 6 (dk dt_ring 124 rfl) mk_139 ml_139 h6 ?_
        refine T_iload_n 2 (dk dt_ring 125 rfl) rfl rfl ?_
        refine T_icmp_ge 248 (dk dt_ring 126 rfl) (by decide) (fun c7 => ?_) (fun c7 => ?_)
        · have h := h.1 c7
          refine T_iload_n 2 (dk dt_ring 132 rfl) rfl rfl ?_
          refine T_istore_n (lv2 := [(2, vi l2), (0, vr 0), (1, vi l1), (3, vi l3), (4, vi l4)]) (dk dt_ring 133 rfl) rfl (by decide) rfl ?_
          refine T_iinc (v := l3 + 1) (lv2 := [(3, vi (l3 + 1)), (2, vi l2), (0, vr 0), (1, vi l1), (4, vi l4)]) 3 (dk dt_ring 134 rfl) rfl rfl (by decide) rfl ?_
          refine T_goto 42 (dk dt_ring 135 rfl) (by decide) ?_
          exact T_sub [2, 3, 1, 0] rfl h
        · have h := h.2 c7
          refine T_aload_n 0 (dk dt_ring 127 rfl) rfl rfl ?_
          refine T_getR 0 138 139 (dk dt_ring 128 rfl) fl_313 mk_0 ml_0 (by decide) rfl rfl ?_
          refine T_iload_n 3 (dk dt_ring 129 rfl) rfl rfl ?_
          obtain ⟨h8, h⟩ := h
          refine T_iald 139 6 (dk dt_ring 130 rfl) mk_139 ml_139 h8 ?_
          refine T_goto 249 (dk dt_ring 131 rfl) (by decide) ?_
          refine T_istore_n (lv2 := [(2, vi (x.1 139 (l3 : Int32).toNatClampNeg)), (0, vr 0), (1, vi l1), (3, vi l3), (4, vi l4)]) (dk dt_ring 133 rfl) rfl (by decide) rfl ?_
          refine T_iinc (v := l3 + 1) (lv2 := [(3, vi (l3 + 1)), (2, vi (x.1 139 (l3 : Int32).toNatClampNeg)), (0, vr 0), (1, vi l1), (4, vi l4)]) 3 (dk dt_ring 134 rfl) rfl rfl (by decide) rfl ?_
          refine T_goto 42 (dk dt_ring 135 rfl) (by decide) ?_
          exact T_sub [2, 3, 1, 0] rfl h
  · have h := h.2 c1
    refine T_iconst (v := 0) (dk dt_ring 49 rfl) (by decide +kernel) ?_
    refine T_istore (lv2 := [(5, vi 0), (0, vr 0), (1, vi l1), (2, vi l2), (3, vi l3), (4, vi l4)]) (dk dt_ring 50 rfl) (by decide) rfl ?_
    exact T_sub [1, 2, 3, 4, 5, 0] rfl h
set_option maxRecDepth 100000 in
set_option maxHeartbeats 4000000 in
theorem sg_ring_91 {G : mG} {d : Nat} {x : gd} {P : Option gv → gd → Prop} (l1 : Int32) (l2 : Int32) (l3 : Int32) (l4 : Int32) (l5 : Int32)
    (h : (((x.1 0 24) ≤ l5 → MT G (d + 1) z_ring 79 [(0, vr 0), (1, vi l1), (2, vi l2), (3, vi l3), (4, vi (l4 + 1))] [] x P) ∧ (¬ ((x.1 0 24) ≤ l5) → ((¬ (l4 = (1 : Int32)) → vp_in l5 6 ∧ ((¬ ((x.1 139 (l5 : Int32).toNatClampNeg) = (l4 - 1)) → MT G (d + 1) z_ring 144 [(0, vr 0), (1, vi l1), (2, vi l2), (3, vi l3), (4, vi l4), (5, vi l5), (6, vi 0), (7, vi 0)] [] x P) ∧ ((x.1 139 (l5 : Int32).toNatClampNeg) = (l4 - 1) → MT G (d + 1) z_ring 144 [(0, vr 0), (1, vi l1), (2, vi l2), (3, vi l3), (4, vi l4), (5, vi l5), (6, vi 1), (7, vi 0)] [] x P))) ∧ (l4 = (1 : Int32) → ((¬ (l5 = l3) → MT G (d + 1) z_ring 144 [(0, vr 0), (1, vi l1), (2, vi l2), (3, vi l3), (4, vi l4), (5, vi l5), (6, vi 0), (7, vi 0)] [] x P) ∧ (l5 = l3 → MT G (d + 1) z_ring 144 [(0, vr 0), (1, vi l1), (2, vi l2), (3, vi l3), (4, vi l4), (5, vi l5), (6, vi 1), (7, vi 0)] [] x P))))))) :
    MT G (d + 1) z_ring 91 [(0, vr 0), (1, vi l1), (2, vi l2), (3, vi l3), (4, vi l4), (5, vi l5)] [] x P := by
  refine T_iload 5 (dk dt_ring 51 rfl) rfl ?_
  refine T_aload_n 0 (dk dt_ring 52 rfl) rfl rfl ?_
  refine T_getI 0 24 (dk dt_ring 53 rfl) fl_458 mk_0 ml_0 (by decide) rfl ?_
  refine T_icmp_ge 210 (dk dt_ring 54 rfl) (by decide) (fun c1 => ?_) (fun c1 => ?_)
  · have h := h.1 c1
    refine T_iinc (v := l4 + 1) (lv2 := [(4, vi (l4 + 1)), (0, vr 0), (1, vi l1), (2, vi l2), (3, vi l3), (5, vi l5)]) 4 (dk dt_ring 112 rfl) rfl rfl (by decide) rfl ?_
    refine T_goto 79 (dk dt_ring 113 rfl) (by decide) ?_
    exact T_sub [1, 2, 3, 4, 0] rfl h
  · have h := h.2 c1
    refine T_iload 4 (dk dt_ring 55 rfl) rfl ?_
    refine T_iconst (v := 1) (dk dt_ring 56 rfl) (by decide +kernel) ?_
    refine T_icmp_ne 120 (dk dt_ring 57 rfl) (by decide) (fun c2 => ?_) (fun c2 => ?_)
    · have h := h.1 c2
      refine T_aload_n 0 (dk dt_ring 65 rfl) rfl rfl ?_
      refine T_getR 0 138 139 (dk dt_ring 66 rfl) fl_313 mk_0 ml_0 (by decide) rfl rfl ?_
      refine T_iload 5 (dk dt_ring 67 rfl) rfl ?_
      obtain ⟨h3, h⟩ := h
      refine T_iald 139 6 (dk dt_ring 68 rfl) mk_139 ml_139 h3 ?_
      refine T_iload 4 (dk dt_ring 69 rfl) rfl ?_
      refine T_iconst (v := 1) (dk dt_ring 70 rfl) (by decide +kernel) ?_
      refine T_isub (dk dt_ring 71 rfl) ?_
      refine T_icmp_ne 138 (dk dt_ring 72 rfl) (by decide) (fun c4 => ?_) (fun c4 => ?_)
      · have h := h.1 c4
        refine T_iconst (v := 0) (dk dt_ring 75 rfl) (by decide +kernel) ?_
        refine T_istore (lv2 := [(6, vi 0), (0, vr 0), (1, vi l1), (2, vi l2), (3, vi l3), (4, vi l4), (5, vi l5)]) (dk dt_ring 76 rfl) (by decide) rfl ?_
        refine T_iconst (v := 0) (dk dt_ring 77 rfl) (by decide +kernel) ?_
        refine T_istore (lv2 := [(7, vi 0), (6, vi 0), (0, vr 0), (1, vi l1), (2, vi l2), (3, vi l3), (4, vi l4), (5, vi l5)]) (dk dt_ring 78 rfl) (by decide) rfl ?_
        exact T_sub [2, 3, 4, 5, 6, 7, 1, 0] rfl h
      · have h := h.2 c4
        refine T_iconst (v := 1) (dk dt_ring 73 rfl) (by decide +kernel) ?_
        refine T_goto 139 (dk dt_ring 74 rfl) (by decide) ?_
        refine T_istore (lv2 := [(6, vi 1), (0, vr 0), (1, vi l1), (2, vi l2), (3, vi l3), (4, vi l4), (5, vi l5)]) (dk dt_ring 76 rfl) (by decide) rfl ?_
        refine T_iconst (v := 0) (dk dt_ring 77 rfl) (by decide +kernel) ?_
        refine T_istore (lv2 := [(7, vi 0), (6, vi 1), (0, vr 0), (1, vi l1), (2, vi l2), (3, vi l3), (4, vi l4), (5, vi l5)]) (dk dt_ring 78 rfl) (by decide) rfl ?_
        exact T_sub [2, 3, 4, 5, 6, 7, 1, 0] rfl h
    · have h := h.2 c2
      refine T_iload 5 (dk dt_ring 58 rfl) rfl ?_
      refine T_iload_n 3 (dk dt_ring 59 rfl) rfl rfl ?_
      refine T_icmp_ne 116 (dk dt_ring 60 rfl) (by decide) (fun c5 => ?_) (fun c5 => ?_)
      · have h := h.1 c5
        refine T_iconst (v := 0) (dk dt_ring 63 rfl) (by decide +kernel) ?_
        refine T_goto 139 (dk dt_ring 64 rfl) (by decide) ?_
        refine T_istore (lv2 := [(6, vi 0), (0, vr 0), (1, vi l1), (2, vi l2), (3, vi l3), (4, vi l4), (5, vi l5)]) (dk dt_ring 76 rfl) (by decide) rfl ?_
        refine T_iconst (v := 0) (dk dt_ring 77 rfl) (by decide +kernel) ?_
        refine T_istore (lv2 := [(7, vi 0), (6, vi 0), (0, vr 0), (1, vi l1), (2, vi l2), (3, vi l3), (4, vi l4), (5, vi l5)]) (dk dt_ring 78 rfl) (by decide) rfl ?_
        exact T_sub [2, 3, 4, 5, 6, 7, 1, 0] rfl h
      · have h := h.2 c5
        refine T_iconst (v := 1) (dk dt_ring 61 rfl) (by decide +kernel) ?_
        refine T_goto 139 (dk dt_ring 62 rfl) (by decide) ?_
        refine T_istore (lv2 := [(6, vi 1), (0, vr 0), (1, vi l1), (2, vi l2), (3, vi l3), (4, vi l4), (5, vi l5)]) (dk dt_ring 76 rfl) (by decide) rfl ?_
        refine T_iconst (v := 0) (dk dt_ring 77 rfl) (by decide +kernel) ?_
        refine T_istore (lv2 := [(7, vi 0), (6, vi 1), (0, vr 0), (1, vi l1), (2, vi l2), (3, vi l3), (4, vi l4), (5, vi l5)]) (dk dt_ring 78 rfl) (by decide) rfl ?_
        exact T_sub [2, 3, 4, 5, 6, 7, 1, 0] rfl h
set_option maxRecDepth 100000 in
set_option maxHeartbeats 4000000 in
theorem sg_ring_144 {G : mG} {d : Nat} {x : gd} {P : Option gv → gd → Prop} (l1 : Int32) (l2 : Int32) (l3 : Int32) (l4 : Int32) (l5 : Int32) (l6 : Int32) (l7 : Int32)
    (h : (((x.1 0 24) ≤ l7 → MT G (d + 1) z_ring 91 [(0, vr 0), (1, vi l1), (2, vi l2), (3, vi l3), (4, vi l4), (5, vi (l5 + 1))] [] x P) ∧ (¬ ((x.1 0 24) ≤ l7) → ((l6 = (0 : Int32) → MT G (d + 1) z_ring 91 [(0, vr 0), (1, vi l1), (2, vi l2), (3, vi l3), (4, vi l4), (5, vi (l5 + 1))] [] x P) ∧ (¬ (l6 = (0 : Int32)) → vp_in (((36 * l1) + (6 * l5)) + l7) 72 ∧ (((x.1 128 (((36 * l1) + (6 * l5)) + l7 : Int32).toNatClampNeg) = (0 : Int32) → MT G (d + 1) z_ring 144 [(0, vr 0), (1, vi l1), (2, vi l2), (3, vi l3), (4, vi l4), (5, vi l5), (6, vi l6), (7, vi (l7 + 1))] [] x P) ∧ (¬ ((x.1 128 (((36 * l1) + (6 * l5)) + l7 : Int32).toNatClampNeg) = (0 : Int32)) → vp_in l7 6 ∧ ((¬ ((x.1 139 (l7 : Int32).toNatClampNeg) = (0 : Int32)) → MT G (d + 1) z_ring 144 [(0, vr 0), (1, vi l1), (2, vi l2), (3, vi l3), (4, vi l4), (5, vi l5), (6, vi l6), (7, vi (l7 + 1))] [] x P) ∧ ((x.1 139 (l7 : Int32).toNatClampNeg) = (0 : Int32) → vp_in l7 6 ∧ (∀ x8 : gd, x8 = si x 139 (l7 : Int32).toNatClampNeg l4 → MT G (d + 1) z_ring 144 [(0, vr 0), (1, vi l1), (2, vi l2), (3, vi l3), (4, vi l4), (5, vi l5), (6, vi l6), (7, vi (l7 + 1))] [] x8 P)))))))))) :
    MT G (d + 1) z_ring 144 [(0, vr 0), (1, vi l1), (2, vi l2), (3, vi l3), (4, vi l4), (5, vi l5), (6, vi l6), (7, vi l7)] [] x P := by
  refine T_iload 7 (dk dt_ring 79 rfl) rfl ?_
  refine T_aload_n 0 (dk dt_ring 80 rfl) rfl rfl ?_
  refine T_getI 0 24 (dk dt_ring 81 rfl) fl_458 mk_0 ml_0 (by decide) rfl ?_
  refine T_icmp_ge 204 (dk dt_ring 82 rfl) (by decide) (fun c1 => ?_) (fun c1 => ?_)
  · have h := h.1 c1
    refine T_iinc (v := l5 + 1) (lv2 := [(5, vi (l5 + 1)), (0, vr 0), (1, vi l1), (2, vi l2), (3, vi l3), (4, vi l4), (6, vi l6), (7, vi l7)]) 5 (dk dt_ring 110 rfl) rfl rfl (by decide) rfl ?_
    refine T_goto 91 (dk dt_ring 111 rfl) (by decide) ?_
    exact T_sub [1, 2, 3, 4, 5, 0] rfl h
  · have h := h.2 c1
    refine T_iload 6 (dk dt_ring 83 rfl) rfl ?_
    refine T_if_eq 204 (dk dt_ring 84 rfl) (by decide) (fun c2 => ?_) (fun c2 => ?_)
    · have h := h.1 c2
      refine T_iinc (v := l5 + 1) (lv2 := [(5, vi (l5 + 1)), (0, vr 0), (1, vi l1), (2, vi l2), (3, vi l3), (4, vi l4), (6, vi l6), (7, vi l7)]) 5 (dk dt_ring 110 rfl) rfl rfl (by decide) rfl ?_
      refine T_goto 91 (dk dt_ring 111 rfl) (by decide) ?_
      exact T_sub [1, 2, 3, 4, 5, 0] rfl h
    · have h := h.2 c2
      refine T_aload_n 0 (dk dt_ring 85 rfl) rfl rfl ?_
      refine T_getR 0 127 128 (dk dt_ring 86 rfl) fl_281 mk_0 ml_0 (by decide) rfl rfl ?_
      refine T_bipush (v := 36) (dk dt_ring 87 rfl) (by decide +kernel) ?_
      refine T_iload_n 1 (dk dt_ring 88 rfl) rfl rfl ?_
      refine T_imul (dk dt_ring 89 rfl) ?_
      refine T_bipush (v := 6) (dk dt_ring 90 rfl) (by decide +kernel) ?_
      refine T_iload 5 (dk dt_ring 91 rfl) rfl ?_
      refine T_imul (dk dt_ring 92 rfl) ?_
      refine T_iadd (dk dt_ring 93 rfl) ?_
      refine T_iload 7 (dk dt_ring 94 rfl) rfl ?_
      refine T_iadd (dk dt_ring 95 rfl) ?_
      obtain ⟨h3, h⟩ := h
      refine T_zald 128 72 (dk dt_ring 96 rfl) mk_128 ml_128 h3 ?_
      refine T_if_eq 198 (dk dt_ring 97 rfl) (by decide) (fun c4 => ?_) (fun c4 => ?_)
      · have h := h.1 c4
        refine T_iinc (v := l7 + 1) (lv2 := [(7, vi (l7 + 1)), (0, vr 0), (1, vi l1), (2, vi l2), (3, vi l3), (4, vi l4), (5, vi l5), (6, vi l6)]) 7 (dk dt_ring 108 rfl) rfl rfl (by decide) rfl ?_
        refine T_goto 144 (dk dt_ring 109 rfl) (by decide) ?_
        exact T_sub [1, 2, 3, 4, 5, 6, 7, 0] rfl h
      · have h := h.2 c4
        refine T_aload_n 0 (dk dt_ring 98 rfl) rfl rfl ?_
        refine T_getR 0 138 139 (dk dt_ring 99 rfl) fl_313 mk_0 ml_0 (by decide) rfl rfl ?_
        refine T_iload 7 (dk dt_ring 100 rfl) rfl ?_
        obtain ⟨h5, h⟩ := h
        refine T_iald 139 6 (dk dt_ring 101 rfl) mk_139 ml_139 h5 ?_
        refine T_if_ne 198 (dk dt_ring 102 rfl) (by decide) (fun c6 => ?_) (fun c6 => ?_)
        · have h := h.1 c6
          refine T_iinc (v := l7 + 1) (lv2 := [(7, vi (l7 + 1)), (0, vr 0), (1, vi l1), (2, vi l2), (3, vi l3), (4, vi l4), (5, vi l5), (6, vi l6)]) 7 (dk dt_ring 108 rfl) rfl rfl (by decide) rfl ?_
          refine T_goto 144 (dk dt_ring 109 rfl) (by decide) ?_
          exact T_sub [1, 2, 3, 4, 5, 6, 7, 0] rfl h
        · have h := h.2 c6
          refine T_aload_n 0 (dk dt_ring 103 rfl) rfl rfl ?_
          refine T_getR 0 138 139 (dk dt_ring 104 rfl) fl_313 mk_0 ml_0 (by decide) rfl rfl ?_
          refine T_iload 7 (dk dt_ring 105 rfl) rfl ?_
          refine T_iload 4 (dk dt_ring 106 rfl) rfl ?_
          obtain ⟨h7, h⟩ := h
          obtain ⟨x8, ex8⟩ : ∃ z, z = si x 139 (l7 : Int32).toNatClampNeg l4 := ⟨_, rfl⟩
          have h := h x8 ex8
          refine T_iast 139 6 (dk dt_ring 107 rfl) mk_139 ml_139 h7 ?_
          rw [← ex8]
          refine T_iinc (v := l7 + 1) (lv2 := [(7, vi (l7 + 1)), (0, vr 0), (1, vi l1), (2, vi l2), (3, vi l3), (4, vi l4), (5, vi l5), (6, vi l6)]) 7 (dk dt_ring 108 rfl) rfl rfl (by decide) rfl ?_
          refine T_goto 144 (dk dt_ring 109 rfl) (by decide) ?_
          exact T_sub [1, 2, 3, 4, 5, 6, 7, 0] rfl h
set_option maxRecDepth 100000 in
theorem dt_alike : dck cX12_alike [(0, .aload_n 0, 1), (1, .iconst 0, 1), (2, .putfield 316, 3), (5, .aload_n 0, 1), (6, .getfield 254, 3), (9, .iconst 0, 1), (10, .baload, 1), (11, .ifCond .eq 30, 3), (14, .aload_n 0, 1), (15, .getfield 254, 3), (18, .iconst 1, 1), (19, .baload, 1), (20, .ifCond .eq 21, 3), (23, .aload_n 0, 1), (24, .getfield 260, 3), (27, .iconst 0, 1), (28, .baload, 1), (29, .ifCond .ne 12, 3), (32, .aload_n 0, 1), (33, .getfield 260, 3), (36, .iconst 1, 1), (37, .baload, 1), (38, .ifCond .eq 5, 3), (41, .iconst (-1), 1), (42, .ireturn, 1), (43, .aload_n 0, 1), (44, .getfield 266, 3), (47, .iconst 0, 1), (48, .iaload, 1), (49, .aload_n 0, 1), (50, .getfield 266, 3), (53, .iconst 1, 1), (54, .iaload, 1), (55, .if_icmp .eq 5, 3), (58, .iconst 0, 1), (59, .ireturn, 1), (60, .iconst 0, 1), (61, .istore_n 1, 1), (62, .iload_n 1, 1), (63, .bipush 24, 2), (65, .aload_n 0, 1), (66, .getfield 266, 3), (69, .iconst 0, 1), (70, .iaload, 1), (71, .imul, 1), (72, .if_icmp .ge 30, 3), (75, .aload_n 0, 1), (76, .getfield 285, 3), (79, .iload_n 1, 1), (80, .iaload, 1), (81, .aload_n 0, 1), (82, .getfield 285, 3), (85, .ldc_w 727, 3), (88, .iload_n 1, 1), (89, .iadd, 1), (90, .iaload, 1), (91, .if_icmp .eq 5, 3), (94, .iconst 0, 1), (95, .ireturn, 1), (96, .iinc 1 1, 3), (99, .goto (-37), 3), (102, .iconst 1, 1), (103, .ireturn, 1)] = true := by decide +kernel
set_option maxRecDepth 100000 in
set_option maxHeartbeats 4000000 in
theorem sg_alike_0 {G : mG} {d : Nat} {x : gd} {P : Option gv → gd → Prop} 
    (h : (∀ x1 : gd, x1 = si x 0 0 0 → vp_in 0 2 ∧ (((x1.1 119 (0 : Int32).toNatClampNeg) = (0 : Int32) → P (some (vi (-1))) x1) ∧ (¬ ((x1.1 119 (0 : Int32).toNatClampNeg) = (0 : Int32)) → vp_in 1 2 ∧ (((x1.1 119 (1 : Int32).toNatClampNeg) = (0 : Int32) → P (some (vi (-1))) x1) ∧ (¬ ((x1.1 119 (1 : Int32).toNatClampNeg) = (0 : Int32)) → vp_in 0 2 ∧ ((¬ ((x1.1 121 (0 : Int32).toNatClampNeg) = (0 : Int32)) → P (some (vi (-1))) x1) ∧ ((x1.1 121 (0 : Int32).toNatClampNeg) = (0 : Int32) → vp_in 1 2 ∧ (((x1.1 121 (1 : Int32).toNatClampNeg) = (0 : Int32) → vp_in 0 2 ∧ vp_in 1 2 ∧ (((x1.1 123 (0 : Int32).toNatClampNeg) = (x1.1 123 (1 : Int32).toNatClampNeg) → MT G d z_alike 62 [(0, vr 0), (1, vi 0)] [] x1 P) ∧ (¬ ((x1.1 123 (0 : Int32).toNatClampNeg) = (x1.1 123 (1 : Int32).toNatClampNeg)) → P (some (vi 0)) x1))) ∧ (¬ ((x1.1 121 (1 : Int32).toNatClampNeg) = (0 : Int32)) → P (some (vi (-1))) x1)))))))))) :
    MT G d z_alike 0 [(0, vr 0)] [] x P := by
  refine T_aload_n 0 (dk dt_alike 0 rfl) rfl rfl ?_
  refine T_iconst (v := 0) (dk dt_alike 1 rfl) (by decide +kernel) ?_
  obtain ⟨x1, ex1⟩ : ∃ z, z = si x 0 0 0 := ⟨_, rfl⟩
  have h := h x1 ex1
  refine T_putI 0 0 (dk dt_alike 2 rfl) fl_316 mk_0 ml_0 (by decide) rfl ⟨rfl, rfl⟩ ?_
  rw [← ex1]
  refine T_aload_n 0 (dk dt_alike 3 rfl) rfl rfl ?_
  refine T_getR 0 118 119 (dk dt_alike 4 rfl) fl_254 mk_0 ml_0 (by decide) rfl rfl ?_
  refine T_iconst (v := 0) (dk dt_alike 5 rfl) (by decide +kernel) ?_
  obtain ⟨h2, h⟩ := h
  refine T_zald 119 2 (dk dt_alike 6 rfl) mk_119 ml_119 h2 ?_
  refine T_if_eq 41 (dk dt_alike 7 rfl) (by decide) (fun c3 => ?_) (fun c3 => ?_)
  · have h := h.1 c3
    refine T_iconst (v := (-1)) (dk dt_alike 23 rfl) (by decide +kernel) ?_
    exact MT_iret (dk dt_alike 24 rfl) rfl rfl h
  · have h := h.2 c3
    refine T_aload_n 0 (dk dt_alike 8 rfl) rfl rfl ?_
    refine T_getR 0 118 119 (dk dt_alike 9 rfl) fl_254 mk_0 ml_0 (by decide) rfl rfl ?_
    refine T_iconst (v := 1) (dk dt_alike 10 rfl) (by decide +kernel) ?_
    obtain ⟨h4, h⟩ := h
    refine T_zald 119 2 (dk dt_alike 11 rfl) mk_119 ml_119 h4 ?_
    refine T_if_eq 41 (dk dt_alike 12 rfl) (by decide) (fun c5 => ?_) (fun c5 => ?_)
    · have h := h.1 c5
      refine T_iconst (v := (-1)) (dk dt_alike 23 rfl) (by decide +kernel) ?_
      exact MT_iret (dk dt_alike 24 rfl) rfl rfl h
    · have h := h.2 c5
      refine T_aload_n 0 (dk dt_alike 13 rfl) rfl rfl ?_
      refine T_getR 0 120 121 (dk dt_alike 14 rfl) fl_260 mk_0 ml_0 (by decide) rfl rfl ?_
      refine T_iconst (v := 0) (dk dt_alike 15 rfl) (by decide +kernel) ?_
      obtain ⟨h6, h⟩ := h
      refine T_zald 121 2 (dk dt_alike 16 rfl) mk_121 ml_121 h6 ?_
      refine T_if_ne 41 (dk dt_alike 17 rfl) (by decide) (fun c7 => ?_) (fun c7 => ?_)
      · have h := h.1 c7
        refine T_iconst (v := (-1)) (dk dt_alike 23 rfl) (by decide +kernel) ?_
        exact MT_iret (dk dt_alike 24 rfl) rfl rfl h
      · have h := h.2 c7
        refine T_aload_n 0 (dk dt_alike 18 rfl) rfl rfl ?_
        refine T_getR 0 120 121 (dk dt_alike 19 rfl) fl_260 mk_0 ml_0 (by decide) rfl rfl ?_
        refine T_iconst (v := 1) (dk dt_alike 20 rfl) (by decide +kernel) ?_
        obtain ⟨h8, h⟩ := h
        refine T_zald 121 2 (dk dt_alike 21 rfl) mk_121 ml_121 h8 ?_
        refine T_if_eq 43 (dk dt_alike 22 rfl) (by decide) (fun c9 => ?_) (fun c9 => ?_)
        · have h := h.1 c9
          refine T_aload_n 0 (dk dt_alike 25 rfl) rfl rfl ?_
          refine T_getR 0 122 123 (dk dt_alike 26 rfl) fl_266 mk_0 ml_0 (by decide) rfl rfl ?_
          refine T_iconst (v := 0) (dk dt_alike 27 rfl) (by decide +kernel) ?_
          obtain ⟨h10, h⟩ := h
          refine T_iald 123 2 (dk dt_alike 28 rfl) mk_123 ml_123 h10 ?_
          refine T_aload_n 0 (dk dt_alike 29 rfl) rfl rfl ?_
          refine T_getR 0 122 123 (dk dt_alike 30 rfl) fl_266 mk_0 ml_0 (by decide) rfl rfl ?_
          refine T_iconst (v := 1) (dk dt_alike 31 rfl) (by decide +kernel) ?_
          obtain ⟨h11, h⟩ := h
          refine T_iald 123 2 (dk dt_alike 32 rfl) mk_123 ml_123 h11 ?_
          refine T_icmp_eq 60 (dk dt_alike 33 rfl) (by decide) (fun c12 => ?_) (fun c12 => ?_)
          · have h := h.1 c12
            refine T_iconst (v := 0) (dk dt_alike 36 rfl) (by decide +kernel) ?_
            refine T_istore_n (lv2 := [(1, vi 0), (0, vr 0)]) (dk dt_alike 37 rfl) rfl (by decide) rfl ?_
            exact T_sub [1, 0] rfl h
          · have h := h.2 c12
            refine T_iconst (v := 0) (dk dt_alike 34 rfl) (by decide +kernel) ?_
            exact MT_iret (dk dt_alike 35 rfl) rfl rfl h
        · have h := h.2 c9
          refine T_iconst (v := (-1)) (dk dt_alike 23 rfl) (by decide +kernel) ?_
          exact MT_iret (dk dt_alike 24 rfl) rfl rfl h
set_option maxRecDepth 100000 in
set_option maxHeartbeats 4000000 in
theorem sg_alike_62 {G : mG} {d : Nat} {x : gd} {P : Option gv → gd → Prop} (l1 : Int32)
    (h : vp_in 0 2 ∧ (((24 * (x.1 123 (0 : Int32).toNatClampNeg)) ≤ l1 → P (some (vi 1)) x) ∧ (¬ ((24 * (x.1 123 (0 : Int32).toNatClampNeg)) ≤ l1) → vp_in l1 144000 ∧ vp_in (72000 + l1) 144000 ∧ (((x.1 129 (l1 : Int32).toNatClampNeg) = (x.1 129 (72000 + l1 : Int32).toNatClampNeg) → MT G d z_alike 62 [(0, vr 0), (1, vi (l1 + 1))] [] x P) ∧ (¬ ((x.1 129 (l1 : Int32).toNatClampNeg) = (x.1 129 (72000 + l1 : Int32).toNatClampNeg)) → P (some (vi 0)) x))))) :
    MT G d z_alike 62 [(0, vr 0), (1, vi l1)] [] x P := by
  refine T_iload_n 1 (dk dt_alike 38 rfl) rfl rfl ?_
  refine T_bipush (v := 24) (dk dt_alike 39 rfl) (by decide +kernel) ?_
  refine T_aload_n 0 (dk dt_alike 40 rfl) rfl rfl ?_
  refine T_getR 0 122 123 (dk dt_alike 41 rfl) fl_266 mk_0 ml_0 (by decide) rfl rfl ?_
  refine T_iconst (v := 0) (dk dt_alike 42 rfl) (by decide +kernel) ?_
  obtain ⟨h1, h⟩ := h
  refine T_iald 123 2 (dk dt_alike 43 rfl) mk_123 ml_123 h1 ?_
  refine T_imul (dk dt_alike 44 rfl) ?_
  refine T_icmp_ge 102 (dk dt_alike 45 rfl) (by decide) (fun c2 => ?_) (fun c2 => ?_)
  · have h := h.1 c2
    refine T_iconst (v := 1) (dk dt_alike 61 rfl) (by decide +kernel) ?_
    exact MT_iret (dk dt_alike 62 rfl) rfl rfl h
  · have h := h.2 c2
    refine T_aload_n 0 (dk dt_alike 46 rfl) rfl rfl ?_
    refine T_getR 0 128 129 (dk dt_alike 47 rfl) fl_285 mk_0 ml_0 (by decide) rfl rfl ?_
    refine T_iload_n 1 (dk dt_alike 48 rfl) rfl rfl ?_
    obtain ⟨h3, h⟩ := h
    refine T_iald 129 144000 (dk dt_alike 49 rfl) mk_129 ml_129 h3 ?_
    refine T_aload_n 0 (dk dt_alike 50 rfl) rfl rfl ?_
    refine T_getR 0 128 129 (dk dt_alike 51 rfl) fl_285 mk_0 ml_0 (by decide) rfl rfl ?_
    refine T_ldcw (v := 72000) (dk dt_alike 52 rfl) kc_727 ?_
    refine T_iload_n 1 (dk dt_alike 53 rfl) rfl rfl ?_
    refine T_iadd (dk dt_alike 54 rfl) ?_
    obtain ⟨h4, h⟩ := h
    refine T_iald 129 144000 (dk dt_alike 55 rfl) mk_129 ml_129 h4 ?_
    refine T_icmp_eq 96 (dk dt_alike 56 rfl) (by decide) (fun c5 => ?_) (fun c5 => ?_)
    · have h := h.1 c5
      refine T_iinc (v := l1 + 1) (lv2 := [(1, vi (l1 + 1)), (0, vr 0)]) 1 (dk dt_alike 59 rfl) rfl rfl (by decide) rfl ?_
      refine T_goto 62 (dk dt_alike 60 rfl) (by decide) ?_
      exact T_sub [1, 0] rfl h
    · have h := h.2 c5
      refine T_iconst (v := 0) (dk dt_alike 57 rfl) (by decide +kernel) ?_
      exact MT_iret (dk dt_alike 58 rfl) rfl rfl h
