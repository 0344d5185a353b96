section
set_option maxRecDepth 100000 in
theorem dtk_X7_source : dck cX7_source [(0, .aload_n 0, 1), (1, .getfield 184, 3), (4, .iconst 1, 1), (5, .iadd, 1), (6, .istore 4, 2), (8, .aload_n 0, 1), (9, .invokevirtual 279, 3), (12, .istore 5, 2), (14, .iload_n 3, 1), (15, .istore 6, 2), (17, .iconst (-1), 1), (18, .istore 7, 2), (20, .iconst (-1), 1), (21, .istore 8, 2), (23, .iload 5, 2), (25, .iconst 2, 1), (26, .if_icmp .eq 15, 3), (29, .iload 5, 2), (31, .iconst 3, 1), (32, .if_icmp .eq 9, 3), (35, .iload 5, 2), (37, .iconst 4, 1), (38, .if_icmp .ne 30, 3), (41, .aload_n 0, 1), (42, .getfield 15, 3), (45, .getfield 109, 3), (48, .aload_n 0, 1), (49, .getfield 52, 3), (52, .iload_n 2, 1), (53, .iconst (-1), 1), (54, .if_icmp .ne 8, 3), (57, .bipush 10, 2), (59, .goto 4, 3), (62, .iconst 0, 1), (63, .iastore, 1), (64, .aload_n 0, 1), (65, .invokevirtual 112, 3), (68, .iload 5, 2), (70, .bipush 16, 2), (72, .if_icmp .eq 102, 3), (75, .aload_n 0, 1), (76, .invokevirtual 144, 3), (79, .bipush 25, 2), (81, .if_icmp .ne 7, 3), (84, .iconst 1, 1), (85, .goto 4, 3), (88, .iconst 0, 1), (89, .istore 9, 2), (91, .iload 5, 2), (93, .ifCond .ne 20, 3), (96, .iload 9, 2), (98, .ifCond .ne 15, 3), (101, .iload 4, 2), (103, .bipush 16, 2), (105, .if_icmp .le 8, 3), (108, .aload_n 0, 1), (109, .iconst 3, 1), (110, .invokevirtual 96, 3), (113, .aload_n 0, 1), (114, .iconst 2, 1), (115, .iload 9, 2), (117, .iload 5, 2), (119, .ifCond .ne 12, 3), (122, .iload_n 2, 1), (123, .iconst (-1), 1), (124, .if_icmp .ne 7, 3), (127, .iconst 1, 1), (128, .goto 4, 3), (131, .iconst 0, 1), (132, .invokestatic 282, 3), (135, .invokevirtual 130, 3), (138, .istore 6, 2), (140, .iload 9, 2), (142, .ifCond .eq 21, 3), (145, .aload_n 0, 1), (146, .invokevirtual 112, 3), (149, .aload_n 0, 1), (150, .iload 4, 2), (152, .invokevirtual 201, 3), (155, .istore 7, 2), (157, .aload_n 0, 1), (158, .bipush 26, 2), (160, .invokevirtual 115, 3), (163, .iload 5, 2), (165, .ifCond .eq 9, 3), (168, .aload_n 0, 1), (169, .bipush 28, 2), (171, .invokevirtual 115, 3), (174, .iload 5, 2), (176, .ifCond .ne 7, 3), (179, .iconst (-1), 1), (180, .goto 9, 3), (183, .aload_n 0, 1), (184, .iload 4, 2), (186, .invokevirtual 201, 3), (189, .istore 9, 2), (191, .iload 5, 2), (193, .iconst 4, 1), (194, .if_icmp .ne 17, 3), (197, .aload_n 0, 1), (198, .bipush 28, 2), (200, .invokevirtual 115, 3), (203, .aload_n 0, 1), (204, .iload 4, 2), (206, .invokevirtual 201, 3), (209, .istore 8, 2), (211, .aload_n 0, 1), (212, .getfield 29, 3), (215, .iload 5, 2), (217, .bipush 16, 2), (219, .if_icmp .ne 12, 3), (222, .iload_n 2, 1), (223, .iconst (-1), 1), (224, .if_icmp .ne 7, 3), (227, .iconst 1, 1), (228, .goto 5, 3), (231, .iload 5, 2), (233, .iload_n 1, 1), (234, .aload_n 0, 1), (235, .getfield 181, 3), (238, .invokevirtual 191, 3), (241, .istore 10, 2), (243, .aload_n 0, 1), (244, .getfield 29, 3), (247, .getfield 214, 3), (250, .iload 10, 2), (252, .iload_n 2, 1), (253, .iastore, 1), (254, .aload_n 0, 1), (255, .getfield 29, 3), (258, .getfield 220, 3), (261, .iload 10, 2), (263, .iload 6, 2), (265, .iastore, 1), (266, .aload_n 0, 1), (267, .getfield 29, 3), (270, .getfield 276, 3), (273, .iload 10, 2), (275, .iload 7, 2), (277, .iastore, 1), (278, .aload_n 0, 1), (279, .getfield 29, 3), (282, .getfield 233, 3), (285, .iload 10, 2), (287, .iload 9, 2), (289, .iastore, 1), (290, .aload_n 0, 1), (291, .getfield 29, 3), (294, .getfield 286, 3), (297, .iload 10, 2), (299, .iload 8, 2), (301, .iastore, 1), (302, .return_, 1)] = true := by decide +kernel
set_option maxRecDepth 100000 in
set_option maxHeartbeats 4000000 in
theorem kg_X7_source_0 {G : kG} {q : kP} {d : Nat} {x : gd} {P : Option gv → gd → Prop} {X : String → gd → Prop} (hq : kV q) (l1 : Int32) (l2 : Int32) (l3 : Int32)
    (h : KT G q (d + 6) zk_X7_sourceOp 0 [(0, vr 100)] [] x (ri (fun r2 x1 => ((r2 = (2 : Int32) → KE G q (d + 7) zk_X7_source 41 [(0, vr 100), (1, vi l1), (2, vi l2), (4, vi ((x.1 100 13) + 1)), (5, vi r2), (6, vi l3), (7, vi (-1)), (8, vi (-1))] [] x1 P X) ∧ (¬ (r2 = (2 : Int32)) → ((r2 = (3 : Int32) → KE G q (d + 7) zk_X7_source 41 [(0, vr 100), (1, vi l1), (2, vi l2), (4, vi ((x.1 100 13) + 1)), (5, vi r2), (6, vi l3), (7, vi (-1)), (8, vi (-1))] [] x1 P X) ∧ (¬ (r2 = (3 : Int32)) → ((¬ (r2 = (4 : Int32)) → KE G q (d + 7) zk_X7_source 68 [(0, vr 100), (1, vi l1), (2, vi l2), (4, vi ((x.1 100 13) + 1)), (5, vi r2), (6, vi l3), (7, vi (-1)), (8, vi (-1))] [] x1 P X) ∧ (r2 = (4 : Int32) → KE G q (d + 7) zk_X7_source 41 [(0, vr 100), (1, vi l1), (2, vi l2), (4, vi ((x.1 100 13) + 1)), (5, vi r2), (6, vi l3), (7, vi (-1)), (8, vi (-1))] [] x1 P X))))))))) :
    KE G q (d + 7) zk_X7_source 0 [(0, vr 100), (1, vi l1), (2, vi l2), (3, vi l3)] [] x P X := by
  refine T_aload_n 0 (dk dtk_X7_source 0 rfl) rfl rfl ?_
  refine T_getI 100 13 (dk dtk_X7_source 1 rfl) kfl_X7_184 kk_100 (kl_100 hq) (by decide) rfl ?_
  refine T_iconst (v := 1) (dk dtk_X7_source 2 rfl) (by decide +kernel) ?_
  refine T_iadd (dk dtk_X7_source 3 rfl) ?_
  refine T_istore (lv2 := [(4, vi ((x.1 100 13) + 1)), (0, vr 100), (1, vi l1), (2, vi l2), (3, vi l3)]) (dk dtk_X7_source 4 rfl) (by decide) rfl ?_
  refine T_aload_n 1 (dk dtk_X7_source 5 rfl) rfl rfl ?_
  refine KC_Vi [] [] rfl (dk dtk_X7_source 6 rfl) kcv_X7_279 rfl kk_100 rfl (kl_100 hq) (Nat.le_of_ble_eq_true rfl) (Nat.le_of_ble_eq_true rfl) (gok_i (av_c rfl (av_c (gkr (kl_100 hq)) (av_c rfl (av_c rfl (av_c rfl av_n))))) as_n) rfl h (fun r2 x1 h => ?_)
  refine T_istore (lv2 := [(5, vi r2), (4, vi ((x.1 100 13) + 1)), (0, vr 100), (1, vi l1), (2, vi l2), (3, vi l3)]) (dk dtk_X7_source 7 rfl) (by decide) rfl ?_
  refine T_iload_n 5 (dk dtk_X7_source 8 rfl) rfl rfl ?_
  refine T_istore (lv2 := [(6, vi l3), (5, vi r2), (4, vi ((x.1 100 13) + 1)), (0, vr 100), (1, vi l1), (2, vi l2), (3, vi l3)]) (dk dtk_X7_source 9 rfl) (by decide) rfl ?_
  refine T_iconst (v := (-1)) (dk dtk_X7_source 10 rfl) (by decide +kernel) ?_
  refine T_istore (lv2 := [(7, vi (-1)), (6, vi l3), (5, vi r2), (4, vi ((x.1 100 13) + 1)), (0, vr 100), (1, vi l1), (2, vi l2), (3, vi l3)]) (dk dtk_X7_source 11 rfl) (by decide) rfl ?_
  refine T_iconst (v := (-1)) (dk dtk_X7_source 12 rfl) (by decide +kernel) ?_
  refine T_istore (lv2 := [(8, vi (-1)), (7, vi (-1)), (6, vi l3), (5, vi r2), (4, vi ((x.1 100 13) + 1)), (0, vr 100), (1, vi l1), (2, vi l2), (3, vi l3)]) (dk dtk_X7_source 13 rfl) (by decide) rfl ?_
  refine T_iload 3 (dk dtk_X7_source 14 rfl) rfl ?_
  refine T_iconst (v := 2) (dk dtk_X7_source 15 rfl) (by decide +kernel) ?_
  refine T_icmp_eq 41 (dk dtk_X7_source 16 rfl) (by decide) (fun c3 => ?_) (fun c3 => ?_)
  · have h := h.1 c3
    exact T_sub [5, 6, 7, 4, 3, 2, 1, 0] rfl h
  · have h := h.2 c3
    refine T_iload 3 (dk dtk_X7_source 17 rfl) rfl ?_
    refine T_iconst (v := 3) (dk dtk_X7_source 18 rfl) (by decide +kernel) ?_
    refine T_icmp_eq 41 (dk dtk_X7_source 19 rfl) (by decide) (fun c4 => ?_) (fun c4 => ?_)
    · have h := h.1 c4
      exact T_sub [5, 6, 7, 4, 3, 2, 1, 0] rfl h
    · have h := h.2 c4
      refine T_iload 3 (dk dtk_X7_source 20 rfl) rfl ?_
      refine T_iconst (v := 4) (dk dtk_X7_source 21 rfl) (by decide +kernel) ?_
      refine T_icmp_ne 68 (dk dtk_X7_source 22 rfl) (by decide) (fun c5 => ?_) (fun c5 => ?_)
      · have h := h.1 c5
        exact T_sub [5, 6, 7, 4, 3, 2, 1, 0] rfl h
      · have h := h.2 c5
        exact T_sub [5, 6, 7, 4, 3, 2, 1, 0] rfl h
set_option maxRecDepth 100000 in
set_option maxHeartbeats 4000000 in
theorem kg_X7_source_41 {G : kG} {q : kP} {d : Nat} {x : gd} {P : Option gv → gd → Prop} {X : String → gd → Prop} (hq : kV q) (l1 : Int32) (l2 : Int32) (l4 : Int32) (l5 : Int32) (l6 : Int32) (l7 : Int32) (l8 : Int32)
    (h : ((¬ (l2 = (-1 : Int32)) → KE G q (d + 7) zk_X7_source 63 [(0, vr 100), (1, vi l1), (2, vi l2), (4, vi l4), (5, vi l5), (6, vi l6), (7, vi l7), (8, vi l8)] [vi 0, vi (x.1 100 4), vr 42] x P X) ∧ (l2 = (-1 : Int32) → KE G q (d + 7) zk_X7_source 63 [(0, vr 100), (1, vi l1), (2, vi l2), (4, vi l4), (5, vi l5), (6, vi l6), (7, vi l7), (8, vi l8)] [vi 10, vi (x.1 100 4), vr 42] x P X))) :
    KE G q (d + 7) zk_X7_source 41 [(0, vr 100), (1, vi l1), (2, vi l2), (4, vi l4), (5, vi l5), (6, vi l6), (7, vi l7), (8, vi l8)] [] x P X := by
  refine T_aload_n 0 (dk dtk_X7_source 23 rfl) rfl rfl ?_
  refine T_getR 100 1 40 (dk dtk_X7_source 24 rfl) kfl_X7_15 kk_100 (kl_100 hq) (by decide) rfl kr_100_1 ?_
  refine T_getR 40 1 42 (dk dtk_X7_source 25 rfl) kfl_X7_109 kk_40 (kl_40 hq) (by decide) rfl kr_40_1 ?_
  refine T_aload_n 0 (dk dtk_X7_source 26 rfl) rfl rfl ?_
  refine T_getI 100 4 (dk dtk_X7_source 27 rfl) kfl_X7_52 kk_100 (kl_100 hq) (by decide) rfl ?_
  refine T_iload_n 2 (dk dtk_X7_source 28 rfl) rfl rfl ?_
  refine T_iconst (v := (-1)) (dk dtk_X7_source 29 rfl) (by decide +kernel) ?_
  refine T_icmp_ne 62 (dk dtk_X7_source 30 rfl) (by decide) (fun c1 => ?_) (fun c1 => ?_)
  · have h := h.1 c1
    refine T_iconst (v := 0) (dk dtk_X7_source 33 rfl) (by decide +kernel) ?_
    exact h
  · have h := h.2 c1
    refine T_bipush (v := 10) (dk dtk_X7_source 31 rfl) (by decide +kernel) ?_
    refine T_goto 63 (dk dtk_X7_source 32 rfl) (by decide) ?_
    exact h
set_option maxRecDepth 100000 in
set_option maxHeartbeats 4000000 in
theorem kg_X7_source_63 {G : kG} {q : kP} {d : Nat} {x : gd} {P : Option gv → gd → Prop} {X : String → gd → Prop} (hq : kV q) (l1 : Int32) (l2 : Int32) (l4 : Int32) (l5 : Int32) (l6 : Int32) (l7 : Int32) (l8 : Int32) (s0 : Int32) (s1 : Int32)
    (h : vp_in s1 702 ∧ (∀ x2 : gd, x2 = si x 42 (s1 : Int32).toNatClampNeg s0 → KE G q (d + 6) zk_X7_pass 0 [(0, vr 100)] [] x2 (rv (fun x3 => KE G q (d + 7) zk_X7_source 68 [(0, vr 100), (1, vi l1), (2, vi l2), (4, vi l4), (5, vi l5), (6, vi l6), (7, vi l7), (8, vi l8)] [] x3 P X)) X)) :
    KE G q (d + 7) zk_X7_source 63 [(0, vr 100), (1, vi l1), (2, vi l2), (4, vi l4), (5, vi l5), (6, vi l6), (7, vi l7), (8, vi l8)] [vi s0, vi s1, vr 42] x P X := by
  obtain ⟨h1, h⟩ := h
  obtain ⟨x2, ex2⟩ : ∃ z, z = si x 42 (s1 : Int32).toNatClampNeg s0 := ⟨_, rfl⟩
  have h := h x2 ex2
  refine T_iast 42 702 (dk dtk_X7_source 34 rfl) kk_42 (kl_42 hq) h1 ?_
  rw [← ex2]
  refine T_aload_n 0 (dk dtk_X7_source 35 rfl) rfl rfl ?_
  refine KD_Vv [] [] rfl (dk dtk_X7_source 36 rfl) kcv_X7_112 rfl kk_100 rfl (kl_100 hq) (Nat.le_of_ble_eq_true rfl) (Nat.le_of_ble_eq_true rfl) (gok_i (av_c (gkr (kl_100 hq)) (av_c rfl (av_c rfl (av_c rfl (av_c rfl (av_c rfl (av_c rfl (av_c rfl av_n)))))))) as_n) rfl h (fun x3 h => ?_)
  exact h
set_option maxRecDepth 100000 in
set_option maxHeartbeats 4000000 in
theorem kg_X7_source_68 {G : kG} {q : kP} {d : Nat} {x : gd} {P : Option gv → gd → Prop} {X : String → gd → Prop} (hq : kV q) (l1 : Int32) (l2 : Int32) (l4 : Int32) (l5 : Int32) (l6 : Int32) (l7 : Int32) (l8 : Int32)
    (h : ((l5 = (16 : Int32) → KE G q (d + 7) zk_X7_source 174 [(0, vr 100), (1, vi l1), (2, vi l2), (4, vi l4), (5, vi l5), (6, vi l6), (7, vi l7), (8, vi l8)] [] x P X) ∧ (¬ (l5 = (16 : Int32)) → KT G q (d + 6) zk_X7_sortBehind 0 [(0, vr 100)] [] x (ri (fun r3 x2 => ((¬ (r3 = (25 : Int32)) → KE G q (d + 7) zk_X7_source 89 [(0, vr 100), (1, vi l1), (2, vi l2), (4, vi l4), (5, vi l5), (7, vi l7), (8, vi l8)] [vi 0] x2 P X) ∧ (r3 = (25 : Int32) → KE G q (d + 7) zk_X7_source 89 [(0, vr 100), (1, vi l1), (2, vi l2), (4, vi l4), (5, vi l5), (7, vi l7), (8, vi l8)] [vi 1] x2 P X))))))) :
    KE G q (d + 7) zk_X7_source 68 [(0, vr 100), (1, vi l1), (2, vi l2), (4, vi l4), (5, vi l5), (6, vi l6), (7, vi l7), (8, vi l8)] [] x P X := by
  refine T_iload 4 (dk dtk_X7_source 37 rfl) rfl ?_
  refine T_bipush (v := 16) (dk dtk_X7_source 38 rfl) (by decide +kernel) ?_
  refine T_icmp_eq 174 (dk dtk_X7_source 39 rfl) (by decide) (fun c1 => ?_) (fun c1 => ?_)
  · have h := h.1 c1
    exact h
  · have h := h.2 c1
    refine T_aload_n 0 (dk dtk_X7_source 40 rfl) rfl rfl ?_
    refine T_sub (lv2 := [(0, vr 100), (1, vi l1), (2, vi l2), (4, vi l4), (5, vi l5), (7, vi l7), (8, vi l8)]) [0, 1, 2, 3, 4, 6, 7] rfl ?_
    refine KC_Vi [] [] rfl (dk dtk_X7_source 41 rfl) kcv_X7_144 rfl kk_100 rfl (kl_100 hq) (Nat.le_of_ble_eq_true rfl) (Nat.le_of_ble_eq_true rfl) (gok_i (av_c (gkr (kl_100 hq)) (av_c rfl (av_c rfl (av_c rfl (av_c rfl (av_c rfl (av_c rfl av_n))))))) as_n) rfl h (fun r3 x2 h => ?_)
    refine T_bipush (v := 25) (dk dtk_X7_source 42 rfl) (by decide +kernel) ?_
    refine T_icmp_ne 88 (dk dtk_X7_source 43 rfl) (by decide) (fun c4 => ?_) (fun c4 => ?_)
    · have h := h.1 c4
      refine T_iconst (v := 0) (dk dtk_X7_source 46 rfl) (by decide +kernel) ?_
      exact h
    · have h := h.2 c4
      refine T_iconst (v := 1) (dk dtk_X7_source 44 rfl) (by decide +kernel) ?_
      refine T_goto 89 (dk dtk_X7_source 45 rfl) (by decide) ?_
      exact h
set_option maxRecDepth 100000 in
set_option maxHeartbeats 4000000 in
theorem kg_X7_source_89 {G : kG} {q : kP} {d : Nat} {x : gd} {P : Option gv → gd → Prop} {X : String → gd → Prop} (hq : kV q) (l1 : Int32) (l2 : Int32) (l4 : Int32) (l5 : Int32) (l7 : Int32) (l8 : Int32) (s0 : Int32)
    (h : ((¬ (l5 = (0 : Int32)) → KE G q (d + 7) zk_X7_source 113 [(0, vr 100), (1, vi l1), (2, vi l2), (4, vi l4), (5, vi l5), (7, vi l7), (8, vi l8), (9, vi s0)] [] x P X) ∧ (l5 = (0 : Int32) → ((¬ (s0 = (0 : Int32)) → KE G q (d + 7) zk_X7_source 113 [(0, vr 100), (1, vi l1), (2, vi l2), (4, vi l4), (5, vi l5), (7, vi l7), (8, vi l8), (9, vi s0)] [] x P X) ∧ (s0 = (0 : Int32) → ((l4 ≤ (16 : Int32) → KE G q (d + 7) zk_X7_source 113 [(0, vr 100), (1, vi l1), (2, vi l2), (4, vi l4), (5, vi l5), (7, vi l7), (8, vi l8), (9, vi s0)] [] x P X) ∧ (¬ (l4 ≤ (16 : Int32)) → KE G q (d + 6) zk_X7_refuse 0 [(0, vr 100), (1, vi 3)] [] x (rv (fun x4 => KE G q (d + 7) zk_X7_source 113 [(0, vr 100), (1, vi l1), (2, vi l2), (4, vi l4), (5, vi l5), (7, vi l7), (8, vi l8), (9, vi s0)] [] x4 P X)) X))))))) :
    KE G q (d + 7) zk_X7_source 89 [(0, vr 100), (1, vi l1), (2, vi l2), (4, vi l4), (5, vi l5), (7, vi l7), (8, vi l8)] [vi s0] x P X := by
  refine T_istore (lv2 := [(9, vi s0), (0, vr 100), (1, vi l1), (2, vi l2), (4, vi l4), (5, vi l5), (7, vi l7), (8, vi l8)]) (dk dtk_X7_source 47 rfl) (by decide) rfl ?_
  refine T_iload 5 (dk dtk_X7_source 48 rfl) rfl ?_
  refine T_if_ne 113 (dk dtk_X7_source 49 rfl) (by decide) (fun c1 => ?_) (fun c1 => ?_)
  · have h := h.1 c1
    exact T_sub [1, 2, 3, 4, 5, 6, 7, 0] rfl h
  · have h := h.2 c1
    refine T_iload 0 (dk dtk_X7_source 50 rfl) rfl ?_
    refine T_if_ne 113 (dk dtk_X7_source 51 rfl) (by decide) (fun c2 => ?_) (fun c2 => ?_)
    · have h := h.1 c2
      exact T_sub [1, 2, 3, 4, 5, 6, 7, 0] rfl h
    · have h := h.2 c2
      refine T_iload 4 (dk dtk_X7_source 52 rfl) rfl ?_
      refine T_bipush (v := 16) (dk dtk_X7_source 53 rfl) (by decide +kernel) ?_
      refine T_icmp_le 113 (dk dtk_X7_source 54 rfl) (by decide) (fun c3 => ?_) (fun c3 => ?_)
      · have h := h.1 c3
        exact T_sub [1, 2, 3, 4, 5, 6, 7, 0] rfl h
      · have h := h.2 c3
        refine T_aload_n 1 (dk dtk_X7_source 55 rfl) rfl rfl ?_
        refine T_iconst (v := 3) (dk dtk_X7_source 56 rfl) (by decide +kernel) ?_
        refine KD_Vv [vi 3] [] rfl (dk dtk_X7_source 57 rfl) kcv_X7_96 rfl kk_100 rfl (kl_100 hq) (Nat.le_of_ble_eq_true rfl) (Nat.le_of_ble_eq_true rfl) (gok_i (av_c rfl (av_c (gkr (kl_100 hq)) (av_c rfl (av_c rfl (av_c rfl (av_c rfl (av_c rfl (av_c rfl av_n)))))))) as_n) rfl h (fun x4 h => ?_)
        exact T_sub [1, 2, 3, 4, 5, 6, 7, 0] rfl h
set_option maxRecDepth 100000 in
set_option maxHeartbeats 4000000 in
theorem kg_X7_source_113 {G : kG} {q : kP} {d : Nat} {x : gd} {P : Option gv → gd → Prop} {X : String → gd → Prop} (hq : kV q) (l1 : Int32) (l2 : Int32) (l4 : Int32) (l5 : Int32) (l7 : Int32) (l8 : Int32) (l9 : Int32)
    (h : ((¬ (l5 = (0 : Int32)) → KE G q (d + 7) zk_X7_source 132 [(0, vr 100), (1, vi l1), (2, vi l2), (4, vi l4), (5, vi l5), (7, vi l7), (8, vi l8), (9, vi l9)] [vi 0, vi l9, vi 2, vr 100] x P X) ∧ (l5 = (0 : Int32) → ((¬ (l2 = (-1 : Int32)) → KE G q (d + 7) zk_X7_source 132 [(0, vr 100), (1, vi l1), (2, vi l2), (4, vi l4), (5, vi l5), (7, vi l7), (8, vi l8), (9, vi l9)] [vi 0, vi l9, vi 2, vr 100] x P X) ∧ (l2 = (-1 : Int32) → KE G q (d + 7) zk_X7_source 132 [(0, vr 100), (1, vi l1), (2, vi l2), (4, vi l4), (5, vi l5), (7, vi l7), (8, vi l8), (9, vi l9)] [vi 1, vi l9, vi 2, vr 100] x P X))))) :
    KE G q (d + 7) zk_X7_source 113 [(0, vr 100), (1, vi l1), (2, vi l2), (4, vi l4), (5, vi l5), (7, vi l7), (8, vi l8), (9, vi l9)] [] x P X := by
  refine T_aload_n 0 (dk dtk_X7_source 58 rfl) rfl rfl ?_
  refine T_iconst (v := 2) (dk dtk_X7_source 59 rfl) (by decide +kernel) ?_
  refine T_iload 7 (dk dtk_X7_source 60 rfl) rfl ?_
  refine T_iload 4 (dk dtk_X7_source 61 rfl) rfl ?_
  refine T_if_ne 131 (dk dtk_X7_source 62 rfl) (by decide) (fun c1 => ?_) (fun c1 => ?_)
  · have h := h.1 c1
    refine T_iconst (v := 0) (dk dtk_X7_source 68 rfl) (by decide +kernel) ?_
    exact h
  · have h := h.2 c1
    refine T_iload_n 2 (dk dtk_X7_source 63 rfl) rfl rfl ?_
    refine T_iconst (v := (-1)) (dk dtk_X7_source 64 rfl) (by decide +kernel) ?_
    refine T_icmp_ne 131 (dk dtk_X7_source 65 rfl) (by decide) (fun c2 => ?_) (fun c2 => ?_)
    · have h := h.1 c2
      refine T_iconst (v := 0) (dk dtk_X7_source 68 rfl) (by decide +kernel) ?_
      exact h
    · have h := h.2 c2
      refine T_iconst (v := 1) (dk dtk_X7_source 66 rfl) (by decide +kernel) ?_
      refine T_goto 132 (dk dtk_X7_source 67 rfl) (by decide) ?_
      exact h
set_option maxRecDepth 100000 in
set_option maxHeartbeats 4000000 in
theorem kg_X7_source_132 {G : kG} {q : kP} {d : Nat} {x : gd} {P : Option gv → gd → Prop} {X : String → gd → Prop} (hq : kV q) (l1 : Int32) (l2 : Int32) (l4 : Int32) (l5 : Int32) (l7 : Int32) (l8 : Int32) (l9 : Int32) (s0 : Int32) (s1 : Int32) (s2 : Int32)
    (h : KT G q (d + 6) zk_X7_useOfCell 0 [(0, vi s1), (1, vi s0)] [] x (ri (fun r2 x1 => KE G q (d + 6) zk_X7_needFor 0 [(0, vr 100), (1, vi s2), (2, vi r2)] [] x1 (ri (fun r4 x3 => ((l9 = (0 : Int32) → KE G q (d + 7) zk_X7_source 163 [(0, vr 100), (1, vi l1), (2, vi l2), (4, vi l4), (5, vi l5), (6, vi r4), (7, vi l7), (8, vi l8)] [] x3 P X) ∧ (¬ (l9 = (0 : Int32)) → KE G q (d + 6) zk_X7_pass 0 [(0, vr 100)] [] x3 (rv (fun x6 => KE G q (d + 6) zk_X7_sum 0 [(0, vr 100), (1, vi l4)] [] x6 (ri (fun r8 x7 => KE G q (d + 6) zk_X7_need 0 [(0, vr 100), (1, vi 26)] [] x7 (rv (fun x9 => KE G q (d + 7) zk_X7_source 163 [(0, vr 100), (1, vi l1), (2, vi l2), (4, vi l4), (5, vi l5), (6, vi r4), (7, vi r8), (8, vi l8)] [] x9 P X)) X)) X)) X)))) X))) :
    KE G q (d + 7) zk_X7_source 132 [(0, vr 100), (1, vi l1), (2, vi l2), (4, vi l4), (5, vi l5), (7, vi l7), (8, vi l8), (9, vi l9)] [vi s0, vi s1, vi s2, vr 100] x P X := by
  refine KC_Si [vi s1, vi s0] [vi s2, vr 100] rfl (dk dtk_X7_source 69 rfl) kcs_X7_282 rfl (Nat.le_of_ble_eq_true rfl) (Nat.le_of_ble_eq_true rfl) (gok_i (av_c (gkr (kl_100 hq)) (av_c rfl (av_c rfl (av_c rfl (av_c rfl (av_c rfl (av_c rfl (av_c rfl av_n)))))))) (as_c rfl (as_c (gkr (kl_100 hq)) as_n))) rfl h (fun r2 x1 h => ?_)
  refine KD_Vi [vi s2, vi r2] [] rfl (dk dtk_X7_source 70 rfl) kcv_X7_130 rfl kk_100 rfl (kl_100 hq) (Nat.le_of_ble_eq_true rfl) (Nat.le_of_ble_eq_true rfl) (gok_i (av_c (gkr (kl_100 hq)) (av_c rfl (av_c rfl (av_c rfl (av_c rfl (av_c rfl (av_c rfl (av_c rfl av_n)))))))) as_n) rfl h (fun r4 x3 h => ?_)
  refine T_istore (lv2 := [(6, vi r4), (0, vr 100), (1, vi l1), (2, vi l2), (4, vi l4), (5, vi l5), (7, vi l7), (8, vi l8), (9, vi l9)]) (dk dtk_X7_source 71 rfl) (by decide) rfl ?_
  refine T_iload 8 (dk dtk_X7_source 72 rfl) rfl ?_
  refine T_if_eq 163 (dk dtk_X7_source 73 rfl) (by decide) (fun c5 => ?_) (fun c5 => ?_)
  · have h := h.1 c5
    exact T_sub [1, 2, 3, 4, 5, 0, 6, 7] rfl h
  · have h := h.2 c5
    refine T_aload_n 1 (dk dtk_X7_source 74 rfl) rfl rfl ?_
    refine T_sub (lv2 := [(6, vi r4), (0, vr 100), (1, vi l1), (2, vi l2), (4, vi l4), (5, vi l5), (8, vi l8)]) [0, 1, 2, 3, 4, 5, 7] rfl ?_
    refine KD_Vv [] [] rfl (dk dtk_X7_source 75 rfl) kcv_X7_112 rfl kk_100 rfl (kl_100 hq) (Nat.le_of_ble_eq_true rfl) (Nat.le_of_ble_eq_true rfl) (gok_i (av_c rfl (av_c (gkr (kl_100 hq)) (av_c rfl (av_c rfl (av_c rfl (av_c rfl (av_c rfl av_n))))))) as_n) rfl h (fun x6 h => ?_)
    refine T_aload_n 1 (dk dtk_X7_source 76 rfl) rfl rfl ?_
    refine T_iload 4 (dk dtk_X7_source 77 rfl) rfl ?_
    refine KD_Vi [vi l4] [] rfl (dk dtk_X7_source 78 rfl) kcv_X7_201 rfl kk_100 rfl (kl_100 hq) (Nat.le_of_ble_eq_true rfl) (Nat.le_of_ble_eq_true rfl) (gok_i (av_c rfl (av_c (gkr (kl_100 hq)) (av_c rfl (av_c rfl (av_c rfl (av_c rfl (av_c rfl av_n))))))) as_n) rfl h (fun r8 x7 h => ?_)
    refine T_istore (lv2 := [(7, vi r8), (6, vi r4), (0, vr 100), (1, vi l1), (2, vi l2), (4, vi l4), (5, vi l5), (8, vi l8)]) (dk dtk_X7_source 79 rfl) (by decide) rfl ?_
    refine T_aload_n 2 (dk dtk_X7_source 80 rfl) rfl rfl ?_
    refine T_bipush (v := 26) (dk dtk_X7_source 81 rfl) (by decide +kernel) ?_
    refine KD_Vv [vi 26] [] rfl (dk dtk_X7_source 82 rfl) kcv_X7_115 rfl kk_100 rfl (kl_100 hq) (Nat.le_of_ble_eq_true rfl) (Nat.le_of_ble_eq_true rfl) (gok_i (av_c rfl (av_c rfl (av_c (gkr (kl_100 hq)) (av_c rfl (av_c rfl (av_c rfl (av_c rfl (av_c rfl av_n)))))))) as_n) rfl h (fun x9 h => ?_)
    exact T_sub [2, 3, 4, 5, 6, 1, 0, 7] rfl h
set_option maxRecDepth 100000 in
set_option maxHeartbeats 4000000 in
theorem kg_X7_source_163 {G : kG} {q : kP} {d : Nat} {x : gd} {P : Option gv → gd → Prop} {X : String → gd → Prop} (hq : kV q) (l1 : Int32) (l2 : Int32) (l4 : Int32) (l5 : Int32) (l6 : Int32) (l7 : Int32) (l8 : Int32)
    (h : ((l5 = (0 : Int32) → KE G q (d + 7) zk_X7_source 174 [(0, vr 100), (1, vi l1), (2, vi l2), (4, vi l4), (5, vi l5), (6, vi l6), (7, vi l7), (8, vi l8)] [] x P X) ∧ (¬ (l5 = (0 : Int32)) → KE G q (d + 6) zk_X7_need 0 [(0, vr 100), (1, vi 28)] [] x (rv (fun x2 => KE G q (d + 7) zk_X7_source 174 [(0, vr 100), (1, vi l1), (2, vi l2), (4, vi l4), (5, vi l5), (6, vi l6), (7, vi l7), (8, vi l8)] [] x2 P X)) X))) :
    KE G q (d + 7) zk_X7_source 163 [(0, vr 100), (1, vi l1), (2, vi l2), (4, vi l4), (5, vi l5), (6, vi l6), (7, vi l7), (8, vi l8)] [] x P X := by
  refine T_iload 4 (dk dtk_X7_source 83 rfl) rfl ?_
  refine T_if_eq 174 (dk dtk_X7_source 84 rfl) (by decide) (fun c1 => ?_) (fun c1 => ?_)
  · have h := h.1 c1
    exact h
  · have h := h.2 c1
    refine T_aload_n 0 (dk dtk_X7_source 85 rfl) rfl rfl ?_
    refine T_bipush (v := 28) (dk dtk_X7_source 86 rfl) (by decide +kernel) ?_
    refine KD_Vv [vi 28] [] rfl (dk dtk_X7_source 87 rfl) kcv_X7_115 rfl kk_100 rfl (kl_100 hq) (Nat.le_of_ble_eq_true rfl) (Nat.le_of_ble_eq_true rfl) (gok_i (av_c (gkr (kl_100 hq)) (av_c rfl (av_c rfl (av_c rfl (av_c rfl (av_c rfl (av_c rfl (av_c rfl av_n)))))))) as_n) rfl h (fun x2 h => ?_)
    exact h
set_option maxRecDepth 100000 in
set_option maxHeartbeats 4000000 in
theorem kg_X7_source_174 {G : kG} {q : kP} {d : Nat} {x : gd} {P : Option gv → gd → Prop} {X : String → gd → Prop} (hq : kV q) (l1 : Int32) (l2 : Int32) (l4 : Int32) (l5 : Int32) (l6 : Int32) (l7 : Int32) (l8 : Int32)
    (h : ((¬ (l5 = (0 : Int32)) → KE G q (d + 6) zk_X7_sum 0 [(0, vr 100), (1, vi l4)] [] x (ri (fun r3 x2 => KE G q (d + 7) zk_X7_source 189 [(0, vr 100), (1, vi l1), (2, vi l2), (4, vi l4), (5, vi l5), (6, vi l6), (7, vi l7), (8, vi l8)] [vi r3] x2 P X)) X) ∧ (l5 = (0 : Int32) → KE G q (d + 7) zk_X7_source 189 [(0, vr 100), (1, vi l1), (2, vi l2), (4, vi l4), (5, vi l5), (6, vi l6), (7, vi l7), (8, vi l8)] [vi (-1)] x P X))) :
    KE G q (d + 7) zk_X7_source 174 [(0, vr 100), (1, vi l1), (2, vi l2), (4, vi l4), (5, vi l5), (6, vi l6), (7, vi l7), (8, vi l8)] [] x P X := by
  refine T_iload 4 (dk dtk_X7_source 88 rfl) rfl ?_
  refine T_if_ne 183 (dk dtk_X7_source 89 rfl) (by decide) (fun c1 => ?_) (fun c1 => ?_)
  · have h := h.1 c1
    refine T_aload_n 0 (dk dtk_X7_source 92 rfl) rfl rfl ?_
    refine T_iload 3 (dk dtk_X7_source 93 rfl) rfl ?_
    refine KD_Vi [vi l4] [] rfl (dk dtk_X7_source 94 rfl) kcv_X7_201 rfl kk_100 rfl (kl_100 hq) (Nat.le_of_ble_eq_true rfl) (Nat.le_of_ble_eq_true rfl) (gok_i (av_c (gkr (kl_100 hq)) (av_c rfl (av_c rfl (av_c rfl (av_c rfl (av_c rfl (av_c rfl (av_c rfl av_n)))))))) as_n) rfl h (fun r3 x2 h => ?_)
    exact h
  · have h := h.2 c1
    refine T_iconst (v := (-1)) (dk dtk_X7_source 90 rfl) (by decide +kernel) ?_
    refine T_goto 189 (dk dtk_X7_source 91 rfl) (by decide) ?_
    exact h
set_option maxRecDepth 100000 in
set_option maxHeartbeats 4000000 in
theorem kg_X7_source_189 {G : kG} {q : kP} {d : Nat} {x : gd} {P : Option gv → gd → Prop} {X : String → gd → Prop} (hq : kV q) (l1 : Int32) (l2 : Int32) (l4 : Int32) (l5 : Int32) (l6 : Int32) (l7 : Int32) (l8 : Int32) (s0 : Int32)
    (h : ((¬ (l5 = (4 : Int32)) → KE G q (d + 7) zk_X7_source 211 [(0, vr 100), (1, vi l1), (2, vi l2), (5, vi l5), (6, vi l6), (7, vi l7), (8, vi l8), (9, vi s0)] [] x P X) ∧ (l5 = (4 : Int32) → KE G q (d + 6) zk_X7_need 0 [(0, vr 100), (1, vi 28)] [] x (rv (fun x2 => KE G q (d + 6) zk_X7_sum 0 [(0, vr 100), (1, vi l4)] [] x2 (ri (fun r4 x3 => KE G q (d + 7) zk_X7_source 211 [(0, vr 100), (1, vi l1), (2, vi l2), (5, vi l5), (6, vi l6), (7, vi l7), (8, vi r4), (9, vi s0)] [] x3 P X)) X)) X))) :
    KE G q (d + 7) zk_X7_source 189 [(0, vr 100), (1, vi l1), (2, vi l2), (4, vi l4), (5, vi l5), (6, vi l6), (7, vi l7), (8, vi l8)] [vi s0] x P X := by
  refine T_istore (lv2 := [(9, vi s0), (0, vr 100), (1, vi l1), (2, vi l2), (4, vi l4), (5, vi l5), (6, vi l6), (7, vi l7), (8, vi l8)]) (dk dtk_X7_source 95 rfl) (by decide) rfl ?_
  refine T_iload 5 (dk dtk_X7_source 96 rfl) rfl ?_
  refine T_iconst (v := 4) (dk dtk_X7_source 97 rfl) (by decide +kernel) ?_
  refine T_icmp_ne 211 (dk dtk_X7_source 98 rfl) (by decide) (fun c1 => ?_) (fun c1 => ?_)
  · have h := h.1 c1
    exact T_sub [1, 2, 3, 5, 6, 7, 8, 0] rfl h
  · have h := h.2 c1
    refine T_aload_n 1 (dk dtk_X7_source 99 rfl) rfl rfl ?_
    refine T_bipush (v := 28) (dk dtk_X7_source 100 rfl) (by decide +kernel) ?_
    refine T_sub (lv2 := [(9, vi s0), (0, vr 100), (1, vi l1), (2, vi l2), (4, vi l4), (5, vi l5), (6, vi l6), (7, vi l7)]) [0, 1, 2, 3, 4, 5, 6, 7] rfl ?_
    refine KD_Vv [vi 28] [] rfl (dk dtk_X7_source 101 rfl) kcv_X7_115 rfl kk_100 rfl (kl_100 hq) (Nat.le_of_ble_eq_true rfl) (Nat.le_of_ble_eq_true rfl) (gok_i (av_c rfl (av_c (gkr (kl_100 hq)) (av_c rfl (av_c rfl (av_c rfl (av_c rfl (av_c rfl (av_c rfl av_n)))))))) as_n) rfl h (fun x2 h => ?_)
    refine T_aload_n 1 (dk dtk_X7_source 102 rfl) rfl rfl ?_
    refine T_iload 4 (dk dtk_X7_source 103 rfl) rfl ?_
    refine T_sub (lv2 := [(9, vi s0), (0, vr 100), (1, vi l1), (2, vi l2), (5, vi l5), (6, vi l6), (7, vi l7)]) [0, 1, 2, 3, 5, 6, 7] rfl ?_
    refine KD_Vi [vi l4] [] rfl (dk dtk_X7_source 104 rfl) kcv_X7_201 rfl kk_100 rfl (kl_100 hq) (Nat.le_of_ble_eq_true rfl) (Nat.le_of_ble_eq_true rfl) (gok_i (av_c rfl (av_c (gkr (kl_100 hq)) (av_c rfl (av_c rfl (av_c rfl (av_c rfl (av_c rfl av_n))))))) as_n) rfl h (fun r4 x3 h => ?_)
    refine T_istore (lv2 := [(8, vi r4), (9, vi s0), (0, vr 100), (1, vi l1), (2, vi l2), (5, vi l5), (6, vi l6), (7, vi l7)]) (dk dtk_X7_source 105 rfl) (by decide) rfl ?_
    exact T_sub [2, 3, 4, 5, 6, 7, 0, 1] rfl h
set_option maxRecDepth 100000 in
set_option maxHeartbeats 4000000 in
theorem kg_X7_source_211 {G : kG} {q : kP} {d : Nat} {x : gd} {P : Option gv → gd → Prop} {X : String → gd → Prop} (hq : kV q) (l1 : Int32) (l2 : Int32) (l5 : Int32) (l6 : Int32) (l7 : Int32) (l8 : Int32) (l9 : Int32)
    (h : ((¬ (l5 = (16 : Int32)) → KE G q (d + 7) zk_X7_source 233 [(0, vr 100), (1, vi l1), (2, vi l2), (6, vi l6), (7, vi l7), (8, vi l8), (9, vi l9)] [vi l5, vr 80] x P X) ∧ (l5 = (16 : Int32) → ((¬ (l2 = (-1 : Int32)) → KE G q (d + 7) zk_X7_source 233 [(0, vr 100), (1, vi l1), (2, vi l2), (6, vi l6), (7, vi l7), (8, vi l8), (9, vi l9)] [vi l5, vr 80] x P X) ∧ (l2 = (-1 : Int32) → KE G q (d + 7) zk_X7_source 233 [(0, vr 100), (1, vi l1), (2, vi l2), (6, vi l6), (7, vi l7), (8, vi l8), (9, vi l9)] [vi 1, vr 80] x P X))))) :
    KE G q (d + 7) zk_X7_source 211 [(0, vr 100), (1, vi l1), (2, vi l2), (5, vi l5), (6, vi l6), (7, vi l7), (8, vi l8), (9, vi l9)] [] x P X := by
  refine T_aload_n 0 (dk dtk_X7_source 106 rfl) rfl rfl ?_
  refine T_getR 100 3 80 (dk dtk_X7_source 107 rfl) kfl_X7_29 kk_100 (kl_100 hq) (by decide) rfl kr_100_3 ?_
  refine T_iload 3 (dk dtk_X7_source 108 rfl) rfl ?_
  refine T_bipush (v := 16) (dk dtk_X7_source 109 rfl) (by decide +kernel) ?_
  refine T_icmp_ne 231 (dk dtk_X7_source 110 rfl) (by decide) (fun c1 => ?_) (fun c1 => ?_)
  · have h := h.1 c1
    refine T_iload 3 (dk dtk_X7_source 116 rfl) rfl ?_
    exact T_sub [0, 1, 2, 4, 5, 6, 7] rfl h
  · have h := h.2 c1
    refine T_iload_n 2 (dk dtk_X7_source 111 rfl) rfl rfl ?_
    refine T_iconst (v := (-1)) (dk dtk_X7_source 112 rfl) (by decide +kernel) ?_
    refine T_icmp_ne 231 (dk dtk_X7_source 113 rfl) (by decide) (fun c2 => ?_) (fun c2 => ?_)
    · have h := h.1 c2
      refine T_iload 3 (dk dtk_X7_source 116 rfl) rfl ?_
      exact T_sub [0, 1, 2, 4, 5, 6, 7] rfl h
    · have h := h.2 c2
      refine T_iconst (v := 1) (dk dtk_X7_source 114 rfl) (by decide +kernel) ?_
      refine T_goto 233 (dk dtk_X7_source 115 rfl) (by decide) ?_
      exact T_sub [0, 1, 2, 4, 5, 6, 7] rfl h
set_option maxRecDepth 100000 in
set_option maxHeartbeats 4000000 in
theorem kg_X7_source_233 {G : kG} {q : kP} {d : Nat} {x : gd} {P : Option gv → gd → Prop} {X : String → gd → Prop} (hq : kV q) (l1 : Int32) (l2 : Int32) (l6 : Int32) (l7 : Int32) (l8 : Int32) (l9 : Int32) (s0 : Int32)
    (h : KT G q (d + 6) zk_X8_add 0 [(0, vr 80), (1, vi s0), (2, vi l1), (3, vi (x.1 100 9))] [] x (ri (fun r2 x1 => vp_in r2 400 ∧ (∀ x4 : gd, x4 = si x1 84 (r2 : Int32).toNatClampNeg l2 → vp_in r2 400 ∧ (∀ x6 : gd, x6 = si x4 85 (r2 : Int32).toNatClampNeg l6 → vp_in r2 400 ∧ (∀ x8 : gd, x8 = si x6 87 (r2 : Int32).toNatClampNeg l7 → vp_in r2 400 ∧ (∀ x10 : gd, x10 = si x8 88 (r2 : Int32).toNatClampNeg l9 → vp_in r2 400 ∧ (∀ x12 : gd, x12 = si x10 89 (r2 : Int32).toNatClampNeg l8 → P none x12)))))))) :
    KE G q (d + 7) zk_X7_source 233 [(0, vr 100), (1, vi l1), (2, vi l2), (6, vi l6), (7, vi l7), (8, vi l8), (9, vi l9)] [vi s0, vr 80] x P X := by
  refine T_iload_n 1 (dk dtk_X7_source 117 rfl) rfl rfl ?_
  refine T_aload_n 0 (dk dtk_X7_source 118 rfl) rfl rfl ?_
  refine T_getI 100 9 (dk dtk_X7_source 119 rfl) kfl_X7_181 kk_100 (kl_100 hq) (by decide) rfl ?_
  refine T_sub (lv2 := [(0, vr 100), (2, vi l2), (6, vi l6), (7, vi l7), (8, vi l8), (9, vi l9)]) [0, 2, 3, 4, 5, 6] rfl ?_
  refine KC_Vi [vi s0, vi l1, vi (x.1 100 9)] [] rfl (dk dtk_X7_source 120 rfl) kcv_X7_191 rfl kk_80 rfl (kl_80 hq) (Nat.le_of_ble_eq_true rfl) (Nat.le_of_ble_eq_true rfl) (gok_i (av_c (gkr (kl_100 hq)) (av_c rfl (av_c rfl (av_c rfl (av_c rfl (av_c rfl av_n)))))) as_n) rfl h (fun r2 x1 h => ?_)
  refine T_istore (lv2 := [(10, vi r2), (0, vr 100), (2, vi l2), (6, vi l6), (7, vi l7), (8, vi l8), (9, vi l9)]) (dk dtk_X7_source 121 rfl) (by decide) rfl ?_
  refine T_aload_n 1 (dk dtk_X7_source 122 rfl) rfl rfl ?_
  refine T_getR 100 3 80 (dk dtk_X7_source 123 rfl) kfl_X7_29 kk_100 (kl_100 hq) (by decide) rfl kr_100_3 ?_
  refine T_getR 80 3 84 (dk dtk_X7_source 124 rfl) kfl_X7_214 kk_80 (kl_80 hq) (by decide) rfl kr_80_3 ?_
  refine T_iload 0 (dk dtk_X7_source 125 rfl) rfl ?_
  refine T_iload_n 2 (dk dtk_X7_source 126 rfl) rfl rfl ?_
  obtain ⟨h3, h⟩ := h
  obtain ⟨x4, ex4⟩ : ∃ z, z = si x1 84 (r2 : Int32).toNatClampNeg l2 := ⟨_, rfl⟩
  have h := h x4 ex4
  refine T_iast 84 400 (dk dtk_X7_source 127 rfl) kk_84 (kl_84 hq) h3 ?_
  rw [← ex4]
  refine T_aload_n 1 (dk dtk_X7_source 128 rfl) rfl rfl ?_
  refine T_getR 100 3 80 (dk dtk_X7_source 129 rfl) kfl_X7_29 kk_100 (kl_100 hq) (by decide) rfl kr_100_3 ?_
  refine T_getR 80 4 85 (dk dtk_X7_source 130 rfl) kfl_X7_220 kk_80 (kl_80 hq) (by decide) rfl kr_80_4 ?_
  refine T_iload 0 (dk dtk_X7_source 131 rfl) rfl ?_
  refine T_iload 3 (dk dtk_X7_source 132 rfl) rfl ?_
  obtain ⟨h5, h⟩ := h
  obtain ⟨x6, ex6⟩ : ∃ z, z = si x4 85 (r2 : Int32).toNatClampNeg l6 := ⟨_, rfl⟩
  have h := h x6 ex6
  refine T_iast 85 400 (dk dtk_X7_source 133 rfl) kk_85 (kl_85 hq) h5 ?_
  rw [← ex6]
  refine T_aload_n 1 (dk dtk_X7_source 134 rfl) rfl rfl ?_
  refine T_getR 100 3 80 (dk dtk_X7_source 135 rfl) kfl_X7_29 kk_100 (kl_100 hq) (by decide) rfl kr_100_3 ?_
  refine T_getR 80 6 87 (dk dtk_X7_source 136 rfl) kfl_X7_276 kk_80 (kl_80 hq) (by decide) rfl kr_80_6 ?_
  refine T_iload 0 (dk dtk_X7_source 137 rfl) rfl ?_
  refine T_iload 4 (dk dtk_X7_source 138 rfl) rfl ?_
  obtain ⟨h7, h⟩ := h
  obtain ⟨x8, ex8⟩ : ∃ z, z = si x6 87 (r2 : Int32).toNatClampNeg l7 := ⟨_, rfl⟩
  have h := h x8 ex8
  refine T_iast 87 400 (dk dtk_X7_source 139 rfl) kk_87 (kl_87 hq) h7 ?_
  rw [← ex8]
  refine T_aload_n 1 (dk dtk_X7_source 140 rfl) rfl rfl ?_
  refine T_getR 100 3 80 (dk dtk_X7_source 141 rfl) kfl_X7_29 kk_100 (kl_100 hq) (by decide) rfl kr_100_3 ?_
  refine T_getR 80 7 88 (dk dtk_X7_source 142 rfl) kfl_X7_233 kk_80 (kl_80 hq) (by decide) rfl kr_80_7 ?_
  refine T_iload 0 (dk dtk_X7_source 143 rfl) rfl ?_
  refine T_iload 6 (dk dtk_X7_source 144 rfl) rfl ?_
  obtain ⟨h9, h⟩ := h
  obtain ⟨x10, ex10⟩ : ∃ z, z = si x8 88 (r2 : Int32).toNatClampNeg l9 := ⟨_, rfl⟩
  have h := h x10 ex10
  refine T_iast 88 400 (dk dtk_X7_source 145 rfl) kk_88 (kl_88 hq) h9 ?_
  rw [← ex10]
  refine T_aload_n 1 (dk dtk_X7_source 146 rfl) rfl rfl ?_
  refine T_getR 100 3 80 (dk dtk_X7_source 147 rfl) kfl_X7_29 kk_100 (kl_100 hq) (by decide) rfl kr_100_3 ?_
  refine T_getR 80 8 89 (dk dtk_X7_source 148 rfl) kfl_X7_286 kk_80 (kl_80 hq) (by decide) rfl kr_80_8 ?_
  refine T_iload 0 (dk dtk_X7_source 149 rfl) rfl ?_
  refine T_iload 5 (dk dtk_X7_source 150 rfl) rfl ?_
  obtain ⟨h11, h⟩ := h
  obtain ⟨x12, ex12⟩ : ∃ z, z = si x10 89 (r2 : Int32).toNatClampNeg l8 := ⟨_, rfl⟩
  have h := h x12 ex12
  refine T_iast 89 400 (dk dtk_X7_source 151 rfl) kk_89 (kl_89 hq) h11 ?_
  rw [← ex12]
  exact KE_vret (dk dtk_X7_source 152 rfl) rfl h
set_option maxRecDepth 100000 in
theorem dtk_X7_sourceOp : dck cX7_sourceOp [(0, .aload_n 0, 1), (1, .invokevirtual 71, 3), (4, .lookupswitch 98 #[(2, 50), (40, 46), (46, 48), (65, 44)], 44), (48, .iconst 2, 1), (49, .ireturn, 1), (50, .iconst 3, 1), (51, .ireturn, 1), (52, .iconst 4, 1), (53, .ireturn, 1), (54, .aload_n 0, 1), (55, .invokevirtual 144, 3), (58, .bipush 27, 2), (60, .if_icmp .ne 20, 3), (63, .aload_n 0, 1), (64, .iconst 0, 1), (65, .aload_n 0, 1), (66, .getfield 52, 3), (69, .invokevirtual 266, 3), (72, .iconst (-1), 1), (73, .if_icmp .ne 7, 3), (76, .iconst 1, 1), (77, .goto 4, 3), (80, .iconst 0, 1), (81, .istore_n 1, 1), (82, .iload_n 1, 1), (83, .ifCond .ne 12, 3), (86, .aload_n 0, 1), (87, .invokevirtual 144, 3), (90, .bipush 25, 2), (92, .if_icmp .ne 7, 3), (95, .iconst 0, 1), (96, .goto 5, 3), (99, .bipush 16, 2), (101, .ireturn, 1), (102, .bipush 16, 2), (104, .ireturn, 1)] = true := by decide +kernel
set_option maxRecDepth 100000 in
set_option maxHeartbeats 4000000 in
theorem kg_X7_sourceOp_0 {G : kG} {q : kP} {d : Nat} {x : gd} {P : Option gv → gd → Prop} (hq : kV q) 
    (h : KT G q d zk_X7_sort 0 [(0, vr 100)] [] x (ri (fun r2 x1 => (((r2 = 65) → P (some (vi 2)) x1) ∧ ((r2 = 40) → P (some (vi 3)) x1) ∧ ((r2 = 46) → P (some (vi 4)) x1) ∧ ((r2 = 2) → KT G q d zk_X7_sortBehind 0 [(0, vr 100)] [] x1 (ri (fun r8 x7 => ((¬ (r8 = (27 : Int32)) → KT G q (d + 1) zk_X7_sourceOp 81 [(0, vr 100)] [vi 0] x7 P) ∧ (r8 = (27 : Int32) → KT G q d zk_X7_knownFrom 0 [(0, vr 100), (1, vi 0), (2, vi (x7.1 100 4))] [] x7 (ri (fun r11 x10 => ((¬ (r11 = (-1 : Int32)) → KT G q (d + 1) zk_X7_sourceOp 81 [(0, vr 100)] [vi 0] x10 P) ∧ (r11 = (-1 : Int32) → KT G q (d + 1) zk_X7_sourceOp 81 [(0, vr 100)] [vi 1] x10 P))))))))) ∧ ((∀ k ∈ [(65 : Int32), (40 : Int32), (46 : Int32), (2 : Int32)], ¬ r2 = k) → P (some (vi 16)) x1))))) :
    KT G q (d + 1) zk_X7_sourceOp 0 [(0, vr 100)] [] x P := by
  refine T_aload_n 0 (dk dtk_X7_sourceOp 0 rfl) rfl rfl ?_
  refine KC_Vi [] [] rfl (dk dtk_X7_sourceOp 1 rfl) kcv_X7_71 rfl kk_100 rfl (kl_100 hq) (Nat.le_of_ble_eq_true rfl) (Nat.le_of_ble_eq_true rfl) (gok_i (av_c (gkr (kl_100 hq)) av_n) as_n) rfl h (fun r2 x1 h => ?_)
  by_cases c3 : r2 = 65
  · have h := h.1 c3
    refine T_lookup 44 48 (dk dtk_X7_sourceOp 2 rfl) (by decide +kernel) (by rw [c3]; decide +kernel) (by decide) ?_
    refine T_iconst (v := 2) (dk dtk_X7_sourceOp 3 rfl) (by decide +kernel) ?_
    exact KT_iret (dk dtk_X7_sourceOp 4 rfl) rfl rfl h
  · have h := h.2
    by_cases c4 : r2 = 40
    · have h := h.1 c4
      refine T_lookup 46 50 (dk dtk_X7_sourceOp 2 rfl) (by decide +kernel) (by rw [c4]; decide +kernel) (by decide) ?_
      refine T_iconst (v := 3) (dk dtk_X7_sourceOp 5 rfl) (by decide +kernel) ?_
      exact KT_iret (dk dtk_X7_sourceOp 6 rfl) rfl rfl h
    · have h := h.2
      by_cases c5 : r2 = 46
      · have h := h.1 c5
        refine T_lookup 48 52 (dk dtk_X7_sourceOp 2 rfl) (by decide +kernel) (by rw [c5]; decide +kernel) (by decide) ?_
        refine T_iconst (v := 4) (dk dtk_X7_sourceOp 7 rfl) (by decide +kernel) ?_
        exact KT_iret (dk dtk_X7_sourceOp 8 rfl) rfl rfl h
      · have h := h.2
        by_cases c6 : r2 = 2
        · have h := h.1 c6
          refine T_lookup 50 54 (dk dtk_X7_sourceOp 2 rfl) (by decide +kernel) (by rw [c6]; decide +kernel) (by decide) ?_
          refine T_aload_n 0 (dk dtk_X7_sourceOp 9 rfl) rfl rfl ?_
          refine KC_Vi [] [] rfl (dk dtk_X7_sourceOp 10 rfl) kcv_X7_144 rfl kk_100 rfl (kl_100 hq) (Nat.le_of_ble_eq_true rfl) (Nat.le_of_ble_eq_true rfl) (gok_i (av_c (gkr (kl_100 hq)) av_n) as_n) rfl h (fun r8 x7 h => ?_)
          refine T_bipush (v := 27) (dk dtk_X7_sourceOp 11 rfl) (by decide +kernel) ?_
          refine T_icmp_ne 80 (dk dtk_X7_sourceOp 12 rfl) (by decide) (fun c9 => ?_) (fun c9 => ?_)
          · have h := h.1 c9
            refine T_iconst (v := 0) (dk dtk_X7_sourceOp 22 rfl) (by decide +kernel) ?_
            exact h
          · have h := h.2 c9
            refine T_aload_n 0 (dk dtk_X7_sourceOp 13 rfl) rfl rfl ?_
            refine T_iconst (v := 0) (dk dtk_X7_sourceOp 14 rfl) (by decide +kernel) ?_
            refine T_aload_n 0 (dk dtk_X7_sourceOp 15 rfl) rfl rfl ?_
            refine T_getI 100 4 (dk dtk_X7_sourceOp 16 rfl) kfl_X7_52 kk_100 (kl_100 hq) (by decide) rfl ?_
            refine KC_Vi [vi 0, vi (x7.1 100 4)] [] rfl (dk dtk_X7_sourceOp 17 rfl) kcv_X7_266 rfl kk_100 rfl (kl_100 hq) (Nat.le_of_ble_eq_true rfl) (Nat.le_of_ble_eq_true rfl) (gok_i (av_c (gkr (kl_100 hq)) av_n) as_n) rfl h (fun r11 x10 h => ?_)
            refine T_iconst (v := (-1)) (dk dtk_X7_sourceOp 18 rfl) (by decide +kernel) ?_
            refine T_icmp_ne 80 (dk dtk_X7_sourceOp 19 rfl) (by decide) (fun c12 => ?_) (fun c12 => ?_)
            · have h := h.1 c12
              refine T_iconst (v := 0) (dk dtk_X7_sourceOp 22 rfl) (by decide +kernel) ?_
              exact h
            · have h := h.2 c12
              refine T_iconst (v := 1) (dk dtk_X7_sourceOp 20 rfl) (by decide +kernel) ?_
              refine T_goto 81 (dk dtk_X7_sourceOp 21 rfl) (by decide) ?_
              exact h
        · have h := h.2
          have n13 : ∀ k ∈ [(65 : Int32), (40 : Int32), (46 : Int32), (2 : Int32)], ¬ r2 = k := (gno c3 (gno c4 (gno c5 (gno c6 gno0))))
          have h := h n13
          refine T_lookup 98 102 (dk dtk_X7_sourceOp 2 rfl) (by decide +kernel) (glk_d [(65 : Int32), (40 : Int32), (46 : Int32), (2 : Int32)] (by decide +kernel) n13) (by decide) ?_
          refine T_bipush (v := 16) (dk dtk_X7_sourceOp 34 rfl) (by decide +kernel) ?_
          exact KT_iret (dk dtk_X7_sourceOp 35 rfl) rfl rfl h
set_option maxRecDepth 100000 in
set_option maxHeartbeats 4000000 in
theorem kg_X7_sourceOp_81 {G : kG} {q : kP} {d : Nat} {x : gd} {P : Option gv → gd → Prop} (hq : kV q) (s0 : Int32)
    (h : ((¬ (s0 = (0 : Int32)) → P (some (vi 0)) x) ∧ (s0 = (0 : Int32) → KT G q d zk_X7_sortBehind 0 [(0, vr 100)] [] x (ri (fun r3 x2 => ((¬ (r3 = (25 : Int32)) → P (some (vi 16)) x2) ∧ (r3 = (25 : Int32) → P (some (vi 0)) x2))))))) :
    KT G q (d + 1) zk_X7_sourceOp 81 [(0, vr 100)] [vi s0] x P := by
  refine T_istore_n (lv2 := [(1, vi s0), (0, vr 100)]) (dk dtk_X7_sourceOp 23 rfl) rfl (by decide) rfl ?_
  refine T_iload_n 0 (dk dtk_X7_sourceOp 24 rfl) rfl rfl ?_
  refine T_if_ne 95 (dk dtk_X7_sourceOp 25 rfl) (by decide) (fun c1 => ?_) (fun c1 => ?_)
  · have h := h.1 c1
    refine T_iconst (v := 0) (dk dtk_X7_sourceOp 30 rfl) (by decide +kernel) ?_
    refine T_goto 101 (dk dtk_X7_sourceOp 31 rfl) (by decide) ?_
    exact KT_iret (dk dtk_X7_sourceOp 33 rfl) rfl rfl h
  · have h := h.2 c1
    refine T_aload_n 1 (dk dtk_X7_sourceOp 26 rfl) rfl rfl ?_
    refine T_sub (lv2 := []) [] rfl ?_
    refine KC_Vi [] [] rfl (dk dtk_X7_sourceOp 27 rfl) kcv_X7_144 rfl kk_100 rfl (kl_100 hq) (Nat.le_of_ble_eq_true rfl) (Nat.le_of_ble_eq_true rfl) (gok_i av_n as_n) rfl h (fun r3 x2 h => ?_)
    refine T_bipush (v := 25) (dk dtk_X7_sourceOp 28 rfl) (by decide +kernel) ?_
    refine T_icmp_ne 99 (dk dtk_X7_sourceOp 29 rfl) (by decide) (fun c4 => ?_) (fun c4 => ?_)
    · have h := h.1 c4
      refine T_bipush (v := 16) (dk dtk_X7_sourceOp 32 rfl) (by decide +kernel) ?_
      exact KT_iret (dk dtk_X7_sourceOp 33 rfl) rfl rfl h
    · have h := h.2 c4
      refine T_iconst (v := 0) (dk dtk_X7_sourceOp 30 rfl) (by decide +kernel) ?_
      refine T_goto 101 (dk dtk_X7_sourceOp 31 rfl) (by decide) ?_
      exact KT_iret (dk dtk_X7_sourceOp 33 rfl) rfl rfl h
set_option maxRecDepth 100000 in
theorem dtk_X7_useOfCell : dck cX7_useOfCell [(0, .iload_n 0, 1), (1, .ifCond .eq 15, 3), (4, .iload_n 1, 1), (5, .ifCond .eq 8, 3), (8, .bipush 9, 2), (10, .goto 5, 3), (13, .bipush 7, 2), (15, .ireturn, 1), (16, .iload_n 1, 1), (17, .ifCond .eq 8, 3), (20, .bipush 8, 2), (22, .goto 5, 3), (25, .bipush 6, 2), (27, .ireturn, 1)] = true := by decide +kernel
set_option maxRecDepth 100000 in
set_option maxHeartbeats 4000000 in
theorem kg_X7_useOfCell_0 {G : kG} {q : kP} {d : Nat} {x : gd} {P : Option gv → gd → Prop} (hq : kV q) (l0 : Int32) (l1 : Int32)
    (h : ((l0 = (0 : Int32) → ((l1 = (0 : Int32) → P (some (vi 6)) x) ∧ (¬ (l1 = (0 : Int32)) → P (some (vi 8)) x))) ∧ (¬ (l0 = (0 : Int32)) → ((l1 = (0 : Int32) → P (some (vi 7)) x) ∧ (¬ (l1 = (0 : Int32)) → P (some (vi 9)) x))))) :
    KT G q d zk_X7_useOfCell 0 [(0, vi l0), (1, vi l1)] [] x P := by
  refine T_iload_n 0 (dk dtk_X7_useOfCell 0 rfl) rfl rfl ?_
  refine T_if_eq 16 (dk dtk_X7_useOfCell 1 rfl) (by decide) (fun c1 => ?_) (fun c1 => ?_)
  · have h := h.1 c1
    refine T_iload_n 1 (dk dtk_X7_useOfCell 8 rfl) rfl rfl ?_
    refine T_if_eq 25 (dk dtk_X7_useOfCell 9 rfl) (by decide) (fun c2 => ?_) (fun c2 => ?_)
    · have h := h.1 c2
      refine T_bipush (v := 6) (dk dtk_X7_useOfCell 12 rfl) (by decide +kernel) ?_
      exact KT_iret (dk dtk_X7_useOfCell 13 rfl) rfl rfl h
    · have h := h.2 c2
      refine T_bipush (v := 8) (dk dtk_X7_useOfCell 10 rfl) (by decide +kernel) ?_
      refine T_goto 27 (dk dtk_X7_useOfCell 11 rfl) (by decide) ?_
      exact KT_iret (dk dtk_X7_useOfCell 13 rfl) rfl rfl h
  · have h := h.2 c1
    refine T_iload_n 1 (dk dtk_X7_useOfCell 2 rfl) rfl rfl ?_
    refine T_if_eq 13 (dk dtk_X7_useOfCell 3 rfl) (by decide) (fun c3 => ?_) (fun c3 => ?_)
    · have h := h.1 c3
      refine T_bipush (v := 7) (dk dtk_X7_useOfCell 6 rfl) (by decide +kernel) ?_
      exact KT_iret (dk dtk_X7_useOfCell 7 rfl) rfl rfl h
    · have h := h.2 c3
      refine T_bipush (v := 9) (dk dtk_X7_useOfCell 4 rfl) (by decide +kernel) ?_
      refine T_goto 15 (dk dtk_X7_useOfCell 5 rfl) (by decide) ?_
      exact KT_iret (dk dtk_X7_useOfCell 7 rfl) rfl rfl h
set_option maxRecDepth 100000 in
theorem dtk_X7_plainStatement : dck cX7_plainStatement [(0, .aload_n 0, 1), (1, .invokevirtual 71, 3), (4, .bipush 70, 2), (6, .if_icmp .ne 7, 3), (9, .iconst 1, 1), (10, .goto 4, 3), (13, .iconst 0, 1), (14, .istore_n 3, 1), (15, .aload_n 0, 1), (16, .invokevirtual 112, 3), (19, .iconst (-1), 1), (20, .istore 4, 2), (22, .iload_n 1, 1), (23, .iconst 5, 1), (24, .if_icmp .lt 39, 3), (27, .iload_n 1, 1), (28, .bipush 10, 2), (30, .if_icmp .gt 33, 3), (33, .aload_n 0, 1), (34, .iload_n 1, 1), (35, .iload_n 2, 1), (36, .invokevirtual 260, 3), (39, .istore 4, 2), (41, .aload_n 0, 1), (42, .getfield 29, 3), (45, .getfield 214, 3), (48, .iload 4, 2), (50, .iload_n 3, 1), (51, .ifCond .eq 7, 3), (54, .iconst 1, 1), (55, .goto 4, 3), (58, .iconst 0, 1), (59, .iastore, 1), (60, .goto 120, 3), (63, .iconst (-1), 1), (64, .istore 5, 2), (66, .iload_n 1, 1), (67, .bipush 13, 2), (69, .if_icmp .ne 26, 3), (72, .aload_n 0, 1), (73, .getfield 11, 3), (76, .getfield 147, 3), (79, .aload_n 0, 1), (80, .iconst 3, 1), (81, .bipush 13, 2), (83, .invokevirtual 130, 3), (86, .iaload, 1), (87, .istore 5, 2), (89, .aload_n 0, 1), (90, .bipush 28, 2), (92, .invokevirtual 115, 3), (95, .iload_n 1, 1), (96, .bipush 13, 2), (98, .if_icmp .eq 15, 3), (101, .iload_n 1, 1), (102, .bipush 14, 2), (104, .if_icmp .eq 9, 3), (107, .iload_n 1, 1), (108, .bipush 18, 2), (110, .if_icmp .ne 7, 3), (113, .iconst 1, 1), (114, .goto 4, 3), (117, .iconst 0, 1), (118, .istore 6, 2), (120, .iload 6, 2), (122, .ifCond .eq 16, 3), (125, .aload_n 0, 1), (126, .aload_n 0, 1), (127, .getfield 184, 3), (130, .iconst 1, 1), (131, .iadd, 1), (132, .invokevirtual 201, 3), (135, .goto 4, 3), (138, .iconst (-1), 1), (139, .istore 7, 2), (141, .aload_n 0, 1), (142, .getfield 29, 3), (145, .iload_n 1, 1), (146, .iload_n 2, 1), (147, .aload_n 0, 1), (148, .getfield 181, 3), (151, .invokevirtual 191, 3), (154, .istore 4, 2), (156, .aload_n 0, 1), (157, .getfield 29, 3), (160, .getfield 220, 3), (163, .iload 4, 2), (165, .iload 5, 2), (167, .iastore, 1), (168, .aload_n 0, 1), (169, .getfield 29, 3), (172, .getfield 233, 3), (175, .iload 4, 2), (177, .iload 7, 2), (179, .iastore, 1), (180, .aload_n 0, 1), (181, .bipush 27, 2), (183, .invokevirtual 115, 3), (186, .return_, 1)] = true := by decide +kernel
set_option maxRecDepth 100000 in
set_option maxHeartbeats 4000000 in
theorem kg_X7_plainStatement_0 {G : kG} {q : kP} {d : Nat} {x : gd} {P : Option gv → gd → Prop} {X : String → gd → Prop} (hq : kV q) (l1 : Int32) (l2 : Int32)
    (h : KT G q (d + 6) zk_X7_sort 0 [(0, vr 100)] [] x (ri (fun r2 x1 => ((¬ (r2 = (70 : Int32)) → KE G q (d + 7) zk_X7_plainStatement 14 [(0, vr 100), (1, vi l1), (2, vi l2)] [vi 0] x1 P X) ∧ (r2 = (70 : Int32) → KE G q (d + 7) zk_X7_plainStatement 14 [(0, vr 100), (1, vi l1), (2, vi l2)] [vi 1] x1 P X))))) :
    KE G q (d + 7) zk_X7_plainStatement 0 [(0, vr 100), (1, vi l1), (2, vi l2)] [] x P X := by
  refine T_aload_n 0 (dk dtk_X7_plainStatement 0 rfl) rfl rfl ?_
  refine KC_Vi [] [] rfl (dk dtk_X7_plainStatement 1 rfl) kcv_X7_71 rfl kk_100 rfl (kl_100 hq) (Nat.le_of_ble_eq_true rfl) (Nat.le_of_ble_eq_true rfl) (gok_i (av_c (gkr (kl_100 hq)) (av_c rfl (av_c rfl av_n))) as_n) rfl h (fun r2 x1 h => ?_)
  refine T_bipush (v := 70) (dk dtk_X7_plainStatement 2 rfl) (by decide +kernel) ?_
  refine T_icmp_ne 13 (dk dtk_X7_plainStatement 3 rfl) (by decide) (fun c3 => ?_) (fun c3 => ?_)
  · have h := h.1 c3
    refine T_iconst (v := 0) (dk dtk_X7_plainStatement 6 rfl) (by decide +kernel) ?_
    exact h
  · have h := h.2 c3
    refine T_iconst (v := 1) (dk dtk_X7_plainStatement 4 rfl) (by decide +kernel) ?_
    refine T_goto 14 (dk dtk_X7_plainStatement 5 rfl) (by decide) ?_
    exact h
set_option maxRecDepth 100000 in
set_option maxHeartbeats 4000000 in
theorem kg_X7_plainStatement_14 {G : kG} {q : kP} {d : Nat} {x : gd} {P : Option gv → gd → Prop} {X : String → gd → Prop} (hq : kV q) (l1 : Int32) (l2 : Int32) (s0 : Int32)
    (h : KE G q (d + 6) zk_X7_pass 0 [(0, vr 100)] [] x (rv (fun x1 => ((l1 < (5 : Int32) → KE G q (d + 7) zk_X7_plainStatement 63 [(0, vr 100), (1, vi l1), (2, vi l2)] [] x1 P X) ∧ (¬ (l1 < (5 : Int32)) → (((10 : Int32) < l1 → KE G q (d + 7) zk_X7_plainStatement 63 [(0, vr 100), (1, vi l1), (2, vi l2)] [] x1 P X) ∧ (¬ ((10 : Int32) < l1) → KE G q (d + 6) zk_X7_nameStep 0 [(0, vr 100), (1, vi l1), (2, vi l2)] [] x1 (ri (fun r5 x4 => ((s0 = (0 : Int32) → vp_in r5 400 ∧ (∀ x8 : gd, x8 = si x4 84 (r5 : Int32).toNatClampNeg 0 → KE G q (d + 7) zk_X7_plainStatement 180 [(0, vr 100)] [] x8 P X)) ∧ (¬ (s0 = (0 : Int32)) → vp_in r5 400 ∧ (∀ x10 : gd, x10 = si x4 84 (r5 : Int32).toNatClampNeg 1 → KE G q (d + 7) zk_X7_plainStatement 180 [(0, vr 100)] [] x10 P X))))) X)))))) X) :
    KE G q (d + 7) zk_X7_plainStatement 14 [(0, vr 100), (1, vi l1), (2, vi l2)] [vi s0] x P X := by
  refine T_istore_n (lv2 := [(3, vi s0), (0, vr 100), (1, vi l1), (2, vi l2)]) (dk dtk_X7_plainStatement 7 rfl) rfl (by decide) rfl ?_
  refine T_aload_n 1 (dk dtk_X7_plainStatement 8 rfl) rfl rfl ?_
  refine KD_Vv [] [] rfl (dk dtk_X7_plainStatement 9 rfl) kcv_X7_112 rfl kk_100 rfl (kl_100 hq) (Nat.le_of_ble_eq_true rfl) (Nat.le_of_ble_eq_true rfl) (gok_i (av_c rfl (av_c (gkr (kl_100 hq)) (av_c rfl (av_c rfl av_n)))) as_n) rfl h (fun x1 h => ?_)
  refine T_iconst (v := (-1)) (dk dtk_X7_plainStatement 10 rfl) (by decide +kernel) ?_
  refine T_istore (lv2 := [(4, vi (-1)), (3, vi s0), (0, vr 100), (1, vi l1), (2, vi l2)]) (dk dtk_X7_plainStatement 11 rfl) (by decide) rfl ?_
  refine T_iload_n 3 (dk dtk_X7_plainStatement 12 rfl) rfl rfl ?_
  refine T_iconst (v := 5) (dk dtk_X7_plainStatement 13 rfl) (by decide +kernel) ?_
  refine T_icmp_lt 63 (dk dtk_X7_plainStatement 14 rfl) (by decide) (fun c2 => ?_) (fun c2 => ?_)
  · have h := h.1 c2
    exact T_sub [2, 3, 4] rfl h
  · have h := h.2 c2
    refine T_iload_n 3 (dk dtk_X7_plainStatement 15 rfl) rfl rfl ?_
    refine T_bipush (v := 10) (dk dtk_X7_plainStatement 16 rfl) (by decide +kernel) ?_
    refine T_icmp_gt 63 (dk dtk_X7_plainStatement 17 rfl) (by decide) (fun c3 => ?_) (fun c3 => ?_)
    · have h := h.1 c3
      exact T_sub [2, 3, 4] rfl h
    · have h := h.2 c3
      refine T_aload_n 2 (dk dtk_X7_plainStatement 18 rfl) rfl rfl ?_
      refine T_iload_n 3 (dk dtk_X7_plainStatement 19 rfl) rfl rfl ?_
      refine T_iload_n 4 (dk dtk_X7_plainStatement 20 rfl) rfl rfl ?_
      refine T_sub (lv2 := [(3, vi s0), (0, vr 100)]) [1, 2] rfl ?_
      refine KD_Vi [vi l1, vi l2] [] rfl (dk dtk_X7_plainStatement 21 rfl) kcv_X7_260 rfl kk_100 rfl (kl_100 hq) (Nat.le_of_ble_eq_true rfl) (Nat.le_of_ble_eq_true rfl) (gok_i (av_c rfl (av_c (gkr (kl_100 hq)) av_n)) as_n) rfl h (fun r5 x4 h => ?_)
      refine T_istore (lv2 := [(4, vi r5), (3, vi s0), (0, vr 100)]) (dk dtk_X7_plainStatement 22 rfl) (by decide) rfl ?_
      refine T_aload_n 2 (dk dtk_X7_plainStatement 23 rfl) rfl rfl ?_
      refine T_getR 100 3 80 (dk dtk_X7_plainStatement 24 rfl) kfl_X7_29 kk_100 (kl_100 hq) (by decide) rfl kr_100_3 ?_
      refine T_getR 80 3 84 (dk dtk_X7_plainStatement 25 rfl) kfl_X7_214 kk_80 (kl_80 hq) (by decide) rfl kr_80_3 ?_
      refine T_iload 0 (dk dtk_X7_plainStatement 26 rfl) rfl ?_
      refine T_iload_n 1 (dk dtk_X7_plainStatement 27 rfl) rfl rfl ?_
      refine T_if_eq 58 (dk dtk_X7_plainStatement 28 rfl) (by decide) (fun c6 => ?_) (fun c6 => ?_)
      · have h := h.1 c6
        refine T_iconst (v := 0) (dk dtk_X7_plainStatement 31 rfl) (by decide +kernel) ?_
        obtain ⟨h7, h⟩ := h
        obtain ⟨x8, ex8⟩ : ∃ z, z = si x4 84 (r5 : Int32).toNatClampNeg 0 := ⟨_, rfl⟩
        have h := h x8 ex8
        refine T_iast 84 400 (dk dtk_X7_plainStatement 32 rfl) kk_84 (kl_84 hq) h7 ?_
        rw [← ex8]
        refine T_goto 180 (dk dtk_X7_plainStatement 33 rfl) (by decide) ?_
        exact T_sub [2] rfl h
      · have h := h.2 c6
        refine T_iconst (v := 1) (dk dtk_X7_plainStatement 29 rfl) (by decide +kernel) ?_
        refine T_goto 59 (dk dtk_X7_plainStatement 30 rfl) (by decide) ?_
        obtain ⟨h9, h⟩ := h
        obtain ⟨x10, ex10⟩ : ∃ z, z = si x4 84 (r5 : Int32).toNatClampNeg 1 := ⟨_, rfl⟩
        have h := h x10 ex10
        refine T_iast 84 400 (dk dtk_X7_plainStatement 32 rfl) kk_84 (kl_84 hq) h9 ?_
        rw [← ex10]
        refine T_goto 180 (dk dtk_X7_plainStatement 33 rfl) (by decide) ?_
        exact T_sub [2] rfl h
set_option maxRecDepth 100000 in
set_option maxHeartbeats 4000000 in
theorem kg_X7_plainStatement_63 {G : kG} {q : kP} {d : Nat} {x : gd} {P : Option gv → gd → Prop} {X : String → gd → Prop} (hq : kV q) (l1 : Int32) (l2 : Int32)
    (h : ((¬ (l1 = (13 : Int32)) → KE G q (d + 7) zk_X7_plainStatement 95 [(0, vr 100), (1, vi l1), (2, vi l2), (5, vi (-1))] [] x P X) ∧ (l1 = (13 : Int32) → KE G q (d + 6) zk_X7_needFor 0 [(0, vr 100), (1, vi 3), (2, vi 13)] [] x (ri (fun r3 x2 => vp_in r3 702 ∧ KE G q (d + 6) zk_X7_need 0 [(0, vr 100), (1, vi 28)] [] x2 (rv (fun x5 => KE G q (d + 7) zk_X7_plainStatement 95 [(0, vr 100), (1, vi l1), (2, vi l2), (5, vi (x2.1 27 (r3 : Int32).toNatClampNeg))] [] x5 P X)) X)) X))) :
    KE G q (d + 7) zk_X7_plainStatement 63 [(0, vr 100), (1, vi l1), (2, vi l2)] [] x P X := by
  refine T_iconst (v := (-1)) (dk dtk_X7_plainStatement 34 rfl) (by decide +kernel) ?_
  refine T_istore (lv2 := [(5, vi (-1)), (0, vr 100), (1, vi l1), (2, vi l2)]) (dk dtk_X7_plainStatement 35 rfl) (by decide) rfl ?_
  refine T_iload_n 2 (dk dtk_X7_plainStatement 36 rfl) rfl rfl ?_
  refine T_bipush (v := 13) (dk dtk_X7_plainStatement 37 rfl) (by decide +kernel) ?_
  refine T_icmp_ne 95 (dk dtk_X7_plainStatement 38 rfl) (by decide) (fun c1 => ?_) (fun c1 => ?_)
  · have h := h.1 c1
    exact T_sub [1, 2, 3, 0] rfl h
  · have h := h.2 c1
    refine T_aload_n 1 (dk dtk_X7_plainStatement 39 rfl) rfl rfl ?_
    refine T_getR 100 0 20 (dk dtk_X7_plainStatement 40 rfl) kfl_X7_11 kk_100 (kl_100 hq) (by decide) rfl kr_100_0 ?_
    refine T_getR 20 6 27 (dk dtk_X7_plainStatement 41 rfl) kfl_X7_147 kk_20 (kl_20 hq) (by decide) rfl kr_20_6 ?_
    refine T_aload_n 1 (dk dtk_X7_plainStatement 42 rfl) rfl rfl ?_
    refine T_iconst (v := 3) (dk dtk_X7_plainStatement 43 rfl) (by decide +kernel) ?_
    refine T_bipush (v := 13) (dk dtk_X7_plainStatement 44 rfl) (by decide +kernel) ?_
    refine T_sub (lv2 := [(0, vr 100), (1, vi l1), (2, vi l2)]) [1, 2, 3] rfl ?_
    refine KD_Vi [vi 3, vi 13] [vr 27] rfl (dk dtk_X7_plainStatement 45 rfl) kcv_X7_130 rfl kk_100 rfl (kl_100 hq) (Nat.le_of_ble_eq_true rfl) (Nat.le_of_ble_eq_true rfl) (gok_i (av_c (gkr (kl_100 hq)) (av_c rfl (av_c rfl av_n))) (as_c (gkr (kl_27 hq)) as_n)) rfl h (fun r3 x2 h => ?_)
    obtain ⟨h4, h⟩ := h
    refine T_iald 27 702 (dk dtk_X7_plainStatement 46 rfl) kk_27 (kl_27 hq) h4 ?_
    refine T_istore (lv2 := [(5, vi (x2.1 27 (r3 : Int32).toNatClampNeg)), (0, vr 100), (1, vi l1), (2, vi l2)]) (dk dtk_X7_plainStatement 47 rfl) (by decide) rfl ?_
    refine T_aload_n 1 (dk dtk_X7_plainStatement 48 rfl) rfl rfl ?_
    refine T_bipush (v := 28) (dk dtk_X7_plainStatement 49 rfl) (by decide +kernel) ?_
    refine KD_Vv [vi 28] [] rfl (dk dtk_X7_plainStatement 50 rfl) kcv_X7_115 rfl kk_100 rfl (kl_100 hq) (Nat.le_of_ble_eq_true rfl) (Nat.le_of_ble_eq_true rfl) (gok_i (av_c rfl (av_c (gkr (kl_100 hq)) (av_c rfl (av_c rfl av_n)))) as_n) rfl h (fun x5 h => ?_)
    exact T_sub [1, 2, 3, 0] rfl h
set_option maxRecDepth 100000 in
set_option maxHeartbeats 4000000 in
theorem kg_X7_plainStatement_95 {G : kG} {q : kP} {d : Nat} {x : gd} {P : Option gv → gd → Prop} {X : String → gd → Prop} (hq : kV q) (l1 : Int32) (l2 : Int32) (l5 : Int32)
    (h : ((l1 = (13 : Int32) → KE G q (d + 7) zk_X7_plainStatement 118 [(0, vr 100), (1, vi l1), (2, vi l2), (5, vi l5)] [vi 1] x P X) ∧ (¬ (l1 = (13 : Int32)) → ((l1 = (14 : Int32) → KE G q (d + 7) zk_X7_plainStatement 118 [(0, vr 100), (1, vi l1), (2, vi l2), (5, vi l5)] [vi 1] x P X) ∧ (¬ (l1 = (14 : Int32)) → ((¬ (l1 = (18 : Int32)) → KE G q (d + 7) zk_X7_plainStatement 118 [(0, vr 100), (1, vi l1), (2, vi l2), (5, vi l5)] [vi 0] x P X) ∧ (l1 = (18 : Int32) → KE G q (d + 7) zk_X7_plainStatement 118 [(0, vr 100), (1, vi l1), (2, vi l2), (5, vi l5)] [vi 1] x P X))))))) :
    KE G q (d + 7) zk_X7_plainStatement 95 [(0, vr 100), (1, vi l1), (2, vi l2), (5, vi l5)] [] x P X := by
  refine T_iload_n 1 (dk dtk_X7_plainStatement 51 rfl) rfl rfl ?_
  refine T_bipush (v := 13) (dk dtk_X7_plainStatement 52 rfl) (by decide +kernel) ?_
  refine T_icmp_eq 113 (dk dtk_X7_plainStatement 53 rfl) (by decide) (fun c1 => ?_) (fun c1 => ?_)
  · have h := h.1 c1
    refine T_iconst (v := 1) (dk dtk_X7_plainStatement 60 rfl) (by decide +kernel) ?_
    refine T_goto 118 (dk dtk_X7_plainStatement 61 rfl) (by decide) ?_
    exact h
  · have h := h.2 c1
    refine T_iload_n 1 (dk dtk_X7_plainStatement 54 rfl) rfl rfl ?_
    refine T_bipush (v := 14) (dk dtk_X7_plainStatement 55 rfl) (by decide +kernel) ?_
    refine T_icmp_eq 113 (dk dtk_X7_plainStatement 56 rfl) (by decide) (fun c2 => ?_) (fun c2 => ?_)
    · have h := h.1 c2
      refine T_iconst (v := 1) (dk dtk_X7_plainStatement 60 rfl) (by decide +kernel) ?_
      refine T_goto 118 (dk dtk_X7_plainStatement 61 rfl) (by decide) ?_
      exact h
    · have h := h.2 c2
      refine T_iload_n 1 (dk dtk_X7_plainStatement 57 rfl) rfl rfl ?_
      refine T_bipush (v := 18) (dk dtk_X7_plainStatement 58 rfl) (by decide +kernel) ?_
      refine T_icmp_ne 117 (dk dtk_X7_plainStatement 59 rfl) (by decide) (fun c3 => ?_) (fun c3 => ?_)
      · have h := h.1 c3
        refine T_iconst (v := 0) (dk dtk_X7_plainStatement 62 rfl) (by decide +kernel) ?_
        exact h
      · have h := h.2 c3
        refine T_iconst (v := 1) (dk dtk_X7_plainStatement 60 rfl) (by decide +kernel) ?_
        refine T_goto 118 (dk dtk_X7_plainStatement 61 rfl) (by decide) ?_
        exact h
set_option maxRecDepth 100000 in
set_option maxHeartbeats 4000000 in
theorem kg_X7_plainStatement_118 {G : kG} {q : kP} {d : Nat} {x : gd} {P : Option gv → gd → Prop} {X : String → gd → Prop} (hq : kV q) (l1 : Int32) (l2 : Int32) (l5 : Int32) (s0 : Int32)
    (h : ((s0 = (0 : Int32) → KE G q (d + 7) zk_X7_plainStatement 139 [(0, vr 100), (1, vi l1), (2, vi l2), (5, vi l5)] [vi (-1)] x P X) ∧ (¬ (s0 = (0 : Int32)) → KE G q (d + 6) zk_X7_sum 0 [(0, vr 100), (1, vi ((x.1 100 13) + 1))] [] x (ri (fun r3 x2 => KE G q (d + 7) zk_X7_plainStatement 139 [(0, vr 100), (1, vi l1), (2, vi l2), (5, vi l5)] [vi r3] x2 P X)) X))) :
    KE G q (d + 7) zk_X7_plainStatement 118 [(0, vr 100), (1, vi l1), (2, vi l2), (5, vi l5)] [vi s0] x P X := by
  refine T_istore (lv2 := [(6, vi s0), (0, vr 100), (1, vi l1), (2, vi l2), (5, vi l5)]) (dk dtk_X7_plainStatement 63 rfl) (by decide) rfl ?_
  refine T_iload 0 (dk dtk_X7_plainStatement 64 rfl) rfl ?_
  refine T_if_eq 138 (dk dtk_X7_plainStatement 65 rfl) (by decide) (fun c1 => ?_) (fun c1 => ?_)
  · have h := h.1 c1
    refine T_iconst (v := (-1)) (dk dtk_X7_plainStatement 73 rfl) (by decide +kernel) ?_
    exact T_sub [1, 2, 3, 4] rfl h
  · have h := h.2 c1
    refine T_aload_n 1 (dk dtk_X7_plainStatement 66 rfl) rfl rfl ?_
    refine T_aload_n 1 (dk dtk_X7_plainStatement 67 rfl) rfl rfl ?_
    refine T_getI 100 13 (dk dtk_X7_plainStatement 68 rfl) kfl_X7_184 kk_100 (kl_100 hq) (by decide) rfl ?_
    refine T_iconst (v := 1) (dk dtk_X7_plainStatement 69 rfl) (by decide +kernel) ?_
    refine T_iadd (dk dtk_X7_plainStatement 70 rfl) ?_
    refine T_sub (lv2 := [(0, vr 100), (1, vi l1), (2, vi l2), (5, vi l5)]) [1, 2, 3, 4] rfl ?_
    refine KD_Vi [vi ((x.1 100 13) + 1)] [] rfl (dk dtk_X7_plainStatement 71 rfl) kcv_X7_201 rfl kk_100 rfl (kl_100 hq) (Nat.le_of_ble_eq_true rfl) (Nat.le_of_ble_eq_true rfl) (gok_i (av_c (gkr (kl_100 hq)) (av_c rfl (av_c rfl (av_c rfl av_n)))) as_n) rfl h (fun r3 x2 h => ?_)
    refine T_goto 139 (dk dtk_X7_plainStatement 72 rfl) (by decide) ?_
    exact h
set_option maxRecDepth 100000 in
set_option maxHeartbeats 4000000 in
theorem kg_X7_plainStatement_139 {G : kG} {q : kP} {d : Nat} {x : gd} {P : Option gv → gd → Prop} {X : String → gd → Prop} (hq : kV q) (l1 : Int32) (l2 : Int32) (l5 : Int32) (s0 : Int32)
    (h : KT G q (d + 6) zk_X8_add 0 [(0, vr 80), (1, vi l1), (2, vi l2), (3, vi (x.1 100 9))] [] x (ri (fun r2 x1 => vp_in r2 400 ∧ (∀ x4 : gd, x4 = si x1 85 (r2 : Int32).toNatClampNeg l5 → vp_in r2 400 ∧ (∀ x6 : gd, x6 = si x4 88 (r2 : Int32).toNatClampNeg s0 → KE G q (d + 7) zk_X7_plainStatement 180 [(0, vr 100)] [] x6 P X))))) :
    KE G q (d + 7) zk_X7_plainStatement 139 [(0, vr 100), (1, vi l1), (2, vi l2), (5, vi l5)] [vi s0] x P X := by
  refine T_istore (lv2 := [(7, vi s0), (0, vr 100), (1, vi l1), (2, vi l2), (5, vi l5)]) (dk dtk_X7_plainStatement 74 rfl) (by decide) rfl ?_
  refine T_aload_n 1 (dk dtk_X7_plainStatement 75 rfl) rfl rfl ?_
  refine T_getR 100 3 80 (dk dtk_X7_plainStatement 76 rfl) kfl_X7_29 kk_100 (kl_100 hq) (by decide) rfl kr_100_3 ?_
  refine T_iload_n 2 (dk dtk_X7_plainStatement 77 rfl) rfl rfl ?_
  refine T_iload_n 3 (dk dtk_X7_plainStatement 78 rfl) rfl rfl ?_
  refine T_aload_n 1 (dk dtk_X7_plainStatement 79 rfl) rfl rfl ?_
  refine T_getI 100 9 (dk dtk_X7_plainStatement 80 rfl) kfl_X7_181 kk_100 (kl_100 hq) (by decide) rfl ?_
  refine T_sub (lv2 := [(7, vi s0), (0, vr 100), (5, vi l5)]) [0, 1, 4] rfl ?_
  refine KC_Vi [vi l1, vi l2, vi (x.1 100 9)] [] rfl (dk dtk_X7_plainStatement 81 rfl) kcv_X7_191 rfl kk_80 rfl (kl_80 hq) (Nat.le_of_ble_eq_true rfl) (Nat.le_of_ble_eq_true rfl) (gok_i (av_c rfl (av_c (gkr (kl_100 hq)) (av_c rfl av_n))) as_n) rfl h (fun r2 x1 h => ?_)
  refine T_istore (lv2 := [(4, vi r2), (7, vi s0), (0, vr 100), (5, vi l5)]) (dk dtk_X7_plainStatement 82 rfl) (by decide) rfl ?_
  refine T_aload_n 2 (dk dtk_X7_plainStatement 83 rfl) rfl rfl ?_
  refine T_getR 100 3 80 (dk dtk_X7_plainStatement 84 rfl) kfl_X7_29 kk_100 (kl_100 hq) (by decide) rfl kr_100_3 ?_
  refine T_getR 80 4 85 (dk dtk_X7_plainStatement 85 rfl) kfl_X7_220 kk_80 (kl_80 hq) (by decide) rfl kr_80_4 ?_
  refine T_iload 0 (dk dtk_X7_plainStatement 86 rfl) rfl ?_
  refine T_iload 3 (dk dtk_X7_plainStatement 87 rfl) rfl ?_
  obtain ⟨h3, h⟩ := h
  obtain ⟨x4, ex4⟩ : ∃ z, z = si x1 85 (r2 : Int32).toNatClampNeg l5 := ⟨_, rfl⟩
  have h := h x4 ex4
  refine T_iast 85 400 (dk dtk_X7_plainStatement 88 rfl) kk_85 (kl_85 hq) h3 ?_
  rw [← ex4]
  refine T_aload_n 2 (dk dtk_X7_plainStatement 89 rfl) rfl rfl ?_
  refine T_getR 100 3 80 (dk dtk_X7_plainStatement 90 rfl) kfl_X7_29 kk_100 (kl_100 hq) (by decide) rfl kr_100_3 ?_
  refine T_getR 80 7 88 (dk dtk_X7_plainStatement 91 rfl) kfl_X7_233 kk_80 (kl_80 hq) (by decide) rfl kr_80_7 ?_
  refine T_iload 0 (dk dtk_X7_plainStatement 92 rfl) rfl ?_
  refine T_iload 1 (dk dtk_X7_plainStatement 93 rfl) rfl ?_
  obtain ⟨h5, h⟩ := h
  obtain ⟨x6, ex6⟩ : ∃ z, z = si x4 88 (r2 : Int32).toNatClampNeg s0 := ⟨_, rfl⟩
  have h := h x6 ex6
  refine T_iast 88 400 (dk dtk_X7_plainStatement 94 rfl) kk_88 (kl_88 hq) h5 ?_
  rw [← ex6]
  exact T_sub [2] rfl h
set_option maxRecDepth 100000 in
set_option maxHeartbeats 4000000 in
theorem kg_X7_plainStatement_180 {G : kG} {q : kP} {d : Nat} {x : gd} {P : Option gv → gd → Prop} {X : String → gd → Prop} (hq : kV q) 
    (h : KE G q (d + 6) zk_X7_need 0 [(0, vr 100), (1, vi 27)] [] x (rv (fun x1 => P none x1)) X) :
    KE G q (d + 7) zk_X7_plainStatement 180 [(0, vr 100)] [] x P X := by
  refine T_aload_n 0 (dk dtk_X7_plainStatement 95 rfl) rfl rfl ?_
  refine T_bipush (v := 27) (dk dtk_X7_plainStatement 96 rfl) (by decide +kernel) ?_
  refine T_sub (lv2 := []) [] rfl ?_
  refine KD_Vv [vi 27] [] rfl (dk dtk_X7_plainStatement 97 rfl) kcv_X7_115 rfl kk_100 rfl (kl_100 hq) (Nat.le_of_ble_eq_true rfl) (Nat.le_of_ble_eq_true rfl) (gok_i av_n as_n) rfl h (fun x1 h => ?_)
  exact KE_vret (dk dtk_X7_plainStatement 98 rfl) rfl h
set_option maxRecDepth 100000 in
theorem dtk_X7_nameStep : dck cX7_nameStep [(0, .aload_n 0, 1), (1, .iconst 2, 1), (2, .iload_n 1, 1), (3, .bipush 9, 2), (5, .if_icmp .eq 9, 3), (8, .iload_n 1, 1), (9, .bipush 10, 2), (11, .if_icmp .ne 7, 3), (14, .iconst 5, 1), (15, .goto 4, 3), (18, .iconst 4, 1), (19, .invokevirtual 130, 3), (22, .istore_n 3, 1), (23, .aload_n 0, 1), (24, .getfield 29, 3), (27, .iload_n 1, 1), (28, .iload_n 2, 1), (29, .aload_n 0, 1), (30, .getfield 181, 3), (33, .invokevirtual 191, 3), (36, .istore 4, 2), (38, .aload_n 0, 1), (39, .getfield 29, 3), (42, .getfield 220, 3), (45, .iload 4, 2), (47, .iload_n 3, 1), (48, .iastore, 1), (49, .iload 4, 2), (51, .ireturn, 1)] = true := by decide +kernel
set_option maxRecDepth 100000 in
set_option maxHeartbeats 4000000 in
theorem kg_X7_nameStep_0 {G : kG} {q : kP} {d : Nat} {x : gd} {P : Option gv → gd → Prop} {X : String → gd → Prop} (hq : kV q) (l1 : Int32) (l2 : Int32)
    (h : ((l1 = (9 : Int32) → KE G q (d + 7) zk_X7_nameStep 19 [(0, vr 100), (1, vi l1), (2, vi l2)] [vi 5, vi 2, vr 100] x P X) ∧ (¬ (l1 = (9 : Int32)) → ((¬ (l1 = (10 : Int32)) → KE G q (d + 7) zk_X7_nameStep 19 [(0, vr 100), (1, vi l1), (2, vi l2)] [vi 4, vi 2, vr 100] x P X) ∧ (l1 = (10 : Int32) → KE G q (d + 7) zk_X7_nameStep 19 [(0, vr 100), (1, vi l1), (2, vi l2)] [vi 5, vi 2, vr 100] x P X))))) :
    KE G q (d + 7) zk_X7_nameStep 0 [(0, vr 100), (1, vi l1), (2, vi l2)] [] x P X := by
  refine T_aload_n 0 (dk dtk_X7_nameStep 0 rfl) rfl rfl ?_
  refine T_iconst (v := 2) (dk dtk_X7_nameStep 1 rfl) (by decide +kernel) ?_
  refine T_iload_n 1 (dk dtk_X7_nameStep 2 rfl) rfl rfl ?_
  refine T_bipush (v := 9) (dk dtk_X7_nameStep 3 rfl) (by decide +kernel) ?_
  refine T_icmp_eq 14 (dk dtk_X7_nameStep 4 rfl) (by decide) (fun c1 => ?_) (fun c1 => ?_)
  · have h := h.1 c1
    refine T_iconst (v := 5) (dk dtk_X7_nameStep 8 rfl) (by decide +kernel) ?_
    refine T_goto 19 (dk dtk_X7_nameStep 9 rfl) (by decide) ?_
    exact h
  · have h := h.2 c1
    refine T_iload_n 1 (dk dtk_X7_nameStep 5 rfl) rfl rfl ?_
    refine T_bipush (v := 10) (dk dtk_X7_nameStep 6 rfl) (by decide +kernel) ?_
    refine T_icmp_ne 18 (dk dtk_X7_nameStep 7 rfl) (by decide) (fun c2 => ?_) (fun c2 => ?_)
    · have h := h.1 c2
      refine T_iconst (v := 4) (dk dtk_X7_nameStep 10 rfl) (by decide +kernel) ?_
      exact h
    · have h := h.2 c2
      refine T_iconst (v := 5) (dk dtk_X7_nameStep 8 rfl) (by decide +kernel) ?_
      refine T_goto 19 (dk dtk_X7_nameStep 9 rfl) (by decide) ?_
      exact h
set_option maxRecDepth 100000 in
set_option maxHeartbeats 4000000 in
theorem kg_X7_nameStep_19 {G : kG} {q : kP} {d : Nat} {x : gd} {P : Option gv → gd → Prop} {X : String → gd → Prop} (hq : kV q) (l1 : Int32) (l2 : Int32) (s0 : Int32) (s1 : Int32)
    (h : KE G q (d + 6) zk_X7_needFor 0 [(0, vr 100), (1, vi s1), (2, vi s0)] [] x (ri (fun r2 x1 => KT G q (d + 6) zk_X8_add 0 [(0, vr 80), (1, vi l1), (2, vi l2), (3, vi (x1.1 100 9))] [] x1 (ri (fun r4 x3 => vp_in r4 400 ∧ (∀ x6 : gd, x6 = si x3 85 (r4 : Int32).toNatClampNeg r2 → P (some (vi r4)) x6))))) X) :
    KE G q (d + 7) zk_X7_nameStep 19 [(0, vr 100), (1, vi l1), (2, vi l2)] [vi s0, vi s1, vr 100] x P X := by
  refine KD_Vi [vi s1, vi s0] [] rfl (dk dtk_X7_nameStep 11 rfl) kcv_X7_130 rfl kk_100 rfl (kl_100 hq) (Nat.le_of_ble_eq_true rfl) (Nat.le_of_ble_eq_true rfl) (gok_i (av_c (gkr (kl_100 hq)) (av_c rfl (av_c rfl av_n))) as_n) rfl h (fun r2 x1 h => ?_)
  refine T_istore_n (lv2 := [(3, vi r2), (0, vr 100), (1, vi l1), (2, vi l2)]) (dk dtk_X7_nameStep 12 rfl) rfl (by decide) rfl ?_
  refine T_aload_n 1 (dk dtk_X7_nameStep 13 rfl) rfl rfl ?_
  refine T_getR 100 3 80 (dk dtk_X7_nameStep 14 rfl) kfl_X7_29 kk_100 (kl_100 hq) (by decide) rfl kr_100_3 ?_
  refine T_iload_n 2 (dk dtk_X7_nameStep 15 rfl) rfl rfl ?_
  refine T_iload_n 3 (dk dtk_X7_nameStep 16 rfl) rfl rfl ?_
  refine T_aload_n 1 (dk dtk_X7_nameStep 17 rfl) rfl rfl ?_
  refine T_getI 100 9 (dk dtk_X7_nameStep 18 rfl) kfl_X7_181 kk_100 (kl_100 hq) (by decide) rfl ?_
  refine T_sub (lv2 := [(3, vi r2), (0, vr 100)]) [0, 1] rfl ?_
  refine KC_Vi [vi l1, vi l2, vi (x1.1 100 9)] [] rfl (dk dtk_X7_nameStep 19 rfl) kcv_X7_191 rfl kk_80 rfl (kl_80 hq) (Nat.le_of_ble_eq_true rfl) (Nat.le_of_ble_eq_true rfl) (gok_i (av_c rfl (av_c (gkr (kl_100 hq)) av_n)) as_n) rfl h (fun r4 x3 h => ?_)
  refine T_istore (lv2 := [(4, vi r4), (3, vi r2), (0, vr 100)]) (dk dtk_X7_nameStep 20 rfl) (by decide) rfl ?_
  refine T_aload_n 2 (dk dtk_X7_nameStep 21 rfl) rfl rfl ?_
  refine T_getR 100 3 80 (dk dtk_X7_nameStep 22 rfl) kfl_X7_29 kk_100 (kl_100 hq) (by decide) rfl kr_100_3 ?_
  refine T_getR 80 4 85 (dk dtk_X7_nameStep 23 rfl) kfl_X7_220 kk_80 (kl_80 hq) (by decide) rfl kr_80_4 ?_
  refine T_iload 0 (dk dtk_X7_nameStep 24 rfl) rfl ?_
  refine T_iload_n 1 (dk dtk_X7_nameStep 25 rfl) rfl rfl ?_
  obtain ⟨h5, h⟩ := h
  obtain ⟨x6, ex6⟩ : ∃ z, z = si x3 85 (r4 : Int32).toNatClampNeg r2 := ⟨_, rfl⟩
  have h := h x6 ex6
  refine T_iast 85 400 (dk dtk_X7_nameStep 26 rfl) kk_85 (kl_85 hq) h5 ?_
  rw [← ex6]
  refine T_iload 0 (dk dtk_X7_nameStep 27 rfl) rfl ?_
  exact KE_iret (dk dtk_X7_nameStep 28 rfl) rfl rfl h
end
section
set_option maxRecDepth 100000 in
theorem dtk_X7_sum : dck cX7_sum [(0, .aload_n 0, 1), (1, .getfield 19, 3), (4, .getfield 289, 3), (7, .istore_n 2, 1), (8, .iconst 0, 1), (9, .istore_n 3, 1), (10, .aload_n 0, 1), (11, .iconst 0, 1), (12, .putfield 292, 3), (15, .aload_n 0, 1), (16, .iconst 0, 1), (17, .iconst 0, 1), (18, .iload_n 1, 1), (19, .invokevirtual 295, 3), (22, .iconst 0, 1), (23, .istore 4, 2), (25, .iload 4, 2), (27, .sipush 700, 3), (30, .if_icmp .gt 123, 3), (33, .iload_n 3, 1), (34, .aload_n 0, 1), (35, .invokevirtual 298, 3), (38, .iadd, 1), (39, .istore_n 3, 1), (40, .aload_n 0, 1), (41, .invokevirtual 71, 3), (44, .iconst 2, 1), (45, .if_icmp .ne 17, 3), (48, .aload_n 0, 1), (49, .getfield 65, 3), (52, .ifCond .ne 10, 3), (55, .aload_n 0, 1), (56, .invokevirtual 301, 3), (59, .goto 7, 3), (62, .aload_n 0, 1), (63, .invokevirtual 304, 3), (66, .iload_n 3, 1), (67, .ifCond .le 37, 3), (70, .aload_n 0, 1), (71, .invokevirtual 71, 3), (74, .bipush 22, 2), (76, .if_icmp .ne 28, 3), (79, .aload_n 0, 1), (80, .invokevirtual 112, 3), (83, .aload_n 0, 1), (84, .iconst 1, 1), (85, .invokevirtual 307, 3), (88, .aload_n 0, 1), (89, .dup, 1), (90, .getfield 292, 3), (93, .iconst 1, 1), (94, .isub, 1), (95, .putfield 292, 3), (98, .iinc 3 (-1), 3), (101, .goto (-35), 3), (104, .aload_n 0, 1), (105, .invokevirtual 71, 3), (108, .invokestatic 310, 3), (111, .istore 5, 2), (113, .iload 5, 2), (115, .ifCond .ne 6, 3), (118, .goto 35, 3), (121, .aload_n 0, 1), (122, .iload 5, 2), (124, .invokevirtual 307, 3), (127, .aload_n 0, 1), (128, .aload_n 0, 1), (129, .invokevirtual 71, 3), (132, .iload 5, 2), (134, .aload_n 0, 1), (135, .invokevirtual 313, 3), (138, .iconst 1, 1), (139, .iadd, 1), (140, .invokevirtual 295, 3), (143, .aload_n 0, 1), (144, .invokevirtual 112, 3), (147, .iinc 4 1, 3), (150, .goto (-125), 3), (153, .iload_n 3, 1), (154, .ifCond .le 8, 3), (157, .aload_n 0, 1), (158, .iconst 2, 1), (159, .invokevirtual 96, 3), (162, .aload_n 0, 1), (163, .iconst 1, 1), (164, .invokevirtual 307, 3), (167, .aload_n 0, 1), (168, .getfield 19, 3), (171, .iconst 0, 1), (172, .iconst 0, 1), (173, .invokevirtual 316, 3), (176, .iload_n 2, 1), (177, .ireturn, 1)] = true := by decide +kernel
set_option maxRecDepth 100000 in
set_option maxHeartbeats 4000000 in
theorem kg_X7_sum_0 {G : kG} {q : kP} {d : Nat} {x : gd} {P : Option gv → gd → Prop} {X : String → gd → Prop} (hq : kV q) (l1 : Int32)
    (h : (∀ x1 : gd, x1 = si x 100 17 0 → KT G q (d + 6) zk_X7_hold 0 [(0, vr 100), (1, vi 0), (2, vi 0), (3, vi l1)] [] x1 (rv (fun x2 => KE G q (d + 7) zk_X7_sum 25 [(0, vr 100), (2, vi (x.1 60 3)), (3, vi 0), (4, vi 0)] [] x2 P X)))) :
    KE G q (d + 7) zk_X7_sum 0 [(0, vr 100), (1, vi l1)] [] x P X := by
  refine T_aload_n 0 (dk dtk_X7_sum 0 rfl) rfl rfl ?_
  refine T_getR 100 2 60 (dk dtk_X7_sum 1 rfl) kfl_X7_19 kk_100 (kl_100 hq) (by decide) rfl kr_100_2 ?_
  refine T_getI 60 3 (dk dtk_X7_sum 2 rfl) kfl_X7_289 kk_60 (kl_60 hq) (by decide) rfl ?_
  refine T_istore_n (lv2 := [(2, vi (x.1 60 3)), (0, vr 100), (1, vi l1)]) (dk dtk_X7_sum 3 rfl) rfl (by decide) rfl ?_
  refine T_iconst (v := 0) (dk dtk_X7_sum 4 rfl) (by decide +kernel) ?_
  refine T_istore_n (lv2 := [(3, vi 0), (2, vi (x.1 60 3)), (0, vr 100), (1, vi l1)]) (dk dtk_X7_sum 5 rfl) rfl (by decide) rfl ?_
  refine T_aload_n 2 (dk dtk_X7_sum 6 rfl) rfl rfl ?_
  refine T_iconst (v := 0) (dk dtk_X7_sum 7 rfl) (by decide +kernel) ?_
  obtain ⟨x1, ex1⟩ : ∃ z, z = si x 100 17 0 := ⟨_, rfl⟩
  have h := h x1 ex1
  refine T_putI 100 17 (dk dtk_X7_sum 8 rfl) kfl_X7_292 kk_100 (kl_100 hq) (by decide) rfl ⟨rfl, rfl⟩ ?_
  rw [← ex1]
  refine T_aload_n 2 (dk dtk_X7_sum 9 rfl) rfl rfl ?_
  refine T_iconst (v := 0) (dk dtk_X7_sum 10 rfl) (by decide +kernel) ?_
  refine T_iconst (v := 0) (dk dtk_X7_sum 11 rfl) (by decide +kernel) ?_
  refine T_iload_n 3 (dk dtk_X7_sum 12 rfl) rfl rfl ?_
  refine T_sub (lv2 := [(3, vi 0), (2, vi (x.1 60 3)), (0, vr 100)]) [0, 1, 2] rfl ?_
  refine KC_Vv [vi 0, vi 0, vi l1] [] rfl (dk dtk_X7_sum 13 rfl) kcv_X7_295 rfl kk_100 rfl (kl_100 hq) (Nat.le_of_ble_eq_true rfl) (Nat.le_of_ble_eq_true rfl) (gok_i (av_c rfl (av_c rfl (av_c (gkr (kl_100 hq)) av_n))) as_n) rfl h (fun x2 h => ?_)
  refine T_iconst (v := 0) (dk dtk_X7_sum 14 rfl) (by decide +kernel) ?_
  refine T_istore (lv2 := [(4, vi 0), (3, vi 0), (2, vi (x.1 60 3)), (0, vr 100)]) (dk dtk_X7_sum 15 rfl) (by decide) rfl ?_
  exact T_sub [3, 2, 1, 0] rfl h
set_option maxRecDepth 100000 in
set_option maxHeartbeats 4000000 in
theorem kg_X7_sum_25 {G : kG} {q : kP} {d : Nat} {x : gd} {P : Option gv → gd → Prop} {X : String → gd → Prop} (hq : kV q) (l2 : Int32) (l3 : Int32) (l4 : Int32)
    (h : (((700 : Int32) < l4 → KE G q (d + 7) zk_X7_sum 153 [(0, vr 100), (2, vi l2), (3, vi l3)] [] x P X) ∧ (¬ ((700 : Int32) < l4) → KE G q (d + 6) zk_X7_openOperand 0 [(0, vr 100)] [] x (ri (fun r3 x2 => KT G q (d + 6) zk_X7_sort 0 [(0, vr 100)] [] x2 (ri (fun r5 x4 => ((¬ (r5 = (2 : Int32)) → KE G q (d + 7) zk_X7_sum 62 [(0, vr 100), (2, vi l2), (3, vi (l3 + r3)), (4, vi l4)] [] x4 P X) ∧ (r5 = (2 : Int32) → ((¬ ((x4.1 100 5) = (0 : Int32)) → KE G q (d + 7) zk_X7_sum 62 [(0, vr 100), (2, vi l2), (3, vi (l3 + r3)), (4, vi l4)] [] x4 P X) ∧ ((x4.1 100 5) = (0 : Int32) → KE G q (d + 6) zk_X7_claimedCell 0 [(0, vr 100)] [] x4 (rv (fun x8 => KE G q (d + 7) zk_X7_sum 66 [(0, vr 100), (2, vi l2), (3, vi (l3 + r3)), (4, vi l4)] [] x8 P X)) X)))))))) X))) :
    KE G q (d + 7) zk_X7_sum 25 [(0, vr 100), (2, vi l2), (3, vi l3), (4, vi l4)] [] x P X := by
  refine T_iload 3 (dk dtk_X7_sum 16 rfl) rfl ?_
  refine T_sipush (v := 700) (dk dtk_X7_sum 17 rfl) (by decide +kernel) ?_
  refine T_icmp_gt 153 (dk dtk_X7_sum 18 rfl) (by decide) (fun c1 => ?_) (fun c1 => ?_)
  · have h := h.1 c1
    exact T_sub [0, 1, 2] rfl h
  · have h := h.2 c1
    refine T_iload_n 2 (dk dtk_X7_sum 19 rfl) rfl rfl ?_
    refine T_aload_n 0 (dk dtk_X7_sum 20 rfl) rfl rfl ?_
    refine T_sub (lv2 := [(0, vr 100), (2, vi l2), (4, vi l4)]) [0, 1, 3] rfl ?_
    refine KD_Vi [] [vi l3] rfl (dk dtk_X7_sum 21 rfl) kcv_X7_298 rfl kk_100 rfl (kl_100 hq) (Nat.le_of_ble_eq_true rfl) (Nat.le_of_ble_eq_true rfl) (gok_i (av_c (gkr (kl_100 hq)) (av_c rfl (av_c rfl av_n))) (as_c rfl as_n)) rfl h (fun r3 x2 h => ?_)
    refine T_iadd (dk dtk_X7_sum 22 rfl) ?_
    refine T_istore_n (lv2 := [(3, vi (l3 + r3)), (0, vr 100), (2, vi l2), (4, vi l4)]) (dk dtk_X7_sum 23 rfl) rfl (by decide) rfl ?_
    refine T_aload_n 1 (dk dtk_X7_sum 24 rfl) rfl rfl ?_
    refine KC_Vi [] [] rfl (dk dtk_X7_sum 25 rfl) kcv_X7_71 rfl kk_100 rfl (kl_100 hq) (Nat.le_of_ble_eq_true rfl) (Nat.le_of_ble_eq_true rfl) (gok_i (av_c rfl (av_c (gkr (kl_100 hq)) (av_c rfl (av_c rfl av_n)))) as_n) rfl h (fun r5 x4 h => ?_)
    refine T_iconst (v := 2) (dk dtk_X7_sum 26 rfl) (by decide +kernel) ?_
    refine T_icmp_ne 62 (dk dtk_X7_sum 27 rfl) (by decide) (fun c6 => ?_) (fun c6 => ?_)
    · have h := h.1 c6
      exact T_sub [1, 2, 0, 3] rfl h
    · have h := h.2 c6
      refine T_aload_n 1 (dk dtk_X7_sum 28 rfl) rfl rfl ?_
      refine T_getI 100 5 (dk dtk_X7_sum 29 rfl) kfl_X7_65 kk_100 (kl_100 hq) (by decide) rfl ?_
      refine T_if_ne 62 (dk dtk_X7_sum 30 rfl) (by decide) (fun c7 => ?_) (fun c7 => ?_)
      · have h := h.1 c7
        exact T_sub [1, 2, 0, 3] rfl h
      · have h := h.2 c7
        refine T_aload_n 1 (dk dtk_X7_sum 31 rfl) rfl rfl ?_
        refine KD_Vv [] [] rfl (dk dtk_X7_sum 32 rfl) kcv_X7_301 rfl kk_100 rfl (kl_100 hq) (Nat.le_of_ble_eq_true rfl) (Nat.le_of_ble_eq_true rfl) (gok_i (av_c rfl (av_c (gkr (kl_100 hq)) (av_c rfl (av_c rfl av_n)))) as_n) rfl h (fun x8 h => ?_)
        refine T_goto 66 (dk dtk_X7_sum 33 rfl) (by decide) ?_
        exact T_sub [1, 2, 0, 3] rfl h
set_option maxRecDepth 100000 in
set_option maxHeartbeats 4000000 in
theorem kg_X7_sum_62 {G : kG} {q : kP} {d : Nat} {x : gd} {P : Option gv → gd → Prop} {X : String → gd → Prop} (hq : kV q) (l2 : Int32) (l3 : Int32) (l4 : Int32)
    (h : KE G q (d + 6) zk_X7_readOperand 0 [(0, vr 100)] [] x (rv (fun x1 => KE G q (d + 7) zk_X7_sum 66 [(0, vr 100), (2, vi l2), (3, vi l3), (4, vi l4)] [] x1 P X)) X) :
    KE G q (d + 7) zk_X7_sum 62 [(0, vr 100), (2, vi l2), (3, vi l3), (4, vi l4)] [] x P X := by
  refine T_aload_n 0 (dk dtk_X7_sum 34 rfl) rfl rfl ?_
  refine KD_Vv [] [] rfl (dk dtk_X7_sum 35 rfl) kcv_X7_304 rfl kk_100 rfl (kl_100 hq) (Nat.le_of_ble_eq_true rfl) (Nat.le_of_ble_eq_true rfl) (gok_i (av_c (gkr (kl_100 hq)) (av_c rfl (av_c rfl (av_c rfl av_n)))) as_n) rfl h (fun x1 h => ?_)
  exact h
set_option maxRecDepth 100000 in
set_option maxHeartbeats 4000000 in
theorem kg_X7_sum_66 {G : kG} {q : kP} {d : Nat} {x : gd} {P : Option gv → gd → Prop} {X : String → gd → Prop} (hq : kV q) (l2 : Int32) (l3 : Int32) (l4 : Int32)
    (h : ((l3 ≤ (0 : Int32) → KE G q (d + 7) zk_X7_sum 104 [(0, vr 100), (2, vi l2), (3, vi l3), (4, vi l4)] [] x P X) ∧ (¬ (l3 ≤ (0 : Int32)) → KT G q (d + 6) zk_X7_sort 0 [(0, vr 100)] [] x (ri (fun r3 x2 => ((¬ (r3 = (22 : Int32)) → KE G q (d + 7) zk_X7_sum 104 [(0, vr 100), (2, vi l2), (3, vi l3), (4, vi l4)] [] x2 P X) ∧ (r3 = (22 : Int32) → KE G q (d + 6) zk_X7_pass 0 [(0, vr 100)] [] x2 (rv (fun x5 => KT G q (d + 6) zk_X7_release 0 [(0, vr 100), (1, vi 1)] [] x5 (rv (fun x6 => (∀ x7 : gd, x7 = si x6 100 17 ((x6.1 100 17) - 1) → KE G q (d + 7) zk_X7_sum 66 [(0, vr 100), (2, vi l2), (3, vi (l3 + (-1))), (4, vi l4)] [] x7 P X))))) X))))))) :
    KE G q (d + 7) zk_X7_sum 66 [(0, vr 100), (2, vi l2), (3, vi l3), (4, vi l4)] [] x P X := by
  refine T_iload_n 2 (dk dtk_X7_sum 36 rfl) rfl rfl ?_
  refine T_if_le 104 (dk dtk_X7_sum 37 rfl) (by decide) (fun c1 => ?_) (fun c1 => ?_)
  · have h := h.1 c1
    exact h
  · have h := h.2 c1
    refine T_aload_n 0 (dk dtk_X7_sum 38 rfl) rfl rfl ?_
    refine KC_Vi [] [] rfl (dk dtk_X7_sum 39 rfl) kcv_X7_71 rfl kk_100 rfl (kl_100 hq) (Nat.le_of_ble_eq_true rfl) (Nat.le_of_ble_eq_true rfl) (gok_i (av_c (gkr (kl_100 hq)) (av_c rfl (av_c rfl (av_c rfl av_n)))) as_n) rfl h (fun r3 x2 h => ?_)
    refine T_bipush (v := 22) (dk dtk_X7_sum 40 rfl) (by decide +kernel) ?_
    refine T_icmp_ne 104 (dk dtk_X7_sum 41 rfl) (by decide) (fun c4 => ?_) (fun c4 => ?_)
    · have h := h.1 c4
      exact h
    · have h := h.2 c4
      refine T_aload_n 0 (dk dtk_X7_sum 42 rfl) rfl rfl ?_
      refine KD_Vv [] [] rfl (dk dtk_X7_sum 43 rfl) kcv_X7_112 rfl kk_100 rfl (kl_100 hq) (Nat.le_of_ble_eq_true rfl) (Nat.le_of_ble_eq_true rfl) (gok_i (av_c (gkr (kl_100 hq)) (av_c rfl (av_c rfl (av_c rfl av_n)))) as_n) rfl h (fun x5 h => ?_)
      refine T_aload_n 0 (dk dtk_X7_sum 44 rfl) rfl rfl ?_
      refine T_iconst (v := 1) (dk dtk_X7_sum 45 rfl) (by decide +kernel) ?_
      refine KC_Vv [vi 1] [] rfl (dk dtk_X7_sum 46 rfl) kcv_X7_307 rfl kk_100 rfl (kl_100 hq) (Nat.le_of_ble_eq_true rfl) (Nat.le_of_ble_eq_true rfl) (gok_i (av_c (gkr (kl_100 hq)) (av_c rfl (av_c rfl (av_c rfl av_n)))) as_n) rfl h (fun x6 h => ?_)
      refine T_aload_n 0 (dk dtk_X7_sum 47 rfl) rfl rfl ?_
      refine T_dup (dk dtk_X7_sum 48 rfl) rfl ?_
      refine T_getI 100 17 (dk dtk_X7_sum 49 rfl) kfl_X7_292 kk_100 (kl_100 hq) (by decide) rfl ?_
      refine T_iconst (v := 1) (dk dtk_X7_sum 50 rfl) (by decide +kernel) ?_
      refine T_isub (dk dtk_X7_sum 51 rfl) ?_
      obtain ⟨x7, ex7⟩ : ∃ z, z = si x6 100 17 ((x6.1 100 17) - 1) := ⟨_, rfl⟩
      have h := h x7 ex7
      refine T_putI 100 17 (dk dtk_X7_sum 52 rfl) kfl_X7_292 kk_100 (kl_100 hq) (by decide) rfl ⟨rfl, rfl⟩ ?_
      rw [← ex7]
      refine T_iinc (v := l3 + (-1)) (lv2 := [(3, vi (l3 + (-1))), (0, vr 100), (2, vi l2), (4, vi l4)]) 2 (dk dtk_X7_sum 53 rfl) rfl rfl (by decide) rfl ?_
      refine T_goto 66 (dk dtk_X7_sum 54 rfl) (by decide) ?_
      exact T_sub [1, 2, 0, 3] rfl h
set_option maxRecDepth 100000 in
set_option maxHeartbeats 4000000 in
theorem kg_X7_sum_104 {G : kG} {q : kP} {d : Nat} {x : gd} {P : Option gv → gd → Prop} {X : String → gd → Prop} (hq : kV q) (l2 : Int32) (l3 : Int32) (l4 : Int32)
    (h : KT G q (d + 6) zk_X7_sort 0 [(0, vr 100)] [] x (ri (fun r2 x1 => KT G q (d + 6) zk_X7_strengthOf 0 [(0, vi r2)] [] x1 (ri (fun r4 x3 => ((¬ (r4 = (0 : Int32)) → KT G q (d + 6) zk_X7_release 0 [(0, vr 100), (1, vi r4)] [] x3 (rv (fun x6 => KT G q (d + 6) zk_X7_sort 0 [(0, vr 100)] [] x6 (ri (fun r8 x7 => KT G q (d + 6) zk_X7_depthHere 0 [(0, vr 100)] [] x7 (ri (fun r10 x9 => KT G q (d + 6) zk_X7_hold 0 [(0, vr 100), (1, vi r8), (2, vi r4), (3, vi (r10 + 1))] [] x9 (rv (fun x11 => KE G q (d + 6) zk_X7_pass 0 [(0, vr 100)] [] x11 (rv (fun x12 => KE G q (d + 7) zk_X7_sum 25 [(0, vr 100), (2, vi l2), (3, vi l3), (4, vi (l4 + 1))] [] x12 P X)) X))))))))) ∧ (r4 = (0 : Int32) → KE G q (d + 7) zk_X7_sum 153 [(0, vr 100), (2, vi l2), (3, vi l3)] [] x3 P X))))))) :
    KE G q (d + 7) zk_X7_sum 104 [(0, vr 100), (2, vi l2), (3, vi l3), (4, vi l4)] [] x P X := by
  refine T_aload_n 0 (dk dtk_X7_sum 55 rfl) rfl rfl ?_
  refine KC_Vi [] [] rfl (dk dtk_X7_sum 56 rfl) kcv_X7_71 rfl kk_100 rfl (kl_100 hq) (Nat.le_of_ble_eq_true rfl) (Nat.le_of_ble_eq_true rfl) (gok_i (av_c (gkr (kl_100 hq)) (av_c rfl (av_c rfl (av_c rfl av_n)))) as_n) rfl h (fun r2 x1 h => ?_)
  refine KC_Si [vi r2] [] rfl (dk dtk_X7_sum 57 rfl) kcs_X7_310 rfl (Nat.le_of_ble_eq_true rfl) (Nat.le_of_ble_eq_true rfl) (gok_i (av_c (gkr (kl_100 hq)) (av_c rfl (av_c rfl (av_c rfl av_n)))) as_n) rfl h (fun r4 x3 h => ?_)
  refine T_istore (lv2 := [(5, vi r4), (0, vr 100), (2, vi l2), (3, vi l3), (4, vi l4)]) (dk dtk_X7_sum 58 rfl) (by decide) rfl ?_
  refine T_iload 0 (dk dtk_X7_sum 59 rfl) rfl ?_
  refine T_if_ne 121 (dk dtk_X7_sum 60 rfl) (by decide) (fun c5 => ?_) (fun c5 => ?_)
  · have h := h.1 c5
    refine T_aload_n 1 (dk dtk_X7_sum 62 rfl) rfl rfl ?_
    refine T_iload 0 (dk dtk_X7_sum 63 rfl) rfl ?_
    refine KC_Vv [vi r4] [] rfl (dk dtk_X7_sum 64 rfl) kcv_X7_307 rfl kk_100 rfl (kl_100 hq) (Nat.le_of_ble_eq_true rfl) (Nat.le_of_ble_eq_true rfl) (gok_i (av_c rfl (av_c (gkr (kl_100 hq)) (av_c rfl (av_c rfl (av_c rfl av_n))))) as_n) rfl h (fun x6 h => ?_)
    refine T_aload_n 1 (dk dtk_X7_sum 65 rfl) rfl rfl ?_
    refine T_aload_n 1 (dk dtk_X7_sum 66 rfl) rfl rfl ?_
    refine KC_Vi [] [vr 100] rfl (dk dtk_X7_sum 67 rfl) kcv_X7_71 rfl kk_100 rfl (kl_100 hq) (Nat.le_of_ble_eq_true rfl) (Nat.le_of_ble_eq_true rfl) (gok_i (av_c rfl (av_c (gkr (kl_100 hq)) (av_c rfl (av_c rfl (av_c rfl av_n))))) (as_c (gkr (kl_100 hq)) as_n)) rfl h (fun r8 x7 h => ?_)
    refine T_iload 0 (dk dtk_X7_sum 68 rfl) rfl ?_
    refine T_aload_n 1 (dk dtk_X7_sum 69 rfl) rfl rfl ?_
    refine T_sub (lv2 := [(0, vr 100), (2, vi l2), (3, vi l3), (4, vi l4)]) [1, 2, 3, 4] rfl ?_
    refine KC_Vi [] [vi r4, vi r8, vr 100] rfl (dk dtk_X7_sum 70 rfl) kcv_X7_313 rfl kk_100 rfl (kl_100 hq) (Nat.le_of_ble_eq_true rfl) (Nat.le_of_ble_eq_true rfl) (gok_i (av_c (gkr (kl_100 hq)) (av_c rfl (av_c rfl (av_c rfl av_n)))) (as_c rfl (as_c rfl (as_c (gkr (kl_100 hq)) as_n)))) rfl h (fun r10 x9 h => ?_)
    refine T_iconst (v := 1) (dk dtk_X7_sum 71 rfl) (by decide +kernel) ?_
    refine T_iadd (dk dtk_X7_sum 72 rfl) ?_
    refine KC_Vv [vi r8, vi r4, vi (r10 + 1)] [] rfl (dk dtk_X7_sum 73 rfl) kcv_X7_295 rfl kk_100 rfl (kl_100 hq) (Nat.le_of_ble_eq_true rfl) (Nat.le_of_ble_eq_true rfl) (gok_i (av_c (gkr (kl_100 hq)) (av_c rfl (av_c rfl (av_c rfl av_n)))) as_n) rfl h (fun x11 h => ?_)
    refine T_aload_n 0 (dk dtk_X7_sum 74 rfl) rfl rfl ?_
    refine KD_Vv [] [] rfl (dk dtk_X7_sum 75 rfl) kcv_X7_112 rfl kk_100 rfl (kl_100 hq) (Nat.le_of_ble_eq_true rfl) (Nat.le_of_ble_eq_true rfl) (gok_i (av_c (gkr (kl_100 hq)) (av_c rfl (av_c rfl (av_c rfl av_n)))) as_n) rfl h (fun x12 h => ?_)
    refine T_iinc (v := l4 + 1) (lv2 := [(4, vi (l4 + 1)), (0, vr 100), (2, vi l2), (3, vi l3)]) 3 (dk dtk_X7_sum 76 rfl) rfl rfl (by decide) rfl ?_
    refine T_goto 25 (dk dtk_X7_sum 77 rfl) (by decide) ?_
    exact T_sub [1, 2, 3, 0] rfl h
  · have h := h.2 c5
    refine T_goto 153 (dk dtk_X7_sum 61 rfl) (by decide) ?_
    exact T_sub [1, 2, 3] rfl h
set_option maxRecDepth 100000 in
set_option maxHeartbeats 4000000 in
theorem kg_X7_sum_153 {G : kG} {q : kP} {d : Nat} {x : gd} {P : Option gv → gd → Prop} {X : String → gd → Prop} (hq : kV q) (l2 : Int32) (l3 : Int32)
    (h : ((l3 ≤ (0 : Int32) → KE G q (d + 7) zk_X7_sum 162 [(0, vr 100), (2, vi l2)] [] x P X) ∧ (¬ (l3 ≤ (0 : Int32)) → KE G q (d + 6) zk_X7_refuse 0 [(0, vr 100), (1, vi 2)] [] x (rv (fun x2 => KE G q (d + 7) zk_X7_sum 162 [(0, vr 100), (2, vi l2)] [] x2 P X)) X))) :
    KE G q (d + 7) zk_X7_sum 153 [(0, vr 100), (2, vi l2), (3, vi l3)] [] x P X := by
  refine T_iload_n 2 (dk dtk_X7_sum 78 rfl) rfl rfl ?_
  refine T_if_le 162 (dk dtk_X7_sum 79 rfl) (by decide) (fun c1 => ?_) (fun c1 => ?_)
  · have h := h.1 c1
    exact T_sub [0, 1] rfl h
  · have h := h.2 c1
    refine T_aload_n 0 (dk dtk_X7_sum 80 rfl) rfl rfl ?_
    refine T_iconst (v := 2) (dk dtk_X7_sum 81 rfl) (by decide +kernel) ?_
    refine T_sub (lv2 := [(0, vr 100), (2, vi l2)]) [0, 1] rfl ?_
    refine KD_Vv [vi 2] [] rfl (dk dtk_X7_sum 82 rfl) kcv_X7_96 rfl kk_100 rfl (kl_100 hq) (Nat.le_of_ble_eq_true rfl) (Nat.le_of_ble_eq_true rfl) (gok_i (av_c (gkr (kl_100 hq)) (av_c rfl av_n)) as_n) rfl h (fun x2 h => ?_)
    exact h
set_option maxRecDepth 100000 in
set_option maxHeartbeats 4000000 in
theorem kg_X7_sum_162 {G : kG} {q : kP} {d : Nat} {x : gd} {P : Option gv → gd → Prop} {X : String → gd → Prop} (hq : kV q) (l2 : Int32)
    (h : KT G q (d + 6) zk_X7_release 0 [(0, vr 100), (1, vi 1)] [] x (rv (fun x1 => KT G q (d + 6) zk_X0_addPart 0 [(0, vr 60), (1, vi 0), (2, vi 0)] [] x1 (rv (fun x2 => P (some (vi l2)) x2))))) :
    KE G q (d + 7) zk_X7_sum 162 [(0, vr 100), (2, vi l2)] [] x P X := by
  refine T_aload_n 0 (dk dtk_X7_sum 83 rfl) rfl rfl ?_
  refine T_iconst (v := 1) (dk dtk_X7_sum 84 rfl) (by decide +kernel) ?_
  refine KC_Vv [vi 1] [] rfl (dk dtk_X7_sum 85 rfl) kcv_X7_307 rfl kk_100 rfl (kl_100 hq) (Nat.le_of_ble_eq_true rfl) (Nat.le_of_ble_eq_true rfl) (gok_i (av_c (gkr (kl_100 hq)) (av_c rfl av_n)) as_n) rfl h (fun x1 h => ?_)
  refine T_aload_n 0 (dk dtk_X7_sum 86 rfl) rfl rfl ?_
  refine T_getR 100 2 60 (dk dtk_X7_sum 87 rfl) kfl_X7_19 kk_100 (kl_100 hq) (by decide) rfl kr_100_2 ?_
  refine T_iconst (v := 0) (dk dtk_X7_sum 88 rfl) (by decide +kernel) ?_
  refine T_iconst (v := 0) (dk dtk_X7_sum 89 rfl) (by decide +kernel) ?_
  refine T_sub (lv2 := [(2, vi l2)]) [1] rfl ?_
  refine KC_Vv [vi 0, vi 0] [] rfl (dk dtk_X7_sum 90 rfl) kcv_X7_316 rfl kk_60 rfl (kl_60 hq) (Nat.le_of_ble_eq_true rfl) (Nat.le_of_ble_eq_true rfl) (gok_i (av_c rfl av_n) as_n) rfl h (fun x2 h => ?_)
  refine T_iload_n 0 (dk dtk_X7_sum 91 rfl) rfl rfl ?_
  exact KE_iret (dk dtk_X7_sum 92 rfl) rfl rfl h
set_option maxRecDepth 100000 in
theorem dtk_X7_depthHere : dck cX7_depthHere [(0, .aload_n 0, 1), (1, .getfield 292, 3), (4, .ifCond .le 17, 3), (7, .aload_n 0, 1), (8, .getfield 49, 3), (11, .aload_n 0, 1), (12, .getfield 292, 3), (15, .iconst 1, 1), (16, .isub, 1), (17, .iaload, 1), (18, .goto 4, 3), (21, .iconst 0, 1), (22, .ireturn, 1)] = true := by decide +kernel
set_option maxRecDepth 100000 in
set_option maxHeartbeats 4000000 in
theorem kg_X7_depthHere_0 {G : kG} {q : kP} {d : Nat} {x : gd} {P : Option gv → gd → Prop} (hq : kV q) 
    (h : (((x.1 100 17) ≤ (0 : Int32) → P (some (vi 0)) x) ∧ (¬ ((x.1 100 17) ≤ (0 : Int32)) → vp_in ((x.1 100 17) - 1) 20 ∧ P (some (vi (x.1 117 ((x.1 100 17) - 1 : Int32).toNatClampNeg))) x))) :
    KT G q d zk_X7_depthHere 0 [(0, vr 100)] [] x P := by
  refine T_aload_n 0 (dk dtk_X7_depthHere 0 rfl) rfl rfl ?_
  refine T_getI 100 17 (dk dtk_X7_depthHere 1 rfl) kfl_X7_292 kk_100 (kl_100 hq) (by decide) rfl ?_
  refine T_if_le 21 (dk dtk_X7_depthHere 2 rfl) (by decide) (fun c1 => ?_) (fun c1 => ?_)
  · have h := h.1 c1
    refine T_iconst (v := 0) (dk dtk_X7_depthHere 11 rfl) (by decide +kernel) ?_
    exact KT_iret (dk dtk_X7_depthHere 12 rfl) rfl rfl h
  · have h := h.2 c1
    refine T_aload_n 0 (dk dtk_X7_depthHere 3 rfl) rfl rfl ?_
    refine T_getR 100 16 117 (dk dtk_X7_depthHere 4 rfl) kfl_X7_49 kk_100 (kl_100 hq) (by decide) rfl kr_100_16 ?_
    refine T_aload_n 0 (dk dtk_X7_depthHere 5 rfl) rfl rfl ?_
    refine T_getI 100 17 (dk dtk_X7_depthHere 6 rfl) kfl_X7_292 kk_100 (kl_100 hq) (by decide) rfl ?_
    refine T_iconst (v := 1) (dk dtk_X7_depthHere 7 rfl) (by decide +kernel) ?_
    refine T_isub (dk dtk_X7_depthHere 8 rfl) ?_
    obtain ⟨h2, h⟩ := h
    refine T_iald 117 20 (dk dtk_X7_depthHere 9 rfl) kk_117 (kl_117 hq) h2 ?_
    refine T_goto 22 (dk dtk_X7_depthHere 10 rfl) (by decide) ?_
    exact KT_iret (dk dtk_X7_depthHere 12 rfl) rfl rfl h
set_option maxRecDepth 100000 in
theorem dtk_X7_hold : dck cX7_hold [(0, .aload_n 0, 1), (1, .getfield 292, 3), (4, .bipush 20, 2), (6, .if_icmp .ge 43, 3), (9, .aload_n 0, 1), (10, .getfield 43, 3), (13, .aload_n 0, 1), (14, .getfield 292, 3), (17, .iload_n 1, 1), (18, .iastore, 1), (19, .aload_n 0, 1), (20, .getfield 46, 3), (23, .aload_n 0, 1), (24, .getfield 292, 3), (27, .iload_n 2, 1), (28, .iastore, 1), (29, .aload_n 0, 1), (30, .getfield 49, 3), (33, .aload_n 0, 1), (34, .getfield 292, 3), (37, .iload_n 3, 1), (38, .iastore, 1), (39, .aload_n 0, 1), (40, .dup, 1), (41, .getfield 292, 3), (44, .iconst 1, 1), (45, .iadd, 1), (46, .putfield 292, 3), (49, .return_, 1)] = true := by decide +kernel
set_option maxRecDepth 100000 in
set_option maxHeartbeats 4000000 in
theorem kg_X7_hold_0 {G : kG} {q : kP} {d : Nat} {x : gd} {P : Option gv → gd → Prop} (hq : kV q) (l1 : Int32) (l2 : Int32) (l3 : Int32)
    (h : (((20 : Int32) ≤ (x.1 100 17) → P none x) ∧ (¬ ((20 : Int32) ≤ (x.1 100 17)) → vp_in (x.1 100 17) 20 ∧ (∀ x3 : gd, x3 = si x 115 (x.1 100 17 : Int32).toNatClampNeg l1 → vp_in (x3.1 100 17) 20 ∧ (∀ x5 : gd, x5 = si x3 116 (x3.1 100 17 : Int32).toNatClampNeg l2 → vp_in (x5.1 100 17) 20 ∧ (∀ x7 : gd, x7 = si x5 117 (x5.1 100 17 : Int32).toNatClampNeg l3 → (∀ x8 : gd, x8 = si x7 100 17 ((x7.1 100 17) + 1) → P none x8))))))) :
    KT G q d zk_X7_hold 0 [(0, vr 100), (1, vi l1), (2, vi l2), (3, vi l3)] [] x P := by
  refine T_aload_n 0 (dk dtk_X7_hold 0 rfl) rfl rfl ?_
  refine T_getI 100 17 (dk dtk_X7_hold 1 rfl) kfl_X7_292 kk_100 (kl_100 hq) (by decide) rfl ?_
  refine T_bipush (v := 20) (dk dtk_X7_hold 2 rfl) (by decide +kernel) ?_
  refine T_icmp_ge 49 (dk dtk_X7_hold 3 rfl) (by decide) (fun c1 => ?_) (fun c1 => ?_)
  · have h := h.1 c1
    exact KT_vret (dk dtk_X7_hold 28 rfl) rfl h
  · have h := h.2 c1
    refine T_aload_n 0 (dk dtk_X7_hold 4 rfl) rfl rfl ?_
    refine T_getR 100 14 115 (dk dtk_X7_hold 5 rfl) kfl_X7_43 kk_100 (kl_100 hq) (by decide) rfl kr_100_14 ?_
    refine T_aload_n 0 (dk dtk_X7_hold 6 rfl) rfl rfl ?_
    refine T_getI 100 17 (dk dtk_X7_hold 7 rfl) kfl_X7_292 kk_100 (kl_100 hq) (by decide) rfl ?_
    refine T_iload_n 1 (dk dtk_X7_hold 8 rfl) rfl rfl ?_
    obtain ⟨h2, h⟩ := h
    obtain ⟨x3, ex3⟩ : ∃ z, z = si x 115 (x.1 100 17 : Int32).toNatClampNeg l1 := ⟨_, rfl⟩
    have h := h x3 ex3
    refine T_iast 115 20 (dk dtk_X7_hold 9 rfl) kk_115 (kl_115 hq) h2 ?_
    rw [← ex3]
    refine T_aload_n 0 (dk dtk_X7_hold 10 rfl) rfl rfl ?_
    refine T_getR 100 15 116 (dk dtk_X7_hold 11 rfl) kfl_X7_46 kk_100 (kl_100 hq) (by decide) rfl kr_100_15 ?_
    refine T_aload_n 0 (dk dtk_X7_hold 12 rfl) rfl rfl ?_
    refine T_getI 100 17 (dk dtk_X7_hold 13 rfl) kfl_X7_292 kk_100 (kl_100 hq) (by decide) rfl ?_
    refine T_iload_n 2 (dk dtk_X7_hold 14 rfl) rfl rfl ?_
    obtain ⟨h4, h⟩ := h
    obtain ⟨x5, ex5⟩ : ∃ z, z = si x3 116 (x3.1 100 17 : Int32).toNatClampNeg l2 := ⟨_, rfl⟩
    have h := h x5 ex5
    refine T_iast 116 20 (dk dtk_X7_hold 15 rfl) kk_116 (kl_116 hq) h4 ?_
    rw [← ex5]
    refine T_aload_n 0 (dk dtk_X7_hold 16 rfl) rfl rfl ?_
    refine T_getR 100 16 117 (dk dtk_X7_hold 17 rfl) kfl_X7_49 kk_100 (kl_100 hq) (by decide) rfl kr_100_16 ?_
    refine T_aload_n 0 (dk dtk_X7_hold 18 rfl) rfl rfl ?_
    refine T_getI 100 17 (dk dtk_X7_hold 19 rfl) kfl_X7_292 kk_100 (kl_100 hq) (by decide) rfl ?_
    refine T_iload_n 3 (dk dtk_X7_hold 20 rfl) rfl rfl ?_
    obtain ⟨h6, h⟩ := h
    obtain ⟨x7, ex7⟩ : ∃ z, z = si x5 117 (x5.1 100 17 : Int32).toNatClampNeg l3 := ⟨_, rfl⟩
    have h := h x7 ex7
    refine T_iast 117 20 (dk dtk_X7_hold 21 rfl) kk_117 (kl_117 hq) h6 ?_
    rw [← ex7]
    refine T_aload_n 0 (dk dtk_X7_hold 22 rfl) rfl rfl ?_
    refine T_dup (dk dtk_X7_hold 23 rfl) rfl ?_
    refine T_getI 100 17 (dk dtk_X7_hold 24 rfl) kfl_X7_292 kk_100 (kl_100 hq) (by decide) rfl ?_
    refine T_iconst (v := 1) (dk dtk_X7_hold 25 rfl) (by decide +kernel) ?_
    refine T_iadd (dk dtk_X7_hold 26 rfl) ?_
    obtain ⟨x8, ex8⟩ : ∃ z, z = si x7 100 17 ((x7.1 100 17) + 1) := ⟨_, rfl⟩
    have h := h x8 ex8
    refine T_putI 100 17 (dk dtk_X7_hold 27 rfl) kfl_X7_292 kk_100 (kl_100 hq) (by decide) rfl ⟨rfl, rfl⟩ ?_
    rw [← ex8]
    exact KT_vret (dk dtk_X7_hold 28 rfl) rfl h
set_option maxRecDepth 100000 in
theorem dtk_X7_release : dck cX7_release [(0, .iconst 0, 1), (1, .istore_n 2, 1), (2, .iload_n 2, 1), (3, .bipush 20, 2), (5, .if_icmp .ge 58, 3), (8, .aload_n 0, 1), (9, .getfield 292, 3), (12, .ifCond .le 51, 3), (15, .aload_n 0, 1), (16, .getfield 46, 3), (19, .aload_n 0, 1), (20, .getfield 292, 3), (23, .iconst 1, 1), (24, .isub, 1), (25, .iaload, 1), (26, .iload_n 1, 1), (27, .if_icmp .lt 36, 3), (30, .aload_n 0, 1), (31, .dup, 1), (32, .getfield 292, 3), (35, .iconst 1, 1), (36, .isub, 1), (37, .putfield 292, 3), (40, .aload_n 0, 1), (41, .getfield 19, 3), (44, .aload_n 0, 1), (45, .getfield 43, 3), (48, .aload_n 0, 1), (49, .getfield 292, 3), (52, .iaload, 1), (53, .iconst 0, 1), (54, .invokevirtual 316, 3), (57, .iinc 2 1, 3), (60, .goto (-58), 3), (63, .return_, 1)] = true := by decide +kernel
set_option maxRecDepth 100000 in
set_option maxHeartbeats 4000000 in
theorem kg_X7_release_0 {G : kG} {q : kP} {d : Nat} {x : gd} {P : Option gv → gd → Prop} (hq : kV q) (l1 : Int32)
    (h : KT G q (d + 1) zk_X7_release 2 [(0, vr 100), (1, vi l1), (2, vi 0)] [] x P) :
    KT G q (d + 1) zk_X7_release 0 [(0, vr 100), (1, vi l1)] [] x P := by
  refine T_iconst (v := 0) (dk dtk_X7_release 0 rfl) (by decide +kernel) ?_
  refine T_istore_n (lv2 := [(2, vi 0), (0, vr 100), (1, vi l1)]) (dk dtk_X7_release 1 rfl) rfl (by decide) rfl ?_
  exact T_sub [1, 2, 0] rfl h
set_option maxRecDepth 100000 in
set_option maxHeartbeats 4000000 in
theorem kg_X7_release_2 {G : kG} {q : kP} {d : Nat} {x : gd} {P : Option gv → gd → Prop} (hq : kV q) (l1 : Int32) (l2 : Int32)
    (h : (((20 : Int32) ≤ l2 → P none x) ∧ (¬ ((20 : Int32) ≤ l2) → (((x.1 100 17) ≤ (0 : Int32) → P none x) ∧ (¬ ((x.1 100 17) ≤ (0 : Int32)) → vp_in ((x.1 100 17) - 1) 20 ∧ (((x.1 116 ((x.1 100 17) - 1 : Int32).toNatClampNeg) < l1 → P none x) ∧ (¬ ((x.1 116 ((x.1 100 17) - 1 : Int32).toNatClampNeg) < l1) → (∀ x5 : gd, x5 = si x 100 17 ((x.1 100 17) - 1) → vp_in (x5.1 100 17) 20 ∧ KT G q d zk_X0_addPart 0 [(0, vr 60), (1, vi (x5.1 115 (x5.1 100 17 : Int32).toNatClampNeg)), (2, vi 0)] [] x5 (rv (fun x7 => KT G q (d + 1) zk_X7_release 2 [(0, vr 100), (1, vi l1), (2, vi (l2 + 1))] [] x7 P)))))))))) :
    KT G q (d + 1) zk_X7_release 2 [(0, vr 100), (1, vi l1), (2, vi l2)] [] x P := by
  refine T_iload_n 2 (dk dtk_X7_release 2 rfl) rfl rfl ?_
  refine T_bipush (v := 20) (dk dtk_X7_release 3 rfl) (by decide +kernel) ?_
  refine T_icmp_ge 63 (dk dtk_X7_release 4 rfl) (by decide) (fun c1 => ?_) (fun c1 => ?_)
  · have h := h.1 c1
    exact KT_vret (dk dtk_X7_release 34 rfl) rfl h
  · have h := h.2 c1
    refine T_aload_n 0 (dk dtk_X7_release 5 rfl) rfl rfl ?_
    refine T_getI 100 17 (dk dtk_X7_release 6 rfl) kfl_X7_292 kk_100 (kl_100 hq) (by decide) rfl ?_
    refine T_if_le 63 (dk dtk_X7_release 7 rfl) (by decide) (fun c2 => ?_) (fun c2 => ?_)
    · have h := h.1 c2
      exact KT_vret (dk dtk_X7_release 34 rfl) rfl h
    · have h := h.2 c2
      refine T_aload_n 0 (dk dtk_X7_release 8 rfl) rfl rfl ?_
      refine T_getR 100 15 116 (dk dtk_X7_release 9 rfl) kfl_X7_46 kk_100 (kl_100 hq) (by decide) rfl kr_100_15 ?_
      refine T_aload_n 0 (dk dtk_X7_release 10 rfl) rfl rfl ?_
      refine T_getI 100 17 (dk dtk_X7_release 11 rfl) kfl_X7_292 kk_100 (kl_100 hq) (by decide) rfl ?_
      refine T_iconst (v := 1) (dk dtk_X7_release 12 rfl) (by decide +kernel) ?_
      refine T_isub (dk dtk_X7_release 13 rfl) ?_
      obtain ⟨h3, h⟩ := h
      refine T_iald 116 20 (dk dtk_X7_release 14 rfl) kk_116 (kl_116 hq) h3 ?_
      refine T_iload_n 1 (dk dtk_X7_release 15 rfl) rfl rfl ?_
      refine T_icmp_lt 63 (dk dtk_X7_release 16 rfl) (by decide) (fun c4 => ?_) (fun c4 => ?_)
      · have h := h.1 c4
        exact KT_vret (dk dtk_X7_release 34 rfl) rfl h
      · have h := h.2 c4
        refine T_aload_n 0 (dk dtk_X7_release 17 rfl) rfl rfl ?_
        refine T_dup (dk dtk_X7_release 18 rfl) rfl ?_
        refine T_getI 100 17 (dk dtk_X7_release 19 rfl) kfl_X7_292 kk_100 (kl_100 hq) (by decide) rfl ?_
        refine T_iconst (v := 1) (dk dtk_X7_release 20 rfl) (by decide +kernel) ?_
        refine T_isub (dk dtk_X7_release 21 rfl) ?_
        obtain ⟨x5, ex5⟩ : ∃ z, z = si x 100 17 ((x.1 100 17) - 1) := ⟨_, rfl⟩
        have h := h x5 ex5
        refine T_putI 100 17 (dk dtk_X7_release 22 rfl) kfl_X7_292 kk_100 (kl_100 hq) (by decide) rfl ⟨rfl, rfl⟩ ?_
        rw [← ex5]
        refine T_aload_n 0 (dk dtk_X7_release 23 rfl) rfl rfl ?_
        refine T_getR 100 2 60 (dk dtk_X7_release 24 rfl) kfl_X7_19 kk_100 (kl_100 hq) (by decide) rfl kr_100_2 ?_
        refine T_aload_n 0 (dk dtk_X7_release 25 rfl) rfl rfl ?_
        refine T_getR 100 14 115 (dk dtk_X7_release 26 rfl) kfl_X7_43 kk_100 (kl_100 hq) (by decide) rfl kr_100_14 ?_
        refine T_aload_n 0 (dk dtk_X7_release 27 rfl) rfl rfl ?_
        refine T_getI 100 17 (dk dtk_X7_release 28 rfl) kfl_X7_292 kk_100 (kl_100 hq) (by decide) rfl ?_
        obtain ⟨h6, h⟩ := h
        refine T_iald 115 20 (dk dtk_X7_release 29 rfl) kk_115 (kl_115 hq) h6 ?_
        refine T_iconst (v := 0) (dk dtk_X7_release 30 rfl) (by decide +kernel) ?_
        refine KC_Vv [vi (x5.1 115 (x5.1 100 17 : Int32).toNatClampNeg), vi 0] [] rfl (dk dtk_X7_release 31 rfl) kcv_X7_316 rfl kk_60 rfl (kl_60 hq) (Nat.le_of_ble_eq_true rfl) (Nat.le_of_ble_eq_true rfl) (gok_i (av_c (gkr (kl_100 hq)) (av_c rfl (av_c rfl av_n))) as_n) rfl h (fun x7 h => ?_)
        refine T_iinc (v := l2 + 1) (lv2 := [(2, vi (l2 + 1)), (0, vr 100), (1, vi l1)]) 2 (dk dtk_X7_release 32 rfl) rfl rfl (by decide) rfl ?_
        refine T_goto 2 (dk dtk_X7_release 33 rfl) (by decide) ?_
        exact T_sub [1, 2, 0] rfl h
set_option maxRecDepth 100000 in
theorem dtk_X7_beginsSum : dck cX7_beginsSum [(0, .iload_n 1, 1), (1, .iconst 3, 1), (2, .if_icmp .eq 39, 3), (5, .iload_n 1, 1), (6, .iconst 2, 1), (7, .if_icmp .eq 34, 3), (10, .iload_n 1, 1), (11, .bipush 21, 2), (13, .if_icmp .eq 28, 3), (16, .iload_n 1, 1), (17, .bipush 59, 2), (19, .if_icmp .eq 22, 3), (22, .iload_n 1, 1), (23, .bipush 18, 2), (25, .if_icmp .eq 16, 3), (28, .iload_n 1, 1), (29, .bipush 62, 2), (31, .if_icmp .ne 14, 3), (34, .aload_n 0, 1), (35, .getfield 65, 3), (38, .ifCond .eq 7, 3), (41, .iconst 1, 1), (42, .goto 4, 3), (45, .iconst 0, 1), (46, .ireturn, 1)] = true := by decide +kernel
set_option maxRecDepth 100000 in
set_option maxHeartbeats 4000000 in
theorem kg_X7_beginsSum_0 {G : kG} {q : kP} {d : Nat} {x : gd} {P : Option gv → gd → Prop} (hq : kV q) (l1 : Int32)
    (h : ((l1 = (3 : Int32) → P (some (vi 1)) x) ∧ (¬ (l1 = (3 : Int32)) → ((l1 = (2 : Int32) → P (some (vi 1)) x) ∧ (¬ (l1 = (2 : Int32)) → ((l1 = (21 : Int32) → P (some (vi 1)) x) ∧ (¬ (l1 = (21 : Int32)) → ((l1 = (59 : Int32) → P (some (vi 1)) x) ∧ (¬ (l1 = (59 : Int32)) → ((l1 = (18 : Int32) → P (some (vi 1)) x) ∧ (¬ (l1 = (18 : Int32)) → ((¬ (l1 = (62 : Int32)) → P (some (vi 0)) x) ∧ (l1 = (62 : Int32) → (((x.1 100 5) = (0 : Int32) → P (some (vi 0)) x) ∧ (¬ ((x.1 100 5) = (0 : Int32)) → P (some (vi 1)) x))))))))))))))) :
    KT G q d zk_X7_beginsSum 0 [(0, vr 100), (1, vi l1)] [] x P := by
  refine T_iload_n 1 (dk dtk_X7_beginsSum 0 rfl) rfl rfl ?_
  refine T_iconst (v := 3) (dk dtk_X7_beginsSum 1 rfl) (by decide +kernel) ?_
  refine T_icmp_eq 41 (dk dtk_X7_beginsSum 2 rfl) (by decide) (fun c1 => ?_) (fun c1 => ?_)
  · have h := h.1 c1
    refine T_iconst (v := 1) (dk dtk_X7_beginsSum 21 rfl) (by decide +kernel) ?_
    refine T_goto 46 (dk dtk_X7_beginsSum 22 rfl) (by decide) ?_
    exact KT_iret (dk dtk_X7_beginsSum 24 rfl) rfl rfl h
  · have h := h.2 c1
    refine T_iload_n 1 (dk dtk_X7_beginsSum 3 rfl) rfl rfl ?_
    refine T_iconst (v := 2) (dk dtk_X7_beginsSum 4 rfl) (by decide +kernel) ?_
    refine T_icmp_eq 41 (dk dtk_X7_beginsSum 5 rfl) (by decide) (fun c2 => ?_) (fun c2 => ?_)
    · have h := h.1 c2
      refine T_iconst (v := 1) (dk dtk_X7_beginsSum 21 rfl) (by decide +kernel) ?_
      refine T_goto 46 (dk dtk_X7_beginsSum 22 rfl) (by decide) ?_
      exact KT_iret (dk dtk_X7_beginsSum 24 rfl) rfl rfl h
    · have h := h.2 c2
      refine T_iload_n 1 (dk dtk_X7_beginsSum 6 rfl) rfl rfl ?_
      refine T_bipush (v := 21) (dk dtk_X7_beginsSum 7 rfl) (by decide +kernel) ?_
      refine T_icmp_eq 41 (dk dtk_X7_beginsSum 8 rfl) (by decide) (fun c3 => ?_) (fun c3 => ?_)
      · have h := h.1 c3
        refine T_iconst (v := 1) (dk dtk_X7_beginsSum 21 rfl) (by decide +kernel) ?_
        refine T_goto 46 (dk dtk_X7_beginsSum 22 rfl) (by decide) ?_
        exact KT_iret (dk dtk_X7_beginsSum 24 rfl) rfl rfl h
      · have h := h.2 c3
        refine T_iload_n 1 (dk dtk_X7_beginsSum 9 rfl) rfl rfl ?_
        refine T_bipush (v := 59) (dk dtk_X7_beginsSum 10 rfl) (by decide +kernel) ?_
        refine T_icmp_eq 41 (dk dtk_X7_beginsSum 11 rfl) (by decide) (fun c4 => ?_) (fun c4 => ?_)
        · have h := h.1 c4
          refine T_iconst (v := 1) (dk dtk_X7_beginsSum 21 rfl) (by decide +kernel) ?_
          refine T_goto 46 (dk dtk_X7_beginsSum 22 rfl) (by decide) ?_
          exact KT_iret (dk dtk_X7_beginsSum 24 rfl) rfl rfl h
        · have h := h.2 c4
          refine T_iload_n 1 (dk dtk_X7_beginsSum 12 rfl) rfl rfl ?_
          refine T_bipush (v := 18) (dk dtk_X7_beginsSum 13 rfl) (by decide +kernel) ?_
          refine T_icmp_eq 41 (dk dtk_X7_beginsSum 14 rfl) (by decide) (fun c5 => ?_) (fun c5 => ?_)
          · have h := h.1 c5
            refine T_iconst (v := 1) (dk dtk_X7_beginsSum 21 rfl) (by decide +kernel) ?_
            refine T_goto 46 (dk dtk_X7_beginsSum 22 rfl) (by decide) ?_
            exact KT_iret (dk dtk_X7_beginsSum 24 rfl) rfl rfl h
          · have h := h.2 c5
            refine T_iload_n 1 (dk dtk_X7_beginsSum 15 rfl) rfl rfl ?_
            refine T_bipush (v := 62) (dk dtk_X7_beginsSum 16 rfl) (by decide +kernel) ?_
            refine T_icmp_ne 45 (dk dtk_X7_beginsSum 17 rfl) (by decide) (fun c6 => ?_) (fun c6 => ?_)
            · have h := h.1 c6
              refine T_iconst (v := 0) (dk dtk_X7_beginsSum 23 rfl) (by decide +kernel) ?_
              exact KT_iret (dk dtk_X7_beginsSum 24 rfl) rfl rfl h
            · have h := h.2 c6
              refine T_aload_n 0 (dk dtk_X7_beginsSum 18 rfl) rfl rfl ?_
              refine T_getI 100 5 (dk dtk_X7_beginsSum 19 rfl) kfl_X7_65 kk_100 (kl_100 hq) (by decide) rfl ?_
              refine T_if_eq 45 (dk dtk_X7_beginsSum 20 rfl) (by decide) (fun c7 => ?_) (fun c7 => ?_)
              · have h := h.1 c7
                refine T_iconst (v := 0) (dk dtk_X7_beginsSum 23 rfl) (by decide +kernel) ?_
                exact KT_iret (dk dtk_X7_beginsSum 24 rfl) rfl rfl h
              · have h := h.2 c7
                refine T_iconst (v := 1) (dk dtk_X7_beginsSum 21 rfl) (by decide +kernel) ?_
                refine T_goto 46 (dk dtk_X7_beginsSum 22 rfl) (by decide) ?_
                exact KT_iret (dk dtk_X7_beginsSum 24 rfl) rfl rfl h
set_option maxRecDepth 100000 in
theorem dtk_X7_openOperand : dck cX7_openOperand [(0, .iconst 0, 1), (1, .istore_n 1, 1), (2, .iconst 0, 1), (3, .istore_n 2, 1), (4, .iload_n 2, 1), (5, .sipush 700, 3), (8, .if_icmp .gt 135, 3), (11, .aload_n 0, 1), (12, .invokevirtual 71, 3), (15, .istore_n 3, 1), (16, .iload_n 3, 1), (17, .bipush 59, 2), (19, .if_icmp .eq 9, 3), (22, .iload_n 3, 1), (23, .bipush 18, 2), (25, .if_icmp .ne 7, 3), (28, .iconst 1, 1), (29, .goto 4, 3), (32, .iconst 0, 1), (33, .istore 4, 2), (35, .aload_n 0, 1), (36, .iload_n 3, 1), (37, .invokevirtual 319, 3), (40, .ifCond .ne 8, 3), (43, .aload_n 0, 1), (44, .iconst 2, 1), (45, .invokevirtual 96, 3), (48, .aload_n 0, 1), (49, .invokevirtual 313, 3), (52, .iload 4, 2), (54, .ifCond .eq 7, 3), (57, .iconst 1, 1), (58, .goto 4, 3), (61, .iconst 0, 1), (62, .iadd, 1), (63, .bipush 16, 2), (65, .if_icmp .le 8, 3), (68, .aload_n 0, 1), (69, .iconst 3, 1), (70, .invokevirtual 96, 3), (73, .iload 4, 2), (75, .ifCond .ne 12, 3), (78, .iload_n 3, 1), (79, .bipush 21, 2), (81, .if_icmp .eq 6, 3), (84, .goto 59, 3), (87, .iload 4, 2), (89, .ifCond .eq 29, 3), (92, .aload_n 0, 1), (93, .iload_n 3, 1), (94, .bipush 59, 2), (96, .if_icmp .ne 7, 3), (99, .iconst 5, 1), (100, .goto 4, 3), (103, .iconst 4, 1), (104, .bipush 6, 2), (106, .aload_n 0, 1), (107, .invokevirtual 313, 3), (110, .iconst 1, 1), (111, .iadd, 1), (112, .invokevirtual 295, 3), (115, .goto 18, 3), (118, .aload_n 0, 1), (119, .iconst 0, 1), (120, .iconst 0, 1), (121, .aload_n 0, 1), (122, .invokevirtual 313, 3), (125, .iconst 1, 1), (126, .iadd, 1), (127, .invokevirtual 295, 3), (130, .iinc 1 1, 3), (133, .aload_n 0, 1), (134, .invokevirtual 112, 3), (137, .iinc 2 1, 3), (140, .goto (-136), 3), (143, .iload_n 1, 1), (144, .ireturn, 1)] = true := by decide +kernel
set_option maxRecDepth 100000 in
set_option maxHeartbeats 4000000 in
theorem kg_X7_openOperand_0 {G : kG} {q : kP} {d : Nat} {x : gd} {P : Option gv → gd → Prop} {X : String → gd → Prop} (hq : kV q) 
    (h : KE G q (d + 7) zk_X7_openOperand 4 [(0, vr 100), (1, vi 0), (2, vi 0)] [] x P X) :
    KE G q (d + 7) zk_X7_openOperand 0 [(0, vr 100)] [] x P X := by
  refine T_iconst (v := 0) (dk dtk_X7_openOperand 0 rfl) (by decide +kernel) ?_
  refine T_istore_n (lv2 := [(1, vi 0), (0, vr 100)]) (dk dtk_X7_openOperand 1 rfl) rfl (by decide) rfl ?_
  refine T_iconst (v := 0) (dk dtk_X7_openOperand 2 rfl) (by decide +kernel) ?_
  refine T_istore_n (lv2 := [(2, vi 0), (1, vi 0), (0, vr 100)]) (dk dtk_X7_openOperand 3 rfl) rfl (by decide) rfl ?_
  exact T_sub [2, 1, 0] rfl h
set_option maxRecDepth 100000 in
set_option maxHeartbeats 4000000 in
theorem kg_X7_openOperand_4 {G : kG} {q : kP} {d : Nat} {x : gd} {P : Option gv → gd → Prop} {X : String → gd → Prop} (hq : kV q) (l1 : Int32) (l2 : Int32)
    (h : (((700 : Int32) < l2 → P (some (vi l1)) x) ∧ (¬ ((700 : Int32) < l2) → KT G q (d + 6) zk_X7_sort 0 [(0, vr 100)] [] x (ri (fun r3 x2 => ((r3 = (59 : Int32) → KE G q (d + 7) zk_X7_openOperand 33 [(0, vr 100), (1, vi l1), (2, vi l2), (3, vi r3)] [vi 1] x2 P X) ∧ (¬ (r3 = (59 : Int32)) → ((¬ (r3 = (18 : Int32)) → KE G q (d + 7) zk_X7_openOperand 33 [(0, vr 100), (1, vi l1), (2, vi l2), (3, vi r3)] [vi 0] x2 P X) ∧ (r3 = (18 : Int32) → KE G q (d + 7) zk_X7_openOperand 33 [(0, vr 100), (1, vi l1), (2, vi l2), (3, vi r3)] [vi 1] x2 P X))))))))) :
    KE G q (d + 7) zk_X7_openOperand 4 [(0, vr 100), (1, vi l1), (2, vi l2)] [] x P X := by
  refine T_iload_n 2 (dk dtk_X7_openOperand 4 rfl) rfl rfl ?_
  refine T_sipush (v := 700) (dk dtk_X7_openOperand 5 rfl) (by decide +kernel) ?_
  refine T_icmp_gt 143 (dk dtk_X7_openOperand 6 rfl) (by decide) (fun c1 => ?_) (fun c1 => ?_)
  · have h := h.1 c1
    refine T_iload_n 1 (dk dtk_X7_openOperand 75 rfl) rfl rfl ?_
    exact KE_iret (dk dtk_X7_openOperand 76 rfl) rfl rfl h
  · have h := h.2 c1
    refine T_aload_n 0 (dk dtk_X7_openOperand 7 rfl) rfl rfl ?_
    refine KC_Vi [] [] rfl (dk dtk_X7_openOperand 8 rfl) kcv_X7_71 rfl kk_100 rfl (kl_100 hq) (Nat.le_of_ble_eq_true rfl) (Nat.le_of_ble_eq_true rfl) (gok_i (av_c (gkr (kl_100 hq)) (av_c rfl (av_c rfl av_n))) as_n) rfl h (fun r3 x2 h => ?_)
    refine T_istore_n (lv2 := [(3, vi r3), (0, vr 100), (1, vi l1), (2, vi l2)]) (dk dtk_X7_openOperand 9 rfl) rfl (by decide) rfl ?_
    refine T_iload_n 0 (dk dtk_X7_openOperand 10 rfl) rfl rfl ?_
    refine T_bipush (v := 59) (dk dtk_X7_openOperand 11 rfl) (by decide +kernel) ?_
    refine T_icmp_eq 28 (dk dtk_X7_openOperand 12 rfl) (by decide) (fun c4 => ?_) (fun c4 => ?_)
    · have h := h.1 c4
      refine T_iconst (v := 1) (dk dtk_X7_openOperand 16 rfl) (by decide +kernel) ?_
      refine T_goto 33 (dk dtk_X7_openOperand 17 rfl) (by decide) ?_
      exact T_sub [1, 2, 3, 0] rfl h
    · have h := h.2 c4
      refine T_iload_n 0 (dk dtk_X7_openOperand 13 rfl) rfl rfl ?_
      refine T_bipush (v := 18) (dk dtk_X7_openOperand 14 rfl) (by decide +kernel) ?_
      refine T_icmp_ne 32 (dk dtk_X7_openOperand 15 rfl) (by decide) (fun c5 => ?_) (fun c5 => ?_)
      · have h := h.1 c5
        refine T_iconst (v := 0) (dk dtk_X7_openOperand 18 rfl) (by decide +kernel) ?_
        exact T_sub [1, 2, 3, 0] rfl h
      · have h := h.2 c5
        refine T_iconst (v := 1) (dk dtk_X7_openOperand 16 rfl) (by decide +kernel) ?_
        refine T_goto 33 (dk dtk_X7_openOperand 17 rfl) (by decide) ?_
        exact T_sub [1, 2, 3, 0] rfl h
set_option maxRecDepth 100000 in
set_option maxHeartbeats 4000000 in
theorem kg_X7_openOperand_33 {G : kG} {q : kP} {d : Nat} {x : gd} {P : Option gv → gd → Prop} {X : String → gd → Prop} (hq : kV q) (l1 : Int32) (l2 : Int32) (l3 : Int32) (s0 : Int32)
    (h : KT G q (d + 6) zk_X7_beginsSum 0 [(0, vr 100), (1, vi l3)] [] x (ri (fun r2 x1 => ((¬ (r2 = (0 : Int32)) → KE G q (d + 7) zk_X7_openOperand 48 [(0, vr 100), (1, vi l1), (2, vi l2), (3, vi l3), (4, vi s0)] [] x1 P X) ∧ (r2 = (0 : Int32) → KE G q (d + 6) zk_X7_refuse 0 [(0, vr 100), (1, vi 2)] [] x1 (rv (fun x4 => KE G q (d + 7) zk_X7_openOperand 48 [(0, vr 100), (1, vi l1), (2, vi l2), (3, vi l3), (4, vi s0)] [] x4 P X)) X))))) :
    KE G q (d + 7) zk_X7_openOperand 33 [(0, vr 100), (1, vi l1), (2, vi l2), (3, vi l3)] [vi s0] x P X := by
  refine T_istore (lv2 := [(4, vi s0), (0, vr 100), (1, vi l1), (2, vi l2), (3, vi l3)]) (dk dtk_X7_openOperand 19 rfl) (by decide) rfl ?_
  refine T_aload_n 1 (dk dtk_X7_openOperand 20 rfl) rfl rfl ?_
  refine T_iload_n 4 (dk dtk_X7_openOperand 21 rfl) rfl rfl ?_
  refine KC_Vi [vi l3] [] rfl (dk dtk_X7_openOperand 22 rfl) kcv_X7_319 rfl kk_100 rfl (kl_100 hq) (Nat.le_of_ble_eq_true rfl) (Nat.le_of_ble_eq_true rfl) (gok_i (av_c rfl (av_c (gkr (kl_100 hq)) (av_c rfl (av_c rfl (av_c rfl av_n))))) as_n) rfl h (fun r2 x1 h => ?_)
  refine T_if_ne 48 (dk dtk_X7_openOperand 23 rfl) (by decide) (fun c3 => ?_) (fun c3 => ?_)
  · have h := h.1 c3
    exact T_sub [1, 2, 3, 4, 0] rfl h
  · have h := h.2 c3
    refine T_aload_n 1 (dk dtk_X7_openOperand 24 rfl) rfl rfl ?_
    refine T_iconst (v := 2) (dk dtk_X7_openOperand 25 rfl) (by decide +kernel) ?_
    refine KD_Vv [vi 2] [] rfl (dk dtk_X7_openOperand 26 rfl) kcv_X7_96 rfl kk_100 rfl (kl_100 hq) (Nat.le_of_ble_eq_true rfl) (Nat.le_of_ble_eq_true rfl) (gok_i (av_c rfl (av_c (gkr (kl_100 hq)) (av_c rfl (av_c rfl (av_c rfl av_n))))) as_n) rfl h (fun x4 h => ?_)
    exact T_sub [1, 2, 3, 4, 0] rfl h
set_option maxRecDepth 100000 in
set_option maxHeartbeats 4000000 in
theorem kg_X7_openOperand_48 {G : kG} {q : kP} {d : Nat} {x : gd} {P : Option gv → gd → Prop} {X : String → gd → Prop} (hq : kV q) (l1 : Int32) (l2 : Int32) (l3 : Int32) (l4 : Int32)
    (h : KT G q (d + 6) zk_X7_depthHere 0 [(0, vr 100)] [] x (ri (fun r2 x1 => ((l4 = (0 : Int32) → KE G q (d + 7) zk_X7_openOperand 62 [(0, vr 100), (1, vi l1), (2, vi l2), (3, vi l3), (4, vi l4)] [vi 0, vi r2] x1 P X) ∧ (¬ (l4 = (0 : Int32)) → KE G q (d + 7) zk_X7_openOperand 62 [(0, vr 100), (1, vi l1), (2, vi l2), (3, vi l3), (4, vi l4)] [vi 1, vi r2] x1 P X))))) :
    KE G q (d + 7) zk_X7_openOperand 48 [(0, vr 100), (1, vi l1), (2, vi l2), (3, vi l3), (4, vi l4)] [] x P X := by
  refine T_aload_n 0 (dk dtk_X7_openOperand 27 rfl) rfl rfl ?_
  refine KC_Vi [] [] rfl (dk dtk_X7_openOperand 28 rfl) kcv_X7_313 rfl kk_100 rfl (kl_100 hq) (Nat.le_of_ble_eq_true rfl) (Nat.le_of_ble_eq_true rfl) (gok_i (av_c (gkr (kl_100 hq)) (av_c rfl (av_c rfl (av_c rfl (av_c rfl av_n))))) as_n) rfl h (fun r2 x1 h => ?_)
  refine T_iload 4 (dk dtk_X7_openOperand 29 rfl) rfl ?_
  refine T_if_eq 61 (dk dtk_X7_openOperand 30 rfl) (by decide) (fun c3 => ?_) (fun c3 => ?_)
  · have h := h.1 c3
    refine T_iconst (v := 0) (dk dtk_X7_openOperand 33 rfl) (by decide +kernel) ?_
    exact h
  · have h := h.2 c3
    refine T_iconst (v := 1) (dk dtk_X7_openOperand 31 rfl) (by decide +kernel) ?_
    refine T_goto 62 (dk dtk_X7_openOperand 32 rfl) (by decide) ?_
    exact h
set_option maxRecDepth 100000 in
set_option maxHeartbeats 4000000 in
theorem kg_X7_openOperand_62 {G : kG} {q : kP} {d : Nat} {x : gd} {P : Option gv → gd → Prop} {X : String → gd → Prop} (hq : kV q) (l1 : Int32) (l2 : Int32) (l3 : Int32) (l4 : Int32) (s0 : Int32) (s1 : Int32)
    (h : (((s1 + s0) ≤ (16 : Int32) → KE G q (d + 7) zk_X7_openOperand 73 [(0, vr 100), (1, vi l1), (2, vi l2), (3, vi l3), (4, vi l4)] [] x P X) ∧ (¬ ((s1 + s0) ≤ (16 : Int32)) → KE G q (d + 6) zk_X7_refuse 0 [(0, vr 100), (1, vi 3)] [] x (rv (fun x2 => KE G q (d + 7) zk_X7_openOperand 73 [(0, vr 100), (1, vi l1), (2, vi l2), (3, vi l3), (4, vi l4)] [] x2 P X)) X))) :
    KE G q (d + 7) zk_X7_openOperand 62 [(0, vr 100), (1, vi l1), (2, vi l2), (3, vi l3), (4, vi l4)] [vi s0, vi s1] x P X := by
  refine T_iadd (dk dtk_X7_openOperand 34 rfl) ?_
  refine T_bipush (v := 16) (dk dtk_X7_openOperand 35 rfl) (by decide +kernel) ?_
  refine T_icmp_le 73 (dk dtk_X7_openOperand 36 rfl) (by decide) (fun c1 => ?_) (fun c1 => ?_)
  · have h := h.1 c1
    exact h
  · have h := h.2 c1
    refine T_aload_n 0 (dk dtk_X7_openOperand 37 rfl) rfl rfl ?_
    refine T_iconst (v := 3) (dk dtk_X7_openOperand 38 rfl) (by decide +kernel) ?_
    refine KD_Vv [vi 3] [] rfl (dk dtk_X7_openOperand 39 rfl) kcv_X7_96 rfl kk_100 rfl (kl_100 hq) (Nat.le_of_ble_eq_true rfl) (Nat.le_of_ble_eq_true rfl) (gok_i (av_c (gkr (kl_100 hq)) (av_c rfl (av_c rfl (av_c rfl (av_c rfl av_n))))) as_n) rfl h (fun x2 h => ?_)
    exact h
set_option maxRecDepth 100000 in
set_option maxHeartbeats 4000000 in
theorem kg_X7_openOperand_73 {G : kG} {q : kP} {d : Nat} {x : gd} {P : Option gv → gd → Prop} {X : String → gd → Prop} (hq : kV q) (l1 : Int32) (l2 : Int32) (l3 : Int32) (l4 : Int32)
    (h : ((¬ (l4 = (0 : Int32)) → KE G q (d + 7) zk_X7_openOperand 87 [(0, vr 100), (1, vi l1), (2, vi l2), (3, vi l3), (4, vi l4)] [] x P X) ∧ (l4 = (0 : Int32) → ((l3 = (21 : Int32) → KE G q (d + 7) zk_X7_openOperand 87 [(0, vr 100), (1, vi l1), (2, vi l2), (3, vi l3), (4, vi l4)] [] x P X) ∧ (¬ (l3 = (21 : Int32)) → P (some (vi l1)) x))))) :
    KE G q (d + 7) zk_X7_openOperand 73 [(0, vr 100), (1, vi l1), (2, vi l2), (3, vi l3), (4, vi l4)] [] x P X := by
  refine T_iload 4 (dk dtk_X7_openOperand 40 rfl) rfl ?_
  refine T_if_ne 87 (dk dtk_X7_openOperand 41 rfl) (by decide) (fun c1 => ?_) (fun c1 => ?_)
  · have h := h.1 c1
    exact h
  · have h := h.2 c1
    refine T_iload_n 3 (dk dtk_X7_openOperand 42 rfl) rfl rfl ?_
    refine T_bipush (v := 21) (dk dtk_X7_openOperand 43 rfl) (by decide +kernel) ?_
    refine T_icmp_eq 87 (dk dtk_X7_openOperand 44 rfl) (by decide) (fun c2 => ?_) (fun c2 => ?_)
    · have h := h.1 c2
      exact h
    · have h := h.2 c2
      refine T_goto 143 (dk dtk_X7_openOperand 45 rfl) (by decide) ?_
      refine T_iload_n 1 (dk dtk_X7_openOperand 75 rfl) rfl rfl ?_
      exact KE_iret (dk dtk_X7_openOperand 76 rfl) rfl rfl h
set_option maxRecDepth 100000 in
set_option maxHeartbeats 4000000 in
theorem kg_X7_openOperand_87 {G : kG} {q : kP} {d : Nat} {x : gd} {P : Option gv → gd → Prop} {X : String → gd → Prop} (hq : kV q) (l1 : Int32) (l2 : Int32) (l3 : Int32) (l4 : Int32)
    (h : ((l4 = (0 : Int32) → KT G q (d + 6) zk_X7_depthHere 0 [(0, vr 100)] [] x (ri (fun r3 x2 => KT G q (d + 6) zk_X7_hold 0 [(0, vr 100), (1, vi 0), (2, vi 0), (3, vi (r3 + 1))] [] x2 (rv (fun x4 => KE G q (d + 7) zk_X7_openOperand 133 [(0, vr 100), (1, vi (l1 + 1)), (2, vi l2)] [] x4 P X))))) ∧ (¬ (l4 = (0 : Int32)) → ((¬ (l3 = (59 : Int32)) → KE G q (d + 7) zk_X7_openOperand 104 [(0, vr 100), (1, vi l1), (2, vi l2)] [vi 4, vr 100] x P X) ∧ (l3 = (59 : Int32) → KE G q (d + 7) zk_X7_openOperand 104 [(0, vr 100), (1, vi l1), (2, vi l2)] [vi 5, vr 100] x P X))))) :
    KE G q (d + 7) zk_X7_openOperand 87 [(0, vr 100), (1, vi l1), (2, vi l2), (3, vi l3), (4, vi l4)] [] x P X := by
  refine T_iload 4 (dk dtk_X7_openOperand 46 rfl) rfl ?_
  refine T_if_eq 118 (dk dtk_X7_openOperand 47 rfl) (by decide) (fun c1 => ?_) (fun c1 => ?_)
  · have h := h.1 c1
    refine T_aload_n 0 (dk dtk_X7_openOperand 62 rfl) rfl rfl ?_
    refine T_iconst (v := 0) (dk dtk_X7_openOperand 63 rfl) (by decide +kernel) ?_
    refine T_iconst (v := 0) (dk dtk_X7_openOperand 64 rfl) (by decide +kernel) ?_
    refine T_aload_n 0 (dk dtk_X7_openOperand 65 rfl) rfl rfl ?_
    refine T_sub (lv2 := [(0, vr 100), (1, vi l1), (2, vi l2)]) [0, 1, 2] rfl ?_
    refine KC_Vi [] [vi 0, vi 0, vr 100] rfl (dk dtk_X7_openOperand 66 rfl) kcv_X7_313 rfl kk_100 rfl (kl_100 hq) (Nat.le_of_ble_eq_true rfl) (Nat.le_of_ble_eq_true rfl) (gok_i (av_c (gkr (kl_100 hq)) (av_c rfl (av_c rfl av_n))) (as_c rfl (as_c rfl (as_c (gkr (kl_100 hq)) as_n)))) rfl h (fun r3 x2 h => ?_)
    refine T_iconst (v := 1) (dk dtk_X7_openOperand 67 rfl) (by decide +kernel) ?_
    refine T_iadd (dk dtk_X7_openOperand 68 rfl) ?_
    refine KC_Vv [vi 0, vi 0, vi (r3 + 1)] [] rfl (dk dtk_X7_openOperand 69 rfl) kcv_X7_295 rfl kk_100 rfl (kl_100 hq) (Nat.le_of_ble_eq_true rfl) (Nat.le_of_ble_eq_true rfl) (gok_i (av_c (gkr (kl_100 hq)) (av_c rfl (av_c rfl av_n))) as_n) rfl h (fun x4 h => ?_)
    refine T_iinc (v := l1 + 1) (lv2 := [(1, vi (l1 + 1)), (0, vr 100), (2, vi l2)]) 1 (dk dtk_X7_openOperand 70 rfl) rfl rfl (by decide) rfl ?_
    exact T_sub [1, 0, 2] rfl h
  · have h := h.2 c1
    refine T_aload_n 0 (dk dtk_X7_openOperand 48 rfl) rfl rfl ?_
    refine T_iload_n 3 (dk dtk_X7_openOperand 49 rfl) rfl rfl ?_
    refine T_bipush (v := 59) (dk dtk_X7_openOperand 50 rfl) (by decide +kernel) ?_
    refine T_icmp_ne 103 (dk dtk_X7_openOperand 51 rfl) (by decide) (fun c5 => ?_) (fun c5 => ?_)
    · have h := h.1 c5
      refine T_iconst (v := 4) (dk dtk_X7_openOperand 54 rfl) (by decide +kernel) ?_
      exact T_sub [0, 1, 2] rfl h
    · have h := h.2 c5
      refine T_iconst (v := 5) (dk dtk_X7_openOperand 52 rfl) (by decide +kernel) ?_
      refine T_goto 104 (dk dtk_X7_openOperand 53 rfl) (by decide) ?_
      exact T_sub [0, 1, 2] rfl h
set_option maxRecDepth 100000 in
set_option maxHeartbeats 4000000 in
theorem kg_X7_openOperand_104 {G : kG} {q : kP} {d : Nat} {x : gd} {P : Option gv → gd → Prop} {X : String → gd → Prop} (hq : kV q) (l1 : Int32) (l2 : Int32) (s0 : Int32)
    (h : KT G q (d + 6) zk_X7_depthHere 0 [(0, vr 100)] [] x (ri (fun r2 x1 => KT G q (d + 6) zk_X7_hold 0 [(0, vr 100), (1, vi s0), (2, vi 6), (3, vi (r2 + 1))] [] x1 (rv (fun x3 => KE G q (d + 7) zk_X7_openOperand 133 [(0, vr 100), (1, vi l1), (2, vi l2)] [] x3 P X))))) :
    KE G q (d + 7) zk_X7_openOperand 104 [(0, vr 100), (1, vi l1), (2, vi l2)] [vi s0, vr 100] x P X := by
  refine T_bipush (v := 6) (dk dtk_X7_openOperand 55 rfl) (by decide +kernel) ?_
  refine T_aload_n 0 (dk dtk_X7_openOperand 56 rfl) rfl rfl ?_
  refine KC_Vi [] [vi 6, vi s0, vr 100] rfl (dk dtk_X7_openOperand 57 rfl) kcv_X7_313 rfl kk_100 rfl (kl_100 hq) (Nat.le_of_ble_eq_true rfl) (Nat.le_of_ble_eq_true rfl) (gok_i (av_c (gkr (kl_100 hq)) (av_c rfl (av_c rfl av_n))) (as_c rfl (as_c rfl (as_c (gkr (kl_100 hq)) as_n)))) rfl h (fun r2 x1 h => ?_)
  refine T_iconst (v := 1) (dk dtk_X7_openOperand 58 rfl) (by decide +kernel) ?_
  refine T_iadd (dk dtk_X7_openOperand 59 rfl) ?_
  refine KC_Vv [vi s0, vi 6, vi (r2 + 1)] [] rfl (dk dtk_X7_openOperand 60 rfl) kcv_X7_295 rfl kk_100 rfl (kl_100 hq) (Nat.le_of_ble_eq_true rfl) (Nat.le_of_ble_eq_true rfl) (gok_i (av_c (gkr (kl_100 hq)) (av_c rfl (av_c rfl av_n))) as_n) rfl h (fun x3 h => ?_)
  refine T_goto 133 (dk dtk_X7_openOperand 61 rfl) (by decide) ?_
  exact h
set_option maxRecDepth 100000 in
set_option maxHeartbeats 4000000 in
theorem kg_X7_openOperand_133 {G : kG} {q : kP} {d : Nat} {x : gd} {P : Option gv → gd → Prop} {X : String → gd → Prop} (hq : kV q) (l1 : Int32) (l2 : Int32)
    (h : KE G q (d + 6) zk_X7_pass 0 [(0, vr 100)] [] x (rv (fun x1 => KE G q (d + 7) zk_X7_openOperand 4 [(0, vr 100), (1, vi l1), (2, vi (l2 + 1))] [] x1 P X)) X) :
    KE G q (d + 7) zk_X7_openOperand 133 [(0, vr 100), (1, vi l1), (2, vi l2)] [] x P X := by
  refine T_aload_n 0 (dk dtk_X7_openOperand 71 rfl) rfl rfl ?_
  refine KD_Vv [] [] rfl (dk dtk_X7_openOperand 72 rfl) kcv_X7_112 rfl kk_100 rfl (kl_100 hq) (Nat.le_of_ble_eq_true rfl) (Nat.le_of_ble_eq_true rfl) (gok_i (av_c (gkr (kl_100 hq)) (av_c rfl (av_c rfl av_n))) as_n) rfl h (fun x1 h => ?_)
  refine T_iinc (v := l2 + 1) (lv2 := [(2, vi (l2 + 1)), (0, vr 100), (1, vi l1)]) 2 (dk dtk_X7_openOperand 73 rfl) rfl rfl (by decide) rfl ?_
  refine T_goto 4 (dk dtk_X7_openOperand 74 rfl) (by decide) ?_
  exact T_sub [1, 2, 0] rfl h
set_option maxRecDepth 100000 in
theorem dtk_X7_strengthOf : dck cX7_strengthOf [(0, .iload_n 0, 1), (1, .tableswitch 225 11 60 #[219, 219, 219, 219, 219, 219, 221, 221, 223, 223, 225, 225, 225, 225, 225, 225, 225, 225, 225, 225, 225, 225, 225, 225, 225, 225, 225, 225, 225, 225, 225, 217, 225, 225, 225, 225, 225, 225, 225, 225, 225, 225, 225, 225, 225, 225, 225, 223, 225, 215], 215), (216, .iconst 1, 1), (217, .ireturn, 1), (218, .iconst 2, 1), (219, .ireturn, 1), (220, .iconst 3, 1), (221, .ireturn, 1), (222, .iconst 4, 1), (223, .ireturn, 1), (224, .iconst 5, 1), (225, .ireturn, 1), (226, .iconst 0, 1), (227, .ireturn, 1)] = true := by decide +kernel
set_option maxRecDepth 100000 in
set_option maxHeartbeats 4000000 in
theorem kg_X7_strengthOf_0 {G : kG} {q : kP} {d : Nat} {x : gd} {P : Option gv → gd → Prop} (hq : kV q) (l0 : Int32)
    (h : (((l0 = 60) → P (some (vi 1)) x) ∧ ((l0 = 42) → P (some (vi 2)) x) ∧ ((l0 = 11 ∨ l0 = 12 ∨ l0 = 13 ∨ l0 = 14 ∨ l0 = 15 ∨ l0 = 16) → P (some (vi 3)) x) ∧ ((l0 = 17 ∨ l0 = 18) → P (some (vi 4)) x) ∧ ((l0 = 19 ∨ l0 = 20 ∨ l0 = 58) → P (some (vi 5)) x) ∧ ((∀ k ∈ [(60 : Int32), (42 : Int32), (11 : Int32), (12 : Int32), (13 : Int32), (14 : Int32), (15 : Int32), (16 : Int32), (17 : Int32), (18 : Int32), (19 : Int32), (20 : Int32), (58 : Int32)], ¬ l0 = k) → P (some (vi 0)) x))) :
    KT G q d zk_X7_strengthOf 0 [(0, vi l0)] [] x P := by
  refine T_iload_n 0 (dk dtk_X7_strengthOf 0 rfl) rfl rfl ?_
  by_cases c1 : l0 = 60
  · have h := h.1 c1
    refine T_table 215 216 (dk dtk_X7_strengthOf 1 rfl) (by decide) (by rw [c1]; decide +kernel) (by decide) ?_
    refine T_iconst (v := 1) (dk dtk_X7_strengthOf 2 rfl) (by decide +kernel) ?_
    exact KT_iret (dk dtk_X7_strengthOf 3 rfl) rfl rfl h
  · have h := h.2
    by_cases c2 : l0 = 42
    · have h := h.1 c2
      refine T_table 217 218 (dk dtk_X7_strengthOf 1 rfl) (by decide) (by rw [c2]; decide +kernel) (by decide) ?_
      refine T_iconst (v := 2) (dk dtk_X7_strengthOf 4 rfl) (by decide +kernel) ?_
      exact KT_iret (dk dtk_X7_strengthOf 5 rfl) rfl rfl h
    · have h := h.2
      by_cases c3 : l0 = 11 ∨ l0 = 12 ∨ l0 = 13 ∨ l0 = 14 ∨ l0 = 15 ∨ l0 = 16
      · have h := h.1 c3
        refine T_table 219 220 (dk dtk_X7_strengthOf 1 rfl) (by decide) (by rcases c3 with q9 | q9 | q9 | q9 | q9 | q9 <;> rw [q9] <;> decide +kernel) (by decide) ?_
        refine T_iconst (v := 3) (dk dtk_X7_strengthOf 6 rfl) (by decide +kernel) ?_
        exact KT_iret (dk dtk_X7_strengthOf 7 rfl) rfl rfl h
      · have h := h.2
        by_cases c4 : l0 = 17 ∨ l0 = 18
        · have h := h.1 c4
          refine T_table 221 222 (dk dtk_X7_strengthOf 1 rfl) (by decide) (by rcases c4 with q9 | q9 <;> rw [q9] <;> decide +kernel) (by decide) ?_
          refine T_iconst (v := 4) (dk dtk_X7_strengthOf 8 rfl) (by decide +kernel) ?_
          exact KT_iret (dk dtk_X7_strengthOf 9 rfl) rfl rfl h
        · have h := h.2
          by_cases c5 : l0 = 19 ∨ l0 = 20 ∨ l0 = 58
          · have h := h.1 c5
            refine T_table 223 224 (dk dtk_X7_strengthOf 1 rfl) (by decide) (by rcases c5 with q9 | q9 | q9 <;> rw [q9] <;> decide +kernel) (by decide) ?_
            refine T_iconst (v := 5) (dk dtk_X7_strengthOf 10 rfl) (by decide +kernel) ?_
            exact KT_iret (dk dtk_X7_strengthOf 11 rfl) rfl rfl h
          · have h := h.2
            have n6 : ∀ k ∈ [(60 : Int32), (42 : Int32), (11 : Int32), (12 : Int32), (13 : Int32), (14 : Int32), (15 : Int32), (16 : Int32), (17 : Int32), (18 : Int32), (19 : Int32), (20 : Int32), (58 : Int32)], ¬ l0 = k := (gno c1 (gno c2 (gno (fun q9 => c3 (Or.inl q9)) (gno (fun q9 => c3 (Or.inr (Or.inl q9))) (gno (fun q9 => c3 (Or.inr (Or.inr (Or.inl q9)))) (gno (fun q9 => c3 (Or.inr (Or.inr (Or.inr (Or.inl q9))))) (gno (fun q9 => c3 (Or.inr (Or.inr (Or.inr (Or.inr (Or.inl q9)))))) (gno (fun q9 => c3 (Or.inr (Or.inr (Or.inr (Or.inr (Or.inr (q9))))))) (gno (fun q9 => c4 (Or.inl q9)) (gno (fun q9 => c4 (Or.inr (q9))) (gno (fun q9 => c5 (Or.inl q9)) (gno (fun q9 => c5 (Or.inr (Or.inl q9))) (gno (fun q9 => c5 (Or.inr (Or.inr (q9)))) gno0)))))))))))))
            have h := h n6
            refine T_table 225 226 (dk dtk_X7_strengthOf 1 rfl) (by decide) (gtab_d [(60 : Int32), (42 : Int32), (11 : Int32), (12 : Int32), (13 : Int32), (14 : Int32), (15 : Int32), (16 : Int32), (17 : Int32), (18 : Int32), (19 : Int32), (20 : Int32), (58 : Int32)] (by decide +kernel) n6) (by decide) ?_
            refine T_iconst (v := 0) (dk dtk_X7_strengthOf 12 rfl) (by decide +kernel) ?_
            exact KT_iret (dk dtk_X7_strengthOf 13 rfl) rfl rfl h
set_option maxRecDepth 100000 in
theorem dtk_X7_readOperand : dck cX7_readOperand [(0, .aload_n 0, 1), (1, .invokevirtual 71, 3), (4, .iconst 3, 1), (5, .if_icmp .ne 26, 3), (8, .aload_n 0, 1), (9, .getfield 19, 3), (12, .iconst 1, 1), (13, .aload_n 0, 1), (14, .getfield 11, 3), (17, .getfield 147, 3), (20, .aload_n 0, 1), (21, .getfield 52, 3), (24, .iaload, 1), (25, .invokevirtual 316, 3), (28, .goto 65, 3), (31, .aload_n 0, 1), (32, .invokevirtual 71, 3), (35, .bipush 62, 2), (37, .if_icmp .ne 15, 3), (40, .aload_n 0, 1), (41, .getfield 19, 3), (44, .iconst 3, 1), (45, .iconst 0, 1), (46, .invokevirtual 316, 3), (49, .goto 44, 3), (52, .aload_n 0, 1), (53, .iconst 0, 1), (54, .aload_n 0, 1), (55, .getfield 52, 3), (58, .invokevirtual 266, 3), (61, .istore_n 1, 1), (62, .aload_n 0, 1), (63, .getfield 15, 3), (66, .getfield 109, 3), (69, .aload_n 0, 1), (70, .getfield 52, 3), (73, .iload_n 1, 1), (74, .iconst (-1), 1), (75, .if_icmp .ne 7, 3), (78, .iconst 3, 1), (79, .goto 4, 3), (82, .iconst 0, 1), (83, .iastore, 1), (84, .aload_n 0, 1), (85, .getfield 19, 3), (88, .iconst 2, 1), (89, .iload_n 1, 1), (90, .invokevirtual 316, 3), (93, .aload_n 0, 1), (94, .invokevirtual 112, 3), (97, .return_, 1)] = true := by decide +kernel
set_option maxRecDepth 100000 in
set_option maxHeartbeats 4000000 in
theorem kg_X7_readOperand_0 {G : kG} {q : kP} {d : Nat} {x : gd} {P : Option gv → gd → Prop} {X : String → gd → Prop} (hq : kV q) 
    (h : KT G q (d + 6) zk_X7_sort 0 [(0, vr 100)] [] x (ri (fun r2 x1 => ((¬ (r2 = (3 : Int32)) → KT G q (d + 6) zk_X7_sort 0 [(0, vr 100)] [] x1 (ri (fun r5 x4 => ((¬ (r5 = (62 : Int32)) → KT G q (d + 6) zk_X7_knownFrom 0 [(0, vr 100), (1, vi 0), (2, vi (x4.1 100 4))] [] x4 (ri (fun r8 x7 => ((¬ (r8 = (-1 : Int32)) → KE G q (d + 7) zk_X7_readOperand 83 [(0, vr 100), (1, vi r8)] [vi 0, vi (x7.1 100 4), vr 42] x7 P X) ∧ (r8 = (-1 : Int32) → KE G q (d + 7) zk_X7_readOperand 83 [(0, vr 100), (1, vi r8)] [vi 3, vi (x7.1 100 4), vr 42] x7 P X))))) ∧ (r5 = (62 : Int32) → KT G q (d + 6) zk_X0_addPart 0 [(0, vr 60), (1, vi 3), (2, vi 0)] [] x4 (rv (fun x10 => KE G q (d + 7) zk_X7_readOperand 93 [(0, vr 100)] [] x10 P X))))))) ∧ (r2 = (3 : Int32) → vp_in (x1.1 100 4) 702 ∧ KT G q (d + 6) zk_X0_addPart 0 [(0, vr 60), (1, vi 1), (2, vi (x1.1 27 (x1.1 100 4 : Int32).toNatClampNeg))] [] x1 (rv (fun x12 => KE G q (d + 7) zk_X7_readOperand 93 [(0, vr 100)] [] x12 P X))))))) :
    KE G q (d + 7) zk_X7_readOperand 0 [(0, vr 100)] [] x P X := by
  refine T_aload_n 0 (dk dtk_X7_readOperand 0 rfl) rfl rfl ?_
  refine KC_Vi [] [] rfl (dk dtk_X7_readOperand 1 rfl) kcv_X7_71 rfl kk_100 rfl (kl_100 hq) (Nat.le_of_ble_eq_true rfl) (Nat.le_of_ble_eq_true rfl) (gok_i (av_c (gkr (kl_100 hq)) av_n) as_n) rfl h (fun r2 x1 h => ?_)
  refine T_iconst (v := 3) (dk dtk_X7_readOperand 2 rfl) (by decide +kernel) ?_
  refine T_icmp_ne 31 (dk dtk_X7_readOperand 3 rfl) (by decide) (fun c3 => ?_) (fun c3 => ?_)
  · have h := h.1 c3
    refine T_aload_n 0 (dk dtk_X7_readOperand 15 rfl) rfl rfl ?_
    refine KC_Vi [] [] rfl (dk dtk_X7_readOperand 16 rfl) kcv_X7_71 rfl kk_100 rfl (kl_100 hq) (Nat.le_of_ble_eq_true rfl) (Nat.le_of_ble_eq_true rfl) (gok_i (av_c (gkr (kl_100 hq)) av_n) as_n) rfl h (fun r5 x4 h => ?_)
    refine T_bipush (v := 62) (dk dtk_X7_readOperand 17 rfl) (by decide +kernel) ?_
    refine T_icmp_ne 52 (dk dtk_X7_readOperand 18 rfl) (by decide) (fun c6 => ?_) (fun c6 => ?_)
    · have h := h.1 c6
      refine T_aload_n 0 (dk dtk_X7_readOperand 25 rfl) rfl rfl ?_
      refine T_iconst (v := 0) (dk dtk_X7_readOperand 26 rfl) (by decide +kernel) ?_
      refine T_aload_n 0 (dk dtk_X7_readOperand 27 rfl) rfl rfl ?_
      refine T_getI 100 4 (dk dtk_X7_readOperand 28 rfl) kfl_X7_52 kk_100 (kl_100 hq) (by decide) rfl ?_
      refine KC_Vi [vi 0, vi (x4.1 100 4)] [] rfl (dk dtk_X7_readOperand 29 rfl) kcv_X7_266 rfl kk_100 rfl (kl_100 hq) (Nat.le_of_ble_eq_true rfl) (Nat.le_of_ble_eq_true rfl) (gok_i (av_c (gkr (kl_100 hq)) av_n) as_n) rfl h (fun r8 x7 h => ?_)
      refine T_istore_n (lv2 := [(1, vi r8), (0, vr 100)]) (dk dtk_X7_readOperand 30 rfl) rfl (by decide) rfl ?_
      refine T_aload_n 1 (dk dtk_X7_readOperand 31 rfl) rfl rfl ?_
      refine T_getR 100 1 40 (dk dtk_X7_readOperand 32 rfl) kfl_X7_15 kk_100 (kl_100 hq) (by decide) rfl kr_100_1 ?_
      refine T_getR 40 1 42 (dk dtk_X7_readOperand 33 rfl) kfl_X7_109 kk_40 (kl_40 hq) (by decide) rfl kr_40_1 ?_
      refine T_aload_n 1 (dk dtk_X7_readOperand 34 rfl) rfl rfl ?_
      refine T_getI 100 4 (dk dtk_X7_readOperand 35 rfl) kfl_X7_52 kk_100 (kl_100 hq) (by decide) rfl ?_
      refine T_iload_n 0 (dk dtk_X7_readOperand 36 rfl) rfl rfl ?_
      refine T_iconst (v := (-1)) (dk dtk_X7_readOperand 37 rfl) (by decide +kernel) ?_
      refine T_icmp_ne 82 (dk dtk_X7_readOperand 38 rfl) (by decide) (fun c9 => ?_) (fun c9 => ?_)
      · have h := h.1 c9
        refine T_iconst (v := 0) (dk dtk_X7_readOperand 41 rfl) (by decide +kernel) ?_
        exact T_sub [1, 0] rfl h
      · have h := h.2 c9
        refine T_iconst (v := 3) (dk dtk_X7_readOperand 39 rfl) (by decide +kernel) ?_
        refine T_goto 83 (dk dtk_X7_readOperand 40 rfl) (by decide) ?_
        exact T_sub [1, 0] rfl h
    · have h := h.2 c6
      refine T_aload_n 0 (dk dtk_X7_readOperand 19 rfl) rfl rfl ?_
      refine T_getR 100 2 60 (dk dtk_X7_readOperand 20 rfl) kfl_X7_19 kk_100 (kl_100 hq) (by decide) rfl kr_100_2 ?_
      refine T_iconst (v := 3) (dk dtk_X7_readOperand 21 rfl) (by decide +kernel) ?_
      refine T_iconst (v := 0) (dk dtk_X7_readOperand 22 rfl) (by decide +kernel) ?_
      refine KC_Vv [vi 3, vi 0] [] rfl (dk dtk_X7_readOperand 23 rfl) kcv_X7_316 rfl kk_60 rfl (kl_60 hq) (Nat.le_of_ble_eq_true rfl) (Nat.le_of_ble_eq_true rfl) (gok_i (av_c (gkr (kl_100 hq)) av_n) as_n) rfl h (fun x10 h => ?_)
      refine T_goto 93 (dk dtk_X7_readOperand 24 rfl) (by decide) ?_
      exact h
  · have h := h.2 c3
    refine T_aload_n 0 (dk dtk_X7_readOperand 4 rfl) rfl rfl ?_
    refine T_getR 100 2 60 (dk dtk_X7_readOperand 5 rfl) kfl_X7_19 kk_100 (kl_100 hq) (by decide) rfl kr_100_2 ?_
    refine T_iconst (v := 1) (dk dtk_X7_readOperand 6 rfl) (by decide +kernel) ?_
    refine T_aload_n 0 (dk dtk_X7_readOperand 7 rfl) rfl rfl ?_
    refine T_getR 100 0 20 (dk dtk_X7_readOperand 8 rfl) kfl_X7_11 kk_100 (kl_100 hq) (by decide) rfl kr_100_0 ?_
    refine T_getR 20 6 27 (dk dtk_X7_readOperand 9 rfl) kfl_X7_147 kk_20 (kl_20 hq) (by decide) rfl kr_20_6 ?_
    refine T_aload_n 0 (dk dtk_X7_readOperand 10 rfl) rfl rfl ?_
    refine T_getI 100 4 (dk dtk_X7_readOperand 11 rfl) kfl_X7_52 kk_100 (kl_100 hq) (by decide) rfl ?_
    obtain ⟨h11, h⟩ := h
    refine T_iald 27 702 (dk dtk_X7_readOperand 12 rfl) kk_27 (kl_27 hq) h11 ?_
    refine KC_Vv [vi 1, vi (x1.1 27 (x1.1 100 4 : Int32).toNatClampNeg)] [] rfl (dk dtk_X7_readOperand 13 rfl) kcv_X7_316 rfl kk_60 rfl (kl_60 hq) (Nat.le_of_ble_eq_true rfl) (Nat.le_of_ble_eq_true rfl) (gok_i (av_c (gkr (kl_100 hq)) av_n) as_n) rfl h (fun x12 h => ?_)
    refine T_goto 93 (dk dtk_X7_readOperand 14 rfl) (by decide) ?_
    exact h
set_option maxRecDepth 100000 in
set_option maxHeartbeats 4000000 in
theorem kg_X7_readOperand_83 {G : kG} {q : kP} {d : Nat} {x : gd} {P : Option gv → gd → Prop} {X : String → gd → Prop} (hq : kV q) (l1 : Int32) (s0 : Int32) (s1 : Int32)
    (h : vp_in s1 702 ∧ (∀ x2 : gd, x2 = si x 42 (s1 : Int32).toNatClampNeg s0 → KT G q (d + 6) zk_X0_addPart 0 [(0, vr 60), (1, vi 2), (2, vi l1)] [] x2 (rv (fun x3 => KE G q (d + 7) zk_X7_readOperand 93 [(0, vr 100)] [] x3 P X)))) :
    KE G q (d + 7) zk_X7_readOperand 83 [(0, vr 100), (1, vi l1)] [vi s0, vi s1, vr 42] x P X := by
  obtain ⟨h1, h⟩ := h
  obtain ⟨x2, ex2⟩ : ∃ z, z = si x 42 (s1 : Int32).toNatClampNeg s0 := ⟨_, rfl⟩
  have h := h x2 ex2
  refine T_iast 42 702 (dk dtk_X7_readOperand 42 rfl) kk_42 (kl_42 hq) h1 ?_
  rw [← ex2]
  refine T_aload_n 0 (dk dtk_X7_readOperand 43 rfl) rfl rfl ?_
  refine T_getR 100 2 60 (dk dtk_X7_readOperand 44 rfl) kfl_X7_19 kk_100 (kl_100 hq) (by decide) rfl kr_100_2 ?_
  refine T_iconst (v := 2) (dk dtk_X7_readOperand 45 rfl) (by decide +kernel) ?_
  refine T_iload_n 1 (dk dtk_X7_readOperand 46 rfl) rfl rfl ?_
  refine T_sub (lv2 := [(0, vr 100)]) [0] rfl ?_
  refine KC_Vv [vi 2, vi l1] [] rfl (dk dtk_X7_readOperand 47 rfl) kcv_X7_316 rfl kk_60 rfl (kl_60 hq) (Nat.le_of_ble_eq_true rfl) (Nat.le_of_ble_eq_true rfl) (gok_i (av_c (gkr (kl_100 hq)) av_n) as_n) rfl h (fun x3 h => ?_)
  exact h
set_option maxRecDepth 100000 in
set_option maxHeartbeats 4000000 in
theorem kg_X7_readOperand_93 {G : kG} {q : kP} {d : Nat} {x : gd} {P : Option gv → gd → Prop} {X : String → gd → Prop} (hq : kV q) 
    (h : KE G q (d + 6) zk_X7_pass 0 [(0, vr 100)] [] x (rv (fun x1 => P none x1)) X) :
    KE G q (d + 7) zk_X7_readOperand 93 [(0, vr 100)] [] x P X := by
  refine T_aload_n 0 (dk dtk_X7_readOperand 48 rfl) rfl rfl ?_
  refine T_sub (lv2 := []) [] rfl ?_
  refine KD_Vv [] [] rfl (dk dtk_X7_readOperand 49 rfl) kcv_X7_112 rfl kk_100 rfl (kl_100 hq) (Nat.le_of_ble_eq_true rfl) (Nat.le_of_ble_eq_true rfl) (gok_i av_n as_n) rfl h (fun x1 h => ?_)
  exact KE_vret (dk dtk_X7_readOperand 50 rfl) rfl h
end
section
set_option maxRecDepth 100000 in
theorem dtk_X7_claimedCell : dck cX7_claimedCell [(0, .aload_n 0, 1), (1, .invokevirtual 144, 3), (4, .bipush 25, 2), (6, .if_icmp .ne 7, 3), (9, .iconst 1, 1), (10, .goto 4, 3), (13, .iconst 0, 1), (14, .istore_n 1, 1), (15, .aload_n 0, 1), (16, .getfield 19, 3), (19, .bipush 6, 2), (21, .aload_n 0, 1), (22, .getfield 52, 3), (25, .invokevirtual 316, 3), (28, .aload_n 0, 1), (29, .getfield 15, 3), (32, .getfield 109, 3), (35, .aload_n 0, 1), (36, .getfield 52, 3), (39, .iload_n 1, 1), (40, .ifCond .eq 8, 3), (43, .bipush 7, 2), (45, .goto 5, 3), (48, .bipush 6, 2), (50, .iastore, 1), (51, .aload_n 0, 1), (52, .invokevirtual 112, 3), (55, .iload_n 1, 1), (56, .ifCond .eq 21, 3), (59, .aload_n 0, 1), (60, .invokevirtual 112, 3), (63, .aload_n 0, 1), (64, .iconst 3, 1), (65, .bipush 12, 2), (67, .invokevirtual 130, 3), (70, .pop, 1), (71, .aload_n 0, 1), (72, .bipush 26, 2), (74, .invokevirtual 115, 3), (77, .return_, 1)] = true := by decide +kernel
set_option maxRecDepth 100000 in
set_option maxHeartbeats 4000000 in
theorem kg_X7_claimedCell_0 {G : kG} {q : kP} {d : Nat} {x : gd} {P : Option gv → gd → Prop} {X : String → gd → Prop} (hq : kV q) 
    (h : KT G q (d + 6) zk_X7_sortBehind 0 [(0, vr 100)] [] x (ri (fun r2 x1 => ((¬ (r2 = (25 : Int32)) → KE G q (d + 7) zk_X7_claimedCell 14 [(0, vr 100)] [vi 0] x1 P X) ∧ (r2 = (25 : Int32) → KE G q (d + 7) zk_X7_claimedCell 14 [(0, vr 100)] [vi 1] x1 P X))))) :
    KE G q (d + 7) zk_X7_claimedCell 0 [(0, vr 100)] [] x P X := by
  refine T_aload_n 0 (dk dtk_X7_claimedCell 0 rfl) rfl rfl ?_
  refine KC_Vi [] [] rfl (dk dtk_X7_claimedCell 1 rfl) kcv_X7_144 rfl kk_100 rfl (kl_100 hq) (Nat.le_of_ble_eq_true rfl) (Nat.le_of_ble_eq_true rfl) (gok_i (av_c (gkr (kl_100 hq)) av_n) as_n) rfl h (fun r2 x1 h => ?_)
  refine T_bipush (v := 25) (dk dtk_X7_claimedCell 2 rfl) (by decide +kernel) ?_
  refine T_icmp_ne 13 (dk dtk_X7_claimedCell 3 rfl) (by decide) (fun c3 => ?_) (fun c3 => ?_)
  · have h := h.1 c3
    refine T_iconst (v := 0) (dk dtk_X7_claimedCell 6 rfl) (by decide +kernel) ?_
    exact h
  · have h := h.2 c3
    refine T_iconst (v := 1) (dk dtk_X7_claimedCell 4 rfl) (by decide +kernel) ?_
    refine T_goto 14 (dk dtk_X7_claimedCell 5 rfl) (by decide) ?_
    exact h
set_option maxRecDepth 100000 in
set_option maxHeartbeats 4000000 in
theorem kg_X7_claimedCell_14 {G : kG} {q : kP} {d : Nat} {x : gd} {P : Option gv → gd → Prop} {X : String → gd → Prop} (hq : kV q) (s0 : Int32)
    (h : KT G q (d + 6) zk_X0_addPart 0 [(0, vr 60), (1, vi 6), (2, vi (x.1 100 4))] [] x (rv (fun x1 => ((s0 = (0 : Int32) → KE G q (d + 7) zk_X7_claimedCell 50 [(0, vr 100), (1, vi s0)] [vi 6, vi (x1.1 100 4), vr 42] x1 P X) ∧ (¬ (s0 = (0 : Int32)) → KE G q (d + 7) zk_X7_claimedCell 50 [(0, vr 100), (1, vi s0)] [vi 7, vi (x1.1 100 4), vr 42] x1 P X))))) :
    KE G q (d + 7) zk_X7_claimedCell 14 [(0, vr 100)] [vi s0] x P X := by
  refine T_istore_n (lv2 := [(1, vi s0), (0, vr 100)]) (dk dtk_X7_claimedCell 7 rfl) rfl (by decide) rfl ?_
  refine T_aload_n 1 (dk dtk_X7_claimedCell 8 rfl) rfl rfl ?_
  refine T_getR 100 2 60 (dk dtk_X7_claimedCell 9 rfl) kfl_X7_19 kk_100 (kl_100 hq) (by decide) rfl kr_100_2 ?_
  refine T_bipush (v := 6) (dk dtk_X7_claimedCell 10 rfl) (by decide +kernel) ?_
  refine T_aload_n 1 (dk dtk_X7_claimedCell 11 rfl) rfl rfl ?_
  refine T_getI 100 4 (dk dtk_X7_claimedCell 12 rfl) kfl_X7_52 kk_100 (kl_100 hq) (by decide) rfl ?_
  refine KC_Vv [vi 6, vi (x.1 100 4)] [] rfl (dk dtk_X7_claimedCell 13 rfl) kcv_X7_316 rfl kk_60 rfl (kl_60 hq) (Nat.le_of_ble_eq_true rfl) (Nat.le_of_ble_eq_true rfl) (gok_i (av_c rfl (av_c (gkr (kl_100 hq)) av_n)) as_n) rfl h (fun x1 h => ?_)
  refine T_aload_n 1 (dk dtk_X7_claimedCell 14 rfl) rfl rfl ?_
  refine T_getR 100 1 40 (dk dtk_X7_claimedCell 15 rfl) kfl_X7_15 kk_100 (kl_100 hq) (by decide) rfl kr_100_1 ?_
  refine T_getR 40 1 42 (dk dtk_X7_claimedCell 16 rfl) kfl_X7_109 kk_40 (kl_40 hq) (by decide) rfl kr_40_1 ?_
  refine T_aload_n 1 (dk dtk_X7_claimedCell 17 rfl) rfl rfl ?_
  refine T_getI 100 4 (dk dtk_X7_claimedCell 18 rfl) kfl_X7_52 kk_100 (kl_100 hq) (by decide) rfl ?_
  refine T_iload_n 0 (dk dtk_X7_claimedCell 19 rfl) rfl rfl ?_
  refine T_if_eq 48 (dk dtk_X7_claimedCell 20 rfl) (by decide) (fun c2 => ?_) (fun c2 => ?_)
  · have h := h.1 c2
    refine T_bipush (v := 6) (dk dtk_X7_claimedCell 23 rfl) (by decide +kernel) ?_
    exact T_sub [1, 0] rfl h
  · have h := h.2 c2
    refine T_bipush (v := 7) (dk dtk_X7_claimedCell 21 rfl) (by decide +kernel) ?_
    refine T_goto 50 (dk dtk_X7_claimedCell 22 rfl) (by decide) ?_
    exact T_sub [1, 0] rfl h
set_option maxRecDepth 100000 in
set_option maxHeartbeats 4000000 in
theorem kg_X7_claimedCell_50 {G : kG} {q : kP} {d : Nat} {x : gd} {P : Option gv → gd → Prop} {X : String → gd → Prop} (hq : kV q) (l1 : Int32) (s0 : Int32) (s1 : Int32)
    (h : vp_in s1 702 ∧ (∀ x2 : gd, x2 = si x 42 (s1 : Int32).toNatClampNeg s0 → KE G q (d + 6) zk_X7_pass 0 [(0, vr 100)] [] x2 (rv (fun x3 => ((l1 = (0 : Int32) → P none x3) ∧ (¬ (l1 = (0 : Int32)) → KE G q (d + 6) zk_X7_pass 0 [(0, vr 100)] [] x3 (rv (fun x5 => KE G q (d + 6) zk_X7_needFor 0 [(0, vr 100), (1, vi 3), (2, vi 12)] [] x5 (ri (fun r7 x6 => KE G q (d + 6) zk_X7_need 0 [(0, vr 100), (1, vi 26)] [] x6 (rv (fun x8 => P none x8)) X)) X)) X)))) X)) :
    KE G q (d + 7) zk_X7_claimedCell 50 [(0, vr 100), (1, vi l1)] [vi s0, vi s1, vr 42] x P X := by
  obtain ⟨h1, h⟩ := h
  obtain ⟨x2, ex2⟩ : ∃ z, z = si x 42 (s1 : Int32).toNatClampNeg s0 := ⟨_, rfl⟩
  have h := h x2 ex2
  refine T_iast 42 702 (dk dtk_X7_claimedCell 24 rfl) kk_42 (kl_42 hq) h1 ?_
  rw [← ex2]
  refine T_aload_n 0 (dk dtk_X7_claimedCell 25 rfl) rfl rfl ?_
  refine KD_Vv [] [] rfl (dk dtk_X7_claimedCell 26 rfl) kcv_X7_112 rfl kk_100 rfl (kl_100 hq) (Nat.le_of_ble_eq_true rfl) (Nat.le_of_ble_eq_true rfl) (gok_i (av_c (gkr (kl_100 hq)) (av_c rfl av_n)) as_n) rfl h (fun x3 h => ?_)
  refine T_iload_n 1 (dk dtk_X7_claimedCell 27 rfl) rfl rfl ?_
  refine T_if_eq 77 (dk dtk_X7_claimedCell 28 rfl) (by decide) (fun c4 => ?_) (fun c4 => ?_)
  · have h := h.1 c4
    exact KE_vret (dk dtk_X7_claimedCell 39 rfl) rfl h
  · have h := h.2 c4
    refine T_aload_n 0 (dk dtk_X7_claimedCell 29 rfl) rfl rfl ?_
    refine T_sub (lv2 := [(0, vr 100)]) [0] rfl ?_
    refine KD_Vv [] [] rfl (dk dtk_X7_claimedCell 30 rfl) kcv_X7_112 rfl kk_100 rfl (kl_100 hq) (Nat.le_of_ble_eq_true rfl) (Nat.le_of_ble_eq_true rfl) (gok_i (av_c (gkr (kl_100 hq)) av_n) as_n) rfl h (fun x5 h => ?_)
    refine T_aload_n 0 (dk dtk_X7_claimedCell 31 rfl) rfl rfl ?_
    refine T_iconst (v := 3) (dk dtk_X7_claimedCell 32 rfl) (by decide +kernel) ?_
    refine T_bipush (v := 12) (dk dtk_X7_claimedCell 33 rfl) (by decide +kernel) ?_
    refine KD_Vi [vi 3, vi 12] [] rfl (dk dtk_X7_claimedCell 34 rfl) kcv_X7_130 rfl kk_100 rfl (kl_100 hq) (Nat.le_of_ble_eq_true rfl) (Nat.le_of_ble_eq_true rfl) (gok_i (av_c (gkr (kl_100 hq)) av_n) as_n) rfl h (fun r7 x6 h => ?_)
    refine T_pop (dk dtk_X7_claimedCell 35 rfl) rfl ?_
    refine T_aload_n 0 (dk dtk_X7_claimedCell 36 rfl) rfl rfl ?_
    refine T_bipush (v := 26) (dk dtk_X7_claimedCell 37 rfl) (by decide +kernel) ?_
    refine T_sub (lv2 := []) [] rfl ?_
    refine KD_Vv [vi 26] [] rfl (dk dtk_X7_claimedCell 38 rfl) kcv_X7_115 rfl kk_100 rfl (kl_100 hq) (Nat.le_of_ble_eq_true rfl) (Nat.le_of_ble_eq_true rfl) (gok_i av_n as_n) rfl h (fun x8 h => ?_)
    exact KE_vret (dk dtk_X7_claimedCell 39 rfl) rfl h
set_option maxRecDepth 100000 in
theorem dtk_X7_link : dck cX7_link [(0, .iconst 0, 1), (1, .istore_n 1, 1), (2, .iload_n 1, 1), (3, .aload_n 0, 1), (4, .getfield 29, 3), (7, .getfield 173, 3), (10, .if_icmp .ge 122, 3), (13, .aload_n 0, 1), (14, .getfield 29, 3), (17, .getfield 220, 3), (20, .iload_n 1, 1), (21, .iaload, 1), (22, .istore_n 2, 1), (23, .iload_n 2, 1), (24, .iconst (-1), 1), (25, .if_icmp .eq 101, 3), (28, .aload_n 0, 1), (29, .getfield 29, 3), (32, .getfield 322, 3), (35, .iload_n 1, 1), (36, .iaload, 1), (37, .bipush 10, 2), (39, .if_icmp .gt 87, 3), (42, .aload_n 0, 1), (43, .getfield 15, 3), (46, .getfield 254, 3), (49, .iload_n 2, 1), (50, .iaload, 1), (51, .istore_n 3, 1), (52, .aload_n 0, 1), (53, .getfield 29, 3), (56, .getfield 322, 3), (59, .iload_n 1, 1), (60, .iaload, 1), (61, .iconst 4, 1), (62, .if_icmp .gt 7, 3), (65, .iconst 1, 1), (66, .goto 4, 3), (69, .iconst 0, 1), (70, .istore 4, 2), (72, .aload_n 0, 1), (73, .getfield 29, 3), (76, .getfield 220, 3), (79, .iload_n 1, 1), (80, .iload 4, 2), (82, .ifCond .eq 15, 3), (85, .aload_n 0, 1), (86, .getfield 15, 3), (89, .getfield 325, 3), (92, .iload_n 3, 1), (93, .iaload, 1), (94, .goto 4, 3), (97, .iload_n 3, 1), (98, .iastore, 1), (99, .aload_n 0, 1), (100, .getfield 29, 3), (103, .getfield 328, 3), (106, .iload_n 1, 1), (107, .iload 4, 2), (109, .ifCond .eq 15, 3), (112, .aload_n 0, 1), (113, .getfield 15, 3), (116, .getfield 331, 3), (119, .iload_n 3, 1), (120, .iaload, 1), (121, .goto 4, 3), (124, .iconst 0, 1), (125, .iastore, 1), (126, .iinc 1 1, 3), (129, .goto (-127), 3), (132, .iconst 0, 1), (133, .istore_n 1, 1), (134, .iload_n 1, 1), (135, .aload_n 0, 1), (136, .getfield 19, 3), (139, .getfield 289, 3), (142, .if_icmp .ge 101, 3), (145, .aload_n 0, 1), (146, .getfield 19, 3), (149, .getfield 334, 3), (152, .iload_n 1, 1), (153, .iaload, 1), (154, .istore_n 2, 1), (155, .aload_n 0, 1), (156, .getfield 19, 3), (159, .getfield 337, 3), (162, .iload_n 1, 1), (163, .iaload, 1), (164, .bipush 6, 2), (166, .if_icmp .ne 71, 3), (169, .aload_n 0, 1), (170, .getfield 15, 3), (173, .getfield 109, 3), (176, .iload_n 2, 1), (177, .iaload, 1), (178, .bipush 7, 2), (180, .if_icmp .ne 17, 3), (183, .aload_n 0, 1), (184, .getfield 11, 3), (187, .getfield 147, 3), (190, .iload_n 2, 1), (191, .iconst 2, 1), (192, .iadd, 1), (193, .iaload, 1), (194, .goto 4, 3), (197, .iconst 0, 1), (198, .istore_n 3, 1), (199, .aload_n 0, 1), (200, .getfield 19, 3), (203, .getfield 337, 3), (206, .iload_n 1, 1), (207, .iconst 2, 1), (208, .iastore, 1), (209, .aload_n 0, 1), (210, .getfield 19, 3), (213, .getfield 334, 3), (216, .iload_n 1, 1), (217, .aload_n 0, 1), (218, .getfield 15, 3), (221, .getfield 325, 3), (224, .aload_n 0, 1), (225, .getfield 15, 3), (228, .getfield 254, 3), (231, .iload_n 2, 1), (232, .iaload, 1), (233, .iaload, 1), (234, .iload_n 3, 1), (235, .iadd, 1), (236, .iastore, 1), (237, .iinc 1 1, 3), (240, .goto (-106), 3), (243, .return_, 1)] = true := by decide +kernel
set_option maxRecDepth 100000 in
set_option maxHeartbeats 4000000 in
theorem kg_X7_link_0 {G : kG} {q : kP} {d : Nat} {x : gd} {P : Option gv → gd → Prop} (hq : kV q) 
    (h : KT G q d zk_X7_link 2 [(0, vr 100), (1, vi 0)] [] x P) :
    KT G q d zk_X7_link 0 [(0, vr 100)] [] x P := by
  refine T_iconst (v := 0) (dk dtk_X7_link 0 rfl) (by decide +kernel) ?_
  refine T_istore_n (lv2 := [(1, vi 0), (0, vr 100)]) (dk dtk_X7_link 1 rfl) rfl (by decide) rfl ?_
  exact T_sub [1, 0] rfl h
set_option maxRecDepth 100000 in
set_option maxHeartbeats 4000000 in
theorem kg_X7_link_2 {G : kG} {q : kP} {d : Nat} {x : gd} {P : Option gv → gd → Prop} (hq : kV q) (l1 : Int32)
    (h : (((x.1 80 9) ≤ l1 → KT G q d zk_X7_link 134 [(0, vr 100), (1, vi 0)] [] x P) ∧ (¬ ((x.1 80 9) ≤ l1) → vp_in l1 400 ∧ (((x.1 85 (l1 : Int32).toNatClampNeg) = (-1 : Int32) → KT G q d zk_X7_link 2 [(0, vr 100), (1, vi (l1 + 1))] [] x P) ∧ (¬ ((x.1 85 (l1 : Int32).toNatClampNeg) = (-1 : Int32)) → vp_in l1 400 ∧ (((10 : Int32) < (x.1 81 (l1 : Int32).toNatClampNeg) → KT G q d zk_X7_link 2 [(0, vr 100), (1, vi (l1 + 1))] [] x P) ∧ (¬ ((10 : Int32) < (x.1 81 (l1 : Int32).toNatClampNeg)) → vp_in (x.1 85 (l1 : Int32).toNatClampNeg) 702 ∧ vp_in l1 400 ∧ (((4 : Int32) < (x.1 81 (l1 : Int32).toNatClampNeg) → KT G q d zk_X7_link 70 [(0, vr 100), (1, vi l1), (3, vi (x.1 43 (x.1 85 (l1 : Int32).toNatClampNeg : Int32).toNatClampNeg))] [vi 0] x P) ∧ (¬ ((4 : Int32) < (x.1 81 (l1 : Int32).toNatClampNeg)) → KT G q d zk_X7_link 70 [(0, vr 100), (1, vi l1), (3, vi (x.1 43 (x.1 85 (l1 : Int32).toNatClampNeg : Int32).toNatClampNeg))] [vi 1] x P))))))))) :
    KT G q d zk_X7_link 2 [(0, vr 100), (1, vi l1)] [] x P := by
  refine T_iload_n 1 (dk dtk_X7_link 2 rfl) rfl rfl ?_
  refine T_aload_n 0 (dk dtk_X7_link 3 rfl) rfl rfl ?_
  refine T_getR 100 3 80 (dk dtk_X7_link 4 rfl) kfl_X7_29 kk_100 (kl_100 hq) (by decide) rfl kr_100_3 ?_
  refine T_getI 80 9 (dk dtk_X7_link 5 rfl) kfl_X7_173 kk_80 (kl_80 hq) (by decide) rfl ?_
  refine T_icmp_ge 132 (dk dtk_X7_link 6 rfl) (by decide) (fun c1 => ?_) (fun c1 => ?_)
  · have h := h.1 c1
    refine T_iconst (v := 0) (dk dtk_X7_link 70 rfl) (by decide +kernel) ?_
    refine T_istore_n (lv2 := [(1, vi 0), (0, vr 100)]) (dk dtk_X7_link 71 rfl) rfl (by decide) rfl ?_
    exact T_sub [1, 0] rfl h
  · have h := h.2 c1
    refine T_aload_n 0 (dk dtk_X7_link 7 rfl) rfl rfl ?_
    refine T_getR 100 3 80 (dk dtk_X7_link 8 rfl) kfl_X7_29 kk_100 (kl_100 hq) (by decide) rfl kr_100_3 ?_
    refine T_getR 80 4 85 (dk dtk_X7_link 9 rfl) kfl_X7_220 kk_80 (kl_80 hq) (by decide) rfl kr_80_4 ?_
    refine T_iload_n 1 (dk dtk_X7_link 10 rfl) rfl rfl ?_
    obtain ⟨h2, h⟩ := h
    refine T_iald 85 400 (dk dtk_X7_link 11 rfl) kk_85 (kl_85 hq) h2 ?_
    refine T_istore_n (lv2 := [(2, vi (x.1 85 (l1 : Int32).toNatClampNeg)), (0, vr 100), (1, vi l1)]) (dk dtk_X7_link 12 rfl) rfl (by decide) rfl ?_
    refine T_iload_n 0 (dk dtk_X7_link 13 rfl) rfl rfl ?_
    refine T_iconst (v := (-1)) (dk dtk_X7_link 14 rfl) (by decide +kernel) ?_
    refine T_icmp_eq 126 (dk dtk_X7_link 15 rfl) (by decide) (fun c3 => ?_) (fun c3 => ?_)
    · have h := h.1 c3
      refine T_iinc (v := l1 + 1) (lv2 := [(1, vi (l1 + 1)), (2, vi (x.1 85 (l1 : Int32).toNatClampNeg)), (0, vr 100)]) 2 (dk dtk_X7_link 68 rfl) rfl rfl (by decide) rfl ?_
      refine T_goto 2 (dk dtk_X7_link 69 rfl) (by decide) ?_
      exact T_sub [2, 0] rfl h
    · have h := h.2 c3
      refine T_aload_n 1 (dk dtk_X7_link 16 rfl) rfl rfl ?_
      refine T_getR 100 3 80 (dk dtk_X7_link 17 rfl) kfl_X7_29 kk_100 (kl_100 hq) (by decide) rfl kr_100_3 ?_
      refine T_getR 80 0 81 (dk dtk_X7_link 18 rfl) kfl_X7_322 kk_80 (kl_80 hq) (by decide) rfl kr_80_0 ?_
      refine T_iload_n 2 (dk dtk_X7_link 19 rfl) rfl rfl ?_
      obtain ⟨h4, h⟩ := h
      refine T_iald 81 400 (dk dtk_X7_link 20 rfl) kk_81 (kl_81 hq) h4 ?_
      refine T_bipush (v := 10) (dk dtk_X7_link 21 rfl) (by decide +kernel) ?_
      refine T_icmp_gt 126 (dk dtk_X7_link 22 rfl) (by decide) (fun c5 => ?_) (fun c5 => ?_)
      · have h := h.1 c5
        refine T_iinc (v := l1 + 1) (lv2 := [(1, vi (l1 + 1)), (2, vi (x.1 85 (l1 : Int32).toNatClampNeg)), (0, vr 100)]) 2 (dk dtk_X7_link 68 rfl) rfl rfl (by decide) rfl ?_
        refine T_goto 2 (dk dtk_X7_link 69 rfl) (by decide) ?_
        exact T_sub [2, 0] rfl h
      · have h := h.2 c5
        refine T_aload_n 1 (dk dtk_X7_link 23 rfl) rfl rfl ?_
        refine T_getR 100 1 40 (dk dtk_X7_link 24 rfl) kfl_X7_15 kk_100 (kl_100 hq) (by decide) rfl kr_100_1 ?_
        refine T_getR 40 2 43 (dk dtk_X7_link 25 rfl) kfl_X7_254 kk_40 (kl_40 hq) (by decide) rfl kr_40_2 ?_
        refine T_iload_n 0 (dk dtk_X7_link 26 rfl) rfl rfl ?_
        obtain ⟨h6, h⟩ := h
        refine T_iald 43 702 (dk dtk_X7_link 27 rfl) kk_43 (kl_43 hq) h6 ?_
        refine T_istore_n (lv2 := [(3, vi (x.1 43 (x.1 85 (l1 : Int32).toNatClampNeg : Int32).toNatClampNeg)), (2, vi (x.1 85 (l1 : Int32).toNatClampNeg)), (0, vr 100), (1, vi l1)]) (dk dtk_X7_link 28 rfl) rfl (by decide) rfl ?_
        refine T_aload_n 2 (dk dtk_X7_link 29 rfl) rfl rfl ?_
        refine T_getR 100 3 80 (dk dtk_X7_link 30 rfl) kfl_X7_29 kk_100 (kl_100 hq) (by decide) rfl kr_100_3 ?_
        refine T_getR 80 0 81 (dk dtk_X7_link 31 rfl) kfl_X7_322 kk_80 (kl_80 hq) (by decide) rfl kr_80_0 ?_
        refine T_iload_n 3 (dk dtk_X7_link 32 rfl) rfl rfl ?_
        obtain ⟨h7, h⟩ := h
        refine T_iald 81 400 (dk dtk_X7_link 33 rfl) kk_81 (kl_81 hq) h7 ?_
        refine T_iconst (v := 4) (dk dtk_X7_link 34 rfl) (by decide +kernel) ?_
        refine T_icmp_gt 69 (dk dtk_X7_link 35 rfl) (by decide) (fun c8 => ?_) (fun c8 => ?_)
        · have h := h.1 c8
          refine T_iconst (v := 0) (dk dtk_X7_link 38 rfl) (by decide +kernel) ?_
          exact T_sub [2, 3, 0] rfl h
        · have h := h.2 c8
          refine T_iconst (v := 1) (dk dtk_X7_link 36 rfl) (by decide +kernel) ?_
          refine T_goto 70 (dk dtk_X7_link 37 rfl) (by decide) ?_
          exact T_sub [2, 3, 0] rfl h
set_option maxRecDepth 100000 in
set_option maxHeartbeats 4000000 in
theorem kg_X7_link_70 {G : kG} {q : kP} {d : Nat} {x : gd} {P : Option gv → gd → Prop} (hq : kV q) (l1 : Int32) (l3 : Int32) (s0 : Int32)
    (h : ((s0 = (0 : Int32) → KT G q d zk_X7_link 98 [(0, vr 100), (1, vi l1), (3, vi l3), (4, vi s0)] [vi l3, vi l1, vr 85] x P) ∧ (¬ (s0 = (0 : Int32)) → vp_in l3 24 ∧ KT G q d zk_X7_link 98 [(0, vr 100), (1, vi l1), (3, vi l3), (4, vi s0)] [vi (x.1 45 (l3 : Int32).toNatClampNeg), vi l1, vr 85] x P))) :
    KT G q d zk_X7_link 70 [(0, vr 100), (1, vi l1), (3, vi l3)] [vi s0] x P := by
  refine T_istore (lv2 := [(4, vi s0), (0, vr 100), (1, vi l1), (3, vi l3)]) (dk dtk_X7_link 39 rfl) (by decide) rfl ?_
  refine T_aload_n 1 (dk dtk_X7_link 40 rfl) rfl rfl ?_
  refine T_getR 100 3 80 (dk dtk_X7_link 41 rfl) kfl_X7_29 kk_100 (kl_100 hq) (by decide) rfl kr_100_3 ?_
  refine T_getR 80 4 85 (dk dtk_X7_link 42 rfl) kfl_X7_220 kk_80 (kl_80 hq) (by decide) rfl kr_80_4 ?_
  refine T_iload_n 2 (dk dtk_X7_link 43 rfl) rfl rfl ?_
  refine T_iload 0 (dk dtk_X7_link 44 rfl) rfl ?_
  refine T_if_eq 97 (dk dtk_X7_link 45 rfl) (by decide) (fun c1 => ?_) (fun c1 => ?_)
  · have h := h.1 c1
    refine T_iload_n 3 (dk dtk_X7_link 52 rfl) rfl rfl ?_
    exact T_sub [1, 2, 3, 0] rfl h
  · have h := h.2 c1
    refine T_aload_n 1 (dk dtk_X7_link 46 rfl) rfl rfl ?_
    refine T_getR 100 1 40 (dk dtk_X7_link 47 rfl) kfl_X7_15 kk_100 (kl_100 hq) (by decide) rfl kr_100_1 ?_
    refine T_getR 40 4 45 (dk dtk_X7_link 48 rfl) kfl_X7_325 kk_40 (kl_40 hq) (by decide) rfl kr_40_4 ?_
    refine T_iload_n 3 (dk dtk_X7_link 49 rfl) rfl rfl ?_
    obtain ⟨h2, h⟩ := h
    refine T_iald 45 24 (dk dtk_X7_link 50 rfl) kk_45 (kl_45 hq) h2 ?_
    refine T_goto 98 (dk dtk_X7_link 51 rfl) (by decide) ?_
    exact T_sub [1, 2, 3, 0] rfl h
set_option maxRecDepth 100000 in
set_option maxHeartbeats 4000000 in
theorem kg_X7_link_98 {G : kG} {q : kP} {d : Nat} {x : gd} {P : Option gv → gd → Prop} (hq : kV q) (l1 : Int32) (l3 : Int32) (l4 : Int32) (s0 : Int32) (s1 : Int32)
    (h : vp_in s1 400 ∧ (∀ x2 : gd, x2 = si x 85 (s1 : Int32).toNatClampNeg s0 → ((l4 = (0 : Int32) → vp_in l1 400 ∧ (∀ x5 : gd, x5 = si x2 86 (l1 : Int32).toNatClampNeg 0 → KT G q d zk_X7_link 2 [(0, vr 100), (1, vi (l1 + 1))] [] x5 P)) ∧ (¬ (l4 = (0 : Int32)) → vp_in l3 24 ∧ vp_in l1 400 ∧ (∀ x8 : gd, x8 = si x2 86 (l1 : Int32).toNatClampNeg (x2.1 46 (l3 : Int32).toNatClampNeg) → KT G q d zk_X7_link 2 [(0, vr 100), (1, vi (l1 + 1))] [] x8 P))))) :
    KT G q d zk_X7_link 98 [(0, vr 100), (1, vi l1), (3, vi l3), (4, vi l4)] [vi s0, vi s1, vr 85] x P := by
  obtain ⟨h1, h⟩ := h
  obtain ⟨x2, ex2⟩ : ∃ z, z = si x 85 (s1 : Int32).toNatClampNeg s0 := ⟨_, rfl⟩
  have h := h x2 ex2
  refine T_iast 85 400 (dk dtk_X7_link 53 rfl) kk_85 (kl_85 hq) h1 ?_
  rw [← ex2]
  refine T_aload_n 0 (dk dtk_X7_link 54 rfl) rfl rfl ?_
  refine T_getR 100 3 80 (dk dtk_X7_link 55 rfl) kfl_X7_29 kk_100 (kl_100 hq) (by decide) rfl kr_100_3 ?_
  refine T_getR 80 5 86 (dk dtk_X7_link 56 rfl) kfl_X7_328 kk_80 (kl_80 hq) (by decide) rfl kr_80_5 ?_
  refine T_iload_n 1 (dk dtk_X7_link 57 rfl) rfl rfl ?_
  refine T_iload 3 (dk dtk_X7_link 58 rfl) rfl ?_
  refine T_if_eq 124 (dk dtk_X7_link 59 rfl) (by decide) (fun c3 => ?_) (fun c3 => ?_)
  · have h := h.1 c3
    refine T_iconst (v := 0) (dk dtk_X7_link 66 rfl) (by decide +kernel) ?_
    obtain ⟨h4, h⟩ := h
    obtain ⟨x5, ex5⟩ : ∃ z, z = si x2 86 (l1 : Int32).toNatClampNeg 0 := ⟨_, rfl⟩
    have h := h x5 ex5
    refine T_iast 86 400 (dk dtk_X7_link 67 rfl) kk_86 (kl_86 hq) h4 ?_
    rw [← ex5]
    refine T_iinc (v := l1 + 1) (lv2 := [(1, vi (l1 + 1)), (0, vr 100), (3, vi l3), (4, vi l4)]) 1 (dk dtk_X7_link 68 rfl) rfl rfl (by decide) rfl ?_
    refine T_goto 2 (dk dtk_X7_link 69 rfl) (by decide) ?_
    exact T_sub [1, 0] rfl h
  · have h := h.2 c3
    refine T_aload_n 0 (dk dtk_X7_link 60 rfl) rfl rfl ?_
    refine T_getR 100 1 40 (dk dtk_X7_link 61 rfl) kfl_X7_15 kk_100 (kl_100 hq) (by decide) rfl kr_100_1 ?_
    refine T_getR 40 5 46 (dk dtk_X7_link 62 rfl) kfl_X7_331 kk_40 (kl_40 hq) (by decide) rfl kr_40_5 ?_
    refine T_iload_n 2 (dk dtk_X7_link 63 rfl) rfl rfl ?_
    obtain ⟨h6, h⟩ := h
    refine T_iald 46 24 (dk dtk_X7_link 64 rfl) kk_46 (kl_46 hq) h6 ?_
    refine T_goto 125 (dk dtk_X7_link 65 rfl) (by decide) ?_
    obtain ⟨h7, h⟩ := h
    obtain ⟨x8, ex8⟩ : ∃ z, z = si x2 86 (l1 : Int32).toNatClampNeg (x2.1 46 (l3 : Int32).toNatClampNeg) := ⟨_, rfl⟩
    have h := h x8 ex8
    refine T_iast 86 400 (dk dtk_X7_link 67 rfl) kk_86 (kl_86 hq) h7 ?_
    rw [← ex8]
    refine T_iinc (v := l1 + 1) (lv2 := [(1, vi (l1 + 1)), (0, vr 100), (3, vi l3), (4, vi l4)]) 1 (dk dtk_X7_link 68 rfl) rfl rfl (by decide) rfl ?_
    refine T_goto 2 (dk dtk_X7_link 69 rfl) (by decide) ?_
    exact T_sub [1, 0] rfl h
set_option maxRecDepth 100000 in
set_option maxHeartbeats 4000000 in
theorem kg_X7_link_134 {G : kG} {q : kP} {d : Nat} {x : gd} {P : Option gv → gd → Prop} (hq : kV q) (l1 : Int32)
    (h : (((x.1 60 3) ≤ l1 → P none x) ∧ (¬ ((x.1 60 3) ≤ l1) → vp_in l1 800 ∧ vp_in l1 800 ∧ ((¬ ((x.1 62 (l1 : Int32).toNatClampNeg) = (6 : Int32)) → KT G q d zk_X7_link 134 [(0, vr 100), (1, vi (l1 + 1))] [] x P) ∧ ((x.1 62 (l1 : Int32).toNatClampNeg) = (6 : Int32) → vp_in (x.1 63 (l1 : Int32).toNatClampNeg) 702 ∧ ((¬ ((x.1 42 (x.1 63 (l1 : Int32).toNatClampNeg : Int32).toNatClampNeg) = (7 : Int32)) → KT G q d zk_X7_link 198 [(0, vr 100), (1, vi l1), (2, vi (x.1 63 (l1 : Int32).toNatClampNeg))] [vi 0] x P) ∧ ((x.1 42 (x.1 63 (l1 : Int32).toNatClampNeg : Int32).toNatClampNeg) = (7 : Int32) → vp_in ((x.1 63 (l1 : Int32).toNatClampNeg) + 2) 702 ∧ KT G q d zk_X7_link 198 [(0, vr 100), (1, vi l1), (2, vi (x.1 63 (l1 : Int32).toNatClampNeg))] [vi (x.1 27 ((x.1 63 (l1 : Int32).toNatClampNeg) + 2 : Int32).toNatClampNeg)] x P))))))) :
    KT G q d zk_X7_link 134 [(0, vr 100), (1, vi l1)] [] x P := by
  refine T_iload_n 1 (dk dtk_X7_link 72 rfl) rfl rfl ?_
  refine T_aload_n 0 (dk dtk_X7_link 73 rfl) rfl rfl ?_
  refine T_getR 100 2 60 (dk dtk_X7_link 74 rfl) kfl_X7_19 kk_100 (kl_100 hq) (by decide) rfl kr_100_2 ?_
  refine T_getI 60 3 (dk dtk_X7_link 75 rfl) kfl_X7_289 kk_60 (kl_60 hq) (by decide) rfl ?_
  refine T_icmp_ge 243 (dk dtk_X7_link 76 rfl) (by decide) (fun c1 => ?_) (fun c1 => ?_)
  · have h := h.1 c1
    exact KT_vret (dk dtk_X7_link 131 rfl) rfl h
  · have h := h.2 c1
    refine T_aload_n 0 (dk dtk_X7_link 77 rfl) rfl rfl ?_
    refine T_getR 100 2 60 (dk dtk_X7_link 78 rfl) kfl_X7_19 kk_100 (kl_100 hq) (by decide) rfl kr_100_2 ?_
    refine T_getR 60 2 63 (dk dtk_X7_link 79 rfl) kfl_X7_334 kk_60 (kl_60 hq) (by decide) rfl kr_60_2 ?_
    refine T_iload_n 1 (dk dtk_X7_link 80 rfl) rfl rfl ?_
    obtain ⟨h2, h⟩ := h
    refine T_iald 63 800 (dk dtk_X7_link 81 rfl) kk_63 (kl_63 hq) h2 ?_
    refine T_istore_n (lv2 := [(2, vi (x.1 63 (l1 : Int32).toNatClampNeg)), (0, vr 100), (1, vi l1)]) (dk dtk_X7_link 82 rfl) rfl (by decide) rfl ?_
    refine T_aload_n 1 (dk dtk_X7_link 83 rfl) rfl rfl ?_
    refine T_getR 100 2 60 (dk dtk_X7_link 84 rfl) kfl_X7_19 kk_100 (kl_100 hq) (by decide) rfl kr_100_2 ?_
    refine T_getR 60 1 62 (dk dtk_X7_link 85 rfl) kfl_X7_337 kk_60 (kl_60 hq) (by decide) rfl kr_60_1 ?_
    refine T_iload_n 2 (dk dtk_X7_link 86 rfl) rfl rfl ?_
    obtain ⟨h3, h⟩ := h
    refine T_iald 62 800 (dk dtk_X7_link 87 rfl) kk_62 (kl_62 hq) h3 ?_
    refine T_bipush (v := 6) (dk dtk_X7_link 88 rfl) (by decide +kernel) ?_
    refine T_icmp_ne 237 (dk dtk_X7_link 89 rfl) (by decide) (fun c4 => ?_) (fun c4 => ?_)
    · have h := h.1 c4
      refine T_iinc (v := l1 + 1) (lv2 := [(1, vi (l1 + 1)), (2, vi (x.1 63 (l1 : Int32).toNatClampNeg)), (0, vr 100)]) 2 (dk dtk_X7_link 129 rfl) rfl rfl (by decide) rfl ?_
      refine T_goto 134 (dk dtk_X7_link 130 rfl) (by decide) ?_
      exact T_sub [2, 0] rfl h
    · have h := h.2 c4
      refine T_aload_n 1 (dk dtk_X7_link 90 rfl) rfl rfl ?_
      refine T_getR 100 1 40 (dk dtk_X7_link 91 rfl) kfl_X7_15 kk_100 (kl_100 hq) (by decide) rfl kr_100_1 ?_
      refine T_getR 40 1 42 (dk dtk_X7_link 92 rfl) kfl_X7_109 kk_40 (kl_40 hq) (by decide) rfl kr_40_1 ?_
      refine T_iload_n 0 (dk dtk_X7_link 93 rfl) rfl rfl ?_
      obtain ⟨h5, h⟩ := h
      refine T_iald 42 702 (dk dtk_X7_link 94 rfl) kk_42 (kl_42 hq) h5 ?_
      refine T_bipush (v := 7) (dk dtk_X7_link 95 rfl) (by decide +kernel) ?_
      refine T_icmp_ne 197 (dk dtk_X7_link 96 rfl) (by decide) (fun c6 => ?_) (fun c6 => ?_)
      · have h := h.1 c6
        refine T_iconst (v := 0) (dk dtk_X7_link 105 rfl) (by decide +kernel) ?_
        exact T_sub [1, 2, 0] rfl h
      · have h := h.2 c6
        refine T_aload_n 1 (dk dtk_X7_link 97 rfl) rfl rfl ?_
        refine T_getR 100 0 20 (dk dtk_X7_link 98 rfl) kfl_X7_11 kk_100 (kl_100 hq) (by decide) rfl kr_100_0 ?_
        refine T_getR 20 6 27 (dk dtk_X7_link 99 rfl) kfl_X7_147 kk_20 (kl_20 hq) (by decide) rfl kr_20_6 ?_
        refine T_iload_n 0 (dk dtk_X7_link 100 rfl) rfl rfl ?_
        refine T_iconst (v := 2) (dk dtk_X7_link 101 rfl) (by decide +kernel) ?_
        refine T_iadd (dk dtk_X7_link 102 rfl) ?_
        obtain ⟨h7, h⟩ := h
        refine T_iald 27 702 (dk dtk_X7_link 103 rfl) kk_27 (kl_27 hq) h7 ?_
        refine T_goto 198 (dk dtk_X7_link 104 rfl) (by decide) ?_
        exact T_sub [1, 2, 0] rfl h
set_option maxRecDepth 100000 in
set_option maxHeartbeats 4000000 in
theorem kg_X7_link_198 {G : kG} {q : kP} {d : Nat} {x : gd} {P : Option gv → gd → Prop} (hq : kV q) (l1 : Int32) (l2 : Int32) (s0 : Int32)
    (h : vp_in l1 800 ∧ (∀ x2 : gd, x2 = si x 62 (l1 : Int32).toNatClampNeg 2 → vp_in l2 702 ∧ vp_in (x2.1 43 (l2 : Int32).toNatClampNeg) 24 ∧ vp_in l1 800 ∧ (∀ x6 : gd, x6 = si x2 63 (l1 : Int32).toNatClampNeg ((x2.1 45 (x2.1 43 (l2 : Int32).toNatClampNeg : Int32).toNatClampNeg) + s0) → KT G q d zk_X7_link 134 [(0, vr 100), (1, vi (l1 + 1))] [] x6 P))) :
    KT G q d zk_X7_link 198 [(0, vr 100), (1, vi l1), (2, vi l2)] [vi s0] x P := by
  refine T_istore_n (lv2 := [(3, vi s0), (0, vr 100), (1, vi l1), (2, vi l2)]) (dk dtk_X7_link 106 rfl) rfl (by decide) rfl ?_
  refine T_aload_n 1 (dk dtk_X7_link 107 rfl) rfl rfl ?_
  refine T_getR 100 2 60 (dk dtk_X7_link 108 rfl) kfl_X7_19 kk_100 (kl_100 hq) (by decide) rfl kr_100_2 ?_
  refine T_getR 60 1 62 (dk dtk_X7_link 109 rfl) kfl_X7_337 kk_60 (kl_60 hq) (by decide) rfl kr_60_1 ?_
  refine T_iload_n 2 (dk dtk_X7_link 110 rfl) rfl rfl ?_
  refine T_iconst (v := 2) (dk dtk_X7_link 111 rfl) (by decide +kernel) ?_
  obtain ⟨h1, h⟩ := h
  obtain ⟨x2, ex2⟩ : ∃ z, z = si x 62 (l1 : Int32).toNatClampNeg 2 := ⟨_, rfl⟩
  have h := h x2 ex2
  refine T_iast 62 800 (dk dtk_X7_link 112 rfl) kk_62 (kl_62 hq) h1 ?_
  rw [← ex2]
  refine T_aload_n 1 (dk dtk_X7_link 113 rfl) rfl rfl ?_
  refine T_getR 100 2 60 (dk dtk_X7_link 114 rfl) kfl_X7_19 kk_100 (kl_100 hq) (by decide) rfl kr_100_2 ?_
  refine T_getR 60 2 63 (dk dtk_X7_link 115 rfl) kfl_X7_334 kk_60 (kl_60 hq) (by decide) rfl kr_60_2 ?_
  refine T_iload_n 2 (dk dtk_X7_link 116 rfl) rfl rfl ?_
  refine T_aload_n 1 (dk dtk_X7_link 117 rfl) rfl rfl ?_
  refine T_getR 100 1 40 (dk dtk_X7_link 118 rfl) kfl_X7_15 kk_100 (kl_100 hq) (by decide) rfl kr_100_1 ?_
  refine T_getR 40 4 45 (dk dtk_X7_link 119 rfl) kfl_X7_325 kk_40 (kl_40 hq) (by decide) rfl kr_40_4 ?_
  refine T_aload_n 1 (dk dtk_X7_link 120 rfl) rfl rfl ?_
  refine T_getR 100 1 40 (dk dtk_X7_link 121 rfl) kfl_X7_15 kk_100 (kl_100 hq) (by decide) rfl kr_100_1 ?_
  refine T_getR 40 2 43 (dk dtk_X7_link 122 rfl) kfl_X7_254 kk_40 (kl_40 hq) (by decide) rfl kr_40_2 ?_
  refine T_iload_n 3 (dk dtk_X7_link 123 rfl) rfl rfl ?_
  obtain ⟨h3, h⟩ := h
  refine T_iald 43 702 (dk dtk_X7_link 124 rfl) kk_43 (kl_43 hq) h3 ?_
  obtain ⟨h4, h⟩ := h
  refine T_iald 45 24 (dk dtk_X7_link 125 rfl) kk_45 (kl_45 hq) h4 ?_
  refine T_iload_n 0 (dk dtk_X7_link 126 rfl) rfl rfl ?_
  refine T_iadd (dk dtk_X7_link 127 rfl) ?_
  obtain ⟨h5, h⟩ := h
  obtain ⟨x6, ex6⟩ : ∃ z, z = si x2 63 (l1 : Int32).toNatClampNeg ((x2.1 45 (x2.1 43 (l2 : Int32).toNatClampNeg : Int32).toNatClampNeg) + s0) := ⟨_, rfl⟩
  have h := h x6 ex6
  refine T_iast 63 800 (dk dtk_X7_link 128 rfl) kk_63 (kl_63 hq) h5 ?_
  rw [← ex6]
  refine T_iinc (v := l1 + 1) (lv2 := [(1, vi (l1 + 1)), (3, vi s0), (0, vr 100), (2, vi l2)]) 2 (dk dtk_X7_link 129 rfl) rfl rfl (by decide) rfl ?_
  refine T_goto 134 (dk dtk_X7_link 130 rfl) (by decide) ?_
  exact T_sub [2, 0] rfl h
set_option maxRecDepth 100000 in
theorem dtk_X5_reset : dck cX5_reset [(0, .aload_n 0, 1), (1, .iload_n 1, 1), (2, .putfield 42, 3), (5, .aload_n 0, 1), (6, .aload_n 0, 1), (7, .getfield 11, 3), (10, .getfield 46, 3), (13, .putfield 49, 3), (16, .aload_n 0, 1), (17, .aload_n 0, 1), (18, .getfield 49, 3), (21, .iconst 2, 1), (22, .aload_n 0, 1), (23, .getfield 11, 3), (26, .getfield 52, 3), (29, .imul, 1), (30, .iadd, 1), (31, .putfield 55, 3), (34, .aload_n 0, 1), (35, .bipush 8, 2), (37, .aload_n 0, 1), (38, .getfield 11, 3), (41, .getfield 58, 3), (44, .iadd, 1), (45, .putfield 61, 3), (48, .aload_n 0, 1), (49, .aload_n 0, 1), (50, .getfield 61, 3), (53, .aload_n 0, 1), (54, .getfield 42, 3), (57, .iconst 1, 1), (58, .if_icmp .ne 8, 3), (61, .bipush 16, 2), (63, .goto 4, 3), (66, .iconst 0, 1), (67, .iadd, 1), (68, .putfield 64, 3), (71, .aload_n 0, 1), (72, .aload_n 0, 1), (73, .getfield 55, 3), (76, .aload_n 0, 1), (77, .getfield 64, 3), (80, .aload_n 0, 1), (81, .getfield 11, 3), (84, .getfield 67, 3), (87, .imul, 1), (88, .iadd, 1), (89, .putfield 70, 3), (92, .aload_n 0, 1), (93, .getfield 29, 3), (96, .iconst 0, 1), (97, .invokestatic 73, 3), (100, .iconst 0, 1), (101, .istore_n 2, 1), (102, .iload_n 2, 1), (103, .aload_n 0, 1), (104, .getfield 11, 3), (107, .getfield 46, 3), (110, .if_icmp .ge 24, 3), (113, .aload_n 0, 1), (114, .getfield 29, 3), (117, .iload_n 2, 1), (118, .aload_n 0, 1), (119, .getfield 11, 3), (122, .getfield 79, 3), (125, .iload_n 2, 1), (126, .iaload, 1), (127, .iastore, 1), (128, .iinc 2 1, 3), (131, .goto (-29), 3), (134, .iconst 0, 1), (135, .istore_n 2, 1), (136, .iload_n 2, 1), (137, .aload_n 0, 1), (138, .getfield 11, 3), (141, .getfield 67, 3), (144, .if_icmp .ge 26, 3), (147, .aload_n 0, 1), (148, .getfield 11, 3), (151, .getfield 82, 3), (154, .iload_n 2, 1), (155, .baload, 1), (156, .ifCond .ne 8, 3), (159, .aload_n 0, 1), (160, .iload_n 2, 1), (161, .invokevirtual 86, 3), (164, .iinc 2 1, 3), (167, .goto (-31), 3), (170, .return_, 1)] = true := by decide +kernel
set_option maxRecDepth 100000 in
set_option maxHeartbeats 4000000 in
theorem kg_X5_reset_0 {G : kG} {q : kP} {d : Nat} {x : gd} {P : Option gv → gd → Prop} (hq : kV q) {o : Nat} (ho : kiM q o) (l1 : Int32)
    (h : (∀ x1 : gd, x1 = si x o 3 l1 → (∀ x2 : gd, x2 = si x1 o 6 (x1.1 60 6) → (∀ x3 : gd, x3 = si x2 o 7 ((x2.1 o 6) + (2 * (x2.1 60 9))) → (∀ x4 : gd, x4 = si x3 o 9 (8 + (x3.1 60 13)) → ((¬ ((x4.1 o 3) = (1 : Int32)) → KT G q (d + 1) zk_X5_reset 67 [(0, vr o)] [vi 0, vi (x4.1 o 9), vr o] x4 P) ∧ ((x4.1 o 3) = (1 : Int32) → KT G q (d + 1) zk_X5_reset 67 [(0, vr o)] [vi 16, vi (x4.1 o 9), vr o] x4 P))))))) :
    KT G q (d + 1) zk_X5_reset 0 [(0, vr o), (1, vi l1)] [] x P := by
  refine T_aload_n 0 (dk dtk_X5_reset 0 rfl) rfl rfl ?_
  refine T_iload_n 1 (dk dtk_X5_reset 1 rfl) rfl rfl ?_
  obtain ⟨x1, ex1⟩ : ∃ z, z = si x o 3 l1 := ⟨_, rfl⟩
  have h := h x1 ex1
  refine T_putI o 3 (dk dtk_X5_reset 2 rfl) kfl_X5_42 (kk_M0 ho) (kl_M0 hq ho) (by decide) rfl ⟨rfl, rfl⟩ ?_
  rw [← ex1]
  refine T_aload_n 0 (dk dtk_X5_reset 3 rfl) rfl rfl ?_
  refine T_aload_n 0 (dk dtk_X5_reset 4 rfl) rfl rfl ?_
  refine T_getR o 0 60 (dk dtk_X5_reset 5 rfl) kfl_X5_11 (kk_M0 ho) (kl_M0 hq ho) (by decide) rfl (kr_M_0 ho) ?_
  refine T_getI 60 6 (dk dtk_X5_reset 6 rfl) kfl_X5_46 kk_60 (kl_60 hq) (by decide) rfl ?_
  obtain ⟨x2, ex2⟩ : ∃ z, z = si x1 o 6 (x1.1 60 6) := ⟨_, rfl⟩
  have h := h x2 ex2
  refine T_putI o 6 (dk dtk_X5_reset 7 rfl) kfl_X5_49 (kk_M0 ho) (kl_M0 hq ho) (by decide) rfl ⟨rfl, rfl⟩ ?_
  rw [← ex2]
  refine T_aload_n 0 (dk dtk_X5_reset 8 rfl) rfl rfl ?_
  refine T_aload_n 0 (dk dtk_X5_reset 9 rfl) rfl rfl ?_
  refine T_getI o 6 (dk dtk_X5_reset 10 rfl) kfl_X5_49 (kk_M0 ho) (kl_M0 hq ho) (by decide) rfl ?_
  refine T_iconst (v := 2) (dk dtk_X5_reset 11 rfl) (by decide +kernel) ?_
  refine T_aload_n 0 (dk dtk_X5_reset 12 rfl) rfl rfl ?_
  refine T_getR o 0 60 (dk dtk_X5_reset 13 rfl) kfl_X5_11 (kk_M0 ho) (kl_M0 hq ho) (by decide) rfl (kr_M_0 ho) ?_
  refine T_getI 60 9 (dk dtk_X5_reset 14 rfl) kfl_X5_52 kk_60 (kl_60 hq) (by decide) rfl ?_
  refine T_imul (dk dtk_X5_reset 15 rfl) ?_
  refine T_iadd (dk dtk_X5_reset 16 rfl) ?_
  obtain ⟨x3, ex3⟩ : ∃ z, z = si x2 o 7 ((x2.1 o 6) + (2 * (x2.1 60 9))) := ⟨_, rfl⟩
  have h := h x3 ex3
  refine T_putI o 7 (dk dtk_X5_reset 17 rfl) kfl_X5_55 (kk_M0 ho) (kl_M0 hq ho) (by decide) rfl ⟨rfl, rfl⟩ ?_
  rw [← ex3]
  refine T_aload_n 0 (dk dtk_X5_reset 18 rfl) rfl rfl ?_
  refine T_bipush (v := 8) (dk dtk_X5_reset 19 rfl) (by decide +kernel) ?_
  refine T_aload_n 0 (dk dtk_X5_reset 20 rfl) rfl rfl ?_
  refine T_getR o 0 60 (dk dtk_X5_reset 21 rfl) kfl_X5_11 (kk_M0 ho) (kl_M0 hq ho) (by decide) rfl (kr_M_0 ho) ?_
  refine T_getI 60 13 (dk dtk_X5_reset 22 rfl) kfl_X5_58 kk_60 (kl_60 hq) (by decide) rfl ?_
  refine T_iadd (dk dtk_X5_reset 23 rfl) ?_
  obtain ⟨x4, ex4⟩ : ∃ z, z = si x3 o 9 (8 + (x3.1 60 13)) := ⟨_, rfl⟩
  have h := h x4 ex4
  refine T_putI o 9 (dk dtk_X5_reset 24 rfl) kfl_X5_61 (kk_M0 ho) (kl_M0 hq ho) (by decide) rfl ⟨rfl, rfl⟩ ?_
  rw [← ex4]
  refine T_aload_n 0 (dk dtk_X5_reset 25 rfl) rfl rfl ?_
  refine T_aload_n 0 (dk dtk_X5_reset 26 rfl) rfl rfl ?_
  refine T_getI o 9 (dk dtk_X5_reset 27 rfl) kfl_X5_61 (kk_M0 ho) (kl_M0 hq ho) (by decide) rfl ?_
  refine T_aload_n 0 (dk dtk_X5_reset 28 rfl) rfl rfl ?_
  refine T_getI o 3 (dk dtk_X5_reset 29 rfl) kfl_X5_42 (kk_M0 ho) (kl_M0 hq ho) (by decide) rfl ?_
  refine T_iconst (v := 1) (dk dtk_X5_reset 30 rfl) (by decide +kernel) ?_
  refine T_icmp_ne 66 (dk dtk_X5_reset 31 rfl) (by decide) (fun c5 => ?_) (fun c5 => ?_)
  · have h := h.1 c5
    refine T_iconst (v := 0) (dk dtk_X5_reset 34 rfl) (by decide +kernel) ?_
    exact T_sub [0] rfl h
  · have h := h.2 c5
    refine T_bipush (v := 16) (dk dtk_X5_reset 32 rfl) (by decide +kernel) ?_
    refine T_goto 67 (dk dtk_X5_reset 33 rfl) (by decide) ?_
    exact T_sub [0] rfl h
set_option maxRecDepth 100000 in
set_option maxHeartbeats 4000000 in
theorem kg_X5_reset_67 {G : kG} {q : kP} {d : Nat} {x : gd} {P : Option gv → gd → Prop} (hq : kV q) {o : Nat} (ho : kiM q o) (s0 : Int32) (s1 : Int32)
    (h : (∀ x1 : gd, x1 = si x o 8 (s1 + s0) → (∀ x2 : gd, x2 = si x1 o 5 ((x1.1 o 7) + ((x1.1 o 8) * (x1.1 60 10))) → (∀ x3 : gd, x3 = sfl x2 (o + 5) 0 228 → KT G q (d + 1) zk_X5_reset 102 [(0, vr o), (2, vi 0)] [] x3 P)))) :
    KT G q (d + 1) zk_X5_reset 67 [(0, vr o)] [vi s0, vi s1, vr o] x P := by
  refine T_iadd (dk dtk_X5_reset 35 rfl) ?_
  obtain ⟨x1, ex1⟩ : ∃ z, z = si x o 8 (s1 + s0) := ⟨_, rfl⟩
  have h := h x1 ex1
  refine T_putI o 8 (dk dtk_X5_reset 36 rfl) kfl_X5_64 (kk_M0 ho) (kl_M0 hq ho) (by decide) rfl ⟨rfl, rfl⟩ ?_
  rw [← ex1]
  refine T_aload_n 0 (dk dtk_X5_reset 37 rfl) rfl rfl ?_
  refine T_aload_n 0 (dk dtk_X5_reset 38 rfl) rfl rfl ?_
  refine T_getI o 7 (dk dtk_X5_reset 39 rfl) kfl_X5_55 (kk_M0 ho) (kl_M0 hq ho) (by decide) rfl ?_
  refine T_aload_n 0 (dk dtk_X5_reset 40 rfl) rfl rfl ?_
  refine T_getI o 8 (dk dtk_X5_reset 41 rfl) kfl_X5_64 (kk_M0 ho) (kl_M0 hq ho) (by decide) rfl ?_
  refine T_aload_n 0 (dk dtk_X5_reset 42 rfl) rfl rfl ?_
  refine T_getR o 0 60 (dk dtk_X5_reset 43 rfl) kfl_X5_11 (kk_M0 ho) (kl_M0 hq ho) (by decide) rfl (kr_M_0 ho) ?_
  refine T_getI 60 10 (dk dtk_X5_reset 44 rfl) kfl_X5_67 kk_60 (kl_60 hq) (by decide) rfl ?_
  refine T_imul (dk dtk_X5_reset 45 rfl) ?_
  refine T_iadd (dk dtk_X5_reset 46 rfl) ?_
  obtain ⟨x2, ex2⟩ : ∃ z, z = si x1 o 5 ((x1.1 o 7) + ((x1.1 o 8) * (x1.1 60 10))) := ⟨_, rfl⟩
  have h := h x2 ex2
  refine T_putI o 5 (dk dtk_X5_reset 47 rfl) kfl_X5_70 (kk_M0 ho) (kl_M0 hq ho) (by decide) rfl ⟨rfl, rfl⟩ ?_
  rw [← ex2]
  refine T_aload_n 0 (dk dtk_X5_reset 48 rfl) rfl rfl ?_
  refine T_getR o 4 (o + 5) (dk dtk_X5_reset 49 rfl) kfl_X5_29 (kk_M0 ho) (kl_M0 hq ho) (by decide) rfl (kr_M_4 ho) ?_
  refine T_iconst (v := 0) (dk dtk_X5_reset 50 rfl) (by decide +kernel) ?_
  refine KC_Sv (F := fun z => z = sfl x2 (o + 5) 0 228) [vr (o + 5), vi 0] [] rfl (dk dtk_X5_reset 51 rfl) kcs_X5_73 rfl (Nat.le_of_ble_eq_true rfl) (Nat.le_of_ble_eq_true rfl) (gok_i (av_c (gkr (kl_M0 hq ho)) av_n) as_n) rfl (tj_fill (o + 5) 228 0 (kk_M5 ho) (kl_M5 hq ho) (by decide) ⟨rfl, none, rfl, rfl, rfl⟩) (fun x3 ex3 => ?_)
  have h := h x3 ex3
  refine T_iconst (v := 0) (dk dtk_X5_reset 52 rfl) (by decide +kernel) ?_
  refine T_istore_n (lv2 := [(2, vi 0), (0, vr o)]) (dk dtk_X5_reset 53 rfl) rfl (by decide) rfl ?_
  exact T_sub [1, 0] rfl h
set_option maxRecDepth 100000 in
set_option maxHeartbeats 4000000 in
theorem kg_X5_reset_102 {G : kG} {q : kP} {d : Nat} {x : gd} {P : Option gv → gd → Prop} (hq : kV q) {o : Nat} (ho : kiM q o) (l2 : Int32)
    (h : (((x.1 60 6) ≤ l2 → KT G q (d + 1) zk_X5_reset 136 [(0, vr o), (2, vi 0)] [] x P) ∧ (¬ ((x.1 60 6) ≤ l2) → vp_in l2 24 ∧ vp_in l2 228 ∧ (∀ x4 : gd, x4 = si x (o + 5) (l2 : Int32).toNatClampNeg (x.1 68 (l2 : Int32).toNatClampNeg) → KT G q (d + 1) zk_X5_reset 102 [(0, vr o), (2, vi (l2 + 1))] [] x4 P)))) :
    KT G q (d + 1) zk_X5_reset 102 [(0, vr o), (2, vi l2)] [] x P := by
  refine T_iload_n 1 (dk dtk_X5_reset 54 rfl) rfl rfl ?_
  refine T_aload_n 0 (dk dtk_X5_reset 55 rfl) rfl rfl ?_
  refine T_getR o 0 60 (dk dtk_X5_reset 56 rfl) kfl_X5_11 (kk_M0 ho) (kl_M0 hq ho) (by decide) rfl (kr_M_0 ho) ?_
  refine T_getI 60 6 (dk dtk_X5_reset 57 rfl) kfl_X5_46 kk_60 (kl_60 hq) (by decide) rfl ?_
  refine T_icmp_ge 134 (dk dtk_X5_reset 58 rfl) (by decide) (fun c1 => ?_) (fun c1 => ?_)
  · have h := h.1 c1
    refine T_iconst (v := 0) (dk dtk_X5_reset 70 rfl) (by decide +kernel) ?_
    refine T_istore_n (lv2 := [(2, vi 0), (0, vr o)]) (dk dtk_X5_reset 71 rfl) rfl (by decide) rfl ?_
    exact T_sub [1, 0] rfl h
  · have h := h.2 c1
    refine T_aload_n 0 (dk dtk_X5_reset 59 rfl) rfl rfl ?_
    refine T_getR o 4 (o + 5) (dk dtk_X5_reset 60 rfl) kfl_X5_29 (kk_M0 ho) (kl_M0 hq ho) (by decide) rfl (kr_M_4 ho) ?_
    refine T_iload_n 1 (dk dtk_X5_reset 61 rfl) rfl rfl ?_
    refine T_aload_n 0 (dk dtk_X5_reset 62 rfl) rfl rfl ?_
    refine T_getR o 0 60 (dk dtk_X5_reset 63 rfl) kfl_X5_11 (kk_M0 ho) (kl_M0 hq ho) (by decide) rfl (kr_M_0 ho) ?_
    refine T_getR 60 7 68 (dk dtk_X5_reset 64 rfl) kfl_X5_79 kk_60 (kl_60 hq) (by decide) rfl kr_60_7 ?_
    refine T_iload_n 1 (dk dtk_X5_reset 65 rfl) rfl rfl ?_
    obtain ⟨h2, h⟩ := h
    refine T_iald 68 24 (dk dtk_X5_reset 66 rfl) kk_68 (kl_68 hq) h2 ?_
    obtain ⟨h3, h⟩ := h
    obtain ⟨x4, ex4⟩ : ∃ z, z = si x (o + 5) (l2 : Int32).toNatClampNeg (x.1 68 (l2 : Int32).toNatClampNeg) := ⟨_, rfl⟩
    have h := h x4 ex4
    refine T_iast (o + 5) 228 (dk dtk_X5_reset 67 rfl) (kk_M5 ho) (kl_M5 hq ho) h3 ?_
    rw [← ex4]
    refine T_iinc (v := l2 + 1) (lv2 := [(2, vi (l2 + 1)), (0, vr o)]) 1 (dk dtk_X5_reset 68 rfl) rfl rfl (by decide) rfl ?_
    refine T_goto 102 (dk dtk_X5_reset 69 rfl) (by decide) ?_
    exact T_sub [1, 0] rfl h
set_option maxRecDepth 100000 in
set_option maxHeartbeats 4000000 in
theorem kg_X5_reset_136 {G : kG} {q : kP} {d : Nat} {x : gd} {P : Option gv → gd → Prop} (hq : kV q) {o : Nat} (ho : kiM q o) (l2 : Int32)
    (h : (((x.1 60 10) ≤ l2 → P none x) ∧ (¬ ((x.1 60 10) ≤ l2) → vp_in l2 6 ∧ ((¬ ((x.1 73 (l2 : Int32).toNatClampNeg) = (0 : Int32)) → KT G q (d + 1) zk_X5_reset 136 [(0, vr o), (2, vi (l2 + 1))] [] x P) ∧ ((x.1 73 (l2 : Int32).toNatClampNeg) = (0 : Int32) → KT G q d zk_X5_rouse 0 [(0, vr o), (1, vi l2)] [] x (rv (fun x4 => KT G q (d + 1) zk_X5_reset 136 [(0, vr o), (2, vi (l2 + 1))] [] x4 P))))))) :
    KT G q (d + 1) zk_X5_reset 136 [(0, vr o), (2, vi l2)] [] x P := by
  refine T_iload_n 1 (dk dtk_X5_reset 72 rfl) rfl rfl ?_
  refine T_aload_n 0 (dk dtk_X5_reset 73 rfl) rfl rfl ?_
  refine T_getR o 0 60 (dk dtk_X5_reset 74 rfl) kfl_X5_11 (kk_M0 ho) (kl_M0 hq ho) (by decide) rfl (kr_M_0 ho) ?_
  refine T_getI 60 10 (dk dtk_X5_reset 75 rfl) kfl_X5_67 kk_60 (kl_60 hq) (by decide) rfl ?_
  refine T_icmp_ge 170 (dk dtk_X5_reset 76 rfl) (by decide) (fun c1 => ?_) (fun c1 => ?_)
  · have h := h.1 c1
    exact KT_vret (dk dtk_X5_reset 88 rfl) rfl h
  · have h := h.2 c1
    refine T_aload_n 0 (dk dtk_X5_reset 77 rfl) rfl rfl ?_
    refine T_getR o 0 60 (dk dtk_X5_reset 78 rfl) kfl_X5_11 (kk_M0 ho) (kl_M0 hq ho) (by decide) rfl (kr_M_0 ho) ?_
    refine T_getR 60 12 73 (dk dtk_X5_reset 79 rfl) kfl_X5_82 kk_60 (kl_60 hq) (by decide) rfl kr_60_12 ?_
    refine T_iload_n 1 (dk dtk_X5_reset 80 rfl) rfl rfl ?_
    obtain ⟨h2, h⟩ := h
    refine T_zald 73 6 (dk dtk_X5_reset 81 rfl) kk_73 (kl_73 hq) h2 ?_
    refine T_if_ne 164 (dk dtk_X5_reset 82 rfl) (by decide) (fun c3 => ?_) (fun c3 => ?_)
    · have h := h.1 c3
      refine T_iinc (v := l2 + 1) (lv2 := [(2, vi (l2 + 1)), (0, vr o)]) 1 (dk dtk_X5_reset 86 rfl) rfl rfl (by decide) rfl ?_
      refine T_goto 136 (dk dtk_X5_reset 87 rfl) (by decide) ?_
      exact T_sub [1, 0] rfl h
    · have h := h.2 c3
      refine T_aload_n 0 (dk dtk_X5_reset 83 rfl) rfl rfl ?_
      refine T_iload_n 1 (dk dtk_X5_reset 84 rfl) rfl rfl ?_
      refine KC_Vv [vi l2] [] rfl (dk dtk_X5_reset 85 rfl) kcv_X5_86 rfl (kk_M0 ho) rfl (kl_M0 hq ho) (Nat.le_of_ble_eq_true rfl) (Nat.le_of_ble_eq_true rfl) (gok_i (av_c (gkr (kl_M0 hq ho)) (av_c rfl av_n)) as_n) rfl h (fun x4 h => ?_)
      refine T_iinc (v := l2 + 1) (lv2 := [(2, vi (l2 + 1)), (0, vr o)]) 1 (dk dtk_X5_reset 86 rfl) rfl rfl (by decide) rfl ?_
      refine T_goto 136 (dk dtk_X5_reset 87 rfl) (by decide) ?_
      exact T_sub [1, 0] rfl h
set_option maxRecDepth 100000 in
theorem dtk_X5_get : dck cX5_get [(0, .aload_n 0, 1), (1, .getfield 29, 3), (4, .aload_n 0, 1), (5, .getfield 55, 3), (8, .iload_n 1, 1), (9, .aload_n 0, 1), (10, .getfield 64, 3), (13, .imul, 1), (14, .iadd, 1), (15, .iload_n 2, 1), (16, .iadd, 1), (17, .iaload, 1), (18, .ireturn, 1)] = true := by decide +kernel
set_option maxRecDepth 100000 in
set_option maxHeartbeats 4000000 in
theorem kg_X5_get_0 {G : kG} {q : kP} {d : Nat} {x : gd} {P : Option gv → gd → Prop} (hq : kV q) {o : Nat} (ho : kiM q o) (l1 : Int32) (l2 : Int32)
    (h : vp_in (((x.1 o 7) + (l1 * (x.1 o 8))) + l2) 228 ∧ P (some (vi (x.1 (o + 5) (((x.1 o 7) + (l1 * (x.1 o 8))) + l2 : Int32).toNatClampNeg))) x) :
    KT G q d zk_X5_get 0 [(0, vr o), (1, vi l1), (2, vi l2)] [] x P := by
  refine T_aload_n 0 (dk dtk_X5_get 0 rfl) rfl rfl ?_
  refine T_getR o 4 (o + 5) (dk dtk_X5_get 1 rfl) kfl_X5_29 (kk_M0 ho) (kl_M0 hq ho) (by decide) rfl (kr_M_4 ho) ?_
  refine T_aload_n 0 (dk dtk_X5_get 2 rfl) rfl rfl ?_
  refine T_getI o 7 (dk dtk_X5_get 3 rfl) kfl_X5_55 (kk_M0 ho) (kl_M0 hq ho) (by decide) rfl ?_
  refine T_iload_n 1 (dk dtk_X5_get 4 rfl) rfl rfl ?_
  refine T_aload_n 0 (dk dtk_X5_get 5 rfl) rfl rfl ?_
  refine T_getI o 8 (dk dtk_X5_get 6 rfl) kfl_X5_64 (kk_M0 ho) (kl_M0 hq ho) (by decide) rfl ?_
  refine T_imul (dk dtk_X5_get 7 rfl) ?_
  refine T_iadd (dk dtk_X5_get 8 rfl) ?_
  refine T_iload_n 2 (dk dtk_X5_get 9 rfl) rfl rfl ?_
  refine T_iadd (dk dtk_X5_get 10 rfl) ?_
  obtain ⟨h1, h⟩ := h
  refine T_iald (o + 5) 228 (dk dtk_X5_get 11 rfl) (kk_M5 ho) (kl_M5 hq ho) h1 ?_
  exact KT_iret (dk dtk_X5_get 12 rfl) rfl rfl h
set_option maxRecDepth 100000 in
theorem dtk_X5_set : dck cX5_set [(0, .aload_n 0, 1), (1, .getfield 29, 3), (4, .aload_n 0, 1), (5, .getfield 55, 3), (8, .iload_n 1, 1), (9, .aload_n 0, 1), (10, .getfield 64, 3), (13, .imul, 1), (14, .iadd, 1), (15, .iload_n 2, 1), (16, .iadd, 1), (17, .iload_n 3, 1), (18, .iastore, 1), (19, .return_, 1)] = true := by decide +kernel
set_option maxRecDepth 100000 in
set_option maxHeartbeats 4000000 in
theorem kg_X5_set_0 {G : kG} {q : kP} {d : Nat} {x : gd} {P : Option gv → gd → Prop} (hq : kV q) {o : Nat} (ho : kiM q o) (l1 : Int32) (l2 : Int32) (l3 : Int32)
    (h : vp_in (((x.1 o 7) + (l1 * (x.1 o 8))) + l2) 228 ∧ (∀ x2 : gd, x2 = si x (o + 5) (((x.1 o 7) + (l1 * (x.1 o 8))) + l2 : Int32).toNatClampNeg l3 → P none x2)) :
    KT G q d zk_X5_set 0 [(0, vr o), (1, vi l1), (2, vi l2), (3, vi l3)] [] x P := by
  refine T_aload_n 0 (dk dtk_X5_set 0 rfl) rfl rfl ?_
  refine T_getR o 4 (o + 5) (dk dtk_X5_set 1 rfl) kfl_X5_29 (kk_M0 ho) (kl_M0 hq ho) (by decide) rfl (kr_M_4 ho) ?_
  refine T_aload_n 0 (dk dtk_X5_set 2 rfl) rfl rfl ?_
  refine T_getI o 7 (dk dtk_X5_set 3 rfl) kfl_X5_55 (kk_M0 ho) (kl_M0 hq ho) (by decide) rfl ?_
  refine T_iload_n 1 (dk dtk_X5_set 4 rfl) rfl rfl ?_
  refine T_aload_n 0 (dk dtk_X5_set 5 rfl) rfl rfl ?_
  refine T_getI o 8 (dk dtk_X5_set 6 rfl) kfl_X5_64 (kk_M0 ho) (kl_M0 hq ho) (by decide) rfl ?_
  refine T_imul (dk dtk_X5_set 7 rfl) ?_
  refine T_iadd (dk dtk_X5_set 8 rfl) ?_
  refine T_iload_n 2 (dk dtk_X5_set 9 rfl) rfl rfl ?_
  refine T_iadd (dk dtk_X5_set 10 rfl) ?_
  refine T_iload_n 3 (dk dtk_X5_set 11 rfl) rfl rfl ?_
  obtain ⟨h1, h⟩ := h
  obtain ⟨x2, ex2⟩ : ∃ z, z = si x (o + 5) (((x.1 o 7) + (l1 * (x.1 o 8))) + l2 : Int32).toNatClampNeg l3 := ⟨_, rfl⟩
  have h := h x2 ex2
  refine T_iast (o + 5) 228 (dk dtk_X5_set 12 rfl) (kk_M5 ho) (kl_M5 hq ho) h1 ?_
  rw [← ex2]
  exact KT_vret (dk dtk_X5_set 13 rfl) rfl h
set_option maxRecDepth 100000 in
theorem dtk_X5_isGoing : dck cX5_isGoing [(0, .aload_n 0, 1), (1, .iload_n 1, 1), (2, .iconst 0, 1), (3, .invokevirtual 90, 3), (6, .iconst 1, 1), (7, .if_icmp .ne 7, 3), (10, .iconst 1, 1), (11, .goto 4, 3), (14, .iconst 0, 1), (15, .ireturn, 1)] = true := by decide +kernel
set_option maxRecDepth 100000 in
set_option maxHeartbeats 4000000 in
theorem kg_X5_isGoing_0 {G : kG} {q : kP} {d : Nat} {x : gd} {P : Option gv → gd → Prop} (hq : kV q) {o : Nat} (ho : kiM q o) (l1 : Int32)
    (h : KT G q d zk_X5_get 0 [(0, vr o), (1, vi l1), (2, vi 0)] [] x (ri (fun r2 x1 => ((¬ (r2 = (1 : Int32)) → P (some (vi 0)) x1) ∧ (r2 = (1 : Int32) → P (some (vi 1)) x1))))) :
    KT G q (d + 1) zk_X5_isGoing 0 [(0, vr o), (1, vi l1)] [] x P := by
  refine T_aload_n 0 (dk dtk_X5_isGoing 0 rfl) rfl rfl ?_
  refine T_iload_n 1 (dk dtk_X5_isGoing 1 rfl) rfl rfl ?_
  refine T_iconst (v := 0) (dk dtk_X5_isGoing 2 rfl) (by decide +kernel) ?_
  refine T_sub (lv2 := []) [] rfl ?_
  refine KC_Vi [vi l1, vi 0] [] rfl (dk dtk_X5_isGoing 3 rfl) kcv_X5_90 rfl (kk_M0 ho) rfl (kl_M0 hq ho) (Nat.le_of_ble_eq_true rfl) (Nat.le_of_ble_eq_true rfl) (gok_i av_n as_n) rfl h (fun r2 x1 h => ?_)
  refine T_iconst (v := 1) (dk dtk_X5_isGoing 4 rfl) (by decide +kernel) ?_
  refine T_icmp_ne 14 (dk dtk_X5_isGoing 5 rfl) (by decide) (fun c3 => ?_) (fun c3 => ?_)
  · have h := h.1 c3
    refine T_iconst (v := 0) (dk dtk_X5_isGoing 8 rfl) (by decide +kernel) ?_
    exact KT_iret (dk dtk_X5_isGoing 9 rfl) rfl rfl h
  · have h := h.2 c3
    refine T_iconst (v := 1) (dk dtk_X5_isGoing 6 rfl) (by decide +kernel) ?_
    refine T_goto 15 (dk dtk_X5_isGoing 7 rfl) (by decide) ?_
    exact KT_iret (dk dtk_X5_isGoing 9 rfl) rfl rfl h
set_option maxRecDepth 100000 in
theorem dtk_X5_anyGoing : dck cX5_anyGoing [(0, .iconst 0, 1), (1, .istore_n 1, 1), (2, .iload_n 1, 1), (3, .aload_n 0, 1), (4, .getfield 11, 3), (7, .getfield 67, 3), (10, .if_icmp .ge 19, 3), (13, .aload_n 0, 1), (14, .iload_n 1, 1), (15, .invokevirtual 94, 3), (18, .ifCond .eq 5, 3), (21, .iconst 1, 1), (22, .ireturn, 1), (23, .iinc 1 1, 3), (26, .goto (-24), 3), (29, .iconst 0, 1), (30, .ireturn, 1)] = true := by decide +kernel
set_option maxRecDepth 100000 in
set_option maxHeartbeats 4000000 in
theorem kg_X5_anyGoing_0 {G : kG} {q : kP} {d : Nat} {x : gd} {P : Option gv → gd → Prop} (hq : kV q) {o : Nat} (ho : kiM q o)
    (h : KT G q (d + 1) zk_X5_anyGoing 2 [(0, vr o), (1, vi 0)] [] x P) :
    KT G q (d + 1) zk_X5_anyGoing 0 [(0, vr o)] [] x P := by
  refine T_iconst (v := 0) (dk dtk_X5_anyGoing 0 rfl) (by decide +kernel) ?_
  refine T_istore_n (lv2 := [(1, vi 0), (0, vr o)]) (dk dtk_X5_anyGoing 1 rfl) rfl (by decide) rfl ?_
  exact T_sub [1, 0] rfl h
set_option maxRecDepth 100000 in
set_option maxHeartbeats 4000000 in
theorem kg_X5_anyGoing_2 {G : kG} {q : kP} {d : Nat} {x : gd} {P : Option gv → gd → Prop} (hq : kV q) {o : Nat} (ho : kiM q o) (l1 : Int32)
    (h : (((x.1 60 10) ≤ l1 → P (some (vi 0)) x) ∧ (¬ ((x.1 60 10) ≤ l1) → KT G q d zk_X5_isGoing 0 [(0, vr o), (1, vi l1)] [] x (ri (fun r3 x2 => ((r3 = (0 : Int32) → KT G q (d + 1) zk_X5_anyGoing 2 [(0, vr o), (1, vi (l1 + 1))] [] x2 P) ∧ (¬ (r3 = (0 : Int32)) → P (some (vi 1)) x2))))))) :
    KT G q (d + 1) zk_X5_anyGoing 2 [(0, vr o), (1, vi l1)] [] x P := by
  refine T_iload_n 1 (dk dtk_X5_anyGoing 2 rfl) rfl rfl ?_
  refine T_aload_n 0 (dk dtk_X5_anyGoing 3 rfl) rfl rfl ?_
  refine T_getR o 0 60 (dk dtk_X5_anyGoing 4 rfl) kfl_X5_11 (kk_M0 ho) (kl_M0 hq ho) (by decide) rfl (kr_M_0 ho) ?_
  refine T_getI 60 10 (dk dtk_X5_anyGoing 5 rfl) kfl_X5_67 kk_60 (kl_60 hq) (by decide) rfl ?_
  refine T_icmp_ge 29 (dk dtk_X5_anyGoing 6 rfl) (by decide) (fun c1 => ?_) (fun c1 => ?_)
  · have h := h.1 c1
    refine T_iconst (v := 0) (dk dtk_X5_anyGoing 15 rfl) (by decide +kernel) ?_
    exact KT_iret (dk dtk_X5_anyGoing 16 rfl) rfl rfl h
  · have h := h.2 c1
    refine T_aload_n 0 (dk dtk_X5_anyGoing 7 rfl) rfl rfl ?_
    refine T_iload_n 1 (dk dtk_X5_anyGoing 8 rfl) rfl rfl ?_
    refine KC_Vi [vi l1] [] rfl (dk dtk_X5_anyGoing 9 rfl) kcv_X5_94 rfl (kk_M0 ho) rfl (kl_M0 hq ho) (Nat.le_of_ble_eq_true rfl) (Nat.le_of_ble_eq_true rfl) (gok_i (av_c (gkr (kl_M0 hq ho)) (av_c rfl av_n)) as_n) rfl h (fun r3 x2 h => ?_)
    refine T_if_eq 23 (dk dtk_X5_anyGoing 10 rfl) (by decide) (fun c4 => ?_) (fun c4 => ?_)
    · have h := h.1 c4
      refine T_iinc (v := l1 + 1) (lv2 := [(1, vi (l1 + 1)), (0, vr o)]) 1 (dk dtk_X5_anyGoing 13 rfl) rfl rfl (by decide) rfl ?_
      refine T_goto 2 (dk dtk_X5_anyGoing 14 rfl) (by decide) ?_
      exact T_sub [1, 0] rfl h
    · have h := h.2 c4
      refine T_iconst (v := 1) (dk dtk_X5_anyGoing 11 rfl) (by decide +kernel) ?_
      exact KT_iret (dk dtk_X5_anyGoing 12 rfl) rfl rfl h
set_option maxRecDepth 100000 in
theorem dtk_X5_anyFailed : dck cX5_anyFailed [(0, .iconst 0, 1), (1, .istore_n 1, 1), (2, .iload_n 1, 1), (3, .aload_n 0, 1), (4, .getfield 11, 3), (7, .getfield 67, 3), (10, .if_icmp .ge 21, 3), (13, .aload_n 0, 1), (14, .iload_n 1, 1), (15, .iconst 0, 1), (16, .invokevirtual 90, 3), (19, .iconst 3, 1), (20, .if_icmp .ne 5, 3), (23, .iconst 1, 1), (24, .ireturn, 1), (25, .iinc 1 1, 3), (28, .goto (-26), 3), (31, .iconst 0, 1), (32, .ireturn, 1)] = true := by decide +kernel
set_option maxRecDepth 100000 in
set_option maxHeartbeats 4000000 in
theorem kg_X5_anyFailed_0 {G : kG} {q : kP} {d : Nat} {x : gd} {P : Option gv → gd → Prop} (hq : kV q) {o : Nat} (ho : kiM q o)
    (h : KT G q (d + 1) zk_X5_anyFailed 2 [(0, vr o), (1, vi 0)] [] x P) :
    KT G q (d + 1) zk_X5_anyFailed 0 [(0, vr o)] [] x P := by
  refine T_iconst (v := 0) (dk dtk_X5_anyFailed 0 rfl) (by decide +kernel) ?_
  refine T_istore_n (lv2 := [(1, vi 0), (0, vr o)]) (dk dtk_X5_anyFailed 1 rfl) rfl (by decide) rfl ?_
  exact T_sub [1, 0] rfl h
set_option maxRecDepth 100000 in
set_option maxHeartbeats 4000000 in
theorem kg_X5_anyFailed_2 {G : kG} {q : kP} {d : Nat} {x : gd} {P : Option gv → gd → Prop} (hq : kV q) {o : Nat} (ho : kiM q o) (l1 : Int32)
    (h : (((x.1 60 10) ≤ l1 → P (some (vi 0)) x) ∧ (¬ ((x.1 60 10) ≤ l1) → KT G q d zk_X5_get 0 [(0, vr o), (1, vi l1), (2, vi 0)] [] x (ri (fun r3 x2 => ((¬ (r3 = (3 : Int32)) → KT G q (d + 1) zk_X5_anyFailed 2 [(0, vr o), (1, vi (l1 + 1))] [] x2 P) ∧ (r3 = (3 : Int32) → P (some (vi 1)) x2))))))) :
    KT G q (d + 1) zk_X5_anyFailed 2 [(0, vr o), (1, vi l1)] [] x P := by
  refine T_iload_n 1 (dk dtk_X5_anyFailed 2 rfl) rfl rfl ?_
  refine T_aload_n 0 (dk dtk_X5_anyFailed 3 rfl) rfl rfl ?_
  refine T_getR o 0 60 (dk dtk_X5_anyFailed 4 rfl) kfl_X5_11 (kk_M0 ho) (kl_M0 hq ho) (by decide) rfl (kr_M_0 ho) ?_
  refine T_getI 60 10 (dk dtk_X5_anyFailed 5 rfl) kfl_X5_67 kk_60 (kl_60 hq) (by decide) rfl ?_
  refine T_icmp_ge 31 (dk dtk_X5_anyFailed 6 rfl) (by decide) (fun c1 => ?_) (fun c1 => ?_)
  · have h := h.1 c1
    refine T_iconst (v := 0) (dk dtk_X5_anyFailed 17 rfl) (by decide +kernel) ?_
    exact KT_iret (dk dtk_X5_anyFailed 18 rfl) rfl rfl h
  · have h := h.2 c1
    refine T_aload_n 0 (dk dtk_X5_anyFailed 7 rfl) rfl rfl ?_
    refine T_iload_n 1 (dk dtk_X5_anyFailed 8 rfl) rfl rfl ?_
    refine T_iconst (v := 0) (dk dtk_X5_anyFailed 9 rfl) (by decide +kernel) ?_
    refine KC_Vi [vi l1, vi 0] [] rfl (dk dtk_X5_anyFailed 10 rfl) kcv_X5_90 rfl (kk_M0 ho) rfl (kl_M0 hq ho) (Nat.le_of_ble_eq_true rfl) (Nat.le_of_ble_eq_true rfl) (gok_i (av_c (gkr (kl_M0 hq ho)) (av_c rfl av_n)) as_n) rfl h (fun r3 x2 h => ?_)
    refine T_iconst (v := 3) (dk dtk_X5_anyFailed 11 rfl) (by decide +kernel) ?_
    refine T_icmp_ne 25 (dk dtk_X5_anyFailed 12 rfl) (by decide) (fun c4 => ?_) (fun c4 => ?_)
    · have h := h.1 c4
      refine T_iinc (v := l1 + 1) (lv2 := [(1, vi (l1 + 1)), (0, vr o)]) 1 (dk dtk_X5_anyFailed 15 rfl) rfl rfl (by decide) rfl ?_
      refine T_goto 2 (dk dtk_X5_anyFailed 16 rfl) (by decide) ?_
      exact T_sub [1, 0] rfl h
    · have h := h.2 c4
      refine T_iconst (v := 1) (dk dtk_X5_anyFailed 13 rfl) (by decide +kernel) ?_
      exact KT_iret (dk dtk_X5_anyFailed 14 rfl) rfl rfl h
set_option maxRecDepth 100000 in
theorem dtk_X5_isStuck : dck cX5_isStuck [(0, .aload_n 0, 1), (1, .getfield 98, 3), (4, .ifCond .ne 14, 3), (7, .aload_n 0, 1), (8, .invokevirtual 101, 3), (11, .ifCond .eq 7, 3), (14, .iconst 1, 1), (15, .goto 4, 3), (18, .iconst 0, 1), (19, .ireturn, 1)] = true := by decide +kernel
set_option maxRecDepth 100000 in
set_option maxHeartbeats 4000000 in
theorem kg_X5_isStuck_0 {G : kG} {q : kP} {d : Nat} {x : gd} {P : Option gv → gd → Prop} (hq : kV q) {o : Nat} (ho : kiM q o)
    (h : ((¬ ((x.1 o 13) = (0 : Int32)) → P (some (vi 0)) x) ∧ ((x.1 o 13) = (0 : Int32) → KT G q d zk_X5_anyGoing 0 [(0, vr o)] [] x (ri (fun r3 x2 => ((r3 = (0 : Int32) → P (some (vi 0)) x2) ∧ (¬ (r3 = (0 : Int32)) → P (some (vi 1)) x2))))))) :
    KT G q (d + 1) zk_X5_isStuck 0 [(0, vr o)] [] x P := by
  refine T_aload_n 0 (dk dtk_X5_isStuck 0 rfl) rfl rfl ?_
  refine T_getI o 13 (dk dtk_X5_isStuck 1 rfl) kfl_X5_98 (kk_M0 ho) (kl_M0 hq ho) (by decide) rfl ?_
  refine T_if_ne 18 (dk dtk_X5_isStuck 2 rfl) (by decide) (fun c1 => ?_) (fun c1 => ?_)
  · have h := h.1 c1
    refine T_iconst (v := 0) (dk dtk_X5_isStuck 8 rfl) (by decide +kernel) ?_
    exact KT_iret (dk dtk_X5_isStuck 9 rfl) rfl rfl h
  · have h := h.2 c1
    refine T_aload_n 0 (dk dtk_X5_isStuck 3 rfl) rfl rfl ?_
    refine T_sub (lv2 := []) [] rfl ?_
    refine KC_Vi [] [] rfl (dk dtk_X5_isStuck 4 rfl) kcv_X5_101 rfl (kk_M0 ho) rfl (kl_M0 hq ho) (Nat.le_of_ble_eq_true rfl) (Nat.le_of_ble_eq_true rfl) (gok_i av_n as_n) rfl h (fun r3 x2 h => ?_)
    refine T_if_eq 18 (dk dtk_X5_isStuck 5 rfl) (by decide) (fun c4 => ?_) (fun c4 => ?_)
    · have h := h.1 c4
      refine T_iconst (v := 0) (dk dtk_X5_isStuck 8 rfl) (by decide +kernel) ?_
      exact KT_iret (dk dtk_X5_isStuck 9 rfl) rfl rfl h
    · have h := h.2 c4
      refine T_iconst (v := 1) (dk dtk_X5_isStuck 6 rfl) (by decide +kernel) ?_
      refine T_goto 19 (dk dtk_X5_isStuck 7 rfl) (by decide) ?_
      exact KT_iret (dk dtk_X5_isStuck 9 rfl) rfl rfl h
set_option maxRecDepth 100000 in
theorem dtk_X5_allLate : dck cX5_allLate [(0, .iconst 0, 1), (1, .istore_n 1, 1), (2, .iconst 0, 1), (3, .istore_n 2, 1), (4, .iload_n 2, 1), (5, .aload_n 0, 1), (6, .getfield 11, 3), (9, .getfield 67, 3), (12, .if_icmp .ge 19, 3), (15, .iload_n 1, 1), (16, .aload_n 0, 1), (17, .iload_n 2, 1), (18, .bipush 7, 2), (20, .invokevirtual 90, 3), (23, .iadd, 1), (24, .istore_n 1, 1), (25, .iinc 2 1, 3), (28, .goto (-24), 3), (31, .iload_n 1, 1), (32, .ireturn, 1)] = true := by decide +kernel
set_option maxRecDepth 100000 in
set_option maxHeartbeats 4000000 in
theorem kg_X5_allLate_0 {G : kG} {q : kP} {d : Nat} {x : gd} {P : Option gv → gd → Prop} (hq : kV q) {o : Nat} (ho : kiM q o)
    (h : KT G q (d + 1) zk_X5_allLate 4 [(0, vr o), (1, vi 0), (2, vi 0)] [] x P) :
    KT G q (d + 1) zk_X5_allLate 0 [(0, vr o)] [] x P := by
  refine T_iconst (v := 0) (dk dtk_X5_allLate 0 rfl) (by decide +kernel) ?_
  refine T_istore_n (lv2 := [(1, vi 0), (0, vr o)]) (dk dtk_X5_allLate 1 rfl) rfl (by decide) rfl ?_
  refine T_iconst (v := 0) (dk dtk_X5_allLate 2 rfl) (by decide +kernel) ?_
  refine T_istore_n (lv2 := [(2, vi 0), (1, vi 0), (0, vr o)]) (dk dtk_X5_allLate 3 rfl) rfl (by decide) rfl ?_
  exact T_sub [2, 1, 0] rfl h
set_option maxRecDepth 100000 in
set_option maxHeartbeats 4000000 in
theorem kg_X5_allLate_4 {G : kG} {q : kP} {d : Nat} {x : gd} {P : Option gv → gd → Prop} (hq : kV q) {o : Nat} (ho : kiM q o) (l1 : Int32) (l2 : Int32)
    (h : (((x.1 60 10) ≤ l2 → P (some (vi l1)) x) ∧ (¬ ((x.1 60 10) ≤ l2) → KT G q d zk_X5_get 0 [(0, vr o), (1, vi l2), (2, vi 7)] [] x (ri (fun r3 x2 => KT G q (d + 1) zk_X5_allLate 4 [(0, vr o), (1, vi (l1 + r3)), (2, vi (l2 + 1))] [] x2 P))))) :
    KT G q (d + 1) zk_X5_allLate 4 [(0, vr o), (1, vi l1), (2, vi l2)] [] x P := by
  refine T_iload_n 2 (dk dtk_X5_allLate 4 rfl) rfl rfl ?_
  refine T_aload_n 0 (dk dtk_X5_allLate 5 rfl) rfl rfl ?_
  refine T_getR o 0 60 (dk dtk_X5_allLate 6 rfl) kfl_X5_11 (kk_M0 ho) (kl_M0 hq ho) (by decide) rfl (kr_M_0 ho) ?_
  refine T_getI 60 10 (dk dtk_X5_allLate 7 rfl) kfl_X5_67 kk_60 (kl_60 hq) (by decide) rfl ?_
  refine T_icmp_ge 31 (dk dtk_X5_allLate 8 rfl) (by decide) (fun c1 => ?_) (fun c1 => ?_)
  · have h := h.1 c1
    refine T_iload_n 1 (dk dtk_X5_allLate 18 rfl) rfl rfl ?_
    exact KT_iret (dk dtk_X5_allLate 19 rfl) rfl rfl h
  · have h := h.2 c1
    refine T_iload_n 1 (dk dtk_X5_allLate 9 rfl) rfl rfl ?_
    refine T_aload_n 0 (dk dtk_X5_allLate 10 rfl) rfl rfl ?_
    refine T_iload_n 2 (dk dtk_X5_allLate 11 rfl) rfl rfl ?_
    refine T_bipush (v := 7) (dk dtk_X5_allLate 12 rfl) (by decide +kernel) ?_
    refine T_sub (lv2 := [(0, vr o), (2, vi l2)]) [0, 2] rfl ?_
    refine KC_Vi [vi l2, vi 7] [vi l1] rfl (dk dtk_X5_allLate 13 rfl) kcv_X5_90 rfl (kk_M0 ho) rfl (kl_M0 hq ho) (Nat.le_of_ble_eq_true rfl) (Nat.le_of_ble_eq_true rfl) (gok_i (av_c (gkr (kl_M0 hq ho)) (av_c rfl av_n)) (as_c rfl as_n)) rfl h (fun r3 x2 h => ?_)
    refine T_iadd (dk dtk_X5_allLate 14 rfl) ?_
    refine T_istore_n (lv2 := [(1, vi (l1 + r3)), (0, vr o), (2, vi l2)]) (dk dtk_X5_allLate 15 rfl) rfl (by decide) rfl ?_
    refine T_iinc (v := l2 + 1) (lv2 := [(2, vi (l2 + 1)), (1, vi (l1 + r3)), (0, vr o)]) 2 (dk dtk_X5_allLate 16 rfl) rfl rfl (by decide) rfl ?_
    refine T_goto 4 (dk dtk_X5_allLate 17 rfl) (by decide) ?_
    exact T_sub [2, 1, 0] rfl h
set_option maxRecDepth 100000 in
theorem dtk_X5_known : dck cX5_known [(0, .aload_n 0, 1), (1, .iload_n 1, 1), (2, .iconst 0, 1), (3, .invokevirtual 90, 3), (6, .istore_n 2, 1), (7, .iload_n 2, 1), (8, .iconst 1, 1), (9, .if_icmp .eq 8, 3), (12, .iload_n 2, 1), (13, .iconst 3, 1), (14, .if_icmp .ne 20, 3), (17, .aload_n 0, 1), (18, .getfield 21, 3), (21, .getfield 105, 3), (24, .aload_n 0, 1), (25, .iload_n 1, 1), (26, .iconst 2, 1), (27, .invokevirtual 90, 3), (30, .iaload, 1), (31, .goto 4, 3), (34, .iconst 0, 1), (35, .ireturn, 1)] = true := by decide +kernel
set_option maxRecDepth 100000 in
set_option maxHeartbeats 4000000 in
theorem kg_X5_known_0 {G : kG} {q : kP} {d : Nat} {x : gd} {P : Option gv → gd → Prop} (hq : kV q) {o : Nat} (ho : kiM q o) (l1 : Int32)
    (h : KT G q d zk_X5_get 0 [(0, vr o), (1, vi l1), (2, vi 0)] [] x (ri (fun r2 x1 => ((r2 = (1 : Int32) → KT G q (d + 1) zk_X5_known 17 [(0, vr o), (1, vi l1)] [] x1 P) ∧ (¬ (r2 = (1 : Int32)) → ((¬ (r2 = (3 : Int32)) → P (some (vi 0)) x1) ∧ (r2 = (3 : Int32) → KT G q (d + 1) zk_X5_known 17 [(0, vr o), (1, vi l1)] [] x1 P))))))) :
    KT G q (d + 1) zk_X5_known 0 [(0, vr o), (1, vi l1)] [] x P := by
  refine T_aload_n 0 (dk dtk_X5_known 0 rfl) rfl rfl ?_
  refine T_iload_n 1 (dk dtk_X5_known 1 rfl) rfl rfl ?_
  refine T_iconst (v := 0) (dk dtk_X5_known 2 rfl) (by decide +kernel) ?_
  refine KC_Vi [vi l1, vi 0] [] rfl (dk dtk_X5_known 3 rfl) kcv_X5_90 rfl (kk_M0 ho) rfl (kl_M0 hq ho) (Nat.le_of_ble_eq_true rfl) (Nat.le_of_ble_eq_true rfl) (gok_i (av_c (gkr (kl_M0 hq ho)) (av_c rfl av_n)) as_n) rfl h (fun r2 x1 h => ?_)
  refine T_istore_n (lv2 := [(2, vi r2), (0, vr o), (1, vi l1)]) (dk dtk_X5_known 4 rfl) rfl (by decide) rfl ?_
  refine T_iload_n 0 (dk dtk_X5_known 5 rfl) rfl rfl ?_
  refine T_iconst (v := 1) (dk dtk_X5_known 6 rfl) (by decide +kernel) ?_
  refine T_icmp_eq 17 (dk dtk_X5_known 7 rfl) (by decide) (fun c3 => ?_) (fun c3 => ?_)
  · have h := h.1 c3
    exact T_sub [1, 2] rfl h
  · have h := h.2 c3
    refine T_iload_n 0 (dk dtk_X5_known 8 rfl) rfl rfl ?_
    refine T_iconst (v := 3) (dk dtk_X5_known 9 rfl) (by decide +kernel) ?_
    refine T_icmp_ne 34 (dk dtk_X5_known 10 rfl) (by decide) (fun c4 => ?_) (fun c4 => ?_)
    · have h := h.1 c4
      refine T_iconst (v := 0) (dk dtk_X5_known 20 rfl) (by decide +kernel) ?_
      exact KT_iret (dk dtk_X5_known 21 rfl) rfl rfl h
    · have h := h.2 c4
      exact T_sub [1, 2] rfl h
set_option maxRecDepth 100000 in
set_option maxHeartbeats 4000000 in
theorem kg_X5_known_17 {G : kG} {q : kP} {d : Nat} {x : gd} {P : Option gv → gd → Prop} (hq : kV q) {o : Nat} (ho : kiM q o) (l1 : Int32)
    (h : KT G q d zk_X5_get 0 [(0, vr o), (1, vi l1), (2, vi 2)] [] x (ri (fun r2 x1 => vp_in r2 400 ∧ P (some (vi (x1.1 83 (r2 : Int32).toNatClampNeg))) x1))) :
    KT G q (d + 1) zk_X5_known 17 [(0, vr o), (1, vi l1)] [] x P := by
  refine T_aload_n 0 (dk dtk_X5_known 11 rfl) rfl rfl ?_
  refine T_getR o 1 80 (dk dtk_X5_known 12 rfl) kfl_X5_21 (kk_M0 ho) (kl_M0 hq ho) (by decide) rfl (kr_M_1 ho) ?_
  refine T_getR 80 2 83 (dk dtk_X5_known 13 rfl) kfl_X5_105 kk_80 (kl_80 hq) (by decide) rfl kr_80_2 ?_
  refine T_aload_n 0 (dk dtk_X5_known 14 rfl) rfl rfl ?_
  refine T_iload_n 1 (dk dtk_X5_known 15 rfl) rfl rfl ?_
  refine T_iconst (v := 2) (dk dtk_X5_known 16 rfl) (by decide +kernel) ?_
  refine T_sub (lv2 := []) [] rfl ?_
  refine KC_Vi [vi l1, vi 2] [vr 83] rfl (dk dtk_X5_known 17 rfl) kcv_X5_90 rfl (kk_M0 ho) rfl (kl_M0 hq ho) (Nat.le_of_ble_eq_true rfl) (Nat.le_of_ble_eq_true rfl) (gok_i av_n (as_c (gkr (kl_83 hq)) as_n)) rfl h (fun r2 x1 h => ?_)
  obtain ⟨h3, h⟩ := h
  refine T_iald 83 400 (dk dtk_X5_known 18 rfl) kk_83 (kl_83 hq) h3 ?_
  refine T_goto 35 (dk dtk_X5_known 19 rfl) (by decide) ?_
  exact KT_iret (dk dtk_X5_known 21 rfl) rfl rfl h
set_option maxRecDepth 100000 in
theorem dtk_X5_lineOf : dck cX5_lineOf [(0, .aload_n 0, 1), (1, .iload_n 1, 1), (2, .invokevirtual 94, 3), (5, .ifCond .eq 20, 3), (8, .aload_n 0, 1), (9, .getfield 21, 3), (12, .getfield 110, 3), (15, .aload_n 0, 1), (16, .iload_n 1, 1), (17, .iconst 2, 1), (18, .invokevirtual 90, 3), (21, .iaload, 1), (22, .goto 4, 3), (25, .iconst 0, 1), (26, .ireturn, 1)] = true := by decide +kernel
set_option maxRecDepth 100000 in
set_option maxHeartbeats 4000000 in
theorem kg_X5_lineOf_0 {G : kG} {q : kP} {d : Nat} {x : gd} {P : Option gv → gd → Prop} (hq : kV q) {o : Nat} (ho : kiM q o) (l1 : Int32)
    (h : KT G q d zk_X5_isGoing 0 [(0, vr o), (1, vi l1)] [] x (ri (fun r2 x1 => ((r2 = (0 : Int32) → P (some (vi 0)) x1) ∧ (¬ (r2 = (0 : Int32)) → KT G q d zk_X5_get 0 [(0, vr o), (1, vi l1), (2, vi 2)] [] x1 (ri (fun r5 x4 => vp_in r5 400 ∧ P (some (vi (x4.1 82 (r5 : Int32).toNatClampNeg))) x4))))))) :
    KT G q (d + 1) zk_X5_lineOf 0 [(0, vr o), (1, vi l1)] [] x P := by
  refine T_aload_n 0 (dk dtk_X5_lineOf 0 rfl) rfl rfl ?_
  refine T_iload_n 1 (dk dtk_X5_lineOf 1 rfl) rfl rfl ?_
  refine KC_Vi [vi l1] [] rfl (dk dtk_X5_lineOf 2 rfl) kcv_X5_94 rfl (kk_M0 ho) rfl (kl_M0 hq ho) (Nat.le_of_ble_eq_true rfl) (Nat.le_of_ble_eq_true rfl) (gok_i (av_c (gkr (kl_M0 hq ho)) (av_c rfl av_n)) as_n) rfl h (fun r2 x1 h => ?_)
  refine T_if_eq 25 (dk dtk_X5_lineOf 3 rfl) (by decide) (fun c3 => ?_) (fun c3 => ?_)
  · have h := h.1 c3
    refine T_iconst (v := 0) (dk dtk_X5_lineOf 13 rfl) (by decide +kernel) ?_
    exact KT_iret (dk dtk_X5_lineOf 14 rfl) rfl rfl h
  · have h := h.2 c3
    refine T_aload_n 0 (dk dtk_X5_lineOf 4 rfl) rfl rfl ?_
    refine T_getR o 1 80 (dk dtk_X5_lineOf 5 rfl) kfl_X5_21 (kk_M0 ho) (kl_M0 hq ho) (by decide) rfl (kr_M_1 ho) ?_
    refine T_getR 80 1 82 (dk dtk_X5_lineOf 6 rfl) kfl_X5_110 kk_80 (kl_80 hq) (by decide) rfl kr_80_1 ?_
    refine T_aload_n 0 (dk dtk_X5_lineOf 7 rfl) rfl rfl ?_
    refine T_iload_n 1 (dk dtk_X5_lineOf 8 rfl) rfl rfl ?_
    refine T_iconst (v := 2) (dk dtk_X5_lineOf 9 rfl) (by decide +kernel) ?_
    refine T_sub (lv2 := []) [] rfl ?_
    refine KC_Vi [vi l1, vi 2] [vr 82] rfl (dk dtk_X5_lineOf 10 rfl) kcv_X5_90 rfl (kk_M0 ho) rfl (kl_M0 hq ho) (Nat.le_of_ble_eq_true rfl) (Nat.le_of_ble_eq_true rfl) (gok_i av_n (as_c (gkr (kl_82 hq)) as_n)) rfl h (fun r5 x4 h => ?_)
    obtain ⟨h6, h⟩ := h
    refine T_iald 82 400 (dk dtk_X5_lineOf 11 rfl) kk_82 (kl_82 hq) h6 ?_
    refine T_goto 26 (dk dtk_X5_lineOf 12 rfl) (by decide) ?_
    exact KT_iret (dk dtk_X5_lineOf 14 rfl) rfl rfl h
set_option maxRecDepth 100000 in
theorem dtk_X5_holder : dck cX5_holder [(0, .aload_n 0, 1), (1, .getfield 29, 3), (4, .aload_n 0, 1), (5, .getfield 49, 3), (8, .iconst 2, 1), (9, .iload_n 1, 1), (10, .imul, 1), (11, .iadd, 1), (12, .iaload, 1), (13, .iconst 1, 1), (14, .isub, 1), (15, .ireturn, 1)] = true := by decide +kernel
set_option maxRecDepth 100000 in
set_option maxHeartbeats 4000000 in
theorem kg_X5_holder_0 {G : kG} {q : kP} {d : Nat} {x : gd} {P : Option gv → gd → Prop} (hq : kV q) {o : Nat} (ho : kiM q o) (l1 : Int32)
    (h : vp_in ((x.1 o 6) + (2 * l1)) 228 ∧ P (some (vi ((x.1 (o + 5) ((x.1 o 6) + (2 * l1) : Int32).toNatClampNeg) - 1))) x) :
    KT G q d zk_X5_holder 0 [(0, vr o), (1, vi l1)] [] x P := by
  refine T_aload_n 0 (dk dtk_X5_holder 0 rfl) rfl rfl ?_
  refine T_getR o 4 (o + 5) (dk dtk_X5_holder 1 rfl) kfl_X5_29 (kk_M0 ho) (kl_M0 hq ho) (by decide) rfl (kr_M_4 ho) ?_
  refine T_aload_n 0 (dk dtk_X5_holder 2 rfl) rfl rfl ?_
  refine T_getI o 6 (dk dtk_X5_holder 3 rfl) kfl_X5_49 (kk_M0 ho) (kl_M0 hq ho) (by decide) rfl ?_
  refine T_iconst (v := 2) (dk dtk_X5_holder 4 rfl) (by decide +kernel) ?_
  refine T_iload_n 1 (dk dtk_X5_holder 5 rfl) rfl rfl ?_
  refine T_imul (dk dtk_X5_holder 6 rfl) ?_
  refine T_iadd (dk dtk_X5_holder 7 rfl) ?_
  obtain ⟨h1, h⟩ := h
  refine T_iald (o + 5) 228 (dk dtk_X5_holder 8 rfl) (kk_M5 ho) (kl_M5 hq ho) h1 ?_
  refine T_iconst (v := 1) (dk dtk_X5_holder 9 rfl) (by decide +kernel) ?_
  refine T_isub (dk dtk_X5_holder 10 rfl) ?_
  exact KT_iret (dk dtk_X5_holder 11 rfl) rfl rfl h
set_option maxRecDepth 100000 in
theorem dtk_X5_often : dck cX5_often [(0, .aload_n 0, 1), (1, .getfield 29, 3), (4, .aload_n 0, 1), (5, .getfield 49, 3), (8, .iconst 2, 1), (9, .iload_n 1, 1), (10, .imul, 1), (11, .iadd, 1), (12, .iconst 1, 1), (13, .iadd, 1), (14, .iaload, 1), (15, .ireturn, 1)] = true := by decide +kernel
set_option maxRecDepth 100000 in
set_option maxHeartbeats 4000000 in
theorem kg_X5_often_0 {G : kG} {q : kP} {d : Nat} {x : gd} {P : Option gv → gd → Prop} (hq : kV q) {o : Nat} (ho : kiM q o) (l1 : Int32)
    (h : vp_in (((x.1 o 6) + (2 * l1)) + 1) 228 ∧ P (some (vi (x.1 (o + 5) (((x.1 o 6) + (2 * l1)) + 1 : Int32).toNatClampNeg))) x) :
    KT G q d zk_X5_often 0 [(0, vr o), (1, vi l1)] [] x P := by
  refine T_aload_n 0 (dk dtk_X5_often 0 rfl) rfl rfl ?_
  refine T_getR o 4 (o + 5) (dk dtk_X5_often 1 rfl) kfl_X5_29 (kk_M0 ho) (kl_M0 hq ho) (by decide) rfl (kr_M_4 ho) ?_
  refine T_aload_n 0 (dk dtk_X5_often 2 rfl) rfl rfl ?_
  refine T_getI o 6 (dk dtk_X5_often 3 rfl) kfl_X5_49 (kk_M0 ho) (kl_M0 hq ho) (by decide) rfl ?_
  refine T_iconst (v := 2) (dk dtk_X5_often 4 rfl) (by decide +kernel) ?_
  refine T_iload_n 1 (dk dtk_X5_often 5 rfl) rfl rfl ?_
  refine T_imul (dk dtk_X5_often 6 rfl) ?_
  refine T_iadd (dk dtk_X5_often 7 rfl) ?_
  refine T_iconst (v := 1) (dk dtk_X5_often 8 rfl) (by decide +kernel) ?_
  refine T_iadd (dk dtk_X5_often 9 rfl) ?_
  obtain ⟨h1, h⟩ := h
  refine T_iald (o + 5) 228 (dk dtk_X5_often 10 rfl) (kk_M5 ho) (kl_M5 hq ho) h1 ?_
  exact KT_iret (dk dtk_X5_often 11 rfl) rfl rfl h
end
section
set_option maxRecDepth 100000 in
theorem dtk_X5_setLock : dck cX5_setLock [(0, .aload_n 0, 1), (1, .getfield 29, 3), (4, .aload_n 0, 1), (5, .getfield 49, 3), (8, .iconst 2, 1), (9, .iload_n 1, 1), (10, .imul, 1), (11, .iadd, 1), (12, .iload_n 2, 1), (13, .iconst 1, 1), (14, .iadd, 1), (15, .iastore, 1), (16, .aload_n 0, 1), (17, .getfield 29, 3), (20, .aload_n 0, 1), (21, .getfield 49, 3), (24, .iconst 2, 1), (25, .iload_n 1, 1), (26, .imul, 1), (27, .iadd, 1), (28, .iconst 1, 1), (29, .iadd, 1), (30, .iload_n 3, 1), (31, .iastore, 1), (32, .return_, 1)] = true := by decide +kernel
set_option maxRecDepth 100000 in
set_option maxHeartbeats 4000000 in
theorem kg_X5_setLock_0 {G : kG} {q : kP} {d : Nat} {x : gd} {P : Option gv → gd → Prop} (hq : kV q) {o : Nat} (ho : kiM q o) (l1 : Int32) (l2 : Int32) (l3 : Int32)
    (h : vp_in ((x.1 o 6) + (2 * l1)) 228 ∧ (∀ x2 : gd, x2 = si x (o + 5) ((x.1 o 6) + (2 * l1) : Int32).toNatClampNeg (l2 + 1) → vp_in (((x2.1 o 6) + (2 * l1)) + 1) 228 ∧ (∀ x4 : gd, x4 = si x2 (o + 5) (((x2.1 o 6) + (2 * l1)) + 1 : Int32).toNatClampNeg l3 → P none x4))) :
    KT G q d zk_X5_setLock 0 [(0, vr o), (1, vi l1), (2, vi l2), (3, vi l3)] [] x P := by
  refine T_aload_n 0 (dk dtk_X5_setLock 0 rfl) rfl rfl ?_
  refine T_getR o 4 (o + 5) (dk dtk_X5_setLock 1 rfl) kfl_X5_29 (kk_M0 ho) (kl_M0 hq ho) (by decide) rfl (kr_M_4 ho) ?_
  refine T_aload_n 0 (dk dtk_X5_setLock 2 rfl) rfl rfl ?_
  refine T_getI o 6 (dk dtk_X5_setLock 3 rfl) kfl_X5_49 (kk_M0 ho) (kl_M0 hq ho) (by decide) rfl ?_
  refine T_iconst (v := 2) (dk dtk_X5_setLock 4 rfl) (by decide +kernel) ?_
  refine T_iload_n 1 (dk dtk_X5_setLock 5 rfl) rfl rfl ?_
  refine T_imul (dk dtk_X5_setLock 6 rfl) ?_
  refine T_iadd (dk dtk_X5_setLock 7 rfl) ?_
  refine T_iload_n 2 (dk dtk_X5_setLock 8 rfl) rfl rfl ?_
  refine T_iconst (v := 1) (dk dtk_X5_setLock 9 rfl) (by decide +kernel) ?_
  refine T_iadd (dk dtk_X5_setLock 10 rfl) ?_
  obtain ⟨h1, h⟩ := h
  obtain ⟨x2, ex2⟩ : ∃ z, z = si x (o + 5) ((x.1 o 6) + (2 * l1) : Int32).toNatClampNeg (l2 + 1) := ⟨_, rfl⟩
  have h := h x2 ex2
  refine T_iast (o + 5) 228 (dk dtk_X5_setLock 11 rfl) (kk_M5 ho) (kl_M5 hq ho) h1 ?_
  rw [← ex2]
  refine T_aload_n 0 (dk dtk_X5_setLock 12 rfl) rfl rfl ?_
  refine T_getR o 4 (o + 5) (dk dtk_X5_setLock 13 rfl) kfl_X5_29 (kk_M0 ho) (kl_M0 hq ho) (by decide) rfl (kr_M_4 ho) ?_
  refine T_aload_n 0 (dk dtk_X5_setLock 14 rfl) rfl rfl ?_
  refine T_getI o 6 (dk dtk_X5_setLock 15 rfl) kfl_X5_49 (kk_M0 ho) (kl_M0 hq ho) (by decide) rfl ?_
  refine T_iconst (v := 2) (dk dtk_X5_setLock 16 rfl) (by decide +kernel) ?_
  refine T_iload_n 1 (dk dtk_X5_setLock 17 rfl) rfl rfl ?_
  refine T_imul (dk dtk_X5_setLock 18 rfl) ?_
  refine T_iadd (dk dtk_X5_setLock 19 rfl) ?_
  refine T_iconst (v := 1) (dk dtk_X5_setLock 20 rfl) (by decide +kernel) ?_
  refine T_iadd (dk dtk_X5_setLock 21 rfl) ?_
  refine T_iload_n 3 (dk dtk_X5_setLock 22 rfl) rfl rfl ?_
  obtain ⟨h3, h⟩ := h
  obtain ⟨x4, ex4⟩ : ∃ z, z = si x2 (o + 5) (((x2.1 o 6) + (2 * l1)) + 1 : Int32).toNatClampNeg l3 := ⟨_, rfl⟩
  have h := h x4 ex4
  refine T_iast (o + 5) 228 (dk dtk_X5_setLock 23 rfl) (kk_M5 ho) (kl_M5 hq ho) h3 ?_
  rw [← ex4]
  exact KT_vret (dk dtk_X5_setLock 24 rfl) rfl h
set_option maxRecDepth 100000 in
theorem dtk_X5_heldBy : dck cX5_heldBy [(0, .iconst 0, 1), (1, .istore_n 2, 1), (2, .iconst 0, 1), (3, .istore_n 3, 1), (4, .iload_n 3, 1), (5, .aload_n 0, 1), (6, .getfield 11, 3), (9, .getfield 52, 3), (12, .if_icmp .ge 24, 3), (15, .aload_n 0, 1), (16, .iload_n 3, 1), (17, .invokevirtual 113, 3), (20, .iload_n 1, 1), (21, .if_icmp .ne 9, 3), (24, .iload_n 2, 1), (25, .iconst 1, 1), (26, .iload_n 3, 1), (27, .ishl, 1), (28, .ior, 1), (29, .istore_n 2, 1), (30, .iinc 3 1, 3), (33, .goto (-29), 3), (36, .iload_n 2, 1), (37, .ireturn, 1)] = true := by decide +kernel
set_option maxRecDepth 100000 in
set_option maxHeartbeats 4000000 in
theorem kg_X5_heldBy_0 {G : kG} {q : kP} {d : Nat} {x : gd} {P : Option gv → gd → Prop} (hq : kV q) {o : Nat} (ho : kiM q o) (l1 : Int32)
    (h : KT G q (d + 1) zk_X5_heldBy 4 [(0, vr o), (1, vi l1), (2, vi 0), (3, vi 0)] [] x P) :
    KT G q (d + 1) zk_X5_heldBy 0 [(0, vr o), (1, vi l1)] [] x P := by
  refine T_iconst (v := 0) (dk dtk_X5_heldBy 0 rfl) (by decide +kernel) ?_
  refine T_istore_n (lv2 := [(2, vi 0), (0, vr o), (1, vi l1)]) (dk dtk_X5_heldBy 1 rfl) rfl (by decide) rfl ?_
  refine T_iconst (v := 0) (dk dtk_X5_heldBy 2 rfl) (by decide +kernel) ?_
  refine T_istore_n (lv2 := [(3, vi 0), (2, vi 0), (0, vr o), (1, vi l1)]) (dk dtk_X5_heldBy 3 rfl) rfl (by decide) rfl ?_
  exact T_sub [2, 3, 1, 0] rfl h
set_option maxRecDepth 100000 in
set_option maxHeartbeats 4000000 in
theorem kg_X5_heldBy_4 {G : kG} {q : kP} {d : Nat} {x : gd} {P : Option gv → gd → Prop} (hq : kV q) {o : Nat} (ho : kiM q o) (l1 : Int32) (l2 : Int32) (l3 : Int32)
    (h : (((x.1 60 9) ≤ l3 → P (some (vi l2)) x) ∧ (¬ ((x.1 60 9) ≤ l3) → KT G q d zk_X5_holder 0 [(0, vr o), (1, vi l3)] [] x (ri (fun r3 x2 => ((¬ (r3 = l1) → KT G q (d + 1) zk_X5_heldBy 4 [(0, vr o), (1, vi l1), (2, vi l2), (3, vi (l3 + 1))] [] x2 P) ∧ (r3 = l1 → KT G q (d + 1) zk_X5_heldBy 4 [(0, vr o), (1, vi l1), (2, vi (l2 ||| (1 <<< (l3 &&& 31 : Int32)))), (3, vi (l3 + 1))] [] x2 P))))))) :
    KT G q (d + 1) zk_X5_heldBy 4 [(0, vr o), (1, vi l1), (2, vi l2), (3, vi l3)] [] x P := by
  refine T_iload_n 3 (dk dtk_X5_heldBy 4 rfl) rfl rfl ?_
  refine T_aload_n 0 (dk dtk_X5_heldBy 5 rfl) rfl rfl ?_
  refine T_getR o 0 60 (dk dtk_X5_heldBy 6 rfl) kfl_X5_11 (kk_M0 ho) (kl_M0 hq ho) (by decide) rfl (kr_M_0 ho) ?_
  refine T_getI 60 9 (dk dtk_X5_heldBy 7 rfl) kfl_X5_52 kk_60 (kl_60 hq) (by decide) rfl ?_
  refine T_icmp_ge 36 (dk dtk_X5_heldBy 8 rfl) (by decide) (fun c1 => ?_) (fun c1 => ?_)
  · have h := h.1 c1
    refine T_iload_n 2 (dk dtk_X5_heldBy 22 rfl) rfl rfl ?_
    exact KT_iret (dk dtk_X5_heldBy 23 rfl) rfl rfl h
  · have h := h.2 c1
    refine T_aload_n 0 (dk dtk_X5_heldBy 9 rfl) rfl rfl ?_
    refine T_iload_n 3 (dk dtk_X5_heldBy 10 rfl) rfl rfl ?_
    refine KC_Vi [vi l3] [] rfl (dk dtk_X5_heldBy 11 rfl) kcv_X5_113 rfl (kk_M0 ho) rfl (kl_M0 hq ho) (Nat.le_of_ble_eq_true rfl) (Nat.le_of_ble_eq_true rfl) (gok_i (av_c (gkr (kl_M0 hq ho)) (av_c rfl (av_c rfl (av_c rfl av_n)))) as_n) rfl h (fun r3 x2 h => ?_)
    refine T_iload_n 1 (dk dtk_X5_heldBy 12 rfl) rfl rfl ?_
    refine T_icmp_ne 30 (dk dtk_X5_heldBy 13 rfl) (by decide) (fun c4 => ?_) (fun c4 => ?_)
    · have h := h.1 c4
      refine T_iinc (v := l3 + 1) (lv2 := [(3, vi (l3 + 1)), (0, vr o), (1, vi l1), (2, vi l2)]) 3 (dk dtk_X5_heldBy 20 rfl) rfl rfl (by decide) rfl ?_
      refine T_goto 4 (dk dtk_X5_heldBy 21 rfl) (by decide) ?_
      exact T_sub [1, 2, 3, 0] rfl h
    · have h := h.2 c4
      refine T_iload_n 2 (dk dtk_X5_heldBy 14 rfl) rfl rfl ?_
      refine T_iconst (v := 1) (dk dtk_X5_heldBy 15 rfl) (by decide +kernel) ?_
      refine T_iload_n 3 (dk dtk_X5_heldBy 16 rfl) rfl rfl ?_
      refine T_ishl (dk dtk_X5_heldBy 17 rfl) ?_
      refine T_ior (dk dtk_X5_heldBy 18 rfl) ?_
      refine T_istore_n (lv2 := [(2, vi (l2 ||| (1 <<< (l3 &&& 31 : Int32)))), (0, vr o), (1, vi l1), (3, vi l3)]) (dk dtk_X5_heldBy 19 rfl) rfl (by decide) rfl ?_
      refine T_iinc (v := l3 + 1) (lv2 := [(3, vi (l3 + 1)), (2, vi (l2 ||| (1 <<< (l3 &&& 31 : Int32)))), (0, vr o), (1, vi l1)]) 3 (dk dtk_X5_heldBy 20 rfl) rfl rfl (by decide) rfl ?_
      refine T_goto 4 (dk dtk_X5_heldBy 21 rfl) (by decide) ?_
      exact T_sub [2, 3, 1, 0] rfl h
set_option maxRecDepth 100000 in
theorem dtk_X5_waiters : dck cX5_waiters [(0, .iconst 0, 1), (1, .istore_n 2, 1), (2, .iconst 0, 1), (3, .istore_n 3, 1), (4, .iload_n 3, 1), (5, .aload_n 0, 1), (6, .getfield 11, 3), (9, .getfield 67, 3), (12, .if_icmp .ge 36, 3), (15, .aload_n 0, 1), (16, .iload_n 3, 1), (17, .iconst 3, 1), (18, .invokevirtual 90, 3), (21, .iload_n 1, 1), (22, .iconst 1, 1), (23, .iadd, 1), (24, .if_icmp .ne 18, 3), (27, .aload_n 0, 1), (28, .iload_n 3, 1), (29, .iconst 5, 1), (30, .invokevirtual 90, 3), (33, .ifCond .ne 9, 3), (36, .iload_n 2, 1), (37, .iconst 1, 1), (38, .iload_n 3, 1), (39, .ishl, 1), (40, .ior, 1), (41, .istore_n 2, 1), (42, .iinc 3 1, 3), (45, .goto (-41), 3), (48, .iload_n 2, 1), (49, .ireturn, 1)] = true := by decide +kernel
set_option maxRecDepth 100000 in
set_option maxHeartbeats 4000000 in
theorem kg_X5_waiters_0 {G : kG} {q : kP} {d : Nat} {x : gd} {P : Option gv → gd → Prop} (hq : kV q) {o : Nat} (ho : kiM q o) (l1 : Int32)
    (h : KT G q (d + 1) zk_X5_waiters 4 [(0, vr o), (1, vi l1), (2, vi 0), (3, vi 0)] [] x P) :
    KT G q (d + 1) zk_X5_waiters 0 [(0, vr o), (1, vi l1)] [] x P := by
  refine T_iconst (v := 0) (dk dtk_X5_waiters 0 rfl) (by decide +kernel) ?_
  refine T_istore_n (lv2 := [(2, vi 0), (0, vr o), (1, vi l1)]) (dk dtk_X5_waiters 1 rfl) rfl (by decide) rfl ?_
  refine T_iconst (v := 0) (dk dtk_X5_waiters 2 rfl) (by decide +kernel) ?_
  refine T_istore_n (lv2 := [(3, vi 0), (2, vi 0), (0, vr o), (1, vi l1)]) (dk dtk_X5_waiters 3 rfl) rfl (by decide) rfl ?_
  exact T_sub [2, 3, 1, 0] rfl h
set_option maxRecDepth 100000 in
set_option maxHeartbeats 4000000 in
theorem kg_X5_waiters_4 {G : kG} {q : kP} {d : Nat} {x : gd} {P : Option gv → gd → Prop} (hq : kV q) {o : Nat} (ho : kiM q o) (l1 : Int32) (l2 : Int32) (l3 : Int32)
    (h : (((x.1 60 10) ≤ l3 → P (some (vi l2)) x) ∧ (¬ ((x.1 60 10) ≤ l3) → KT G q d zk_X5_get 0 [(0, vr o), (1, vi l3), (2, vi 3)] [] x (ri (fun r3 x2 => ((¬ (r3 = (l1 + 1)) → KT G q (d + 1) zk_X5_waiters 4 [(0, vr o), (1, vi l1), (2, vi l2), (3, vi (l3 + 1))] [] x2 P) ∧ (r3 = (l1 + 1) → KT G q d zk_X5_get 0 [(0, vr o), (1, vi l3), (2, vi 5)] [] x2 (ri (fun r6 x5 => ((¬ (r6 = (0 : Int32)) → KT G q (d + 1) zk_X5_waiters 4 [(0, vr o), (1, vi l1), (2, vi l2), (3, vi (l3 + 1))] [] x5 P) ∧ (r6 = (0 : Int32) → KT G q (d + 1) zk_X5_waiters 4 [(0, vr o), (1, vi l1), (2, vi (l2 ||| (1 <<< (l3 &&& 31 : Int32)))), (3, vi (l3 + 1))] [] x5 P))))))))))) :
    KT G q (d + 1) zk_X5_waiters 4 [(0, vr o), (1, vi l1), (2, vi l2), (3, vi l3)] [] x P := by
  refine T_iload_n 3 (dk dtk_X5_waiters 4 rfl) rfl rfl ?_
  refine T_aload_n 0 (dk dtk_X5_waiters 5 rfl) rfl rfl ?_
  refine T_getR o 0 60 (dk dtk_X5_waiters 6 rfl) kfl_X5_11 (kk_M0 ho) (kl_M0 hq ho) (by decide) rfl (kr_M_0 ho) ?_
  refine T_getI 60 10 (dk dtk_X5_waiters 7 rfl) kfl_X5_67 kk_60 (kl_60 hq) (by decide) rfl ?_
  refine T_icmp_ge 48 (dk dtk_X5_waiters 8 rfl) (by decide) (fun c1 => ?_) (fun c1 => ?_)
  · have h := h.1 c1
    refine T_iload_n 2 (dk dtk_X5_waiters 30 rfl) rfl rfl ?_
    exact KT_iret (dk dtk_X5_waiters 31 rfl) rfl rfl h
  · have h := h.2 c1
    refine T_aload_n 0 (dk dtk_X5_waiters 9 rfl) rfl rfl ?_
    refine T_iload_n 3 (dk dtk_X5_waiters 10 rfl) rfl rfl ?_
    refine T_iconst (v := 3) (dk dtk_X5_waiters 11 rfl) (by decide +kernel) ?_
    refine KC_Vi [vi l3, vi 3] [] rfl (dk dtk_X5_waiters 12 rfl) kcv_X5_90 rfl (kk_M0 ho) rfl (kl_M0 hq ho) (Nat.le_of_ble_eq_true rfl) (Nat.le_of_ble_eq_true rfl) (gok_i (av_c (gkr (kl_M0 hq ho)) (av_c rfl (av_c rfl (av_c rfl av_n)))) as_n) rfl h (fun r3 x2 h => ?_)
    refine T_iload_n 1 (dk dtk_X5_waiters 13 rfl) rfl rfl ?_
    refine T_iconst (v := 1) (dk dtk_X5_waiters 14 rfl) (by decide +kernel) ?_
    refine T_iadd (dk dtk_X5_waiters 15 rfl) ?_
    refine T_icmp_ne 42 (dk dtk_X5_waiters 16 rfl) (by decide) (fun c4 => ?_) (fun c4 => ?_)
    · have h := h.1 c4
      refine T_iinc (v := l3 + 1) (lv2 := [(3, vi (l3 + 1)), (0, vr o), (1, vi l1), (2, vi l2)]) 3 (dk dtk_X5_waiters 28 rfl) rfl rfl (by decide) rfl ?_
      refine T_goto 4 (dk dtk_X5_waiters 29 rfl) (by decide) ?_
      exact T_sub [1, 2, 3, 0] rfl h
    · have h := h.2 c4
      refine T_aload_n 0 (dk dtk_X5_waiters 17 rfl) rfl rfl ?_
      refine T_iload_n 3 (dk dtk_X5_waiters 18 rfl) rfl rfl ?_
      refine T_iconst (v := 5) (dk dtk_X5_waiters 19 rfl) (by decide +kernel) ?_
      refine KC_Vi [vi l3, vi 5] [] rfl (dk dtk_X5_waiters 20 rfl) kcv_X5_90 rfl (kk_M0 ho) rfl (kl_M0 hq ho) (Nat.le_of_ble_eq_true rfl) (Nat.le_of_ble_eq_true rfl) (gok_i (av_c (gkr (kl_M0 hq ho)) (av_c rfl (av_c rfl (av_c rfl av_n)))) as_n) rfl h (fun r6 x5 h => ?_)
      refine T_if_ne 42 (dk dtk_X5_waiters 21 rfl) (by decide) (fun c7 => ?_) (fun c7 => ?_)
      · have h := h.1 c7
        refine T_iinc (v := l3 + 1) (lv2 := [(3, vi (l3 + 1)), (0, vr o), (1, vi l1), (2, vi l2)]) 3 (dk dtk_X5_waiters 28 rfl) rfl rfl (by decide) rfl ?_
        refine T_goto 4 (dk dtk_X5_waiters 29 rfl) (by decide) ?_
        exact T_sub [1, 2, 3, 0] rfl h
      · have h := h.2 c7
        refine T_iload_n 2 (dk dtk_X5_waiters 22 rfl) rfl rfl ?_
        refine T_iconst (v := 1) (dk dtk_X5_waiters 23 rfl) (by decide +kernel) ?_
        refine T_iload_n 3 (dk dtk_X5_waiters 24 rfl) rfl rfl ?_
        refine T_ishl (dk dtk_X5_waiters 25 rfl) ?_
        refine T_ior (dk dtk_X5_waiters 26 rfl) ?_
        refine T_istore_n (lv2 := [(2, vi (l2 ||| (1 <<< (l3 &&& 31 : Int32)))), (0, vr o), (1, vi l1), (3, vi l3)]) (dk dtk_X5_waiters 27 rfl) rfl (by decide) rfl ?_
        refine T_iinc (v := l3 + 1) (lv2 := [(3, vi (l3 + 1)), (2, vi (l2 ||| (1 <<< (l3 &&& 31 : Int32)))), (0, vr o), (1, vi l1)]) 3 (dk dtk_X5_waiters 28 rfl) rfl rfl (by decide) rfl ?_
        refine T_goto 4 (dk dtk_X5_waiters 29 rfl) (by decide) ?_
        exact T_sub [2, 3, 1, 0] rfl h
set_option maxRecDepth 100000 in
theorem dtk_X5_lateCell : dck cX5_lateCell [(0, .aload_n 0, 1), (1, .iload_n 1, 1), (2, .aload_n 0, 1), (3, .getfield 61, 3), (6, .iconst 2, 1), (7, .iload_n 2, 1), (8, .imul, 1), (9, .iadd, 1), (10, .invokevirtual 90, 3), (13, .ireturn, 1)] = true := by decide +kernel
set_option maxRecDepth 100000 in
set_option maxHeartbeats 4000000 in
theorem kg_X5_lateCell_0 {G : kG} {q : kP} {d : Nat} {x : gd} {P : Option gv → gd → Prop} (hq : kV q) {o : Nat} (ho : kiM q o) (l1 : Int32) (l2 : Int32)
    (h : KT G q d zk_X5_get 0 [(0, vr o), (1, vi l1), (2, vi ((x.1 o 9) + (2 * l2)))] [] x (ri (fun r2 x1 => P (some (vi r2)) x1))) :
    KT G q (d + 1) zk_X5_lateCell 0 [(0, vr o), (1, vi l1), (2, vi l2)] [] x P := by
  refine T_aload_n 0 (dk dtk_X5_lateCell 0 rfl) rfl rfl ?_
  refine T_iload_n 1 (dk dtk_X5_lateCell 1 rfl) rfl rfl ?_
  refine T_aload_n 0 (dk dtk_X5_lateCell 2 rfl) rfl rfl ?_
  refine T_getI o 9 (dk dtk_X5_lateCell 3 rfl) kfl_X5_61 (kk_M0 ho) (kl_M0 hq ho) (by decide) rfl ?_
  refine T_iconst (v := 2) (dk dtk_X5_lateCell 4 rfl) (by decide +kernel) ?_
  refine T_iload_n 2 (dk dtk_X5_lateCell 5 rfl) rfl rfl ?_
  refine T_imul (dk dtk_X5_lateCell 6 rfl) ?_
  refine T_iadd (dk dtk_X5_lateCell 7 rfl) ?_
  refine T_sub (lv2 := []) [] rfl ?_
  refine KC_Vi [vi l1, vi ((x.1 o 9) + (2 * l2))] [] rfl (dk dtk_X5_lateCell 8 rfl) kcv_X5_90 rfl (kk_M0 ho) rfl (kl_M0 hq ho) (Nat.le_of_ble_eq_true rfl) (Nat.le_of_ble_eq_true rfl) (gok_i av_n as_n) rfl h (fun r2 x1 h => ?_)
  exact KT_iret (dk dtk_X5_lateCell 9 rfl) rfl rfl h
set_option maxRecDepth 100000 in
theorem dtk_X5_lateValue : dck cX5_lateValue [(0, .aload_n 0, 1), (1, .iload_n 1, 1), (2, .aload_n 0, 1), (3, .getfield 61, 3), (6, .iconst 2, 1), (7, .iload_n 2, 1), (8, .imul, 1), (9, .iadd, 1), (10, .iconst 1, 1), (11, .iadd, 1), (12, .invokevirtual 90, 3), (15, .ireturn, 1)] = true := by decide +kernel
set_option maxRecDepth 100000 in
set_option maxHeartbeats 4000000 in
theorem kg_X5_lateValue_0 {G : kG} {q : kP} {d : Nat} {x : gd} {P : Option gv → gd → Prop} (hq : kV q) {o : Nat} (ho : kiM q o) (l1 : Int32) (l2 : Int32)
    (h : KT G q d zk_X5_get 0 [(0, vr o), (1, vi l1), (2, vi (((x.1 o 9) + (2 * l2)) + 1))] [] x (ri (fun r2 x1 => P (some (vi r2)) x1))) :
    KT G q (d + 1) zk_X5_lateValue 0 [(0, vr o), (1, vi l1), (2, vi l2)] [] x P := by
  refine T_aload_n 0 (dk dtk_X5_lateValue 0 rfl) rfl rfl ?_
  refine T_iload_n 1 (dk dtk_X5_lateValue 1 rfl) rfl rfl ?_
  refine T_aload_n 0 (dk dtk_X5_lateValue 2 rfl) rfl rfl ?_
  refine T_getI o 9 (dk dtk_X5_lateValue 3 rfl) kfl_X5_61 (kk_M0 ho) (kl_M0 hq ho) (by decide) rfl ?_
  refine T_iconst (v := 2) (dk dtk_X5_lateValue 4 rfl) (by decide +kernel) ?_
  refine T_iload_n 2 (dk dtk_X5_lateValue 5 rfl) rfl rfl ?_
  refine T_imul (dk dtk_X5_lateValue 6 rfl) ?_
  refine T_iadd (dk dtk_X5_lateValue 7 rfl) ?_
  refine T_iconst (v := 1) (dk dtk_X5_lateValue 8 rfl) (by decide +kernel) ?_
  refine T_iadd (dk dtk_X5_lateValue 9 rfl) ?_
  refine T_sub (lv2 := []) [] rfl ?_
  refine KC_Vi [vi l1, vi (((x.1 o 9) + (2 * l2)) + 1)] [] rfl (dk dtk_X5_lateValue 10 rfl) kcv_X5_90 rfl (kk_M0 ho) rfl (kl_M0 hq ho) (Nat.le_of_ble_eq_true rfl) (Nat.le_of_ble_eq_true rfl) (gok_i av_n as_n) rfl h (fun r2 x1 h => ?_)
  exact KT_iret (dk dtk_X5_lateValue 11 rfl) rfl rfl h
set_option maxRecDepth 100000 in
theorem dtk_X5_setLate : dck cX5_setLate [(0, .aload_n 0, 1), (1, .iload_n 1, 1), (2, .aload_n 0, 1), (3, .getfield 61, 3), (6, .iconst 2, 1), (7, .iload_n 2, 1), (8, .imul, 1), (9, .iadd, 1), (10, .iload_n 3, 1), (11, .invokevirtual 117, 3), (14, .aload_n 0, 1), (15, .iload_n 1, 1), (16, .aload_n 0, 1), (17, .getfield 61, 3), (20, .iconst 2, 1), (21, .iload_n 2, 1), (22, .imul, 1), (23, .iadd, 1), (24, .iconst 1, 1), (25, .iadd, 1), (26, .iload 4, 2), (28, .invokevirtual 117, 3), (31, .return_, 1)] = true := by decide +kernel
set_option maxRecDepth 100000 in
set_option maxHeartbeats 4000000 in
theorem kg_X5_setLate_0 {G : kG} {q : kP} {d : Nat} {x : gd} {P : Option gv → gd → Prop} (hq : kV q) {o : Nat} (ho : kiM q o) (l1 : Int32) (l2 : Int32) (l3 : Int32) (l4 : Int32)
    (h : KT G q d zk_X5_set 0 [(0, vr o), (1, vi l1), (2, vi ((x.1 o 9) + (2 * l2))), (3, vi l3)] [] x (rv (fun x1 => KT G q d zk_X5_set 0 [(0, vr o), (1, vi l1), (2, vi (((x1.1 o 9) + (2 * l2)) + 1)), (3, vi l4)] [] x1 (rv (fun x2 => P none x2))))) :
    KT G q (d + 1) zk_X5_setLate 0 [(0, vr o), (1, vi l1), (2, vi l2), (3, vi l3), (4, vi l4)] [] x P := by
  refine T_aload_n 0 (dk dtk_X5_setLate 0 rfl) rfl rfl ?_
  refine T_iload_n 1 (dk dtk_X5_setLate 1 rfl) rfl rfl ?_
  refine T_aload_n 0 (dk dtk_X5_setLate 2 rfl) rfl rfl ?_
  refine T_getI o 9 (dk dtk_X5_setLate 3 rfl) kfl_X5_61 (kk_M0 ho) (kl_M0 hq ho) (by decide) rfl ?_
  refine T_iconst (v := 2) (dk dtk_X5_setLate 4 rfl) (by decide +kernel) ?_
  refine T_iload_n 2 (dk dtk_X5_setLate 5 rfl) rfl rfl ?_
  refine T_imul (dk dtk_X5_setLate 6 rfl) ?_
  refine T_iadd (dk dtk_X5_setLate 7 rfl) ?_
  refine T_iload_n 3 (dk dtk_X5_setLate 8 rfl) rfl rfl ?_
  refine T_sub (lv2 := [(0, vr o), (1, vi l1), (2, vi l2), (4, vi l4)]) [0, 1, 2, 4] rfl ?_
  refine KC_Vv [vi l1, vi ((x.1 o 9) + (2 * l2)), vi l3] [] rfl (dk dtk_X5_setLate 9 rfl) kcv_X5_117 rfl (kk_M0 ho) rfl (kl_M0 hq ho) (Nat.le_of_ble_eq_true rfl) (Nat.le_of_ble_eq_true rfl) (gok_i (av_c (gkr (kl_M0 hq ho)) (av_c rfl (av_c rfl (av_c rfl av_n)))) as_n) rfl h (fun x1 h => ?_)
  refine T_aload_n 0 (dk dtk_X5_setLate 10 rfl) rfl rfl ?_
  refine T_iload_n 1 (dk dtk_X5_setLate 11 rfl) rfl rfl ?_
  refine T_aload_n 0 (dk dtk_X5_setLate 12 rfl) rfl rfl ?_
  refine T_getI o 9 (dk dtk_X5_setLate 13 rfl) kfl_X5_61 (kk_M0 ho) (kl_M0 hq ho) (by decide) rfl ?_
  refine T_iconst (v := 2) (dk dtk_X5_setLate 14 rfl) (by decide +kernel) ?_
  refine T_iload_n 2 (dk dtk_X5_setLate 15 rfl) rfl rfl ?_
  refine T_imul (dk dtk_X5_setLate 16 rfl) ?_
  refine T_iadd (dk dtk_X5_setLate 17 rfl) ?_
  refine T_iconst (v := 1) (dk dtk_X5_setLate 18 rfl) (by decide +kernel) ?_
  refine T_iadd (dk dtk_X5_setLate 19 rfl) ?_
  refine T_iload 3 (dk dtk_X5_setLate 20 rfl) rfl ?_
  refine T_sub (lv2 := []) [] rfl ?_
  refine KC_Vv [vi l1, vi (((x1.1 o 9) + (2 * l2)) + 1), vi l4] [] rfl (dk dtk_X5_setLate 21 rfl) kcv_X5_117 rfl (kk_M0 ho) rfl (kl_M0 hq ho) (Nat.le_of_ble_eq_true rfl) (Nat.le_of_ble_eq_true rfl) (gok_i av_n as_n) rfl h (fun x2 h => ?_)
  exact KT_vret (dk dtk_X5_setLate 22 rfl) rfl h
set_option maxRecDepth 100000 in
theorem dtk_X5_seenBy : dck cX5_seenBy [(0, .aload_n 0, 1), (1, .iload_n 1, 1), (2, .bipush 7, 2), (4, .invokevirtual 90, 3), (7, .iconst 1, 1), (8, .isub, 1), (9, .istore_n 3, 1), (10, .iload_n 3, 1), (11, .ifCond .lt 26, 3), (14, .aload_n 0, 1), (15, .iload_n 1, 1), (16, .iload_n 3, 1), (17, .invokevirtual 121, 3), (20, .iload_n 2, 1), (21, .if_icmp .ne 10, 3), (24, .aload_n 0, 1), (25, .iload_n 1, 1), (26, .iload_n 3, 1), (27, .invokevirtual 124, 3), (30, .ireturn, 1), (31, .iinc 3 (-1), 3), (34, .goto (-24), 3), (37, .aload_n 0, 1), (38, .getfield 29, 3), (41, .iload_n 2, 1), (42, .iaload, 1), (43, .ireturn, 1)] = true := by decide +kernel
set_option maxRecDepth 100000 in
set_option maxHeartbeats 4000000 in
theorem kg_X5_seenBy_0 {G : kG} {q : kP} {d : Nat} {x : gd} {P : Option gv → gd → Prop} (hq : kV q) {o : Nat} (ho : kiM q o) (l1 : Int32) (l2 : Int32)
    (h : KT G q d zk_X5_get 0 [(0, vr o), (1, vi l1), (2, vi 7)] [] x (ri (fun r2 x1 => KT G q (d + 1) zk_X5_seenBy 10 [(0, vr o), (1, vi l1), (2, vi l2), (3, vi (r2 - 1))] [] x1 P))) :
    KT G q (d + 1) zk_X5_seenBy 0 [(0, vr o), (1, vi l1), (2, vi l2)] [] x P := by
  refine T_aload_n 0 (dk dtk_X5_seenBy 0 rfl) rfl rfl ?_
  refine T_iload_n 1 (dk dtk_X5_seenBy 1 rfl) rfl rfl ?_
  refine T_bipush (v := 7) (dk dtk_X5_seenBy 2 rfl) (by decide +kernel) ?_
  refine KC_Vi [vi l1, vi 7] [] rfl (dk dtk_X5_seenBy 3 rfl) kcv_X5_90 rfl (kk_M0 ho) rfl (kl_M0 hq ho) (Nat.le_of_ble_eq_true rfl) (Nat.le_of_ble_eq_true rfl) (gok_i (av_c (gkr (kl_M0 hq ho)) (av_c rfl (av_c rfl av_n))) as_n) rfl h (fun r2 x1 h => ?_)
  refine T_iconst (v := 1) (dk dtk_X5_seenBy 4 rfl) (by decide +kernel) ?_
  refine T_isub (dk dtk_X5_seenBy 5 rfl) ?_
  refine T_istore_n (lv2 := [(3, vi (r2 - 1)), (0, vr o), (1, vi l1), (2, vi l2)]) (dk dtk_X5_seenBy 6 rfl) rfl (by decide) rfl ?_
  exact T_sub [1, 2, 3, 0] rfl h
set_option maxRecDepth 100000 in
set_option maxHeartbeats 4000000 in
theorem kg_X5_seenBy_10 {G : kG} {q : kP} {d : Nat} {x : gd} {P : Option gv → gd → Prop} (hq : kV q) {o : Nat} (ho : kiM q o) (l1 : Int32) (l2 : Int32) (l3 : Int32)
    (h : ((l3 < (0 : Int32) → vp_in l2 228 ∧ P (some (vi (x.1 (o + 5) (l2 : Int32).toNatClampNeg))) x) ∧ (¬ (l3 < (0 : Int32)) → KT G q d zk_X5_lateCell 0 [(0, vr o), (1, vi l1), (2, vi l3)] [] x (ri (fun r4 x3 => ((¬ (r4 = l2) → KT G q (d + 1) zk_X5_seenBy 10 [(0, vr o), (1, vi l1), (2, vi l2), (3, vi (l3 + (-1)))] [] x3 P) ∧ (r4 = l2 → KT G q d zk_X5_lateValue 0 [(0, vr o), (1, vi l1), (2, vi l3)] [] x3 (ri (fun r7 x6 => P (some (vi r7)) x6))))))))) :
    KT G q (d + 1) zk_X5_seenBy 10 [(0, vr o), (1, vi l1), (2, vi l2), (3, vi l3)] [] x P := by
  refine T_iload_n 3 (dk dtk_X5_seenBy 7 rfl) rfl rfl ?_
  refine T_if_lt 37 (dk dtk_X5_seenBy 8 rfl) (by decide) (fun c1 => ?_) (fun c1 => ?_)
  · have h := h.1 c1
    refine T_aload_n 0 (dk dtk_X5_seenBy 22 rfl) rfl rfl ?_
    refine T_getR o 4 (o + 5) (dk dtk_X5_seenBy 23 rfl) kfl_X5_29 (kk_M0 ho) (kl_M0 hq ho) (by decide) rfl (kr_M_4 ho) ?_
    refine T_iload_n 2 (dk dtk_X5_seenBy 24 rfl) rfl rfl ?_
    obtain ⟨h2, h⟩ := h
    refine T_iald (o + 5) 228 (dk dtk_X5_seenBy 25 rfl) (kk_M5 ho) (kl_M5 hq ho) h2 ?_
    exact KT_iret (dk dtk_X5_seenBy 26 rfl) rfl rfl h
  · have h := h.2 c1
    refine T_aload_n 0 (dk dtk_X5_seenBy 9 rfl) rfl rfl ?_
    refine T_iload_n 1 (dk dtk_X5_seenBy 10 rfl) rfl rfl ?_
    refine T_iload_n 3 (dk dtk_X5_seenBy 11 rfl) rfl rfl ?_
    refine KC_Vi [vi l1, vi l3] [] rfl (dk dtk_X5_seenBy 12 rfl) kcv_X5_121 rfl (kk_M0 ho) rfl (kl_M0 hq ho) (Nat.le_of_ble_eq_true rfl) (Nat.le_of_ble_eq_true rfl) (gok_i (av_c (gkr (kl_M0 hq ho)) (av_c rfl (av_c rfl (av_c rfl av_n)))) as_n) rfl h (fun r4 x3 h => ?_)
    refine T_iload_n 2 (dk dtk_X5_seenBy 13 rfl) rfl rfl ?_
    refine T_icmp_ne 31 (dk dtk_X5_seenBy 14 rfl) (by decide) (fun c5 => ?_) (fun c5 => ?_)
    · have h := h.1 c5
      refine T_iinc (v := l3 + (-1)) (lv2 := [(3, vi (l3 + (-1))), (0, vr o), (1, vi l1), (2, vi l2)]) 3 (dk dtk_X5_seenBy 20 rfl) rfl rfl (by decide) rfl ?_
      refine T_goto 10 (dk dtk_X5_seenBy 21 rfl) (by decide) ?_
      exact T_sub [1, 2, 3, 0] rfl h
    · have h := h.2 c5
      refine T_aload_n 0 (dk dtk_X5_seenBy 15 rfl) rfl rfl ?_
      refine T_iload_n 1 (dk dtk_X5_seenBy 16 rfl) rfl rfl ?_
      refine T_iload_n 3 (dk dtk_X5_seenBy 17 rfl) rfl rfl ?_
      refine T_sub (lv2 := []) [] rfl ?_
      refine KC_Vi [vi l1, vi l3] [] rfl (dk dtk_X5_seenBy 18 rfl) kcv_X5_124 rfl (kk_M0 ho) rfl (kl_M0 hq ho) (Nat.le_of_ble_eq_true rfl) (Nat.le_of_ble_eq_true rfl) (gok_i av_n as_n) rfl h (fun r7 x6 h => ?_)
      exact KT_iret (dk dtk_X5_seenBy 19 rfl) rfl rfl h
set_option maxRecDepth 100000 in
theorem dtk_X5_sortOf : dck cX5_sortOf [(0, .aload_n 0, 1), (1, .iload_n 1, 1), (2, .iconst 3, 1), (3, .invokevirtual 90, 3), (6, .ifCond .eq 8, 3), (9, .bipush 15, 2), (11, .goto 17, 3), (14, .aload_n 0, 1), (15, .getfield 21, 3), (18, .getfield 127, 3), (21, .aload_n 0, 1), (22, .iload_n 1, 1), (23, .iconst 2, 1), (24, .invokevirtual 90, 3), (27, .iaload, 1), (28, .ireturn, 1)] = true := by decide +kernel
set_option maxRecDepth 100000 in
set_option maxHeartbeats 4000000 in
theorem kg_X5_sortOf_0 {G : kG} {q : kP} {d : Nat} {x : gd} {P : Option gv → gd → Prop} (hq : kV q) {o : Nat} (ho : kiM q o) (l1 : Int32)
    (h : KT G q d zk_X5_get 0 [(0, vr o), (1, vi l1), (2, vi 3)] [] x (ri (fun r2 x1 => ((r2 = (0 : Int32) → KT G q d zk_X5_get 0 [(0, vr o), (1, vi l1), (2, vi 2)] [] x1 (ri (fun r5 x4 => vp_in r5 400 ∧ P (some (vi (x4.1 81 (r5 : Int32).toNatClampNeg))) x4))) ∧ (¬ (r2 = (0 : Int32)) → P (some (vi 15)) x1))))) :
    KT G q (d + 1) zk_X5_sortOf 0 [(0, vr o), (1, vi l1)] [] x P := by
  refine T_aload_n 0 (dk dtk_X5_sortOf 0 rfl) rfl rfl ?_
  refine T_iload_n 1 (dk dtk_X5_sortOf 1 rfl) rfl rfl ?_
  refine T_iconst (v := 3) (dk dtk_X5_sortOf 2 rfl) (by decide +kernel) ?_
  refine KC_Vi [vi l1, vi 3] [] rfl (dk dtk_X5_sortOf 3 rfl) kcv_X5_90 rfl (kk_M0 ho) rfl (kl_M0 hq ho) (Nat.le_of_ble_eq_true rfl) (Nat.le_of_ble_eq_true rfl) (gok_i (av_c (gkr (kl_M0 hq ho)) (av_c rfl av_n)) as_n) rfl h (fun r2 x1 h => ?_)
  refine T_if_eq 14 (dk dtk_X5_sortOf 4 rfl) (by decide) (fun c3 => ?_) (fun c3 => ?_)
  · have h := h.1 c3
    refine T_aload_n 0 (dk dtk_X5_sortOf 7 rfl) rfl rfl ?_
    refine T_getR o 1 80 (dk dtk_X5_sortOf 8 rfl) kfl_X5_21 (kk_M0 ho) (kl_M0 hq ho) (by decide) rfl (kr_M_1 ho) ?_
    refine T_getR 80 0 81 (dk dtk_X5_sortOf 9 rfl) kfl_X5_127 kk_80 (kl_80 hq) (by decide) rfl kr_80_0 ?_
    refine T_aload_n 0 (dk dtk_X5_sortOf 10 rfl) rfl rfl ?_
    refine T_iload_n 1 (dk dtk_X5_sortOf 11 rfl) rfl rfl ?_
    refine T_iconst (v := 2) (dk dtk_X5_sortOf 12 rfl) (by decide +kernel) ?_
    refine T_sub (lv2 := []) [] rfl ?_
    refine KC_Vi [vi l1, vi 2] [vr 81] rfl (dk dtk_X5_sortOf 13 rfl) kcv_X5_90 rfl (kk_M0 ho) rfl (kl_M0 hq ho) (Nat.le_of_ble_eq_true rfl) (Nat.le_of_ble_eq_true rfl) (gok_i av_n (as_c (gkr (kl_81 hq)) as_n)) rfl h (fun r5 x4 h => ?_)
    obtain ⟨h6, h⟩ := h
    refine T_iald 81 400 (dk dtk_X5_sortOf 14 rfl) kk_81 (kl_81 hq) h6 ?_
    exact KT_iret (dk dtk_X5_sortOf 15 rfl) rfl rfl h
  · have h := h.2 c3
    refine T_bipush (v := 15) (dk dtk_X5_sortOf 5 rfl) (by decide +kernel) ?_
    refine T_goto 28 (dk dtk_X5_sortOf 6 rfl) (by decide) ?_
    exact KT_iret (dk dtk_X5_sortOf 15 rfl) rfl rfl h
set_option maxRecDepth 100000 in
theorem dtk_X5_objectOf : dck cX5_objectOf [(0, .aload_n 0, 1), (1, .iload_n 1, 1), (2, .invokevirtual 130, 3), (5, .iconst 4, 1), (6, .if_icmp .gt 11, 3), (9, .aload_n 0, 1), (10, .iload_n 1, 1), (11, .invokevirtual 133, 3), (14, .goto 17, 3), (17, .aload_n 0, 1), (18, .getfield 21, 3), (21, .getfield 136, 3), (24, .aload_n 0, 1), (25, .iload_n 1, 1), (26, .iconst 2, 1), (27, .invokevirtual 90, 3), (30, .iaload, 1), (31, .ireturn, 1)] = true := by decide +kernel
set_option maxRecDepth 100000 in
set_option maxHeartbeats 4000000 in
theorem kg_X5_objectOf_0 {G : kG} {q : kP} {d : Nat} {x : gd} {P : Option gv → gd → Prop} (hq : kV q) {o : Nat} (ho : kiM q o) (l1 : Int32)
    (h : KT G q d zk_X5_sortOf 0 [(0, vr o), (1, vi l1)] [] x (ri (fun r2 x1 => (((4 : Int32) < r2 → KT G q d zk_X5_get 0 [(0, vr o), (1, vi l1), (2, vi 2)] [] x1 (ri (fun r5 x4 => vp_in r5 400 ∧ P (some (vi (x4.1 85 (r5 : Int32).toNatClampNeg))) x4))) ∧ (¬ ((4 : Int32) < r2) → KT G q d zk_X5_placeOf 0 [(0, vr o), (1, vi l1)] [] x1 (ri (fun r8 x7 => P (some (vi r8)) x7))))))) :
    KT G q (d + 1) zk_X5_objectOf 0 [(0, vr o), (1, vi l1)] [] x P := by
  refine T_aload_n 0 (dk dtk_X5_objectOf 0 rfl) rfl rfl ?_
  refine T_iload_n 1 (dk dtk_X5_objectOf 1 rfl) rfl rfl ?_
  refine KC_Vi [vi l1] [] rfl (dk dtk_X5_objectOf 2 rfl) kcv_X5_130 rfl (kk_M0 ho) rfl (kl_M0 hq ho) (Nat.le_of_ble_eq_true rfl) (Nat.le_of_ble_eq_true rfl) (gok_i (av_c (gkr (kl_M0 hq ho)) (av_c rfl av_n)) as_n) rfl h (fun r2 x1 h => ?_)
  refine T_iconst (v := 4) (dk dtk_X5_objectOf 3 rfl) (by decide +kernel) ?_
  refine T_icmp_gt 17 (dk dtk_X5_objectOf 4 rfl) (by decide) (fun c3 => ?_) (fun c3 => ?_)
  · have h := h.1 c3
    refine T_aload_n 0 (dk dtk_X5_objectOf 9 rfl) rfl rfl ?_
    refine T_getR o 1 80 (dk dtk_X5_objectOf 10 rfl) kfl_X5_21 (kk_M0 ho) (kl_M0 hq ho) (by decide) rfl (kr_M_1 ho) ?_
    refine T_getR 80 4 85 (dk dtk_X5_objectOf 11 rfl) kfl_X5_136 kk_80 (kl_80 hq) (by decide) rfl kr_80_4 ?_
    refine T_aload_n 0 (dk dtk_X5_objectOf 12 rfl) rfl rfl ?_
    refine T_iload_n 1 (dk dtk_X5_objectOf 13 rfl) rfl rfl ?_
    refine T_iconst (v := 2) (dk dtk_X5_objectOf 14 rfl) (by decide +kernel) ?_
    refine T_sub (lv2 := []) [] rfl ?_
    refine KC_Vi [vi l1, vi 2] [vr 85] rfl (dk dtk_X5_objectOf 15 rfl) kcv_X5_90 rfl (kk_M0 ho) rfl (kl_M0 hq ho) (Nat.le_of_ble_eq_true rfl) (Nat.le_of_ble_eq_true rfl) (gok_i av_n (as_c (gkr (kl_85 hq)) as_n)) rfl h (fun r5 x4 h => ?_)
    obtain ⟨h6, h⟩ := h
    refine T_iald 85 400 (dk dtk_X5_objectOf 16 rfl) kk_85 (kl_85 hq) h6 ?_
    exact KT_iret (dk dtk_X5_objectOf 17 rfl) rfl rfl h
  · have h := h.2 c3
    refine T_aload_n 0 (dk dtk_X5_objectOf 5 rfl) rfl rfl ?_
    refine T_iload_n 1 (dk dtk_X5_objectOf 6 rfl) rfl rfl ?_
    refine T_sub (lv2 := []) [] rfl ?_
    refine KC_Vi [vi l1] [] rfl (dk dtk_X5_objectOf 7 rfl) kcv_X5_133 rfl (kk_M0 ho) rfl (kl_M0 hq ho) (Nat.le_of_ble_eq_true rfl) (Nat.le_of_ble_eq_true rfl) (gok_i av_n as_n) rfl h (fun r8 x7 h => ?_)
    refine T_goto 31 (dk dtk_X5_objectOf 8 rfl) (by decide) ?_
    exact KT_iret (dk dtk_X5_objectOf 17 rfl) rfl rfl h
set_option maxRecDepth 100000 in
theorem dtk_X5_localsAt : dck cX5_localsAt [(0, .aload_n 0, 1), (1, .getfield 55, 3), (4, .iload_n 1, 1), (5, .aload_n 0, 1), (6, .getfield 64, 3), (9, .imul, 1), (10, .iadd, 1), (11, .bipush 8, 2), (13, .iadd, 1), (14, .ireturn, 1)] = true := by decide +kernel
set_option maxRecDepth 100000 in
set_option maxHeartbeats 4000000 in
theorem kg_X5_localsAt_0 {G : kG} {q : kP} {d : Nat} {x : gd} {P : Option gv → gd → Prop} (hq : kV q) {o : Nat} (ho : kiM q o) (l1 : Int32)
    (h : P (some (vi (((x.1 o 7) + (l1 * (x.1 o 8))) + 8))) x) :
    KT G q d zk_X5_localsAt 0 [(0, vr o), (1, vi l1)] [] x P := by
  refine T_aload_n 0 (dk dtk_X5_localsAt 0 rfl) rfl rfl ?_
  refine T_getI o 7 (dk dtk_X5_localsAt 1 rfl) kfl_X5_55 (kk_M0 ho) (kl_M0 hq ho) (by decide) rfl ?_
  refine T_iload_n 1 (dk dtk_X5_localsAt 2 rfl) rfl rfl ?_
  refine T_aload_n 0 (dk dtk_X5_localsAt 3 rfl) rfl rfl ?_
  refine T_getI o 8 (dk dtk_X5_localsAt 4 rfl) kfl_X5_64 (kk_M0 ho) (kl_M0 hq ho) (by decide) rfl ?_
  refine T_imul (dk dtk_X5_localsAt 5 rfl) ?_
  refine T_iadd (dk dtk_X5_localsAt 6 rfl) ?_
  refine T_bipush (v := 8) (dk dtk_X5_localsAt 7 rfl) (by decide +kernel) ?_
  refine T_iadd (dk dtk_X5_localsAt 8 rfl) ?_
  exact KT_iret (dk dtk_X5_localsAt 9 rfl) rfl rfl h
set_option maxRecDepth 100000 in
theorem dtk_X5_placeOf : dck cX5_placeOf [(0, .aload_n 0, 1), (1, .iload_n 1, 1), (2, .iconst 2, 1), (3, .invokevirtual 90, 3), (6, .istore_n 2, 1), (7, .aload_n 0, 1), (8, .getfield 21, 3), (11, .getfield 139, 3), (14, .iload_n 2, 1), (15, .iaload, 1), (16, .istore_n 3, 1), (17, .iload_n 3, 1), (18, .iconst (-1), 1), (19, .if_icmp .ne 13, 3), (22, .aload_n 0, 1), (23, .getfield 21, 3), (26, .getfield 136, 3), (29, .iload_n 2, 1), (30, .iaload, 1), (31, .ireturn, 1), (32, .aload_n 0, 1), (33, .getfield 11, 3), (36, .iload_n 3, 1), (37, .aload_n 0, 1), (38, .getfield 29, 3), (41, .aload_n 0, 1), (42, .iload_n 1, 1), (43, .invokevirtual 142, 3), (46, .iload_n 1, 1), (47, .invokevirtual 145, 3), (50, .istore 4, 2), (52, .aload_n 0, 1), (53, .getfield 11, 3), (56, .getfield 149, 3), (59, .ifCond .ne 22, 3), (62, .iload 4, 2), (64, .ifCond .lt 17, 3), (67, .iload 4, 2), (69, .aload_n 0, 1), (70, .getfield 21, 3), (73, .getfield 153, 3), (76, .iload_n 2, 1), (77, .iaload, 1), (78, .if_icmp .lt 24, 3), (81, .aload_n 0, 1), (82, .aload_n 0, 1), (83, .getfield 11, 3), (86, .getfield 149, 3), (89, .ifCond .eq 7, 3), (92, .iconst 1, 1), (93, .goto 4, 3), (96, .iconst 2, 1), (97, .putfield 154, 3), (100, .iconst (-1), 1), (101, .ireturn, 1), (102, .aload_n 0, 1), (103, .getfield 21, 3), (106, .getfield 136, 3), (109, .iload_n 2, 1), (110, .iaload, 1), (111, .iload 4, 2), (113, .iadd, 1), (114, .ireturn, 1)] = true := by decide +kernel
set_option maxRecDepth 100000 in
set_option maxHeartbeats 4000000 in
theorem kg_X5_placeOf_0 {G : kG} {q : kP} {d : Nat} {x : gd} {P : Option gv → gd → Prop} (hq : kV q) {o : Nat} (ho : kiM q o) (l1 : Int32)
    (h : KT G q d zk_X5_get 0 [(0, vr o), (1, vi l1), (2, vi 2)] [] x (ri (fun r2 x1 => vp_in r2 400 ∧ ((¬ ((x1.1 87 (r2 : Int32).toNatClampNeg) = (-1 : Int32)) → KT G q d zk_X5_localsAt 0 [(0, vr o), (1, vi l1)] [] x1 (ri (fun r6 x5 => KT G q d zk_X0_work 0 [(0, vr 60), (1, vi (x1.1 87 (r2 : Int32).toNatClampNeg)), (2, vr (o + 5)), (3, vi r6), (4, vi l1)] [] x5 (ri (fun r8 x7 => ((¬ ((x7.1 60 5) = (0 : Int32)) → KT G q (d + 1) zk_X5_placeOf 81 [(0, vr o)] [] x7 P) ∧ ((x7.1 60 5) = (0 : Int32) → ((r8 < (0 : Int32) → KT G q (d + 1) zk_X5_placeOf 81 [(0, vr o)] [] x7 P) ∧ (¬ (r8 < (0 : Int32)) → vp_in r2 400 ∧ ((r8 < (x7.1 86 (r2 : Int32).toNatClampNeg) → vp_in r2 400 ∧ P (some (vi ((x7.1 85 (r2 : Int32).toNatClampNeg) + r8))) x7) ∧ (¬ (r8 < (x7.1 86 (r2 : Int32).toNatClampNeg)) → KT G q (d + 1) zk_X5_placeOf 81 [(0, vr o)] [] x7 P))))))))))) ∧ ((x1.1 87 (r2 : Int32).toNatClampNeg) = (-1 : Int32) → vp_in r2 400 ∧ P (some (vi (x1.1 85 (r2 : Int32).toNatClampNeg))) x1))))) :
    KT G q (d + 1) zk_X5_placeOf 0 [(0, vr o), (1, vi l1)] [] x P := by
  refine T_aload_n 0 (dk dtk_X5_placeOf 0 rfl) rfl rfl ?_
  refine T_iload_n 1 (dk dtk_X5_placeOf 1 rfl) rfl rfl ?_
  refine T_iconst (v := 2) (dk dtk_X5_placeOf 2 rfl) (by decide +kernel) ?_
  refine KC_Vi [vi l1, vi 2] [] rfl (dk dtk_X5_placeOf 3 rfl) kcv_X5_90 rfl (kk_M0 ho) rfl (kl_M0 hq ho) (Nat.le_of_ble_eq_true rfl) (Nat.le_of_ble_eq_true rfl) (gok_i (av_c (gkr (kl_M0 hq ho)) (av_c rfl av_n)) as_n) rfl h (fun r2 x1 h => ?_)
  refine T_istore_n (lv2 := [(2, vi r2), (0, vr o), (1, vi l1)]) (dk dtk_X5_placeOf 4 rfl) rfl (by decide) rfl ?_
  refine T_aload_n 1 (dk dtk_X5_placeOf 5 rfl) rfl rfl ?_
  refine T_getR o 1 80 (dk dtk_X5_placeOf 6 rfl) kfl_X5_21 (kk_M0 ho) (kl_M0 hq ho) (by decide) rfl (kr_M_1 ho) ?_
  refine T_getR 80 6 87 (dk dtk_X5_placeOf 7 rfl) kfl_X5_139 kk_80 (kl_80 hq) (by decide) rfl kr_80_6 ?_
  refine T_iload_n 0 (dk dtk_X5_placeOf 8 rfl) rfl rfl ?_
  obtain ⟨h3, h⟩ := h
  refine T_iald 87 400 (dk dtk_X5_placeOf 9 rfl) kk_87 (kl_87 hq) h3 ?_
  refine T_istore_n (lv2 := [(3, vi (x1.1 87 (r2 : Int32).toNatClampNeg)), (2, vi r2), (0, vr o), (1, vi l1)]) (dk dtk_X5_placeOf 10 rfl) rfl (by decide) rfl ?_
  refine T_iload_n 0 (dk dtk_X5_placeOf 11 rfl) rfl rfl ?_
  refine T_iconst (v := (-1)) (dk dtk_X5_placeOf 12 rfl) (by decide +kernel) ?_
  refine T_icmp_ne 32 (dk dtk_X5_placeOf 13 rfl) (by decide) (fun c4 => ?_) (fun c4 => ?_)
  · have h := h.1 c4
    refine T_aload_n 2 (dk dtk_X5_placeOf 20 rfl) rfl rfl ?_
    refine T_getR o 0 60 (dk dtk_X5_placeOf 21 rfl) kfl_X5_11 (kk_M0 ho) (kl_M0 hq ho) (by decide) rfl (kr_M_0 ho) ?_
    refine T_iload_n 0 (dk dtk_X5_placeOf 22 rfl) rfl rfl ?_
    refine T_aload_n 2 (dk dtk_X5_placeOf 23 rfl) rfl rfl ?_
    refine T_getR o 4 (o + 5) (dk dtk_X5_placeOf 24 rfl) kfl_X5_29 (kk_M0 ho) (kl_M0 hq ho) (by decide) rfl (kr_M_4 ho) ?_
    refine T_aload_n 2 (dk dtk_X5_placeOf 25 rfl) rfl rfl ?_
    refine T_iload_n 3 (dk dtk_X5_placeOf 26 rfl) rfl rfl ?_
    refine T_sub (lv2 := [(2, vi r2), (0, vr o), (1, vi l1)]) [1, 2, 3] rfl ?_
    refine KC_Vi [vi l1] [vr (o + 5), vi (x1.1 87 (r2 : Int32).toNatClampNeg), vr 60] rfl (dk dtk_X5_placeOf 27 rfl) kcv_X5_142 rfl (kk_M0 ho) rfl (kl_M0 hq ho) (Nat.le_of_ble_eq_true rfl) (Nat.le_of_ble_eq_true rfl) (gok_i (av_c rfl (av_c (gkr (kl_M0 hq ho)) (av_c rfl av_n))) (as_c (gkr (kl_M5 hq ho)) (as_c rfl (as_c (gkr (kl_60 hq)) as_n)))) rfl h (fun r6 x5 h => ?_)
    refine T_iload_n 2 (dk dtk_X5_placeOf 28 rfl) rfl rfl ?_
    refine T_sub (lv2 := [(2, vi r2), (0, vr o)]) [0, 1] rfl ?_
    refine KC_Vi [vi (x1.1 87 (r2 : Int32).toNatClampNeg), vr (o + 5), vi r6, vi l1] [] rfl (dk dtk_X5_placeOf 29 rfl) kcv_X5_145 rfl kk_60 rfl (kl_60 hq) (Nat.le_of_ble_eq_true rfl) (Nat.le_of_ble_eq_true rfl) (gok_i (av_c rfl (av_c (gkr (kl_M0 hq ho)) av_n)) as_n) rfl h (fun r8 x7 h => ?_)
    refine T_istore (lv2 := [(4, vi r8), (2, vi r2), (0, vr o)]) (dk dtk_X5_placeOf 30 rfl) (by decide) rfl ?_
    refine T_aload_n 2 (dk dtk_X5_placeOf 31 rfl) rfl rfl ?_
    refine T_getR o 0 60 (dk dtk_X5_placeOf 32 rfl) kfl_X5_11 (kk_M0 ho) (kl_M0 hq ho) (by decide) rfl (kr_M_0 ho) ?_
    refine T_getI 60 5 (dk dtk_X5_placeOf 33 rfl) kfl_X5_149 kk_60 (kl_60 hq) (by decide) rfl ?_
    refine T_if_ne 81 (dk dtk_X5_placeOf 34 rfl) (by decide) (fun c9 => ?_) (fun c9 => ?_)
    · have h := h.1 c9
      exact T_sub [2] rfl h
    · have h := h.2 c9
      refine T_iload 0 (dk dtk_X5_placeOf 35 rfl) rfl ?_
      refine T_if_lt 81 (dk dtk_X5_placeOf 36 rfl) (by decide) (fun c10 => ?_) (fun c10 => ?_)
      · have h := h.1 c10
        exact T_sub [2] rfl h
      · have h := h.2 c10
        refine T_iload 0 (dk dtk_X5_placeOf 37 rfl) rfl ?_
        refine T_aload_n 2 (dk dtk_X5_placeOf 38 rfl) rfl rfl ?_
        refine T_getR o 1 80 (dk dtk_X5_placeOf 39 rfl) kfl_X5_21 (kk_M0 ho) (kl_M0 hq ho) (by decide) rfl (kr_M_1 ho) ?_
        refine T_getR 80 5 86 (dk dtk_X5_placeOf 40 rfl) kfl_X5_153 kk_80 (kl_80 hq) (by decide) rfl kr_80_5 ?_
        refine T_iload_n 1 (dk dtk_X5_placeOf 41 rfl) rfl rfl ?_
        obtain ⟨h11, h⟩ := h
        refine T_iald 86 400 (dk dtk_X5_placeOf 42 rfl) kk_86 (kl_86 hq) h11 ?_
        refine T_icmp_lt 102 (dk dtk_X5_placeOf 43 rfl) (by decide) (fun c12 => ?_) (fun c12 => ?_)
        · have h := h.1 c12
          refine T_aload_n 2 (dk dtk_X5_placeOf 55 rfl) rfl rfl ?_
          refine T_getR o 1 80 (dk dtk_X5_placeOf 56 rfl) kfl_X5_21 (kk_M0 ho) (kl_M0 hq ho) (by decide) rfl (kr_M_1 ho) ?_
          refine T_getR 80 4 85 (dk dtk_X5_placeOf 57 rfl) kfl_X5_136 kk_80 (kl_80 hq) (by decide) rfl kr_80_4 ?_
          refine T_iload_n 1 (dk dtk_X5_placeOf 58 rfl) rfl rfl ?_
          obtain ⟨h13, h⟩ := h
          refine T_iald 85 400 (dk dtk_X5_placeOf 59 rfl) kk_85 (kl_85 hq) h13 ?_
          refine T_iload 0 (dk dtk_X5_placeOf 60 rfl) rfl ?_
          refine T_iadd (dk dtk_X5_placeOf 61 rfl) ?_
          exact KT_iret (dk dtk_X5_placeOf 62 rfl) rfl rfl h
        · have h := h.2 c12
          exact T_sub [2] rfl h
  · have h := h.2 c4
    refine T_aload_n 2 (dk dtk_X5_placeOf 14 rfl) rfl rfl ?_
    refine T_getR o 1 80 (dk dtk_X5_placeOf 15 rfl) kfl_X5_21 (kk_M0 ho) (kl_M0 hq ho) (by decide) rfl (kr_M_1 ho) ?_
    refine T_getR 80 4 85 (dk dtk_X5_placeOf 16 rfl) kfl_X5_136 kk_80 (kl_80 hq) (by decide) rfl kr_80_4 ?_
    refine T_iload_n 1 (dk dtk_X5_placeOf 17 rfl) rfl rfl ?_
    obtain ⟨h14, h⟩ := h
    refine T_iald 85 400 (dk dtk_X5_placeOf 18 rfl) kk_85 (kl_85 hq) h14 ?_
    exact KT_iret (dk dtk_X5_placeOf 19 rfl) rfl rfl h
set_option maxRecDepth 100000 in
set_option maxHeartbeats 4000000 in
theorem kg_X5_placeOf_81 {G : kG} {q : kP} {d : Nat} {x : gd} {P : Option gv → gd → Prop} (hq : kV q) {o : Nat} (ho : kiM q o)
    (h : (((x.1 60 5) = (0 : Int32) → (∀ x2 : gd, x2 = si x o 14 2 → P (some (vi (-1))) x2)) ∧ (¬ ((x.1 60 5) = (0 : Int32)) → (∀ x3 : gd, x3 = si x o 14 1 → P (some (vi (-1))) x3)))) :
    KT G q (d + 1) zk_X5_placeOf 81 [(0, vr o)] [] x P := by
  refine T_aload_n 0 (dk dtk_X5_placeOf 44 rfl) rfl rfl ?_
  refine T_aload_n 0 (dk dtk_X5_placeOf 45 rfl) rfl rfl ?_
  refine T_getR o 0 60 (dk dtk_X5_placeOf 46 rfl) kfl_X5_11 (kk_M0 ho) (kl_M0 hq ho) (by decide) rfl (kr_M_0 ho) ?_
  refine T_getI 60 5 (dk dtk_X5_placeOf 47 rfl) kfl_X5_149 kk_60 (kl_60 hq) (by decide) rfl ?_
  refine T_if_eq 96 (dk dtk_X5_placeOf 48 rfl) (by decide) (fun c1 => ?_) (fun c1 => ?_)
  · have h := h.1 c1
    refine T_iconst (v := 2) (dk dtk_X5_placeOf 51 rfl) (by decide +kernel) ?_
    obtain ⟨x2, ex2⟩ : ∃ z, z = si x o 14 2 := ⟨_, rfl⟩
    have h := h x2 ex2
    refine T_putI o 14 (dk dtk_X5_placeOf 52 rfl) kfl_X5_154 (kk_M0 ho) (kl_M0 hq ho) (by decide) rfl ⟨rfl, rfl⟩ ?_
    rw [← ex2]
    refine T_iconst (v := (-1)) (dk dtk_X5_placeOf 53 rfl) (by decide +kernel) ?_
    exact KT_iret (dk dtk_X5_placeOf 54 rfl) rfl rfl h
  · have h := h.2 c1
    refine T_iconst (v := 1) (dk dtk_X5_placeOf 49 rfl) (by decide +kernel) ?_
    refine T_goto 97 (dk dtk_X5_placeOf 50 rfl) (by decide) ?_
    obtain ⟨x3, ex3⟩ : ∃ z, z = si x o 14 1 := ⟨_, rfl⟩
    have h := h x3 ex3
    refine T_putI o 14 (dk dtk_X5_placeOf 52 rfl) kfl_X5_154 (kk_M0 ho) (kl_M0 hq ho) (by decide) rfl ⟨rfl, rfl⟩ ?_
    rw [← ex3]
    refine T_iconst (v := (-1)) (dk dtk_X5_placeOf 53 rfl) (by decide +kernel) ?_
    exact KT_iret (dk dtk_X5_placeOf 54 rfl) rfl rfl h
set_option maxRecDepth 100000 in
theorem dtk_X5_goesLate : dck cX5_goesLate [(0, .aload_n 0, 1), (1, .getfield 42, 3), (4, .iconst 1, 1), (5, .if_icmp .ne 40, 3), (8, .aload_n 0, 1), (9, .getfield 21, 3), (12, .getfield 127, 3), (15, .iload_n 1, 1), (16, .iaload, 1), (17, .iconst 1, 1), (18, .if_icmp .ne 27, 3), (21, .aload_n 0, 1), (22, .getfield 11, 3), (25, .getfield 157, 3), (28, .aload_n 0, 1), (29, .getfield 21, 3), (32, .getfield 136, 3), (35, .iload_n 1, 1), (36, .iaload, 1), (37, .baload, 1), (38, .ifCond .ne 7, 3), (41, .iconst 1, 1), (42, .goto 4, 3), (45, .iconst 0, 1), (46, .ireturn, 1)] = true := by decide +kernel
set_option maxRecDepth 100000 in
set_option maxHeartbeats 4000000 in
theorem kg_X5_goesLate_0 {G : kG} {q : kP} {d : Nat} {x : gd} {P : Option gv → gd → Prop} (hq : kV q) {o : Nat} (ho : kiM q o) (l1 : Int32)
    (h : ((¬ ((x.1 o 3) = (1 : Int32)) → P (some (vi 0)) x) ∧ ((x.1 o 3) = (1 : Int32) → vp_in l1 400 ∧ ((¬ ((x.1 81 (l1 : Int32).toNatClampNeg) = (1 : Int32)) → P (some (vi 0)) x) ∧ ((x.1 81 (l1 : Int32).toNatClampNeg) = (1 : Int32) → vp_in l1 400 ∧ vp_in (x.1 85 (l1 : Int32).toNatClampNeg) 24 ∧ ((¬ ((x.1 69 (x.1 85 (l1 : Int32).toNatClampNeg : Int32).toNatClampNeg) = (0 : Int32)) → P (some (vi 0)) x) ∧ ((x.1 69 (x.1 85 (l1 : Int32).toNatClampNeg : Int32).toNatClampNeg) = (0 : Int32) → P (some (vi 1)) x))))))) :
    KT G q d zk_X5_goesLate 0 [(0, vr o), (1, vi l1)] [] x P := by
  refine T_aload_n 0 (dk dtk_X5_goesLate 0 rfl) rfl rfl ?_
  refine T_getI o 3 (dk dtk_X5_goesLate 1 rfl) kfl_X5_42 (kk_M0 ho) (kl_M0 hq ho) (by decide) rfl ?_
  refine T_iconst (v := 1) (dk dtk_X5_goesLate 2 rfl) (by decide +kernel) ?_
  refine T_icmp_ne 45 (dk dtk_X5_goesLate 3 rfl) (by decide) (fun c1 => ?_) (fun c1 => ?_)
  · have h := h.1 c1
    refine T_iconst (v := 0) (dk dtk_X5_goesLate 23 rfl) (by decide +kernel) ?_
    exact KT_iret (dk dtk_X5_goesLate 24 rfl) rfl rfl h
  · have h := h.2 c1
    refine T_aload_n 0 (dk dtk_X5_goesLate 4 rfl) rfl rfl ?_
    refine T_getR o 1 80 (dk dtk_X5_goesLate 5 rfl) kfl_X5_21 (kk_M0 ho) (kl_M0 hq ho) (by decide) rfl (kr_M_1 ho) ?_
    refine T_getR 80 0 81 (dk dtk_X5_goesLate 6 rfl) kfl_X5_127 kk_80 (kl_80 hq) (by decide) rfl kr_80_0 ?_
    refine T_iload_n 1 (dk dtk_X5_goesLate 7 rfl) rfl rfl ?_
    obtain ⟨h2, h⟩ := h
    refine T_iald 81 400 (dk dtk_X5_goesLate 8 rfl) kk_81 (kl_81 hq) h2 ?_
    refine T_iconst (v := 1) (dk dtk_X5_goesLate 9 rfl) (by decide +kernel) ?_
    refine T_icmp_ne 45 (dk dtk_X5_goesLate 10 rfl) (by decide) (fun c3 => ?_) (fun c3 => ?_)
    · have h := h.1 c3
      refine T_iconst (v := 0) (dk dtk_X5_goesLate 23 rfl) (by decide +kernel) ?_
      exact KT_iret (dk dtk_X5_goesLate 24 rfl) rfl rfl h
    · have h := h.2 c3
      refine T_aload_n 0 (dk dtk_X5_goesLate 11 rfl) rfl rfl ?_
      refine T_getR o 0 60 (dk dtk_X5_goesLate 12 rfl) kfl_X5_11 (kk_M0 ho) (kl_M0 hq ho) (by decide) rfl (kr_M_0 ho) ?_
      refine T_getR 60 8 69 (dk dtk_X5_goesLate 13 rfl) kfl_X5_157 kk_60 (kl_60 hq) (by decide) rfl kr_60_8 ?_
      refine T_aload_n 0 (dk dtk_X5_goesLate 14 rfl) rfl rfl ?_
      refine T_getR o 1 80 (dk dtk_X5_goesLate 15 rfl) kfl_X5_21 (kk_M0 ho) (kl_M0 hq ho) (by decide) rfl (kr_M_1 ho) ?_
      refine T_getR 80 4 85 (dk dtk_X5_goesLate 16 rfl) kfl_X5_136 kk_80 (kl_80 hq) (by decide) rfl kr_80_4 ?_
      refine T_iload_n 1 (dk dtk_X5_goesLate 17 rfl) rfl rfl ?_
      obtain ⟨h4, h⟩ := h
      refine T_iald 85 400 (dk dtk_X5_goesLate 18 rfl) kk_85 (kl_85 hq) h4 ?_
      obtain ⟨h5, h⟩ := h
      refine T_zald 69 24 (dk dtk_X5_goesLate 19 rfl) kk_69 (kl_69 hq) h5 ?_
      refine T_if_ne 45 (dk dtk_X5_goesLate 20 rfl) (by decide) (fun c6 => ?_) (fun c6 => ?_)
      · have h := h.1 c6
        refine T_iconst (v := 0) (dk dtk_X5_goesLate 23 rfl) (by decide +kernel) ?_
        exact KT_iret (dk dtk_X5_goesLate 24 rfl) rfl rfl h
      · have h := h.2 c6
        refine T_iconst (v := 1) (dk dtk_X5_goesLate 21 rfl) (by decide +kernel) ?_
        refine T_goto 46 (dk dtk_X5_goesLate 22 rfl) (by decide) ?_
        exact KT_iret (dk dtk_X5_goesLate 24 rfl) rfl rfl h
set_option maxRecDepth 100000 in
theorem dtk_X5_accessFails : dck cX5_accessFails [(0, .aload_n 0, 1), (1, .iload_n 1, 1), (2, .iconst 2, 1), (3, .invokevirtual 90, 3), (6, .istore_n 2, 1), (7, .aload_n 0, 1), (8, .iload_n 1, 1), (9, .invokevirtual 133, 3), (12, .iconst (-1), 1), (13, .if_icmp .ne 5, 3), (16, .iconst 1, 1), (17, .ireturn, 1), (18, .aload_n 0, 1), (19, .getfield 21, 3), (22, .getfield 160, 3), (25, .iload_n 2, 1), (26, .iaload, 1), (27, .iconst (-1), 1), (28, .if_icmp .eq 42, 3), (31, .aload_n 0, 1), (32, .getfield 11, 3), (35, .aload_n 0, 1), (36, .getfield 21, 3), (39, .getfield 160, 3), (42, .iload_n 2, 1), (43, .iaload, 1), (44, .aload_n 0, 1), (45, .getfield 29, 3), (48, .aload_n 0, 1), (49, .iload_n 1, 1), (50, .invokevirtual 142, 3), (53, .iload_n 1, 1), (54, .invokevirtual 145, 3), (57, .pop, 1), (58, .aload_n 0, 1), (59, .getfield 11, 3), (62, .getfield 149, 3), (65, .ifCond .eq 5, 3), (68, .iconst 1, 1), (69, .ireturn, 1), (70, .aload_n 0, 1), (71, .getfield 21, 3), (74, .getfield 163, 3), (77, .iload_n 2, 1), (78, .iaload, 1), (79, .iconst (-1), 1), (80, .if_icmp .eq 42, 3), (83, .aload_n 0, 1), (84, .getfield 11, 3), (87, .aload_n 0, 1), (88, .getfield 21, 3), (91, .getfield 163, 3), (94, .iload_n 2, 1), (95, .iaload, 1), (96, .aload_n 0, 1), (97, .getfield 29, 3), (100, .aload_n 0, 1), (101, .iload_n 1, 1), (102, .invokevirtual 142, 3), (105, .iload_n 1, 1), (106, .invokevirtual 145, 3), (109, .pop, 1), (110, .aload_n 0, 1), (111, .getfield 11, 3), (114, .getfield 149, 3), (117, .ifCond .eq 5, 3), (120, .iconst 1, 1), (121, .ireturn, 1), (122, .aload_n 0, 1), (123, .iload_n 2, 1), (124, .invokevirtual 166, 3), (127, .ifCond .eq 19, 3), (130, .aload_n 0, 1), (131, .iload_n 1, 1), (132, .bipush 7, 2), (134, .invokevirtual 90, 3), (137, .bipush 8, 2), (139, .if_icmp .lt 7, 3), (142, .iconst 1, 1), (143, .goto 4, 3), (146, .iconst 0, 1), (147, .ireturn, 1)] = true := by decide +kernel
set_option maxRecDepth 100000 in
set_option maxHeartbeats 4000000 in
theorem kg_X5_accessFails_0 {G : kG} {q : kP} {d : Nat} {x : gd} {P : Option gv → gd → Prop} (hq : kV q) {o : Nat} (ho : kiM q o) (l1 : Int32)
    (h : KT G q d zk_X5_get 0 [(0, vr o), (1, vi l1), (2, vi 2)] [] x (ri (fun r2 x1 => KT G q d zk_X5_placeOf 0 [(0, vr o), (1, vi l1)] [] x1 (ri (fun r4 x3 => ((¬ (r4 = (-1 : Int32)) → vp_in r2 400 ∧ (((x3.1 88 (r2 : Int32).toNatClampNeg) = (-1 : Int32) → KT G q (d + 1) zk_X5_accessFails 70 [(0, vr o), (1, vi l1), (2, vi r2)] [] x3 P) ∧ (¬ ((x3.1 88 (r2 : Int32).toNatClampNeg) = (-1 : Int32)) → vp_in r2 400 ∧ KT G q d zk_X5_localsAt 0 [(0, vr o), (1, vi l1)] [] x3 (ri (fun r10 x9 => KT G q d zk_X0_work 0 [(0, vr 60), (1, vi (x3.1 88 (r2 : Int32).toNatClampNeg)), (2, vr (o + 5)), (3, vi r10), (4, vi l1)] [] x9 (ri (fun r12 x11 => (((x11.1 60 5) = (0 : Int32) → KT G q (d + 1) zk_X5_accessFails 70 [(0, vr o), (1, vi l1), (2, vi r2)] [] x11 P) ∧ (¬ ((x11.1 60 5) = (0 : Int32)) → P (some (vi 1)) x11))))))))) ∧ (r4 = (-1 : Int32) → P (some (vi 1)) x3))))))) :
    KT G q (d + 1) zk_X5_accessFails 0 [(0, vr o), (1, vi l1)] [] x P := by
  refine T_aload_n 0 (dk dtk_X5_accessFails 0 rfl) rfl rfl ?_
  refine T_iload_n 1 (dk dtk_X5_accessFails 1 rfl) rfl rfl ?_
  refine T_iconst (v := 2) (dk dtk_X5_accessFails 2 rfl) (by decide +kernel) ?_
  refine KC_Vi [vi l1, vi 2] [] rfl (dk dtk_X5_accessFails 3 rfl) kcv_X5_90 rfl (kk_M0 ho) rfl (kl_M0 hq ho) (Nat.le_of_ble_eq_true rfl) (Nat.le_of_ble_eq_true rfl) (gok_i (av_c (gkr (kl_M0 hq ho)) (av_c rfl av_n)) as_n) rfl h (fun r2 x1 h => ?_)
  refine T_istore_n (lv2 := [(2, vi r2), (0, vr o), (1, vi l1)]) (dk dtk_X5_accessFails 4 rfl) rfl (by decide) rfl ?_
  refine T_aload_n 1 (dk dtk_X5_accessFails 5 rfl) rfl rfl ?_
  refine T_iload_n 2 (dk dtk_X5_accessFails 6 rfl) rfl rfl ?_
  refine KC_Vi [vi l1] [] rfl (dk dtk_X5_accessFails 7 rfl) kcv_X5_133 rfl (kk_M0 ho) rfl (kl_M0 hq ho) (Nat.le_of_ble_eq_true rfl) (Nat.le_of_ble_eq_true rfl) (gok_i (av_c rfl (av_c (gkr (kl_M0 hq ho)) (av_c rfl av_n))) as_n) rfl h (fun r4 x3 h => ?_)
  refine T_iconst (v := (-1)) (dk dtk_X5_accessFails 8 rfl) (by decide +kernel) ?_
  refine T_icmp_ne 18 (dk dtk_X5_accessFails 9 rfl) (by decide) (fun c5 => ?_) (fun c5 => ?_)
  · have h := h.1 c5
    refine T_aload_n 1 (dk dtk_X5_accessFails 12 rfl) rfl rfl ?_
    refine T_getR o 1 80 (dk dtk_X5_accessFails 13 rfl) kfl_X5_21 (kk_M0 ho) (kl_M0 hq ho) (by decide) rfl (kr_M_1 ho) ?_
    refine T_getR 80 7 88 (dk dtk_X5_accessFails 14 rfl) kfl_X5_160 kk_80 (kl_80 hq) (by decide) rfl kr_80_7 ?_
    refine T_iload_n 0 (dk dtk_X5_accessFails 15 rfl) rfl rfl ?_
    obtain ⟨h6, h⟩ := h
    refine T_iald 88 400 (dk dtk_X5_accessFails 16 rfl) kk_88 (kl_88 hq) h6 ?_
    refine T_iconst (v := (-1)) (dk dtk_X5_accessFails 17 rfl) (by decide +kernel) ?_
    refine T_icmp_eq 70 (dk dtk_X5_accessFails 18 rfl) (by decide) (fun c7 => ?_) (fun c7 => ?_)
    · have h := h.1 c7
      exact T_sub [1, 2, 0] rfl h
    · have h := h.2 c7
      refine T_aload_n 1 (dk dtk_X5_accessFails 19 rfl) rfl rfl ?_
      refine T_getR o 0 60 (dk dtk_X5_accessFails 20 rfl) kfl_X5_11 (kk_M0 ho) (kl_M0 hq ho) (by decide) rfl (kr_M_0 ho) ?_
      refine T_aload_n 1 (dk dtk_X5_accessFails 21 rfl) rfl rfl ?_
      refine T_getR o 1 80 (dk dtk_X5_accessFails 22 rfl) kfl_X5_21 (kk_M0 ho) (kl_M0 hq ho) (by decide) rfl (kr_M_1 ho) ?_
      refine T_getR 80 7 88 (dk dtk_X5_accessFails 23 rfl) kfl_X5_160 kk_80 (kl_80 hq) (by decide) rfl kr_80_7 ?_
      refine T_iload_n 0 (dk dtk_X5_accessFails 24 rfl) rfl rfl ?_
      obtain ⟨h8, h⟩ := h
      refine T_iald 88 400 (dk dtk_X5_accessFails 25 rfl) kk_88 (kl_88 hq) h8 ?_
      refine T_aload_n 1 (dk dtk_X5_accessFails 26 rfl) rfl rfl ?_
      refine T_getR o 4 (o + 5) (dk dtk_X5_accessFails 27 rfl) kfl_X5_29 (kk_M0 ho) (kl_M0 hq ho) (by decide) rfl (kr_M_4 ho) ?_
      refine T_aload_n 1 (dk dtk_X5_accessFails 28 rfl) rfl rfl ?_
      refine T_iload_n 2 (dk dtk_X5_accessFails 29 rfl) rfl rfl ?_
      refine KC_Vi [vi l1] [vr (o + 5), vi (x3.1 88 (r2 : Int32).toNatClampNeg), vr 60] rfl (dk dtk_X5_accessFails 30 rfl) kcv_X5_142 rfl (kk_M0 ho) rfl (kl_M0 hq ho) (Nat.le_of_ble_eq_true rfl) (Nat.le_of_ble_eq_true rfl) (gok_i (av_c rfl (av_c (gkr (kl_M0 hq ho)) (av_c rfl av_n))) (as_c (gkr (kl_M5 hq ho)) (as_c rfl (as_c (gkr (kl_60 hq)) as_n)))) rfl h (fun r10 x9 h => ?_)
      refine T_iload_n 2 (dk dtk_X5_accessFails 31 rfl) rfl rfl ?_
      refine KC_Vi [vi (x3.1 88 (r2 : Int32).toNatClampNeg), vr (o + 5), vi r10, vi l1] [] rfl (dk dtk_X5_accessFails 32 rfl) kcv_X5_145 rfl kk_60 rfl (kl_60 hq) (Nat.le_of_ble_eq_true rfl) (Nat.le_of_ble_eq_true rfl) (gok_i (av_c rfl (av_c (gkr (kl_M0 hq ho)) (av_c rfl av_n))) as_n) rfl h (fun r12 x11 h => ?_)
      refine T_pop (dk dtk_X5_accessFails 33 rfl) rfl ?_
      refine T_aload_n 1 (dk dtk_X5_accessFails 34 rfl) rfl rfl ?_
      refine T_getR o 0 60 (dk dtk_X5_accessFails 35 rfl) kfl_X5_11 (kk_M0 ho) (kl_M0 hq ho) (by decide) rfl (kr_M_0 ho) ?_
      refine T_getI 60 5 (dk dtk_X5_accessFails 36 rfl) kfl_X5_149 kk_60 (kl_60 hq) (by decide) rfl ?_
      refine T_if_eq 70 (dk dtk_X5_accessFails 37 rfl) (by decide) (fun c13 => ?_) (fun c13 => ?_)
      · have h := h.1 c13
        exact T_sub [1, 2, 0] rfl h
      · have h := h.2 c13
        refine T_iconst (v := 1) (dk dtk_X5_accessFails 38 rfl) (by decide +kernel) ?_
        exact KT_iret (dk dtk_X5_accessFails 39 rfl) rfl rfl h
  · have h := h.2 c5
    refine T_iconst (v := 1) (dk dtk_X5_accessFails 10 rfl) (by decide +kernel) ?_
    exact KT_iret (dk dtk_X5_accessFails 11 rfl) rfl rfl h
set_option maxRecDepth 100000 in
set_option maxHeartbeats 4000000 in
theorem kg_X5_accessFails_70 {G : kG} {q : kP} {d : Nat} {x : gd} {P : Option gv → gd → Prop} (hq : kV q) {o : Nat} (ho : kiM q o) (l1 : Int32) (l2 : Int32)
    (h : vp_in l2 400 ∧ (((x.1 89 (l2 : Int32).toNatClampNeg) = (-1 : Int32) → KT G q (d + 1) zk_X5_accessFails 122 [(0, vr o), (1, vi l1), (2, vi l2)] [] x P) ∧ (¬ ((x.1 89 (l2 : Int32).toNatClampNeg) = (-1 : Int32)) → vp_in l2 400 ∧ KT G q d zk_X5_localsAt 0 [(0, vr o), (1, vi l1)] [] x (ri (fun r5 x4 => KT G q d zk_X0_work 0 [(0, vr 60), (1, vi (x.1 89 (l2 : Int32).toNatClampNeg)), (2, vr (o + 5)), (3, vi r5), (4, vi l1)] [] x4 (ri (fun r7 x6 => (((x6.1 60 5) = (0 : Int32) → KT G q (d + 1) zk_X5_accessFails 122 [(0, vr o), (1, vi l1), (2, vi l2)] [] x6 P) ∧ (¬ ((x6.1 60 5) = (0 : Int32)) → P (some (vi 1)) x6))))))))) :
    KT G q (d + 1) zk_X5_accessFails 70 [(0, vr o), (1, vi l1), (2, vi l2)] [] x P := by
  refine T_aload_n 0 (dk dtk_X5_accessFails 40 rfl) rfl rfl ?_
  refine T_getR o 1 80 (dk dtk_X5_accessFails 41 rfl) kfl_X5_21 (kk_M0 ho) (kl_M0 hq ho) (by decide) rfl (kr_M_1 ho) ?_
  refine T_getR 80 8 89 (dk dtk_X5_accessFails 42 rfl) kfl_X5_163 kk_80 (kl_80 hq) (by decide) rfl kr_80_8 ?_
  refine T_iload_n 2 (dk dtk_X5_accessFails 43 rfl) rfl rfl ?_
  obtain ⟨h1, h⟩ := h
  refine T_iald 89 400 (dk dtk_X5_accessFails 44 rfl) kk_89 (kl_89 hq) h1 ?_
  refine T_iconst (v := (-1)) (dk dtk_X5_accessFails 45 rfl) (by decide +kernel) ?_
  refine T_icmp_eq 122 (dk dtk_X5_accessFails 46 rfl) (by decide) (fun c2 => ?_) (fun c2 => ?_)
  · have h := h.1 c2
    exact h
  · have h := h.2 c2
    refine T_aload_n 0 (dk dtk_X5_accessFails 47 rfl) rfl rfl ?_
    refine T_getR o 0 60 (dk dtk_X5_accessFails 48 rfl) kfl_X5_11 (kk_M0 ho) (kl_M0 hq ho) (by decide) rfl (kr_M_0 ho) ?_
    refine T_aload_n 0 (dk dtk_X5_accessFails 49 rfl) rfl rfl ?_
    refine T_getR o 1 80 (dk dtk_X5_accessFails 50 rfl) kfl_X5_21 (kk_M0 ho) (kl_M0 hq ho) (by decide) rfl (kr_M_1 ho) ?_
    refine T_getR 80 8 89 (dk dtk_X5_accessFails 51 rfl) kfl_X5_163 kk_80 (kl_80 hq) (by decide) rfl kr_80_8 ?_
    refine T_iload_n 2 (dk dtk_X5_accessFails 52 rfl) rfl rfl ?_
    obtain ⟨h3, h⟩ := h
    refine T_iald 89 400 (dk dtk_X5_accessFails 53 rfl) kk_89 (kl_89 hq) h3 ?_
    refine T_aload_n 0 (dk dtk_X5_accessFails 54 rfl) rfl rfl ?_
    refine T_getR o 4 (o + 5) (dk dtk_X5_accessFails 55 rfl) kfl_X5_29 (kk_M0 ho) (kl_M0 hq ho) (by decide) rfl (kr_M_4 ho) ?_
    refine T_aload_n 0 (dk dtk_X5_accessFails 56 rfl) rfl rfl ?_
    refine T_iload_n 1 (dk dtk_X5_accessFails 57 rfl) rfl rfl ?_
    refine KC_Vi [vi l1] [vr (o + 5), vi (x.1 89 (l2 : Int32).toNatClampNeg), vr 60] rfl (dk dtk_X5_accessFails 58 rfl) kcv_X5_142 rfl (kk_M0 ho) rfl (kl_M0 hq ho) (Nat.le_of_ble_eq_true rfl) (Nat.le_of_ble_eq_true rfl) (gok_i (av_c (gkr (kl_M0 hq ho)) (av_c rfl (av_c rfl av_n))) (as_c (gkr (kl_M5 hq ho)) (as_c rfl (as_c (gkr (kl_60 hq)) as_n)))) rfl h (fun r5 x4 h => ?_)
    refine T_iload_n 1 (dk dtk_X5_accessFails 59 rfl) rfl rfl ?_
    refine KC_Vi [vi (x.1 89 (l2 : Int32).toNatClampNeg), vr (o + 5), vi r5, vi l1] [] rfl (dk dtk_X5_accessFails 60 rfl) kcv_X5_145 rfl kk_60 rfl (kl_60 hq) (Nat.le_of_ble_eq_true rfl) (Nat.le_of_ble_eq_true rfl) (gok_i (av_c (gkr (kl_M0 hq ho)) (av_c rfl (av_c rfl av_n))) as_n) rfl h (fun r7 x6 h => ?_)
    refine T_pop (dk dtk_X5_accessFails 61 rfl) rfl ?_
    refine T_aload_n 0 (dk dtk_X5_accessFails 62 rfl) rfl rfl ?_
    refine T_getR o 0 60 (dk dtk_X5_accessFails 63 rfl) kfl_X5_11 (kk_M0 ho) (kl_M0 hq ho) (by decide) rfl (kr_M_0 ho) ?_
    refine T_getI 60 5 (dk dtk_X5_accessFails 64 rfl) kfl_X5_149 kk_60 (kl_60 hq) (by decide) rfl ?_
    refine T_if_eq 122 (dk dtk_X5_accessFails 65 rfl) (by decide) (fun c8 => ?_) (fun c8 => ?_)
    · have h := h.1 c8
      exact h
    · have h := h.2 c8
      refine T_iconst (v := 1) (dk dtk_X5_accessFails 66 rfl) (by decide +kernel) ?_
      exact KT_iret (dk dtk_X5_accessFails 67 rfl) rfl rfl h
set_option maxRecDepth 100000 in
set_option maxHeartbeats 4000000 in
theorem kg_X5_accessFails_122 {G : kG} {q : kP} {d : Nat} {x : gd} {P : Option gv → gd → Prop} (hq : kV q) {o : Nat} (ho : kiM q o) (l1 : Int32) (l2 : Int32)
    (h : KT G q d zk_X5_goesLate 0 [(0, vr o), (1, vi l2)] [] x (ri (fun r2 x1 => ((r2 = (0 : Int32) → P (some (vi 0)) x1) ∧ (¬ (r2 = (0 : Int32)) → KT G q d zk_X5_get 0 [(0, vr o), (1, vi l1), (2, vi 7)] [] x1 (ri (fun r5 x4 => ((r5 < (8 : Int32) → P (some (vi 0)) x4) ∧ (¬ (r5 < (8 : Int32)) → P (some (vi 1)) x4))))))))) :
    KT G q (d + 1) zk_X5_accessFails 122 [(0, vr o), (1, vi l1), (2, vi l2)] [] x P := by
  refine T_aload_n 0 (dk dtk_X5_accessFails 68 rfl) rfl rfl ?_
  refine T_iload_n 2 (dk dtk_X5_accessFails 69 rfl) rfl rfl ?_
  refine T_sub (lv2 := [(0, vr o), (1, vi l1)]) [0, 1] rfl ?_
  refine KC_Vi [vi l2] [] rfl (dk dtk_X5_accessFails 70 rfl) kcv_X5_166 rfl (kk_M0 ho) rfl (kl_M0 hq ho) (Nat.le_of_ble_eq_true rfl) (Nat.le_of_ble_eq_true rfl) (gok_i (av_c (gkr (kl_M0 hq ho)) (av_c rfl av_n)) as_n) rfl h (fun r2 x1 h => ?_)
  refine T_if_eq 146 (dk dtk_X5_accessFails 71 rfl) (by decide) (fun c3 => ?_) (fun c3 => ?_)
  · have h := h.1 c3
    refine T_iconst (v := 0) (dk dtk_X5_accessFails 80 rfl) (by decide +kernel) ?_
    exact KT_iret (dk dtk_X5_accessFails 81 rfl) rfl rfl h
  · have h := h.2 c3
    refine T_aload_n 0 (dk dtk_X5_accessFails 72 rfl) rfl rfl ?_
    refine T_iload_n 1 (dk dtk_X5_accessFails 73 rfl) rfl rfl ?_
    refine T_bipush (v := 7) (dk dtk_X5_accessFails 74 rfl) (by decide +kernel) ?_
    refine T_sub (lv2 := []) [] rfl ?_
    refine KC_Vi [vi l1, vi 7] [] rfl (dk dtk_X5_accessFails 75 rfl) kcv_X5_90 rfl (kk_M0 ho) rfl (kl_M0 hq ho) (Nat.le_of_ble_eq_true rfl) (Nat.le_of_ble_eq_true rfl) (gok_i av_n as_n) rfl h (fun r5 x4 h => ?_)
    refine T_bipush (v := 8) (dk dtk_X5_accessFails 76 rfl) (by decide +kernel) ?_
    refine T_icmp_lt 146 (dk dtk_X5_accessFails 77 rfl) (by decide) (fun c6 => ?_) (fun c6 => ?_)
    · have h := h.1 c6
      refine T_iconst (v := 0) (dk dtk_X5_accessFails 80 rfl) (by decide +kernel) ?_
      exact KT_iret (dk dtk_X5_accessFails 81 rfl) rfl rfl h
    · have h := h.2 c6
      refine T_iconst (v := 1) (dk dtk_X5_accessFails 78 rfl) (by decide +kernel) ?_
      refine T_goto 147 (dk dtk_X5_accessFails 79 rfl) (by decide) ?_
      exact KT_iret (dk dtk_X5_accessFails 81 rfl) rfl rfl h
end
