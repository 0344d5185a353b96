set_option maxRecDepth 100000 in
theorem dtk_X7_source : dck cX7_source [(0, .aload_n 0, 1), (1, .getfield 184, 3), (4, .iconst 1, 1), (5, .iadd, 1), (6, .istore 4, 2), (8, .aload_n 0, 1), (9, .invokevirtual 279, 3), (12, .istore 5, 2), (14, .iload_n 3, 1), (15, .istore 6, 2), (17, .iconst (-1), 1), (18, .istore 7, 2), (20, .iconst (-1), 1), (21, .istore 8, 2), (23, .iload 5, 2), (25, .iconst 2, 1), (26, .if_icmp .eq 15, 3), (29, .iload 5, 2), (31, .iconst 3, 1), (32, .if_icmp .eq 9, 3), (35, .iload 5, 2), (37, .iconst 4, 1), (38, .if_icmp .ne 30, 3), (41, .aload_n 0, 1), (42, .getfield 15, 3), (45, .getfield 109, 3), (48, .aload_n 0, 1), (49, .getfield 52, 3), (52, .iload_n 2, 1), (53, .iconst (-1), 1), (54, .if_icmp .ne 8, 3), (57, .bipush 10, 2), (59, .goto 4, 3), (62, .iconst 0, 1), (63, .iastore, 1), (64, .aload_n 0, 1), (65, .invokevirtual 112, 3), (68, .iload 5, 2), (70, .bipush 16, 2), (72, .if_icmp .eq 102, 3), (75, .aload_n 0, 1), (76, .invokevirtual 144, 3), (79, .bipush 25, 2), (81, .if_icmp .ne 7, 3), (84, .iconst 1, 1), (85, .goto 4, 3), (88, .iconst 0, 1), (89, .istore 9, 2), (91, .iload 5, 2), (93, .ifCond .ne 20, 3), (96, .iload 9, 2), (98, .ifCond .ne 15, 3), (101, .iload 4, 2), (103, .bipush 16, 2), (105, .if_icmp .le 8, 3), (108, .aload_n 0, 1), (109, .iconst 3, 1), (110, .invokevirtual 96, 3), (113, .aload_n 0, 1), (114, .iconst 2, 1), (115, .iload 9, 2), (117, .iload 5, 2), (119, .ifCond .ne 12, 3), (122, .iload_n 2, 1), (123, .iconst (-1), 1), (124, .if_icmp .ne 7, 3), (127, .iconst 1, 1), (128, .goto 4, 3), (131, .iconst 0, 1), (132, .invokestatic 282, 3), (135, .invokevirtual 130, 3), (138, .istore 6, 2), (140, .iload 9, 2), (142, .ifCond .eq 21, 3), (145, .aload_n 0, 1), (146, .invokevirtual 112, 3), (149, .aload_n 0, 1), (150, .iload 4, 2), (152, .invokevirtual 201, 3), (155, .istore 7, 2), (157, .aload_n 0, 1), (158, .bipush 26, 2), (160, .invokevirtual 115, 3), (163, .iload 5, 2), (165, .ifCond .eq 9, 3), (168, .aload_n 0, 1), (169, .bipush 28, 2), (171, .invokevirtual 115, 3), (174, .iload 5, 2), (176, .ifCond .ne 7, 3), (179, .iconst (-1), 1), (180, .goto 9, 3), (183, .aload_n 0, 1), (184, .iload 4, 2), (186, .invokevirtual 201, 3), (189, .istore 9, 2), (191, .iload 5, 2), (193, .iconst 4, 1), (194, .if_icmp .ne 17, 3), (197, .aload_n 0, 1), (198, .bipush 28, 2), (200, .invokevirtual 115, 3), (203, .aload_n 0, 1), (204, .iload 4, 2), (206, .invokevirtual 201, 3), (209, .istore 8, 2), (211, .aload_n 0, 1), (212, .getfield 29, 3), (215, .iload 5, 2), (217, .bipush 16, 2), (219, .if_icmp .ne 12, 3), (222, .iload_n 2, 1), (223, .iconst (-1), 1), (224, .if_icmp .ne 7, 3), (227, .iconst 1, 1), (228, .goto 5, 3), (231, .iload 5, 2), (233, .iload_n 1, 1), (234, .aload_n 0, 1), (235, .getfield 181, 3), (238, .invokevirtual 191, 3), (241, .istore 10, 2), (243, .aload_n 0, 1), (244, .getfield 29, 3), (247, .getfield 214, 3), (250, .iload 10, 2), (252, .iload_n 2, 1), (253, .iastore, 1), (254, .aload_n 0, 1), (255, .getfield 29, 3), (258, .getfield 220, 3), (261, .iload 10, 2), (263, .iload 6, 2), (265, .iastore, 1), (266, .aload_n 0, 1), (267, .getfield 29, 3), (270, .getfield 276, 3), (273, .iload 10, 2), (275, .iload 7, 2), (277, .iastore, 1), (278, .aload_n 0, 1), (279, .getfield 29, 3), (282, .getfield 233, 3), (285, .iload 10, 2), (287, .iload 9, 2), (289, .iastore, 1), (290, .aload_n 0, 1), (291, .getfield 29, 3), (294, .getfield 286, 3), (297, .iload 10, 2), (299, .iload 8, 2), (301, .iastore, 1), (302, .return_, 1)] = true := by decide +kernel
set_option maxRecDepth 100000 in
set_option maxHeartbeats 4000000 in
theorem kg_X7_source_0 {G : kG} {q : kP} {d : Nat} {x : gd} {P : Option gv → gd → Prop} {X : String → gd → Prop} (hq : kV q) (l1 : Int32) (l2 : Int32) (l3 : Int32)
    (h : KT G q (d + 6) zk_X7_sourceOp 0 [(0, vr 100)] [] x (ri (fun r2 x1 => ((r2 = (2 : Int32) → KE G q (d + 7) zk_X7_source 41 [(0, vr 100), (1, vi l1), (2, vi l2), (4, vi ((x.1 100 13) + 1)), (5, vi r2), (6, vi l3), (7, vi (-1)), (8, vi (-1))] [] x1 P X) ∧ (¬ (r2 = (2 : Int32)) → ((r2 = (3 : Int32) → KE G q (d + 7) zk_X7_source 41 [(0, vr 100), (1, vi l1), (2, vi l2), (4, vi ((x.1 100 13) + 1)), (5, vi r2), (6, vi l3), (7, vi (-1)), (8, vi (-1))] [] x1 P X) ∧ (¬ (r2 = (3 : Int32)) → ((¬ (r2 = (4 : Int32)) → KE G q (d + 7) zk_X7_source 68 [(0, vr 100), (1, vi l1), (2, vi l2), (4, vi ((x.1 100 13) + 1)), (5, vi r2), (6, vi l3), (7, vi (-1)), (8, vi (-1))] [] x1 P X) ∧ (r2 = (4 : Int32) → KE G q (d + 7) zk_X7_source 41 [(0, vr 100), (1, vi l1), (2, vi l2), (4, vi ((x.1 100 13) + 1)), (5, vi r2), (6, vi l3), (7, vi (-1)), (8, vi (-1))] [] x1 P X))))))))) :
    KE G q (d + 7) zk_X7_source 0 [(0, vr 100), (1, vi l1), (2, vi l2), (3, vi l3)] [] x P X := by
  refine T_aload_n 0 (dk dtk_X7_source 0 rfl) rfl rfl ?_
  refine T_getI 100 13 (dk dtk_X7_source 1 rfl) kfl_X7_184 kk_100 (kl_100 hq) (by decide) rfl ?_
  refine T_iconst (v := 1) (dk dtk_X7_source 2 rfl) (by decide +kernel) ?_
  refine T_iadd (dk dtk_X7_source 3 rfl) ?_
  refine T_istore (lv2 := [(4, vi ((x.1 100 13) + 1)), (0, vr 100), (1, vi l1), (2, vi l2), (3, vi l3)]) (dk dtk_X7_source 4 rfl) (by decide) rfl ?_
  refine T_aload_n 1 (dk dtk_X7_source 5 rfl) rfl rfl ?_
  refine KC_Vi [] [] rfl (dk dtk_X7_source 6 rfl) kcv_X7_279 rfl kk_100 rfl (kl_100 hq) (Nat.le_of_ble_eq_true rfl) (Nat.le_of_ble_eq_true rfl) (gok_i (av_c rfl (av_c (gkr (kl_100 hq)) (av_c rfl (av_c rfl (av_c rfl av_n))))) as_n) rfl h (fun r2 x1 h => ?_)
  refine T_istore (lv2 := [(5, vi r2), (4, vi ((x.1 100 13) + 1)), (0, vr 100), (1, vi l1), (2, vi l2), (3, vi l3)]) (dk dtk_X7_source 7 rfl) (by decide) rfl ?_
  refine T_iload_n 5 (dk dtk_X7_source 8 rfl) rfl rfl ?_
  refine T_istore (lv2 := [(6, vi l3), (5, vi r2), (4, vi ((x.1 100 13) + 1)), (0, vr 100), (1, vi l1), (2, vi l2), (3, vi l3)]) (dk dtk_X7_source 9 rfl) (by decide) rfl ?_
  refine T_iconst (v := (-1)) (dk dtk_X7_source 10 rfl) (by decide +kernel) ?_
  refine T_istore (lv2 := [(7, vi (-1)), (6, vi l3), (5, vi r2), (4, vi ((x.1 100 13) + 1)), (0, vr 100), (1, vi l1), (2, vi l2), (3, vi l3)]) (dk dtk_X7_source 11 rfl) (by decide) rfl ?_
  refine T_iconst (v := (-1)) (dk dtk_X7_source 12 rfl) (by decide +kernel) ?_
  refine T_istore (lv2 := [(8, vi (-1)), (7, vi (-1)), (6, vi l3), (5, vi r2), (4, vi ((x.1 100 13) + 1)), (0, vr 100), (1, vi l1), (2, vi l2), (3, vi l3)]) (dk dtk_X7_source 13 rfl) (by decide) rfl ?_
  refine T_iload 3 (dk dtk_X7_source 14 rfl) rfl ?_
  refine T_iconst (v := 2) (dk dtk_X7_source 15 rfl) (by decide +kernel) ?_
  refine T_icmp_eq 41 (dk dtk_X7_source 16 rfl) (by decide) (fun c3 => ?_) (fun c3 => ?_)
  · have h := h.1 c3
    exact T_sub [5, 6, 7, 4, 3, 2, 1, 0] rfl h
  · have h := h.2 c3
    refine T_iload 3 (dk dtk_X7_source 17 rfl) rfl ?_
    refine T_iconst (v := 3) (dk dtk_X7_source 18 rfl) (by decide +kernel) ?_
    refine T_icmp_eq 41 (dk dtk_X7_source 19 rfl) (by decide) (fun c4 => ?_) (fun c4 => ?_)
    · have h := h.1 c4
      exact T_sub [5, 6, 7, 4, 3, 2, 1, 0] rfl h
    · have h := h.2 c4
      refine T_iload 3 (dk dtk_X7_source 20 rfl) rfl ?_
      refine T_iconst (v := 4) (dk dtk_X7_source 21 rfl) (by decide +kernel) ?_
      refine T_icmp_ne 68 (dk dtk_X7_source 22 rfl) (by decide) (fun c5 => ?_) (fun c5 => ?_)
      · have h := h.1 c5
        exact T_sub [5, 6, 7, 4, 3, 2, 1, 0] rfl h
      · have h := h.2 c5
        exact T_sub [5, 6, 7, 4, 3, 2, 1, 0] rfl h
set_option maxRecDepth 100000 in
set_option maxHeartbeats 4000000 in
theorem kg_X7_source_41 {G : kG} {q : kP} {d : Nat} {x : gd} {P : Option gv → gd → Prop} {X : String → gd → Prop} (hq : kV q) (l1 : Int32) (l2 : Int32) (l4 : Int32) (l5 : Int32) (l6 : Int32) (l7 : Int32) (l8 : Int32)
    (h : ((¬ (l2 = (-1 : Int32)) → KE G q (d + 7) zk_X7_source 63 [(0, vr 100), (1, vi l1), (2, vi l2), (4, vi l4), (5, vi l5), (6, vi l6), (7, vi l7), (8, vi l8)] [vi 0, vi (x.1 100 4), vr 42] x P X) ∧ (l2 = (-1 : Int32) → KE G q (d + 7) zk_X7_source 63 [(0, vr 100), (1, vi l1), (2, vi l2), (4, vi l4), (5, vi l5), (6, vi l6), (7, vi l7), (8, vi l8)] [vi 10, vi (x.1 100 4), vr 42] x P X))) :
    KE G q (d + 7) zk_X7_source 41 [(0, vr 100), (1, vi l1), (2, vi l2), (4, vi l4), (5, vi l5), (6, vi l6), (7, vi l7), (8, vi l8)] [] x P X := by
  refine T_aload_n 0 (dk dtk_X7_source 23 rfl) rfl rfl ?_
  refine T_getR 100 1 40 (dk dtk_X7_source 24 rfl) kfl_X7_15 kk_100 (kl_100 hq) (by decide) rfl kr_100_1 ?_
  refine T_getR 40 1 42 (dk dtk_X7_source 25 rfl) kfl_X7_109 kk_40 (kl_40 hq) (by decide) rfl kr_40_1 ?_
  refine T_aload_n 0 (dk dtk_X7_source 26 rfl) rfl rfl ?_
  refine T_getI 100 4 (dk dtk_X7_source 27 rfl) kfl_X7_52 kk_100 (kl_100 hq) (by decide) rfl ?_
  refine T_iload_n 2 (dk dtk_X7_source 28 rfl) rfl rfl ?_
  refine T_iconst (v := (-1)) (dk dtk_X7_source 29 rfl) (by decide +kernel) ?_
  refine T_icmp_ne 62 (dk dtk_X7_source 30 rfl) (by decide) (fun c1 => ?_) (fun c1 => ?_)
  · have h := h.1 c1
    refine T_iconst (v := 0) (dk dtk_X7_source 33 rfl) (by decide +kernel) ?_
    exact h
  · have h := h.2 c1
    refine T_bipush (v := 10) (dk dtk_X7_source 31 rfl) (by decide +kernel) ?_
    refine T_goto 63 (dk dtk_X7_source 32 rfl) (by decide) ?_
    exact h
set_option maxRecDepth 100000 in
set_option maxHeartbeats 4000000 in
theorem kg_X7_source_63 {G : kG} {q : kP} {d : Nat} {x : gd} {P : Option gv → gd → Prop} {X : String → gd → Prop} (hq : kV q) (l1 : Int32) (l2 : Int32) (l4 : Int32) (l5 : Int32) (l6 : Int32) (l7 : Int32) (l8 : Int32) (s0 : Int32) (s1 : Int32)
    (h : vp_in s1 702 ∧ (∀ x2 : gd, x2 = si x 42 (s1 : Int32).toNatClampNeg s0 → KE G q (d + 6) zk_X7_pass 0 [(0, vr 100)] [] x2 (rv (fun x3 => KE G q (d + 7) zk_X7_source 68 [(0, vr 100), (1, vi l1), (2, vi l2), (4, vi l4), (5, vi l5), (6, vi l6), (7, vi l7), (8, vi l8)] [] x3 P X)) X)) :
    KE G q (d + 7) zk_X7_source 63 [(0, vr 100), (1, vi l1), (2, vi l2), (4, vi l4), (5, vi l5), (6, vi l6), (7, vi l7), (8, vi l8)] [vi s0, vi s1, vr 42] x P X := by
  obtain ⟨h1, h⟩ := h
  obtain ⟨x2, ex2⟩ : ∃ z, z = si x 42 (s1 : Int32).toNatClampNeg s0 := ⟨_, rfl⟩
  have h := h x2 ex2
  refine T_iast 42 702 (dk dtk_X7_source 34 rfl) kk_42 (kl_42 hq) h1 ?_
  rw [← ex2]
  refine T_aload_n 0 (dk dtk_X7_source 35 rfl) rfl rfl ?_
  refine KD_Vv [] [] rfl (dk dtk_X7_source 36 rfl) kcv_X7_112 rfl kk_100 rfl (kl_100 hq) (Nat.le_of_ble_eq_true rfl) (Nat.le_of_ble_eq_true rfl) (gok_i (av_c (gkr (kl_100 hq)) (av_c rfl (av_c rfl (av_c rfl (av_c rfl (av_c rfl (av_c rfl (av_c rfl av_n)))))))) as_n) rfl h (fun x3 h => ?_)
  exact h
set_option maxRecDepth 100000 in
set_option maxHeartbeats 4000000 in
theorem kg_X7_source_68 {G : kG} {q : kP} {d : Nat} {x : gd} {P : Option gv → gd → Prop} {X : String → gd → Prop} (hq : kV q) (l1 : Int32) (l2 : Int32) (l4 : Int32) (l5 : Int32) (l6 : Int32) (l7 : Int32) (l8 : Int32)
    (h : ((l5 = (16 : Int32) → KE G q (d + 7) zk_X7_source 174 [(0, vr 100), (1, vi l1), (2, vi l2), (4, vi l4), (5, vi l5), (6, vi l6), (7, vi l7), (8, vi l8)] [] x P X) ∧ (¬ (l5 = (16 : Int32)) → KT G q (d + 6) zk_X7_sortBehind 0 [(0, vr 100)] [] x (ri (fun r3 x2 => ((¬ (r3 = (25 : Int32)) → KE G q (d + 7) zk_X7_source 89 [(0, vr 100), (1, vi l1), (2, vi l2), (4, vi l4), (5, vi l5), (7, vi l7), (8, vi l8)] [vi 0] x2 P X) ∧ (r3 = (25 : Int32) → KE G q (d + 7) zk_X7_source 89 [(0, vr 100), (1, vi l1), (2, vi l2), (4, vi l4), (5, vi l5), (7, vi l7), (8, vi l8)] [vi 1] x2 P X))))))) :
    KE G q (d + 7) zk_X7_source 68 [(0, vr 100), (1, vi l1), (2, vi l2), (4, vi l4), (5, vi l5), (6, vi l6), (7, vi l7), (8, vi l8)] [] x P X := by
  refine T_iload 4 (dk dtk_X7_source 37 rfl) rfl ?_
  refine T_bipush (v := 16) (dk dtk_X7_source 38 rfl) (by decide +kernel) ?_
  refine T_icmp_eq 174 (dk dtk_X7_source 39 rfl) (by decide) (fun c1 => ?_) (fun c1 => ?_)
  · have h := h.1 c1
    exact h
  · have h := h.2 c1
    refine T_aload_n 0 (dk dtk_X7_source 40 rfl) rfl rfl ?_
    refine T_sub (lv2 := [(0, vr 100), (1, vi l1), (2, vi l2), (4, vi l4), (5, vi l5), (7, vi l7), (8, vi l8)]) [0, 1, 2, 3, 4, 6, 7] rfl ?_
    refine KC_Vi [] [] rfl (dk dtk_X7_source 41 rfl) kcv_X7_144 rfl kk_100 rfl (kl_100 hq) (Nat.le_of_ble_eq_true rfl) (Nat.le_of_ble_eq_true rfl) (gok_i (av_c (gkr (kl_100 hq)) (av_c rfl (av_c rfl (av_c rfl (av_c rfl (av_c rfl (av_c rfl av_n))))))) as_n) rfl h (fun r3 x2 h => ?_)
    refine T_bipush (v := 25) (dk dtk_X7_source 42 rfl) (by decide +kernel) ?_
    refine T_icmp_ne 88 (dk dtk_X7_source 43 rfl) (by decide) (fun c4 => ?_) (fun c4 => ?_)
    · have h := h.1 c4
      refine T_iconst (v := 0) (dk dtk_X7_source 46 rfl) (by decide +kernel) ?_
      exact h
    · have h := h.2 c4
      refine T_iconst (v := 1) (dk dtk_X7_source 44 rfl) (by decide +kernel) ?_
      refine T_goto 89 (dk dtk_X7_source 45 rfl) (by decide) ?_
      exact h
set_option maxRecDepth 100000 in
set_option maxHeartbeats 4000000 in
theorem kg_X7_source_89 {G : kG} {q : kP} {d : Nat} {x : gd} {P : Option gv → gd → Prop} {X : String → gd → Prop} (hq : kV q) (l1 : Int32) (l2 : Int32) (l4 : Int32) (l5 : Int32) (l7 : Int32) (l8 : Int32) (s0 : Int32)
    (h : ((¬ (l5 = (0 : Int32)) → KE G q (d + 7) zk_X7_source 113 [(0, vr 100), (1, vi l1), (2, vi l2), (4, vi l4), (5, vi l5), (7, vi l7), (8, vi l8), (9, vi s0)] [] x P X) ∧ (l5 = (0 : Int32) → ((¬ (s0 = (0 : Int32)) → KE G q (d + 7) zk_X7_source 113 [(0, vr 100), (1, vi l1), (2, vi l2), (4, vi l4), (5, vi l5), (7, vi l7), (8, vi l8), (9, vi s0)] [] x P X) ∧ (s0 = (0 : Int32) → ((l4 ≤ (16 : Int32) → KE G q (d + 7) zk_X7_source 113 [(0, vr 100), (1, vi l1), (2, vi l2), (4, vi l4), (5, vi l5), (7, vi l7), (8, vi l8), (9, vi s0)] [] x P X) ∧ (¬ (l4 ≤ (16 : Int32)) → KE G q (d + 6) zk_X7_refuse 0 [(0, vr 100), (1, vi 3)] [] x (rv (fun x4 => KE G q (d + 7) zk_X7_source 113 [(0, vr 100), (1, vi l1), (2, vi l2), (4, vi l4), (5, vi l5), (7, vi l7), (8, vi l8), (9, vi s0)] [] x4 P X)) X))))))) :
    KE G q (d + 7) zk_X7_source 89 [(0, vr 100), (1, vi l1), (2, vi l2), (4, vi l4), (5, vi l5), (7, vi l7), (8, vi l8)] [vi s0] x P X := by
  refine T_istore (lv2 := [(9, vi s0), (0, vr 100), (1, vi l1), (2, vi l2), (4, vi l4), (5, vi l5), (7, vi l7), (8, vi l8)]) (dk dtk_X7_source 47 rfl) (by decide) rfl ?_
  refine T_iload 5 (dk dtk_X7_source 48 rfl) rfl ?_
  refine T_if_ne 113 (dk dtk_X7_source 49 rfl) (by decide) (fun c1 => ?_) (fun c1 => ?_)
  · have h := h.1 c1
    exact T_sub [1, 2, 3, 4, 5, 6, 7, 0] rfl h
  · have h := h.2 c1
    refine T_iload 0 (dk dtk_X7_source 50 rfl) rfl ?_
    refine T_if_ne 113 (dk dtk_X7_source 51 rfl) (by decide) (fun c2 => ?_) (fun c2 => ?_)
    · have h := h.1 c2
      exact T_sub [1, 2, 3, 4, 5, 6, 7, 0] rfl h
    · have h := h.2 c2
      refine T_iload 4 (dk dtk_X7_source 52 rfl) rfl ?_
      refine T_bipush (v := 16) (dk dtk_X7_source 53 rfl) (by decide +kernel) ?_
      refine T_icmp_le 113 (dk dtk_X7_source 54 rfl) (by decide) (fun c3 => ?_) (fun c3 => ?_)
      · have h := h.1 c3
        exact T_sub [1, 2, 3, 4, 5, 6, 7, 0] rfl h
      · have h := h.2 c3
        refine T_aload_n 1 (dk dtk_X7_source 55 rfl) rfl rfl ?_
        refine T_iconst (v := 3) (dk dtk_X7_source 56 rfl) (by decide +kernel) ?_
        refine KD_Vv [vi 3] [] rfl (dk dtk_X7_source 57 rfl) kcv_X7_96 rfl kk_100 rfl (kl_100 hq) (Nat.le_of_ble_eq_true rfl) (Nat.le_of_ble_eq_true rfl) (gok_i (av_c rfl (av_c (gkr (kl_100 hq)) (av_c rfl (av_c rfl (av_c rfl (av_c rfl (av_c rfl (av_c rfl av_n)))))))) as_n) rfl h (fun x4 h => ?_)
        exact T_sub [1, 2, 3, 4, 5, 6, 7, 0] rfl h
set_option maxRecDepth 100000 in
set_option maxHeartbeats 4000000 in
theorem kg_X7_source_113 {G : kG} {q : kP} {d : Nat} {x : gd} {P : Option gv → gd → Prop} {X : String → gd → Prop} (hq : kV q) (l1 : Int32) (l2 : Int32) (l4 : Int32) (l5 : Int32) (l7 : Int32) (l8 : Int32) (l9 : Int32)
    (h : ((¬ (l5 = (0 : Int32)) → KE G q (d + 7) zk_X7_source 132 [(0, vr 100), (1, vi l1), (2, vi l2), (4, vi l4), (5, vi l5), (7, vi l7), (8, vi l8), (9, vi l9)] [vi 0, vi l9, vi 2, vr 100] x P X) ∧ (l5 = (0 : Int32) → ((¬ (l2 = (-1 : Int32)) → KE G q (d + 7) zk_X7_source 132 [(0, vr 100), (1, vi l1), (2, vi l2), (4, vi l4), (5, vi l5), (7, vi l7), (8, vi l8), (9, vi l9)] [vi 0, vi l9, vi 2, vr 100] x P X) ∧ (l2 = (-1 : Int32) → KE G q (d + 7) zk_X7_source 132 [(0, vr 100), (1, vi l1), (2, vi l2), (4, vi l4), (5, vi l5), (7, vi l7), (8, vi l8), (9, vi l9)] [vi 1, vi l9, vi 2, vr 100] x P X))))) :
    KE G q (d + 7) zk_X7_source 113 [(0, vr 100), (1, vi l1), (2, vi l2), (4, vi l4), (5, vi l5), (7, vi l7), (8, vi l8), (9, vi l9)] [] x P X := by
  refine T_aload_n 0 (dk dtk_X7_source 58 rfl) rfl rfl ?_
  refine T_iconst (v := 2) (dk dtk_X7_source 59 rfl) (by decide +kernel) ?_
  refine T_iload 7 (dk dtk_X7_source 60 rfl) rfl ?_
  refine T_iload 4 (dk dtk_X7_source 61 rfl) rfl ?_
  refine T_if_ne 131 (dk dtk_X7_source 62 rfl) (by decide) (fun c1 => ?_) (fun c1 => ?_)
  · have h := h.1 c1
    refine T_iconst (v := 0) (dk dtk_X7_source 68 rfl) (by decide +kernel) ?_
    exact h
  · have h := h.2 c1
    refine T_iload_n 2 (dk dtk_X7_source 63 rfl) rfl rfl ?_
    refine T_iconst (v := (-1)) (dk dtk_X7_source 64 rfl) (by decide +kernel) ?_
    refine T_icmp_ne 131 (dk dtk_X7_source 65 rfl) (by decide) (fun c2 => ?_) (fun c2 => ?_)
    · have h := h.1 c2
      refine T_iconst (v := 0) (dk dtk_X7_source 68 rfl) (by decide +kernel) ?_
      exact h
    · have h := h.2 c2
      refine T_iconst (v := 1) (dk dtk_X7_source 66 rfl) (by decide +kernel) ?_
      refine T_goto 132 (dk dtk_X7_source 67 rfl) (by decide) ?_
      exact h
set_option maxRecDepth 100000 in
set_option maxHeartbeats 4000000 in
theorem kg_X7_source_132 {G : kG} {q : kP} {d : Nat} {x : gd} {P : Option gv → gd → Prop} {X : String → gd → Prop} (hq : kV q) (l1 : Int32) (l2 : Int32) (l4 : Int32) (l5 : Int32) (l7 : Int32) (l8 : Int32) (l9 : Int32) (s0 : Int32) (s1 : Int32) (s2 : Int32)
    (h : KT G q (d + 6) zk_X7_useOfCell 0 [(0, vi s1), (1, vi s0)] [] x (ri (fun r2 x1 => KE G q (d + 6) zk_X7_needFor 0 [(0, vr 100), (1, vi s2), (2, vi r2)] [] x1 (ri (fun r4 x3 => ((l9 = (0 : Int32) → KE G q (d + 7) zk_X7_source 163 [(0, vr 100), (1, vi l1), (2, vi l2), (4, vi l4), (5, vi l5), (6, vi r4), (7, vi l7), (8, vi l8)] [] x3 P X) ∧ (¬ (l9 = (0 : Int32)) → KE G q (d + 6) zk_X7_pass 0 [(0, vr 100)] [] x3 (rv (fun x6 => KE G q (d + 6) zk_X7_sum 0 [(0, vr 100), (1, vi l4)] [] x6 (ri (fun r8 x7 => KE G q (d + 6) zk_X7_need 0 [(0, vr 100), (1, vi 26)] [] x7 (rv (fun x9 => KE G q (d + 7) zk_X7_source 163 [(0, vr 100), (1, vi l1), (2, vi l2), (4, vi l4), (5, vi l5), (6, vi r4), (7, vi r8), (8, vi l8)] [] x9 P X)) X)) X)) X)))) X))) :
    KE G q (d + 7) zk_X7_source 132 [(0, vr 100), (1, vi l1), (2, vi l2), (4, vi l4), (5, vi l5), (7, vi l7), (8, vi l8), (9, vi l9)] [vi s0, vi s1, vi s2, vr 100] x P X := by
  refine KC_Si [vi s1, vi s0] [vi s2, vr 100] rfl (dk dtk_X7_source 69 rfl) kcs_X7_282 rfl (Nat.le_of_ble_eq_true rfl) (Nat.le_of_ble_eq_true rfl) (gok_i (av_c (gkr (kl_100 hq)) (av_c rfl (av_c rfl (av_c rfl (av_c rfl (av_c rfl (av_c rfl (av_c rfl av_n)))))))) (as_c rfl (as_c (gkr (kl_100 hq)) as_n))) rfl h (fun r2 x1 h => ?_)
  refine KD_Vi [vi s2, vi r2] [] rfl (dk dtk_X7_source 70 rfl) kcv_X7_130 rfl kk_100 rfl (kl_100 hq) (Nat.le_of_ble_eq_true rfl) (Nat.le_of_ble_eq_true rfl) (gok_i (av_c (gkr (kl_100 hq)) (av_c rfl (av_c rfl (av_c rfl (av_c rfl (av_c rfl (av_c rfl (av_c rfl av_n)))))))) as_n) rfl h (fun r4 x3 h => ?_)
  refine T_istore (lv2 := [(6, vi r4), (0, vr 100), (1, vi l1), (2, vi l2), (4, vi l4), (5, vi l5), (7, vi l7), (8, vi l8), (9, vi l9)]) (dk dtk_X7_source 71 rfl) (by decide) rfl ?_
  refine T_iload 8 (dk dtk_X7_source 72 rfl) rfl ?_
  refine T_if_eq 163 (dk dtk_X7_source 73 rfl) (by decide) (fun c5 => ?_) (fun c5 => ?_)
  · have h := h.1 c5
    exact T_sub [1, 2, 3, 4, 5, 0, 6, 7] rfl h
  · have h := h.2 c5
    refine T_aload_n 1 (dk dtk_X7_source 74 rfl) rfl rfl ?_
    refine T_sub (lv2 := [(6, vi r4), (0, vr 100), (1, vi l1), (2, vi l2), (4, vi l4), (5, vi l5), (8, vi l8)]) [0, 1, 2, 3, 4, 5, 7] rfl ?_
    refine KD_Vv [] [] rfl (dk dtk_X7_source 75 rfl) kcv_X7_112 rfl kk_100 rfl (kl_100 hq) (Nat.le_of_ble_eq_true rfl) (Nat.le_of_ble_eq_true rfl) (gok_i (av_c rfl (av_c (gkr (kl_100 hq)) (av_c rfl (av_c rfl (av_c rfl (av_c rfl (av_c rfl av_n))))))) as_n) rfl h (fun x6 h => ?_)
    refine T_aload_n 1 (dk dtk_X7_source 76 rfl) rfl rfl ?_
    refine T_iload 4 (dk dtk_X7_source 77 rfl) rfl ?_
    refine KD_Vi [vi l4] [] rfl (dk dtk_X7_source 78 rfl) kcv_X7_201 rfl kk_100 rfl (kl_100 hq) (Nat.le_of_ble_eq_true rfl) (Nat.le_of_ble_eq_true rfl) (gok_i (av_c rfl (av_c (gkr (kl_100 hq)) (av_c rfl (av_c rfl (av_c rfl (av_c rfl (av_c rfl av_n))))))) as_n) rfl h (fun r8 x7 h => ?_)
    refine T_istore (lv2 := [(7, vi r8), (6, vi r4), (0, vr 100), (1, vi l1), (2, vi l2), (4, vi l4), (5, vi l5), (8, vi l8)]) (dk dtk_X7_source 79 rfl) (by decide) rfl ?_
    refine T_aload_n 2 (dk dtk_X7_source 80 rfl) rfl rfl ?_
    refine T_bipush (v := 26) (dk dtk_X7_source 81 rfl) (by decide +kernel) ?_
    refine KD_Vv [vi 26] [] rfl (dk dtk_X7_source 82 rfl) kcv_X7_115 rfl kk_100 rfl (kl_100 hq) (Nat.le_of_ble_eq_true rfl) (Nat.le_of_ble_eq_true rfl) (gok_i (av_c rfl (av_c rfl (av_c (gkr (kl_100 hq)) (av_c rfl (av_c rfl (av_c rfl (av_c rfl (av_c rfl av_n)))))))) as_n) rfl h (fun x9 h => ?_)
    exact T_sub [2, 3, 4, 5, 6, 1, 0, 7] rfl h
set_option maxRecDepth 100000 in
set_option maxHeartbeats 4000000 in
theorem kg_X7_source_163 {G : kG} {q : kP} {d : Nat} {x : gd} {P : Option gv → gd → Prop} {X : String → gd → Prop} (hq : kV q) (l1 : Int32) (l2 : Int32) (l4 : Int32) (l5 : Int32) (l6 : Int32) (l7 : Int32) (l8 : Int32)
    (h : ((l5 = (0 : Int32) → KE G q (d + 7) zk_X7_source 174 [(0, vr 100), (1, vi l1), (2, vi l2), (4, vi l4), (5, vi l5), (6, vi l6), (7, vi l7), (8, vi l8)] [] x P X) ∧ (¬ (l5 = (0 : Int32)) → KE G q (d + 6) zk_X7_need 0 [(0, vr 100), (1, vi 28)] [] x (rv (fun x2 => KE G q (d + 7) zk_X7_source 174 [(0, vr 100), (1, vi l1), (2, vi l2), (4, vi l4), (5, vi l5), (6, vi l6), (7, vi l7), (8, vi l8)] [] x2 P X)) X))) :
    KE G q (d + 7) zk_X7_source 163 [(0, vr 100), (1, vi l1), (2, vi l2), (4, vi l4), (5, vi l5), (6, vi l6), (7, vi l7), (8, vi l8)] [] x P X := by
  refine T_iload 4 (dk dtk_X7_source 83 rfl) rfl ?_
  refine T_if_eq 174 (dk dtk_X7_source 84 rfl) (by decide) (fun c1 => ?_) (fun c1 => ?_)
  · have h := h.1 c1
    exact h
  · have h := h.2 c1
    refine T_aload_n 0 (dk dtk_X7_source 85 rfl) rfl rfl ?_
    refine T_bipush (v := 28) (dk dtk_X7_source 86 rfl) (by decide +kernel) ?_
    refine KD_Vv [vi 28] [] rfl (dk dtk_X7_source 87 rfl) kcv_X7_115 rfl kk_100 rfl (kl_100 hq) (Nat.le_of_ble_eq_true rfl) (Nat.le_of_ble_eq_true rfl) (gok_i (av_c (gkr (kl_100 hq)) (av_c rfl (av_c rfl (av_c rfl (av_c rfl (av_c rfl (av_c rfl (av_c rfl av_n)))))))) as_n) rfl h (fun x2 h => ?_)
    exact h
set_option maxRecDepth 100000 in
set_option maxHeartbeats 4000000 in
theorem kg_X7_source_174 {G : kG} {q : kP} {d : Nat} {x : gd} {P : Option gv → gd → Prop} {X : String → gd → Prop} (hq : kV q) (l1 : Int32) (l2 : Int32) (l4 : Int32) (l5 : Int32) (l6 : Int32) (l7 : Int32) (l8 : Int32)
    (h : ((¬ (l5 = (0 : Int32)) → KE G q (d + 6) zk_X7_sum 0 [(0, vr 100), (1, vi l4)] [] x (ri (fun r3 x2 => KE G q (d + 7) zk_X7_source 189 [(0, vr 100), (1, vi l1), (2, vi l2), (4, vi l4), (5, vi l5), (6, vi l6), (7, vi l7), (8, vi l8)] [vi r3] x2 P X)) X) ∧ (l5 = (0 : Int32) → KE G q (d + 7) zk_X7_source 189 [(0, vr 100), (1, vi l1), (2, vi l2), (4, vi l4), (5, vi l5), (6, vi l6), (7, vi l7), (8, vi l8)] [vi (-1)] x P X))) :
    KE G q (d + 7) zk_X7_source 174 [(0, vr 100), (1, vi l1), (2, vi l2), (4, vi l4), (5, vi l5), (6, vi l6), (7, vi l7), (8, vi l8)] [] x P X := by
  refine T_iload 4 (dk dtk_X7_source 88 rfl) rfl ?_
  refine T_if_ne 183 (dk dtk_X7_source 89 rfl) (by decide) (fun c1 => ?_) (fun c1 => ?_)
  · have h := h.1 c1
    refine T_aload_n 0 (dk dtk_X7_source 92 rfl) rfl rfl ?_
    refine T_iload 3 (dk dtk_X7_source 93 rfl) rfl ?_
    refine KD_Vi [vi l4] [] rfl (dk dtk_X7_source 94 rfl) kcv_X7_201 rfl kk_100 rfl (kl_100 hq) (Nat.le_of_ble_eq_true rfl) (Nat.le_of_ble_eq_true rfl) (gok_i (av_c (gkr (kl_100 hq)) (av_c rfl (av_c rfl (av_c rfl (av_c rfl (av_c rfl (av_c rfl (av_c rfl av_n)))))))) as_n) rfl h (fun r3 x2 h => ?_)
    exact h
  · have h := h.2 c1
    refine T_iconst (v := (-1)) (dk dtk_X7_source 90 rfl) (by decide +kernel) ?_
    refine T_goto 189 (dk dtk_X7_source 91 rfl) (by decide) ?_
    exact h
set_option maxRecDepth 100000 in
set_option maxHeartbeats 4000000 in
theorem kg_X7_source_189 {G : kG} {q : kP} {d : Nat} {x : gd} {P : Option gv → gd → Prop} {X : String → gd → Prop} (hq : kV q) (l1 : Int32) (l2 : Int32) (l4 : Int32) (l5 : Int32) (l6 : Int32) (l7 : Int32) (l8 : Int32) (s0 : Int32)
    (h : ((¬ (l5 = (4 : Int32)) → KE G q (d + 7) zk_X7_source 211 [(0, vr 100), (1, vi l1), (2, vi l2), (5, vi l5), (6, vi l6), (7, vi l7), (8, vi l8), (9, vi s0)] [] x P X) ∧ (l5 = (4 : Int32) → KE G q (d + 6) zk_X7_need 0 [(0, vr 100), (1, vi 28)] [] x (rv (fun x2 => KE G q (d + 6) zk_X7_sum 0 [(0, vr 100), (1, vi l4)] [] x2 (ri (fun r4 x3 => KE G q (d + 7) zk_X7_source 211 [(0, vr 100), (1, vi l1), (2, vi l2), (5, vi l5), (6, vi l6), (7, vi l7), (8, vi r4), (9, vi s0)] [] x3 P X)) X)) X))) :
    KE G q (d + 7) zk_X7_source 189 [(0, vr 100), (1, vi l1), (2, vi l2), (4, vi l4), (5, vi l5), (6, vi l6), (7, vi l7), (8, vi l8)] [vi s0] x P X := by
  refine T_istore (lv2 := [(9, vi s0), (0, vr 100), (1, vi l1), (2, vi l2), (4, vi l4), (5, vi l5), (6, vi l6), (7, vi l7), (8, vi l8)]) (dk dtk_X7_source 95 rfl) (by decide) rfl ?_
  refine T_iload 5 (dk dtk_X7_source 96 rfl) rfl ?_
  refine T_iconst (v := 4) (dk dtk_X7_source 97 rfl) (by decide +kernel) ?_
  refine T_icmp_ne 211 (dk dtk_X7_source 98 rfl) (by decide) (fun c1 => ?_) (fun c1 => ?_)
  · have h := h.1 c1
    exact T_sub [1, 2, 3, 5, 6, 7, 8, 0] rfl h
  · have h := h.2 c1
    refine T_aload_n 1 (dk dtk_X7_source 99 rfl) rfl rfl ?_
    refine T_bipush (v := 28) (dk dtk_X7_source 100 rfl) (by decide +kernel) ?_
    refine T_sub (lv2 := [(9, vi s0), (0, vr 100), (1, vi l1), (2, vi l2), (4, vi l4), (5, vi l5), (6, vi l6), (7, vi l7)]) [0, 1, 2, 3, 4, 5, 6, 7] rfl ?_
    refine KD_Vv [vi 28] [] rfl (dk dtk_X7_source 101 rfl) kcv_X7_115 rfl kk_100 rfl (kl_100 hq) (Nat.le_of_ble_eq_true rfl) (Nat.le_of_ble_eq_true rfl) (gok_i (av_c rfl (av_c (gkr (kl_100 hq)) (av_c rfl (av_c rfl (av_c rfl (av_c rfl (av_c rfl (av_c rfl av_n)))))))) as_n) rfl h (fun x2 h => ?_)
    refine T_aload_n 1 (dk dtk_X7_source 102 rfl) rfl rfl ?_
    refine T_iload 4 (dk dtk_X7_source 103 rfl) rfl ?_
    refine T_sub (lv2 := [(9, vi s0), (0, vr 100), (1, vi l1), (2, vi l2), (5, vi l5), (6, vi l6), (7, vi l7)]) [0, 1, 2, 3, 5, 6, 7] rfl ?_
    refine KD_Vi [vi l4] [] rfl (dk dtk_X7_source 104 rfl) kcv_X7_201 rfl kk_100 rfl (kl_100 hq) (Nat.le_of_ble_eq_true rfl) (Nat.le_of_ble_eq_true rfl) (gok_i (av_c rfl (av_c (gkr (kl_100 hq)) (av_c rfl (av_c rfl (av_c rfl (av_c rfl (av_c rfl av_n))))))) as_n) rfl h (fun r4 x3 h => ?_)
    refine T_istore (lv2 := [(8, vi r4), (9, vi s0), (0, vr 100), (1, vi l1), (2, vi l2), (5, vi l5), (6, vi l6), (7, vi l7)]) (dk dtk_X7_source 105 rfl) (by decide) rfl ?_
    exact T_sub [2, 3, 4, 5, 6, 7, 0, 1] rfl h
set_option maxRecDepth 100000 in
set_option maxHeartbeats 4000000 in
theorem kg_X7_source_211 {G : kG} {q : kP} {d : Nat} {x : gd} {P : Option gv → gd → Prop} {X : String → gd → Prop} (hq : kV q) (l1 : Int32) (l2 : Int32) (l5 : Int32) (l6 : Int32) (l7 : Int32) (l8 : Int32) (l9 : Int32)
    (h : ((¬ (l5 = (16 : Int32)) → KE G q (d + 7) zk_X7_source 233 [(0, vr 100), (1, vi l1), (2, vi l2), (6, vi l6), (7, vi l7), (8, vi l8), (9, vi l9)] [vi l5, vr 80] x P X) ∧ (l5 = (16 : Int32) → ((¬ (l2 = (-1 : Int32)) → KE G q (d + 7) zk_X7_source 233 [(0, vr 100), (1, vi l1), (2, vi l2), (6, vi l6), (7, vi l7), (8, vi l8), (9, vi l9)] [vi l5, vr 80] x P X) ∧ (l2 = (-1 : Int32) → KE G q (d + 7) zk_X7_source 233 [(0, vr 100), (1, vi l1), (2, vi l2), (6, vi l6), (7, vi l7), (8, vi l8), (9, vi l9)] [vi 1, vr 80] x P X))))) :
    KE G q (d + 7) zk_X7_source 211 [(0, vr 100), (1, vi l1), (2, vi l2), (5, vi l5), (6, vi l6), (7, vi l7), (8, vi l8), (9, vi l9)] [] x P X := by
  refine T_aload_n 0 (dk dtk_X7_source 106 rfl) rfl rfl ?_
  refine T_getR 100 3 80 (dk dtk_X7_source 107 rfl) kfl_X7_29 kk_100 (kl_100 hq) (by decide) rfl kr_100_3 ?_
  refine T_iload 3 (dk dtk_X7_source 108 rfl) rfl ?_
  refine T_bipush (v := 16) (dk dtk_X7_source 109 rfl) (by decide +kernel) ?_
  refine T_icmp_ne 231 (dk dtk_X7_source 110 rfl) (by decide) (fun c1 => ?_) (fun c1 => ?_)
  · have h := h.1 c1
    refine T_iload 3 (dk dtk_X7_source 116 rfl) rfl ?_
    exact T_sub [0, 1, 2, 4, 5, 6, 7] rfl h
  · have h := h.2 c1
    refine T_iload_n 2 (dk dtk_X7_source 111 rfl) rfl rfl ?_
    refine T_iconst (v := (-1)) (dk dtk_X7_source 112 rfl) (by decide +kernel) ?_
    refine T_icmp_ne 231 (dk dtk_X7_source 113 rfl) (by decide) (fun c2 => ?_) (fun c2 => ?_)
    · have h := h.1 c2
      refine T_iload 3 (dk dtk_X7_source 116 rfl) rfl ?_
      exact T_sub [0, 1, 2, 4, 5, 6, 7] rfl h
    · have h := h.2 c2
      refine T_iconst (v := 1) (dk dtk_X7_source 114 rfl) (by decide +kernel) ?_
      refine T_goto 233 (dk dtk_X7_source 115 rfl) (by decide) ?_
      exact T_sub [0, 1, 2, 4, 5, 6, 7] rfl h
set_option maxRecDepth 100000 in
set_option maxHeartbeats 4000000 in
theorem kg_X7_source_233 {G : kG} {q : kP} {d : Nat} {x : gd} {P : Option gv → gd → Prop} {X : String → gd → Prop} (hq : kV q) (l1 : Int32) (l2 : Int32) (l6 : Int32) (l7 : Int32) (l8 : Int32) (l9 : Int32) (s0 : Int32)
    (h : KT G q (d + 6) zk_X8_add 0 [(0, vr 80), (1, vi s0), (2, vi l1), (3, vi (x.1 100 9))] [] x (ri (fun r2 x1 => vp_in r2 400 ∧ (∀ x4 : gd, x4 = si x1 84 (r2 : Int32).toNatClampNeg l2 → vp_in r2 400 ∧ (∀ x6 : gd, x6 = si x4 85 (r2 : Int32).toNatClampNeg l6 → vp_in r2 400 ∧ (∀ x8 : gd, x8 = si x6 87 (r2 : Int32).toNatClampNeg l7 → vp_in r2 400 ∧ (∀ x10 : gd, x10 = si x8 88 (r2 : Int32).toNatClampNeg l9 → vp_in r2 400 ∧ (∀ x12 : gd, x12 = si x10 89 (r2 : Int32).toNatClampNeg l8 → P none x12)))))))) :
    KE G q (d + 7) zk_X7_source 233 [(0, vr 100), (1, vi l1), (2, vi l2), (6, vi l6), (7, vi l7), (8, vi l8), (9, vi l9)] [vi s0, vr 80] x P X := by
  refine T_iload_n 1 (dk dtk_X7_source 117 rfl) rfl rfl ?_
  refine T_aload_n 0 (dk dtk_X7_source 118 rfl) rfl rfl ?_
  refine T_getI 100 9 (dk dtk_X7_source 119 rfl) kfl_X7_181 kk_100 (kl_100 hq) (by decide) rfl ?_
  refine T_sub (lv2 := [(0, vr 100), (2, vi l2), (6, vi l6), (7, vi l7), (8, vi l8), (9, vi l9)]) [0, 2, 3, 4, 5, 6] rfl ?_
  refine KC_Vi [vi s0, vi l1, vi (x.1 100 9)] [] rfl (dk dtk_X7_source 120 rfl) kcv_X7_191 rfl kk_80 rfl (kl_80 hq) (Nat.le_of_ble_eq_true rfl) (Nat.le_of_ble_eq_true rfl) (gok_i (av_c (gkr (kl_100 hq)) (av_c rfl (av_c rfl (av_c rfl (av_c rfl (av_c rfl av_n)))))) as_n) rfl h (fun r2 x1 h => ?_)
  refine T_istore (lv2 := [(10, vi r2), (0, vr 100), (2, vi l2), (6, vi l6), (7, vi l7), (8, vi l8), (9, vi l9)]) (dk dtk_X7_source 121 rfl) (by decide) rfl ?_
  refine T_aload_n 1 (dk dtk_X7_source 122 rfl) rfl rfl ?_
  refine T_getR 100 3 80 (dk dtk_X7_source 123 rfl) kfl_X7_29 kk_100 (kl_100 hq) (by decide) rfl kr_100_3 ?_
  refine T_getR 80 3 84 (dk dtk_X7_source 124 rfl) kfl_X7_214 kk_80 (kl_80 hq) (by decide) rfl kr_80_3 ?_
  refine T_iload 0 (dk dtk_X7_source 125 rfl) rfl ?_
  refine T_iload_n 2 (dk dtk_X7_source 126 rfl) rfl rfl ?_
  obtain ⟨h3, h⟩ := h
  obtain ⟨x4, ex4⟩ : ∃ z, z = si x1 84 (r2 : Int32).toNatClampNeg l2 := ⟨_, rfl⟩
  have h := h x4 ex4
  refine T_iast 84 400 (dk dtk_X7_source 127 rfl) kk_84 (kl_84 hq) h3 ?_
  rw [← ex4]
  refine T_aload_n 1 (dk dtk_X7_source 128 rfl) rfl rfl ?_
  refine T_getR 100 3 80 (dk dtk_X7_source 129 rfl) kfl_X7_29 kk_100 (kl_100 hq) (by decide) rfl kr_100_3 ?_
  refine T_getR 80 4 85 (dk dtk_X7_source 130 rfl) kfl_X7_220 kk_80 (kl_80 hq) (by decide) rfl kr_80_4 ?_
  refine T_iload 0 (dk dtk_X7_source 131 rfl) rfl ?_
  refine T_iload 3 (dk dtk_X7_source 132 rfl) rfl ?_
  obtain ⟨h5, h⟩ := h
  obtain ⟨x6, ex6⟩ : ∃ z, z = si x4 85 (r2 : Int32).toNatClampNeg l6 := ⟨_, rfl⟩
  have h := h x6 ex6
  refine T_iast 85 400 (dk dtk_X7_source 133 rfl) kk_85 (kl_85 hq) h5 ?_
  rw [← ex6]
  refine T_aload_n 1 (dk dtk_X7_source 134 rfl) rfl rfl ?_
  refine T_getR 100 3 80 (dk dtk_X7_source 135 rfl) kfl_X7_29 kk_100 (kl_100 hq) (by decide) rfl kr_100_3 ?_
  refine T_getR 80 6 87 (dk dtk_X7_source 136 rfl) kfl_X7_276 kk_80 (kl_80 hq) (by decide) rfl kr_80_6 ?_
  refine T_iload 0 (dk dtk_X7_source 137 rfl) rfl ?_
  refine T_iload 4 (dk dtk_X7_source 138 rfl) rfl ?_
  obtain ⟨h7, h⟩ := h
  obtain ⟨x8, ex8⟩ : ∃ z, z = si x6 87 (r2 : Int32).toNatClampNeg l7 := ⟨_, rfl⟩
  have h := h x8 ex8
  refine T_iast 87 400 (dk dtk_X7_source 139 rfl) kk_87 (kl_87 hq) h7 ?_
  rw [← ex8]
  refine T_aload_n 1 (dk dtk_X7_source 140 rfl) rfl rfl ?_
  refine T_getR 100 3 80 (dk dtk_X7_source 141 rfl) kfl_X7_29 kk_100 (kl_100 hq) (by decide) rfl kr_100_3 ?_
  refine T_getR 80 7 88 (dk dtk_X7_source 142 rfl) kfl_X7_233 kk_80 (kl_80 hq) (by decide) rfl kr_80_7 ?_
  refine T_iload 0 (dk dtk_X7_source 143 rfl) rfl ?_
  refine T_iload 6 (dk dtk_X7_source 144 rfl) rfl ?_
  obtain ⟨h9, h⟩ := h
  obtain ⟨x10, ex10⟩ : ∃ z, z = si x8 88 (r2 : Int32).toNatClampNeg l9 := ⟨_, rfl⟩
  have h := h x10 ex10
  refine T_iast 88 400 (dk dtk_X7_source 145 rfl) kk_88 (kl_88 hq) h9 ?_
  rw [← ex10]
  refine T_aload_n 1 (dk dtk_X7_source 146 rfl) rfl rfl ?_
  refine T_getR 100 3 80 (dk dtk_X7_source 147 rfl) kfl_X7_29 kk_100 (kl_100 hq) (by decide) rfl kr_100_3 ?_
  refine T_getR 80 8 89 (dk dtk_X7_source 148 rfl) kfl_X7_286 kk_80 (kl_80 hq) (by decide) rfl kr_80_8 ?_
  refine T_iload 0 (dk dtk_X7_source 149 rfl) rfl ?_
  refine T_iload 5 (dk dtk_X7_source 150 rfl) rfl ?_
  obtain ⟨h11, h⟩ := h
  obtain ⟨x12, ex12⟩ : ∃ z, z = si x10 89 (r2 : Int32).toNatClampNeg l8 := ⟨_, rfl⟩
  have h := h x12 ex12
  refine T_iast 89 400 (dk dtk_X7_source 151 rfl) kk_89 (kl_89 hq) h11 ?_
  rw [← ex12]
  exact KE_vret (dk dtk_X7_source 152 rfl) rfl h
set_option maxRecDepth 100000 in
theorem dtk_X7_sourceOp : dck cX7_sourceOp [(0, .aload_n 0, 1), (1, .invokevirtual 71, 3), (4, .lookupswitch 98 #[(2, 50), (40, 46), (46, 48), (65, 44)], 44), (48, .iconst 2, 1), (49, .ireturn, 1), (50, .iconst 3, 1), (51, .ireturn, 1), (52, .iconst 4, 1), (53, .ireturn, 1), (54, .aload_n 0, 1), (55, .invokevirtual 144, 3), (58, .bipush 27, 2), (60, .if_icmp .ne 20, 3), (63, .aload_n 0, 1), (64, .iconst 0, 1), (65, .aload_n 0, 1), (66, .getfield 52, 3), (69, .invokevirtual 266, 3), (72, .iconst (-1), 1), (73, .if_icmp .ne 7, 3), (76, .iconst 1, 1), (77, .goto 4, 3), (80, .iconst 0, 1), (81, .istore_n 1, 1), (82, .iload_n 1, 1), (83, .ifCond .ne 12, 3), (86, .aload_n 0, 1), (87, .invokevirtual 144, 3), (90, .bipush 25, 2), (92, .if_icmp .ne 7, 3), (95, .iconst 0, 1), (96, .goto 5, 3), (99, .bipush 16, 2), (101, .ireturn, 1), (102, .bipush 16, 2), (104, .ireturn, 1)] = true := by decide +kernel
set_option maxRecDepth 100000 in
set_option maxHeartbeats 4000000 in
theorem kg_X7_sourceOp_0 {G : kG} {q : kP} {d : Nat} {x : gd} {P : Option gv → gd → Prop} (hq : kV q) 
    (h : KT G q d zk_X7_sort 0 [(0, vr 100)] [] x (ri (fun r2 x1 => (((r2 = 65) → P (some (vi 2)) x1) ∧ ((r2 = 40) → P (some (vi 3)) x1) ∧ ((r2 = 46) → P (some (vi 4)) x1) ∧ ((r2 = 2) → KT G q d zk_X7_sortBehind 0 [(0, vr 100)] [] x1 (ri (fun r8 x7 => ((¬ (r8 = (27 : Int32)) → KT G q (d + 1) zk_X7_sourceOp 81 [(0, vr 100)] [vi 0] x7 P) ∧ (r8 = (27 : Int32) → KT G q d zk_X7_knownFrom 0 [(0, vr 100), (1, vi 0), (2, vi (x7.1 100 4))] [] x7 (ri (fun r11 x10 => ((¬ (r11 = (-1 : Int32)) → KT G q (d + 1) zk_X7_sourceOp 81 [(0, vr 100)] [vi 0] x10 P) ∧ (r11 = (-1 : Int32) → KT G q (d + 1) zk_X7_sourceOp 81 [(0, vr 100)] [vi 1] x10 P))))))))) ∧ ((∀ k ∈ [(65 : Int32), (40 : Int32), (46 : Int32), (2 : Int32)], ¬ r2 = k) → P (some (vi 16)) x1))))) :
    KT G q (d + 1) zk_X7_sourceOp 0 [(0, vr 100)] [] x P := by
  refine T_aload_n 0 (dk dtk_X7_sourceOp 0 rfl) rfl rfl ?_
  refine KC_Vi [] [] rfl (dk dtk_X7_sourceOp 1 rfl) kcv_X7_71 rfl kk_100 rfl (kl_100 hq) (Nat.le_of_ble_eq_true rfl) (Nat.le_of_ble_eq_true rfl) (gok_i (av_c (gkr (kl_100 hq)) av_n) as_n) rfl h (fun r2 x1 h => ?_)
  by_cases c3 : r2 = 65
  · have h := h.1 c3
    refine T_lookup 44 48 (dk dtk_X7_sourceOp 2 rfl) (by decide +kernel) (by rw [c3]; decide +kernel) (by decide) ?_
    refine T_iconst (v := 2) (dk dtk_X7_sourceOp 3 rfl) (by decide +kernel) ?_
    exact KT_iret (dk dtk_X7_sourceOp 4 rfl) rfl rfl h
  · have h := h.2
    by_cases c4 : r2 = 40
    · have h := h.1 c4
      refine T_lookup 46 50 (dk dtk_X7_sourceOp 2 rfl) (by decide +kernel) (by rw [c4]; decide +kernel) (by decide) ?_
      refine T_iconst (v := 3) (dk dtk_X7_sourceOp 5 rfl) (by decide +kernel) ?_
      exact KT_iret (dk dtk_X7_sourceOp 6 rfl) rfl rfl h
    · have h := h.2
      by_cases c5 : r2 = 46
      · have h := h.1 c5
        refine T_lookup 48 52 (dk dtk_X7_sourceOp 2 rfl) (by decide +kernel) (by rw [c5]; decide +kernel) (by decide) ?_
        refine T_iconst (v := 4) (dk dtk_X7_sourceOp 7 rfl) (by decide +kernel) ?_
        exact KT_iret (dk dtk_X7_sourceOp 8 rfl) rfl rfl h
      · have h := h.2
        by_cases c6 : r2 = 2
        · have h := h.1 c6
          refine T_lookup 50 54 (dk dtk_X7_sourceOp 2 rfl) (by decide +kernel) (by rw [c6]; decide +kernel) (by decide) ?_
          refine T_aload_n 0 (dk dtk_X7_sourceOp 9 rfl) rfl rfl ?_
          refine KC_Vi [] [] rfl (dk dtk_X7_sourceOp 10 rfl) kcv_X7_144 rfl kk_100 rfl (kl_100 hq) (Nat.le_of_ble_eq_true rfl) (Nat.le_of_ble_eq_true rfl) (gok_i (av_c (gkr (kl_100 hq)) av_n) as_n) rfl h (fun r8 x7 h => ?_)
          refine T_bipush (v := 27) (dk dtk_X7_sourceOp 11 rfl) (by decide +kernel) ?_
          refine T_icmp_ne 80 (dk dtk_X7_sourceOp 12 rfl) (by decide) (fun c9 => ?_) (fun c9 => ?_)
          · have h := h.1 c9
            refine T_iconst (v := 0) (dk dtk_X7_sourceOp 22 rfl) (by decide +kernel) ?_
            exact h
          · have h := h.2 c9
            refine T_aload_n 0 (dk dtk_X7_sourceOp 13 rfl) rfl rfl ?_
            refine T_iconst (v := 0) (dk dtk_X7_sourceOp 14 rfl) (by decide +kernel) ?_
            refine T_aload_n 0 (dk dtk_X7_sourceOp 15 rfl) rfl rfl ?_
            refine T_getI 100 4 (dk dtk_X7_sourceOp 16 rfl) kfl_X7_52 kk_100 (kl_100 hq) (by decide) rfl ?_
            refine KC_Vi [vi 0, vi (x7.1 100 4)] [] rfl (dk dtk_X7_sourceOp 17 rfl) kcv_X7_266 rfl kk_100 rfl (kl_100 hq) (Nat.le_of_ble_eq_true rfl) (Nat.le_of_ble_eq_true rfl) (gok_i (av_c (gkr (kl_100 hq)) av_n) as_n) rfl h (fun r11 x10 h => ?_)
            refine T_iconst (v := (-1)) (dk dtk_X7_sourceOp 18 rfl) (by decide +kernel) ?_
            refine T_icmp_ne 80 (dk dtk_X7_sourceOp 19 rfl) (by decide) (fun c12 => ?_) (fun c12 => ?_)
            · have h := h.1 c12
              refine T_iconst (v := 0) (dk dtk_X7_sourceOp 22 rfl) (by decide +kernel) ?_
              exact h
            · have h := h.2 c12
              refine T_iconst (v := 1) (dk dtk_X7_sourceOp 20 rfl) (by decide +kernel) ?_
              refine T_goto 81 (dk dtk_X7_sourceOp 21 rfl) (by decide) ?_
              exact h
        · have h := h.2
          have n13 : ∀ k ∈ [(65 : Int32), (40 : Int32), (46 : Int32), (2 : Int32)], ¬ r2 = k := (gno c3 (gno c4 (gno c5 (gno c6 gno0))))
          have h := h n13
          refine T_lookup 98 102 (dk dtk_X7_sourceOp 2 rfl) (by decide +kernel) (glk_d [(65 : Int32), (40 : Int32), (46 : Int32), (2 : Int32)] (by decide +kernel) n13) (by decide) ?_
          refine T_bipush (v := 16) (dk dtk_X7_sourceOp 34 rfl) (by decide +kernel) ?_
          exact KT_iret (dk dtk_X7_sourceOp 35 rfl) rfl rfl h
set_option maxRecDepth 100000 in
set_option maxHeartbeats 4000000 in
theorem kg_X7_sourceOp_81 {G : kG} {q : kP} {d : Nat} {x : gd} {P : Option gv → gd → Prop} (hq : kV q) (s0 : Int32)
    (h : ((¬ (s0 = (0 : Int32)) → P (some (vi 0)) x) ∧ (s0 = (0 : Int32) → KT G q d zk_X7_sortBehind 0 [(0, vr 100)] [] x (ri (fun r3 x2 => ((¬ (r3 = (25 : Int32)) → P (some (vi 16)) x2) ∧ (r3 = (25 : Int32) → P (some (vi 0)) x2))))))) :
    KT G q (d + 1) zk_X7_sourceOp 81 [(0, vr 100)] [vi s0] x P := by
  refine T_istore_n (lv2 := [(1, vi s0), (0, vr 100)]) (dk dtk_X7_sourceOp 23 rfl) rfl (by decide) rfl ?_
  refine T_iload_n 0 (dk dtk_X7_sourceOp 24 rfl) rfl rfl ?_
  refine T_if_ne 95 (dk dtk_X7_sourceOp 25 rfl) (by decide) (fun c1 => ?_) (fun c1 => ?_)
  · have h := h.1 c1
    refine T_iconst (v := 0) (dk dtk_X7_sourceOp 30 rfl) (by decide +kernel) ?_
    refine T_goto 101 (dk dtk_X7_sourceOp 31 rfl) (by decide) ?_
    exact KT_iret (dk dtk_X7_sourceOp 33 rfl) rfl rfl h
  · have h := h.2 c1
    refine T_aload_n 1 (dk dtk_X7_sourceOp 26 rfl) rfl rfl ?_
    refine T_sub (lv2 := []) [] rfl ?_
    refine KC_Vi [] [] rfl (dk dtk_X7_sourceOp 27 rfl) kcv_X7_144 rfl kk_100 rfl (kl_100 hq) (Nat.le_of_ble_eq_true rfl) (Nat.le_of_ble_eq_true rfl) (gok_i av_n as_n) rfl h (fun r3 x2 h => ?_)
    refine T_bipush (v := 25) (dk dtk_X7_sourceOp 28 rfl) (by decide +kernel) ?_
    refine T_icmp_ne 99 (dk dtk_X7_sourceOp 29 rfl) (by decide) (fun c4 => ?_) (fun c4 => ?_)
    · have h := h.1 c4
      refine T_bipush (v := 16) (dk dtk_X7_sourceOp 32 rfl) (by decide +kernel) ?_
      exact KT_iret (dk dtk_X7_sourceOp 33 rfl) rfl rfl h
    · have h := h.2 c4
      refine T_iconst (v := 0) (dk dtk_X7_sourceOp 30 rfl) (by decide +kernel) ?_
      refine T_goto 101 (dk dtk_X7_sourceOp 31 rfl) (by decide) ?_
      exact KT_iret (dk dtk_X7_sourceOp 33 rfl) rfl rfl h
set_option maxRecDepth 100000 in
theorem dtk_X7_useOfCell : dck cX7_useOfCell [(0, .iload_n 0, 1), (1, .ifCond .eq 15, 3), (4, .iload_n 1, 1), (5, .ifCond .eq 8, 3), (8, .bipush 9, 2), (10, .goto 5, 3), (13, .bipush 7, 2), (15, .ireturn, 1), (16, .iload_n 1, 1), (17, .ifCond .eq 8, 3), (20, .bipush 8, 2), (22, .goto 5, 3), (25, .bipush 6, 2), (27, .ireturn, 1)] = true := by decide +kernel
set_option maxRecDepth 100000 in
set_option maxHeartbeats 4000000 in
theorem kg_X7_useOfCell_0 {G : kG} {q : kP} {d : Nat} {x : gd} {P : Option gv → gd → Prop} (hq : kV q) (l0 : Int32) (l1 : Int32)
    (h : ((l0 = (0 : Int32) → ((l1 = (0 : Int32) → P (some (vi 6)) x) ∧ (¬ (l1 = (0 : Int32)) → P (some (vi 8)) x))) ∧ (¬ (l0 = (0 : Int32)) → ((l1 = (0 : Int32) → P (some (vi 7)) x) ∧ (¬ (l1 = (0 : Int32)) → P (some (vi 9)) x))))) :
    KT G q d zk_X7_useOfCell 0 [(0, vi l0), (1, vi l1)] [] x P := by
  refine T_iload_n 0 (dk dtk_X7_useOfCell 0 rfl) rfl rfl ?_
  refine T_if_eq 16 (dk dtk_X7_useOfCell 1 rfl) (by decide) (fun c1 => ?_) (fun c1 => ?_)
  · have h := h.1 c1
    refine T_iload_n 1 (dk dtk_X7_useOfCell 8 rfl) rfl rfl ?_
    refine T_if_eq 25 (dk dtk_X7_useOfCell 9 rfl) (by decide) (fun c2 => ?_) (fun c2 => ?_)
    · have h := h.1 c2
      refine T_bipush (v := 6) (dk dtk_X7_useOfCell 12 rfl) (by decide +kernel) ?_
      exact KT_iret (dk dtk_X7_useOfCell 13 rfl) rfl rfl h
    · have h := h.2 c2
      refine T_bipush (v := 8) (dk dtk_X7_useOfCell 10 rfl) (by decide +kernel) ?_
      refine T_goto 27 (dk dtk_X7_useOfCell 11 rfl) (by decide) ?_
      exact KT_iret (dk dtk_X7_useOfCell 13 rfl) rfl rfl h
  · have h := h.2 c1
    refine T_iload_n 1 (dk dtk_X7_useOfCell 2 rfl) rfl rfl ?_
    refine T_if_eq 13 (dk dtk_X7_useOfCell 3 rfl) (by decide) (fun c3 => ?_) (fun c3 => ?_)
    · have h := h.1 c3
      refine T_bipush (v := 7) (dk dtk_X7_useOfCell 6 rfl) (by decide +kernel) ?_
      exact KT_iret (dk dtk_X7_useOfCell 7 rfl) rfl rfl h
    · have h := h.2 c3
      refine T_bipush (v := 9) (dk dtk_X7_useOfCell 4 rfl) (by decide +kernel) ?_
      refine T_goto 15 (dk dtk_X7_useOfCell 5 rfl) (by decide) ?_
      exact KT_iret (dk dtk_X7_useOfCell 7 rfl) rfl rfl h
set_option maxRecDepth 100000 in
theorem dtk_X7_plainStatement : dck cX7_plainStatement [(0, .aload_n 0, 1), (1, .invokevirtual 71, 3), (4, .bipush 70, 2), (6, .if_icmp .ne 7, 3), (9, .iconst 1, 1), (10, .goto 4, 3), (13, .iconst 0, 1), (14, .istore_n 3, 1), (15, .aload_n 0, 1), (16, .invokevirtual 112, 3), (19, .iconst (-1), 1), (20, .istore 4, 2), (22, .iload_n 1, 1), (23, .iconst 5, 1), (24, .if_icmp .lt 39, 3), (27, .iload_n 1, 1), (28, .bipush 10, 2), (30, .if_icmp .gt 33, 3), (33, .aload_n 0, 1), (34, .iload_n 1, 1), (35, .iload_n 2, 1), (36, .invokevirtual 260, 3), (39, .istore 4, 2), (41, .aload_n 0, 1), (42, .getfield 29, 3), (45, .getfield 214, 3), (48, .iload 4, 2), (50, .iload_n 3, 1), (51, .ifCond .eq 7, 3), (54, .iconst 1, 1), (55, .goto 4, 3), (58, .iconst 0, 1), (59, .iastore, 1), (60, .goto 120, 3), (63, .iconst (-1), 1), (64, .istore 5, 2), (66, .iload_n 1, 1), (67, .bipush 13, 2), (69, .if_icmp .ne 26, 3), (72, .aload_n 0, 1), (73, .getfield 11, 3), (76, .getfield 147, 3), (79, .aload_n 0, 1), (80, .iconst 3, 1), (81, .bipush 13, 2), (83, .invokevirtual 130, 3), (86, .iaload, 1), (87, .istore 5, 2), (89, .aload_n 0, 1), (90, .bipush 28, 2), (92, .invokevirtual 115, 3), (95, .iload_n 1, 1), (96, .bipush 13, 2), (98, .if_icmp .eq 15, 3), (101, .iload_n 1, 1), (102, .bipush 14, 2), (104, .if_icmp .eq 9, 3), (107, .iload_n 1, 1), (108, .bipush 18, 2), (110, .if_icmp .ne 7, 3), (113, .iconst 1, 1), (114, .goto 4, 3), (117, .iconst 0, 1), (118, .istore 6, 2), (120, .iload 6, 2), (122, .ifCond .eq 16, 3), (125, .aload_n 0, 1), (126, .aload_n 0, 1), (127, .getfield 184, 3), (130, .iconst 1, 1), (131, .iadd, 1), (132, .invokevirtual 201, 3), (135, .goto 4, 3), (138, .iconst (-1), 1), (139, .istore 7, 2), (141, .aload_n 0, 1), (142, .getfield 29, 3), (145, .iload_n 1, 1), (146, .iload_n 2, 1), (147, .aload_n 0, 1), (148, .getfield 181, 3), (151, .invokevirtual 191, 3), (154, .istore 4, 2), (156, .aload_n 0, 1), (157, .getfield 29, 3), (160, .getfield 220, 3), (163, .iload 4, 2), (165, .iload 5, 2), (167, .iastore, 1), (168, .aload_n 0, 1), (169, .getfield 29, 3), (172, .getfield 233, 3), (175, .iload 4, 2), (177, .iload 7, 2), (179, .iastore, 1), (180, .aload_n 0, 1), (181, .bipush 27, 2), (183, .invokevirtual 115, 3), (186, .return_, 1)] = true := by decide +kernel
set_option maxRecDepth 100000 in
set_option maxHeartbeats 4000000 in
theorem kg_X7_plainStatement_0 {G : kG} {q : kP} {d : Nat} {x : gd} {P : Option gv → gd → Prop} {X : String → gd → Prop} (hq : kV q) (l1 : Int32) (l2 : Int32)
    (h : KT G q (d + 6) zk_X7_sort 0 [(0, vr 100)] [] x (ri (fun r2 x1 => ((¬ (r2 = (70 : Int32)) → KE G q (d + 7) zk_X7_plainStatement 14 [(0, vr 100), (1, vi l1), (2, vi l2)] [vi 0] x1 P X) ∧ (r2 = (70 : Int32) → KE G q (d + 7) zk_X7_plainStatement 14 [(0, vr 100), (1, vi l1), (2, vi l2)] [vi 1] x1 P X))))) :
    KE G q (d + 7) zk_X7_plainStatement 0 [(0, vr 100), (1, vi l1), (2, vi l2)] [] x P X := by
  refine T_aload_n 0 (dk dtk_X7_plainStatement 0 rfl) rfl rfl ?_
  refine KC_Vi [] [] rfl (dk dtk_X7_plainStatement 1 rfl) kcv_X7_71 rfl kk_100 rfl (kl_100 hq) (Nat.le_of_ble_eq_true rfl) (Nat.le_of_ble_eq_true rfl) (gok_i (av_c (gkr (kl_100 hq)) (av_c rfl (av_c rfl av_n))) as_n) rfl h (fun r2 x1 h => ?_)
  refine T_bipush (v := 70) (dk dtk_X7_plainStatement 2 rfl) (by decide +kernel) ?_
  refine T_icmp_ne 13 (dk dtk_X7_plainStatement 3 rfl) (by decide) (fun c3 => ?_) (fun c3 => ?_)
  · have h := h.1 c3
    refine T_iconst (v := 0) (dk dtk_X7_plainStatement 6 rfl) (by decide +kernel) ?_
    exact h
  · have h := h.2 c3
    refine T_iconst (v := 1) (dk dtk_X7_plainStatement 4 rfl) (by decide +kernel) ?_
    refine T_goto 14 (dk dtk_X7_plainStatement 5 rfl) (by decide) ?_
    exact h
set_option maxRecDepth 100000 in
set_option maxHeartbeats 4000000 in
theorem kg_X7_plainStatement_14 {G : kG} {q : kP} {d : Nat} {x : gd} {P : Option gv → gd → Prop} {X : String → gd → Prop} (hq : kV q) (l1 : Int32) (l2 : Int32) (s0 : Int32)
    (h : KE G q (d + 6) zk_X7_pass 0 [(0, vr 100)] [] x (rv (fun x1 => ((l1 < (5 : Int32) → KE G q (d + 7) zk_X7_plainStatement 63 [(0, vr 100), (1, vi l1), (2, vi l2)] [] x1 P X) ∧ (¬ (l1 < (5 : Int32)) → (((10 : Int32) < l1 → KE G q (d + 7) zk_X7_plainStatement 63 [(0, vr 100), (1, vi l1), (2, vi l2)] [] x1 P X) ∧ (¬ ((10 : Int32) < l1) → KE G q (d + 6) zk_X7_nameStep 0 [(0, vr 100), (1, vi l1), (2, vi l2)] [] x1 (ri (fun r5 x4 => ((s0 = (0 : Int32) → vp_in r5 400 ∧ (∀ x8 : gd, x8 = si x4 84 (r5 : Int32).toNatClampNeg 0 → KE G q (d + 7) zk_X7_plainStatement 180 [(0, vr 100)] [] x8 P X)) ∧ (¬ (s0 = (0 : Int32)) → vp_in r5 400 ∧ (∀ x10 : gd, x10 = si x4 84 (r5 : Int32).toNatClampNeg 1 → KE G q (d + 7) zk_X7_plainStatement 180 [(0, vr 100)] [] x10 P X))))) X)))))) X) :
    KE G q (d + 7) zk_X7_plainStatement 14 [(0, vr 100), (1, vi l1), (2, vi l2)] [vi s0] x P X := by
  refine T_istore_n (lv2 := [(3, vi s0), (0, vr 100), (1, vi l1), (2, vi l2)]) (dk dtk_X7_plainStatement 7 rfl) rfl (by decide) rfl ?_
  refine T_aload_n 1 (dk dtk_X7_plainStatement 8 rfl) rfl rfl ?_
  refine KD_Vv [] [] rfl (dk dtk_X7_plainStatement 9 rfl) kcv_X7_112 rfl kk_100 rfl (kl_100 hq) (Nat.le_of_ble_eq_true rfl) (Nat.le_of_ble_eq_true rfl) (gok_i (av_c rfl (av_c (gkr (kl_100 hq)) (av_c rfl (av_c rfl av_n)))) as_n) rfl h (fun x1 h => ?_)
  refine T_iconst (v := (-1)) (dk dtk_X7_plainStatement 10 rfl) (by decide +kernel) ?_
  refine T_istore (lv2 := [(4, vi (-1)), (3, vi s0), (0, vr 100), (1, vi l1), (2, vi l2)]) (dk dtk_X7_plainStatement 11 rfl) (by decide) rfl ?_
  refine T_iload_n 3 (dk dtk_X7_plainStatement 12 rfl) rfl rfl ?_
  refine T_iconst (v := 5) (dk dtk_X7_plainStatement 13 rfl) (by decide +kernel) ?_
  refine T_icmp_lt 63 (dk dtk_X7_plainStatement 14 rfl) (by decide) (fun c2 => ?_) (fun c2 => ?_)
  · have h := h.1 c2
    exact T_sub [2, 3, 4] rfl h
  · have h := h.2 c2
    refine T_iload_n 3 (dk dtk_X7_plainStatement 15 rfl) rfl rfl ?_
    refine T_bipush (v := 10) (dk dtk_X7_plainStatement 16 rfl) (by decide +kernel) ?_
    refine T_icmp_gt 63 (dk dtk_X7_plainStatement 17 rfl) (by decide) (fun c3 => ?_) (fun c3 => ?_)
    · have h := h.1 c3
      exact T_sub [2, 3, 4] rfl h
    · have h := h.2 c3
      refine T_aload_n 2 (dk dtk_X7_plainStatement 18 rfl) rfl rfl ?_
      refine T_iload_n 3 (dk dtk_X7_plainStatement 19 rfl) rfl rfl ?_
      refine T_iload_n 4 (dk dtk_X7_plainStatement 20 rfl) rfl rfl ?_
      refine T_sub (lv2 := [(3, vi s0), (0, vr 100)]) [1, 2] rfl ?_
      refine KD_Vi [vi l1, vi l2] [] rfl (dk dtk_X7_plainStatement 21 rfl) kcv_X7_260 rfl kk_100 rfl (kl_100 hq) (Nat.le_of_ble_eq_true rfl) (Nat.le_of_ble_eq_true rfl) (gok_i (av_c rfl (av_c (gkr (kl_100 hq)) av_n)) as_n) rfl h (fun r5 x4 h => ?_)
      refine T_istore (lv2 := [(4, vi r5), (3, vi s0), (0, vr 100)]) (dk dtk_X7_plainStatement 22 rfl) (by decide) rfl ?_
      refine T_aload_n 2 (dk dtk_X7_plainStatement 23 rfl) rfl rfl ?_
      refine T_getR 100 3 80 (dk dtk_X7_plainStatement 24 rfl) kfl_X7_29 kk_100 (kl_100 hq) (by decide) rfl kr_100_3 ?_
      refine T_getR 80 3 84 (dk dtk_X7_plainStatement 25 rfl) kfl_X7_214 kk_80 (kl_80 hq) (by decide) rfl kr_80_3 ?_
      refine T_iload 0 (dk dtk_X7_plainStatement 26 rfl) rfl ?_
      refine T_iload_n 1 (dk dtk_X7_plainStatement 27 rfl) rfl rfl ?_
      refine T_if_eq 58 (dk dtk_X7_plainStatement 28 rfl) (by decide) (fun c6 => ?_) (fun c6 => ?_)
      · have h := h.1 c6
        refine T_iconst (v := 0) (dk dtk_X7_plainStatement 31 rfl) (by decide +kernel) ?_
        obtain ⟨h7, h⟩ := h
        obtain ⟨x8, ex8⟩ : ∃ z, z = si x4 84 (r5 : Int32).toNatClampNeg 0 := ⟨_, rfl⟩
        have h := h x8 ex8
        refine T_iast 84 400 (dk dtk_X7_plainStatement 32 rfl) kk_84 (kl_84 hq) h7 ?_
        rw [← ex8]
        refine T_goto 180 (dk dtk_X7_plainStatement 33 rfl) (by decide) ?_
        exact T_sub [2] rfl h
      · have h := h.2 c6
        refine T_iconst (v := 1) (dk dtk_X7_plainStatement 29 rfl) (by decide +kernel) ?_
        refine T_goto 59 (dk dtk_X7_plainStatement 30 rfl) (by decide) ?_
        obtain ⟨h9, h⟩ := h
        obtain ⟨x10, ex10⟩ : ∃ z, z = si x4 84 (r5 : Int32).toNatClampNeg 1 := ⟨_, rfl⟩
        have h := h x10 ex10
        refine T_iast 84 400 (dk dtk_X7_plainStatement 32 rfl) kk_84 (kl_84 hq) h9 ?_
        rw [← ex10]
        refine T_goto 180 (dk dtk_X7_plainStatement 33 rfl) (by decide) ?_
        exact T_sub [2] rfl h
set_option maxRecDepth 100000 in
set_option maxHeartbeats 4000000 in
theorem kg_X7_plainStatement_63 {G : kG} {q : kP} {d : Nat} {x : gd} {P : Option gv → gd → Prop} {X : String → gd → Prop} (hq : kV q) (l1 : Int32) (l2 : Int32)
    (h : ((¬ (l1 = (13 : Int32)) → KE G q (d + 7) zk_X7_plainStatement 95 [(0, vr 100), (1, vi l1), (2, vi l2), (5, vi (-1))] [] x P X) ∧ (l1 = (13 : Int32) → KE G q (d + 6) zk_X7_needFor 0 [(0, vr 100), (1, vi 3), (2, vi 13)] [] x (ri (fun r3 x2 => vp_in r3 702 ∧ KE G q (d + 6) zk_X7_need 0 [(0, vr 100), (1, vi 28)] [] x2 (rv (fun x5 => KE G q (d + 7) zk_X7_plainStatement 95 [(0, vr 100), (1, vi l1), (2, vi l2), (5, vi (x2.1 27 (r3 : Int32).toNatClampNeg))] [] x5 P X)) X)) X))) :
    KE G q (d + 7) zk_X7_plainStatement 63 [(0, vr 100), (1, vi l1), (2, vi l2)] [] x P X := by
  refine T_iconst (v := (-1)) (dk dtk_X7_plainStatement 34 rfl) (by decide +kernel) ?_
  refine T_istore (lv2 := [(5, vi (-1)), (0, vr 100), (1, vi l1), (2, vi l2)]) (dk dtk_X7_plainStatement 35 rfl) (by decide) rfl ?_
  refine T_iload_n 2 (dk dtk_X7_plainStatement 36 rfl) rfl rfl ?_
  refine T_bipush (v := 13) (dk dtk_X7_plainStatement 37 rfl) (by decide +kernel) ?_
  refine T_icmp_ne 95 (dk dtk_X7_plainStatement 38 rfl) (by decide) (fun c1 => ?_) (fun c1 => ?_)
  · have h := h.1 c1
    exact T_sub [1, 2, 3, 0] rfl h
  · have h := h.2 c1
    refine T_aload_n 1 (dk dtk_X7_plainStatement 39 rfl) rfl rfl ?_
    refine T_getR 100 0 20 (dk dtk_X7_plainStatement 40 rfl) kfl_X7_11 kk_100 (kl_100 hq) (by decide) rfl kr_100_0 ?_
    refine T_getR 20 6 27 (dk dtk_X7_plainStatement 41 rfl) kfl_X7_147 kk_20 (kl_20 hq) (by decide) rfl kr_20_6 ?_
    refine T_aload_n 1 (dk dtk_X7_plainStatement 42 rfl) rfl rfl ?_
    refine T_iconst (v := 3) (dk dtk_X7_plainStatement 43 rfl) (by decide +kernel) ?_
    refine T_bipush (v := 13) (dk dtk_X7_plainStatement 44 rfl) (by decide +kernel) ?_
    refine T_sub (lv2 := [(0, vr 100), (1, vi l1), (2, vi l2)]) [1, 2, 3] rfl ?_
    refine KD_Vi [vi 3, vi 13] [vr 27] rfl (dk dtk_X7_plainStatement 45 rfl) kcv_X7_130 rfl kk_100 rfl (kl_100 hq) (Nat.le_of_ble_eq_true rfl) (Nat.le_of_ble_eq_true rfl) (gok_i (av_c (gkr (kl_100 hq)) (av_c rfl (av_c rfl av_n))) (as_c (gkr (kl_27 hq)) as_n)) rfl h (fun r3 x2 h => ?_)
    obtain ⟨h4, h⟩ := h
    refine T_iald 27 702 (dk dtk_X7_plainStatement 46 rfl) kk_27 (kl_27 hq) h4 ?_
    refine T_istore (lv2 := [(5, vi (x2.1 27 (r3 : Int32).toNatClampNeg)), (0, vr 100), (1, vi l1), (2, vi l2)]) (dk dtk_X7_plainStatement 47 rfl) (by decide) rfl ?_
    refine T_aload_n 1 (dk dtk_X7_plainStatement 48 rfl) rfl rfl ?_
    refine T_bipush (v := 28) (dk dtk_X7_plainStatement 49 rfl) (by decide +kernel) ?_
    refine KD_Vv [vi 28] [] rfl (dk dtk_X7_plainStatement 50 rfl) kcv_X7_115 rfl kk_100 rfl (kl_100 hq) (Nat.le_of_ble_eq_true rfl) (Nat.le_of_ble_eq_true rfl) (gok_i (av_c rfl (av_c (gkr (kl_100 hq)) (av_c rfl (av_c rfl av_n)))) as_n) rfl h (fun x5 h => ?_)
    exact T_sub [1, 2, 3, 0] rfl h
set_option maxRecDepth 100000 in
set_option maxHeartbeats 4000000 in
theorem kg_X7_plainStatement_95 {G : kG} {q : kP} {d : Nat} {x : gd} {P : Option gv → gd → Prop} {X : String → gd → Prop} (hq : kV q) (l1 : Int32) (l2 : Int32) (l5 : Int32)
    (h : ((l1 = (13 : Int32) → KE G q (d + 7) zk_X7_plainStatement 118 [(0, vr 100), (1, vi l1), (2, vi l2), (5, vi l5)] [vi 1] x P X) ∧ (¬ (l1 = (13 : Int32)) → ((l1 = (14 : Int32) → KE G q (d + 7) zk_X7_plainStatement 118 [(0, vr 100), (1, vi l1), (2, vi l2), (5, vi l5)] [vi 1] x P X) ∧ (¬ (l1 = (14 : Int32)) → ((¬ (l1 = (18 : Int32)) → KE G q (d + 7) zk_X7_plainStatement 118 [(0, vr 100), (1, vi l1), (2, vi l2), (5, vi l5)] [vi 0] x P X) ∧ (l1 = (18 : Int32) → KE G q (d + 7) zk_X7_plainStatement 118 [(0, vr 100), (1, vi l1), (2, vi l2), (5, vi l5)] [vi 1] x P X))))))) :
    KE G q (d + 7) zk_X7_plainStatement 95 [(0, vr 100), (1, vi l1), (2, vi l2), (5, vi l5)] [] x P X := by
  refine T_iload_n 1 (dk dtk_X7_plainStatement 51 rfl) rfl rfl ?_
  refine T_bipush (v := 13) (dk dtk_X7_plainStatement 52 rfl) (by decide +kernel) ?_
  refine T_icmp_eq 113 (dk dtk_X7_plainStatement 53 rfl) (by decide) (fun c1 => ?_) (fun c1 => ?_)
  · have h := h.1 c1
    refine T_iconst (v := 1) (dk dtk_X7_plainStatement 60 rfl) (by decide +kernel) ?_
    refine T_goto 118 (dk dtk_X7_plainStatement 61 rfl) (by decide) ?_
    exact h
  · have h := h.2 c1
    refine T_iload_n 1 (dk dtk_X7_plainStatement 54 rfl) rfl rfl ?_
    refine T_bipush (v := 14) (dk dtk_X7_plainStatement 55 rfl) (by decide +kernel) ?_
    refine T_icmp_eq 113 (dk dtk_X7_plainStatement 56 rfl) (by decide) (fun c2 => ?_) (fun c2 => ?_)
    · have h := h.1 c2
      refine T_iconst (v := 1) (dk dtk_X7_plainStatement 60 rfl) (by decide +kernel) ?_
      refine T_goto 118 (dk dtk_X7_plainStatement 61 rfl) (by decide) ?_
      exact h
    · have h := h.2 c2
      refine T_iload_n 1 (dk dtk_X7_plainStatement 57 rfl) rfl rfl ?_
      refine T_bipush (v := 18) (dk dtk_X7_plainStatement 58 rfl) (by decide +kernel) ?_
      refine T_icmp_ne 117 (dk dtk_X7_plainStatement 59 rfl) (by decide) (fun c3 => ?_) (fun c3 => ?_)
      · have h := h.1 c3
        refine T_iconst (v := 0) (dk dtk_X7_plainStatement 62 rfl) (by decide +kernel) ?_
        exact h
      · have h := h.2 c3
        refine T_iconst (v := 1) (dk dtk_X7_plainStatement 60 rfl) (by decide +kernel) ?_
        refine T_goto 118 (dk dtk_X7_plainStatement 61 rfl) (by decide) ?_
        exact h
set_option maxRecDepth 100000 in
set_option maxHeartbeats 4000000 in
theorem kg_X7_plainStatement_118 {G : kG} {q : kP} {d : Nat} {x : gd} {P : Option gv → gd → Prop} {X : String → gd → Prop} (hq : kV q) (l1 : Int32) (l2 : Int32) (l5 : Int32) (s0 : Int32)
    (h : ((s0 = (0 : Int32) → KE G q (d + 7) zk_X7_plainStatement 139 [(0, vr 100), (1, vi l1), (2, vi l2), (5, vi l5)] [vi (-1)] x P X) ∧ (¬ (s0 = (0 : Int32)) → KE G q (d + 6) zk_X7_sum 0 [(0, vr 100), (1, vi ((x.1 100 13) + 1))] [] x (ri (fun r3 x2 => KE G q (d + 7) zk_X7_plainStatement 139 [(0, vr 100), (1, vi l1), (2, vi l2), (5, vi l5)] [vi r3] x2 P X)) X))) :
    KE G q (d + 7) zk_X7_plainStatement 118 [(0, vr 100), (1, vi l1), (2, vi l2), (5, vi l5)] [vi s0] x P X := by
  refine T_istore (lv2 := [(6, vi s0), (0, vr 100), (1, vi l1), (2, vi l2), (5, vi l5)]) (dk dtk_X7_plainStatement 63 rfl) (by decide) rfl ?_
  refine T_iload 0 (dk dtk_X7_plainStatement 64 rfl) rfl ?_
  refine T_if_eq 138 (dk dtk_X7_plainStatement 65 rfl) (by decide) (fun c1 => ?_) (fun c1 => ?_)
  · have h := h.1 c1
    refine T_iconst (v := (-1)) (dk dtk_X7_plainStatement 73 rfl) (by decide +kernel) ?_
    exact T_sub [1, 2, 3, 4] rfl h
  · have h := h.2 c1
    refine T_aload_n 1 (dk dtk_X7_plainStatement 66 rfl) rfl rfl ?_
    refine T_aload_n 1 (dk dtk_X7_plainStatement 67 rfl) rfl rfl ?_
    refine T_getI 100 13 (dk dtk_X7_plainStatement 68 rfl) kfl_X7_184 kk_100 (kl_100 hq) (by decide) rfl ?_
    refine T_iconst (v := 1) (dk dtk_X7_plainStatement 69 rfl) (by decide +kernel) ?_
    refine T_iadd (dk dtk_X7_plainStatement 70 rfl) ?_
    refine T_sub (lv2 := [(0, vr 100), (1, vi l1), (2, vi l2), (5, vi l5)]) [1, 2, 3, 4] rfl ?_
    refine KD_Vi [vi ((x.1 100 13) + 1)] [] rfl (dk dtk_X7_plainStatement 71 rfl) kcv_X7_201 rfl kk_100 rfl (kl_100 hq) (Nat.le_of_ble_eq_true rfl) (Nat.le_of_ble_eq_true rfl) (gok_i (av_c (gkr (kl_100 hq)) (av_c rfl (av_c rfl (av_c rfl av_n)))) as_n) rfl h (fun r3 x2 h => ?_)
    refine T_goto 139 (dk dtk_X7_plainStatement 72 rfl) (by decide) ?_
    exact h
set_option maxRecDepth 100000 in
set_option maxHeartbeats 4000000 in
theorem kg_X7_plainStatement_139 {G : kG} {q : kP} {d : Nat} {x : gd} {P : Option gv → gd → Prop} {X : String → gd → Prop} (hq : kV q) (l1 : Int32) (l2 : Int32) (l5 : Int32) (s0 : Int32)
    (h : KT G q (d + 6) zk_X8_add 0 [(0, vr 80), (1, vi l1), (2, vi l2), (3, vi (x.1 100 9))] [] x (ri (fun r2 x1 => vp_in r2 400 ∧ (∀ x4 : gd, x4 = si x1 85 (r2 : Int32).toNatClampNeg l5 → vp_in r2 400 ∧ (∀ x6 : gd, x6 = si x4 88 (r2 : Int32).toNatClampNeg s0 → KE G q (d + 7) zk_X7_plainStatement 180 [(0, vr 100)] [] x6 P X))))) :
    KE G q (d + 7) zk_X7_plainStatement 139 [(0, vr 100), (1, vi l1), (2, vi l2), (5, vi l5)] [vi s0] x P X := by
  refine T_istore (lv2 := [(7, vi s0), (0, vr 100), (1, vi l1), (2, vi l2), (5, vi l5)]) (dk dtk_X7_plainStatement 74 rfl) (by decide) rfl ?_
  refine T_aload_n 1 (dk dtk_X7_plainStatement 75 rfl) rfl rfl ?_
  refine T_getR 100 3 80 (dk dtk_X7_plainStatement 76 rfl) kfl_X7_29 kk_100 (kl_100 hq) (by decide) rfl kr_100_3 ?_
  refine T_iload_n 2 (dk dtk_X7_plainStatement 77 rfl) rfl rfl ?_
  refine T_iload_n 3 (dk dtk_X7_plainStatement 78 rfl) rfl rfl ?_
  refine T_aload_n 1 (dk dtk_X7_plainStatement 79 rfl) rfl rfl ?_
  refine T_getI 100 9 (dk dtk_X7_plainStatement 80 rfl) kfl_X7_181 kk_100 (kl_100 hq) (by decide) rfl ?_
  refine T_sub (lv2 := [(7, vi s0), (0, vr 100), (5, vi l5)]) [0, 1, 4] rfl ?_
  refine KC_Vi [vi l1, vi l2, vi (x.1 100 9)] [] rfl (dk dtk_X7_plainStatement 81 rfl) kcv_X7_191 rfl kk_80 rfl (kl_80 hq) (Nat.le_of_ble_eq_true rfl) (Nat.le_of_ble_eq_true rfl) (gok_i (av_c rfl (av_c (gkr (kl_100 hq)) (av_c rfl av_n))) as_n) rfl h (fun r2 x1 h => ?_)
  refine T_istore (lv2 := [(4, vi r2), (7, vi s0), (0, vr 100), (5, vi l5)]) (dk dtk_X7_plainStatement 82 rfl) (by decide) rfl ?_
  refine T_aload_n 2 (dk dtk_X7_plainStatement 83 rfl) rfl rfl ?_
  refine T_getR 100 3 80 (dk dtk_X7_plainStatement 84 rfl) kfl_X7_29 kk_100 (kl_100 hq) (by decide) rfl kr_100_3 ?_
  refine T_getR 80 4 85 (dk dtk_X7_plainStatement 85 rfl) kfl_X7_220 kk_80 (kl_80 hq) (by decide) rfl kr_80_4 ?_
  refine T_iload 0 (dk dtk_X7_plainStatement 86 rfl) rfl ?_
  refine T_iload 3 (dk dtk_X7_plainStatement 87 rfl) rfl ?_
  obtain ⟨h3, h⟩ := h
  obtain ⟨x4, ex4⟩ : ∃ z, z = si x1 85 (r2 : Int32).toNatClampNeg l5 := ⟨_, rfl⟩
  have h := h x4 ex4
  refine T_iast 85 400 (dk dtk_X7_plainStatement 88 rfl) kk_85 (kl_85 hq) h3 ?_
  rw [← ex4]
  refine T_aload_n 2 (dk dtk_X7_plainStatement 89 rfl) rfl rfl ?_
  refine T_getR 100 3 80 (dk dtk_X7_plainStatement 90 rfl) kfl_X7_29 kk_100 (kl_100 hq) (by decide) rfl kr_100_3 ?_
  refine T_getR 80 7 88 (dk dtk_X7_plainStatement 91 rfl) kfl_X7_233 kk_80 (kl_80 hq) (by decide) rfl kr_80_7 ?_
  refine T_iload 0 (dk dtk_X7_plainStatement 92 rfl) rfl ?_
  refine T_iload 1 (dk dtk_X7_plainStatement 93 rfl) rfl ?_
  obtain ⟨h5, h⟩ := h
  obtain ⟨x6, ex6⟩ : ∃ z, z = si x4 88 (r2 : Int32).toNatClampNeg s0 := ⟨_, rfl⟩
  have h := h x6 ex6
  refine T_iast 88 400 (dk dtk_X7_plainStatement 94 rfl) kk_88 (kl_88 hq) h5 ?_
  rw [← ex6]
  exact T_sub [2] rfl h
set_option maxRecDepth 100000 in
set_option maxHeartbeats 4000000 in
theorem kg_X7_plainStatement_180 {G : kG} {q : kP} {d : Nat} {x : gd} {P : Option gv → gd → Prop} {X : String → gd → Prop} (hq : kV q) 
    (h : KE G q (d + 6) zk_X7_need 0 [(0, vr 100), (1, vi 27)] [] x (rv (fun x1 => P none x1)) X) :
    KE G q (d + 7) zk_X7_plainStatement 180 [(0, vr 100)] [] x P X := by
  refine T_aload_n 0 (dk dtk_X7_plainStatement 95 rfl) rfl rfl ?_
  refine T_bipush (v := 27) (dk dtk_X7_plainStatement 96 rfl) (by decide +kernel) ?_
  refine T_sub (lv2 := []) [] rfl ?_
  refine KD_Vv [vi 27] [] rfl (dk dtk_X7_plainStatement 97 rfl) kcv_X7_115 rfl kk_100 rfl (kl_100 hq) (Nat.le_of_ble_eq_true rfl) (Nat.le_of_ble_eq_true rfl) (gok_i av_n as_n) rfl h (fun x1 h => ?_)
  exact KE_vret (dk dtk_X7_plainStatement 98 rfl) rfl h
set_option maxRecDepth 100000 in
theorem dtk_X7_nameStep : dck cX7_nameStep [(0, .aload_n 0, 1), (1, .iconst 2, 1), (2, .iload_n 1, 1), (3, .bipush 9, 2), (5, .if_icmp .eq 9, 3), (8, .iload_n 1, 1), (9, .bipush 10, 2), (11, .if_icmp .ne 7, 3), (14, .iconst 5, 1), (15, .goto 4, 3), (18, .iconst 4, 1), (19, .invokevirtual 130, 3), (22, .istore_n 3, 1), (23, .aload_n 0, 1), (24, .getfield 29, 3), (27, .iload_n 1, 1), (28, .iload_n 2, 1), (29, .aload_n 0, 1), (30, .getfield 181, 3), (33, .invokevirtual 191, 3), (36, .istore 4, 2), (38, .aload_n 0, 1), (39, .getfield 29, 3), (42, .getfield 220, 3), (45, .iload 4, 2), (47, .iload_n 3, 1), (48, .iastore, 1), (49, .iload 4, 2), (51, .ireturn, 1)] = true := by decide +kernel
set_option maxRecDepth 100000 in
set_option maxHeartbeats 4000000 in
theorem kg_X7_nameStep_0 {G : kG} {q : kP} {d : Nat} {x : gd} {P : Option gv → gd → Prop} {X : String → gd → Prop} (hq : kV q) (l1 : Int32) (l2 : Int32)
    (h : ((l1 = (9 : Int32) → KE G q (d + 7) zk_X7_nameStep 19 [(0, vr 100), (1, vi l1), (2, vi l2)] [vi 5, vi 2, vr 100] x P X) ∧ (¬ (l1 = (9 : Int32)) → ((¬ (l1 = (10 : Int32)) → KE G q (d + 7) zk_X7_nameStep 19 [(0, vr 100), (1, vi l1), (2, vi l2)] [vi 4, vi 2, vr 100] x P X) ∧ (l1 = (10 : Int32) → KE G q (d + 7) zk_X7_nameStep 19 [(0, vr 100), (1, vi l1), (2, vi l2)] [vi 5, vi 2, vr 100] x P X))))) :
    KE G q (d + 7) zk_X7_nameStep 0 [(0, vr 100), (1, vi l1), (2, vi l2)] [] x P X := by
  refine T_aload_n 0 (dk dtk_X7_nameStep 0 rfl) rfl rfl ?_
  refine T_iconst (v := 2) (dk dtk_X7_nameStep 1 rfl) (by decide +kernel) ?_
  refine T_iload_n 1 (dk dtk_X7_nameStep 2 rfl) rfl rfl ?_
  refine T_bipush (v := 9) (dk dtk_X7_nameStep 3 rfl) (by decide +kernel) ?_
  refine T_icmp_eq 14 (dk dtk_X7_nameStep 4 rfl) (by decide) (fun c1 => ?_) (fun c1 => ?_)
  · have h := h.1 c1
    refine T_iconst (v := 5) (dk dtk_X7_nameStep 8 rfl) (by decide +kernel) ?_
    refine T_goto 19 (dk dtk_X7_nameStep 9 rfl) (by decide) ?_
    exact h
  · have h := h.2 c1
    refine T_iload_n 1 (dk dtk_X7_nameStep 5 rfl) rfl rfl ?_
    refine T_bipush (v := 10) (dk dtk_X7_nameStep 6 rfl) (by decide +kernel) ?_
    refine T_icmp_ne 18 (dk dtk_X7_nameStep 7 rfl) (by decide) (fun c2 => ?_) (fun c2 => ?_)
    · have h := h.1 c2
      refine T_iconst (v := 4) (dk dtk_X7_nameStep 10 rfl) (by decide +kernel) ?_
      exact h
    · have h := h.2 c2
      refine T_iconst (v := 5) (dk dtk_X7_nameStep 8 rfl) (by decide +kernel) ?_
      refine T_goto 19 (dk dtk_X7_nameStep 9 rfl) (by decide) ?_
      exact h
set_option maxRecDepth 100000 in
set_option maxHeartbeats 4000000 in
theorem kg_X7_nameStep_19 {G : kG} {q : kP} {d : Nat} {x : gd} {P : Option gv → gd → Prop} {X : String → gd → Prop} (hq : kV q) (l1 : Int32) (l2 : Int32) (s0 : Int32) (s1 : Int32)
    (h : KE G q (d + 6) zk_X7_needFor 0 [(0, vr 100), (1, vi s1), (2, vi s0)] [] x (ri (fun r2 x1 => KT G q (d + 6) zk_X8_add 0 [(0, vr 80), (1, vi l1), (2, vi l2), (3, vi (x1.1 100 9))] [] x1 (ri (fun r4 x3 => vp_in r4 400 ∧ (∀ x6 : gd, x6 = si x3 85 (r4 : Int32).toNatClampNeg r2 → P (some (vi r4)) x6))))) X) :
    KE G q (d + 7) zk_X7_nameStep 19 [(0, vr 100), (1, vi l1), (2, vi l2)] [vi s0, vi s1, vr 100] x P X := by
  refine KD_Vi [vi s1, vi s0] [] rfl (dk dtk_X7_nameStep 11 rfl) kcv_X7_130 rfl kk_100 rfl (kl_100 hq) (Nat.le_of_ble_eq_true rfl) (Nat.le_of_ble_eq_true rfl) (gok_i (av_c (gkr (kl_100 hq)) (av_c rfl (av_c rfl av_n))) as_n) rfl h (fun r2 x1 h => ?_)
  refine T_istore_n (lv2 := [(3, vi r2), (0, vr 100), (1, vi l1), (2, vi l2)]) (dk dtk_X7_nameStep 12 rfl) rfl (by decide) rfl ?_
  refine T_aload_n 1 (dk dtk_X7_nameStep 13 rfl) rfl rfl ?_
  refine T_getR 100 3 80 (dk dtk_X7_nameStep 14 rfl) kfl_X7_29 kk_100 (kl_100 hq) (by decide) rfl kr_100_3 ?_
  refine T_iload_n 2 (dk dtk_X7_nameStep 15 rfl) rfl rfl ?_
  refine T_iload_n 3 (dk dtk_X7_nameStep 16 rfl) rfl rfl ?_
  refine T_aload_n 1 (dk dtk_X7_nameStep 17 rfl) rfl rfl ?_
  refine T_getI 100 9 (dk dtk_X7_nameStep 18 rfl) kfl_X7_181 kk_100 (kl_100 hq) (by decide) rfl ?_
  refine T_sub (lv2 := [(3, vi r2), (0, vr 100)]) [0, 1] rfl ?_
  refine KC_Vi [vi l1, vi l2, vi (x1.1 100 9)] [] rfl (dk dtk_X7_nameStep 19 rfl) kcv_X7_191 rfl kk_80 rfl (kl_80 hq) (Nat.le_of_ble_eq_true rfl) (Nat.le_of_ble_eq_true rfl) (gok_i (av_c rfl (av_c (gkr (kl_100 hq)) av_n)) as_n) rfl h (fun r4 x3 h => ?_)
  refine T_istore (lv2 := [(4, vi r4), (3, vi r2), (0, vr 100)]) (dk dtk_X7_nameStep 20 rfl) (by decide) rfl ?_
  refine T_aload_n 2 (dk dtk_X7_nameStep 21 rfl) rfl rfl ?_
  refine T_getR 100 3 80 (dk dtk_X7_nameStep 22 rfl) kfl_X7_29 kk_100 (kl_100 hq) (by decide) rfl kr_100_3 ?_
  refine T_getR 80 4 85 (dk dtk_X7_nameStep 23 rfl) kfl_X7_220 kk_80 (kl_80 hq) (by decide) rfl kr_80_4 ?_
  refine T_iload 0 (dk dtk_X7_nameStep 24 rfl) rfl ?_
  refine T_iload_n 1 (dk dtk_X7_nameStep 25 rfl) rfl rfl ?_
  obtain ⟨h5, h⟩ := h
  obtain ⟨x6, ex6⟩ : ∃ z, z = si x3 85 (r4 : Int32).toNatClampNeg r2 := ⟨_, rfl⟩
  have h := h x6 ex6
  refine T_iast 85 400 (dk dtk_X7_nameStep 26 rfl) kk_85 (kl_85 hq) h5 ?_
  rw [← ex6]
  refine T_iload 0 (dk dtk_X7_nameStep 27 rfl) rfl ?_
  exact KE_iret (dk dtk_X7_nameStep 28 rfl) rfl rfl h
