set_option maxRecDepth 100000 in
theorem dt_pack : dck cX12_pack [(0, .iload_n 2, 1), (1, .istore_n 3, 1), (2, .iconst 0, 1), (3, .istore 4, 2), (5, .iload 4, 2), (7, .bipush 24, 2), (9, .if_icmp .ge 22, 3), (12, .aload_n 1, 1), (13, .iload_n 3, 1), (14, .aload_n 0, 1), (15, .getfield 142, 3), (18, .iload 4, 2), (20, .iaload, 1), (21, .iastore, 1), (22, .iinc 3 1, 3), (25, .iinc 4 1, 3), (28, .goto (-23), 3), (31, .iconst 0, 1), (32, .istore 4, 2), (34, .iload 4, 2), (36, .bipush 6, 2), (38, .if_icmp .ge 34, 3), (41, .aload_n 1, 1), (42, .iload_n 3, 1), (43, .aload_n 0, 1), (44, .getfield 145, 3), (47, .iload 4, 2), (49, .iaload, 1), (50, .iastore, 1), (51, .aload_n 1, 1), (52, .iload_n 3, 1), (53, .iconst 1, 1), (54, .iadd, 1), (55, .aload_n 0, 1), (56, .getfield 148, 3), (59, .iload 4, 2), (61, .iaload, 1), (62, .iastore, 1), (63, .iinc 3 2, 3), (66, .iinc 4 1, 3), (69, .goto (-35), 3), (72, .iconst 0, 1), (73, .istore 4, 2), (75, .iload 4, 2), (77, .bipush 6, 2), (79, .if_icmp .ge 215, 3), (82, .aload_n 1, 1), (83, .iload_n 3, 1), (84, .aload_n 0, 1), (85, .getfield 151, 3), (88, .iload 4, 2), (90, .iaload, 1), (91, .iastore, 1), (92, .aload_n 1, 1), (93, .iload_n 3, 1), (94, .iconst 1, 1), (95, .iadd, 1), (96, .aload_n 0, 1), (97, .getfield 154, 3), (100, .iload 4, 2), (102, .iaload, 1), (103, .iastore, 1), (104, .aload_n 1, 1), (105, .iload_n 3, 1), (106, .iconst 2, 1), (107, .iadd, 1), (108, .aload_n 0, 1), (109, .getfield 157, 3), (112, .iload 4, 2), (114, .iaload, 1), (115, .iastore, 1), (116, .aload_n 1, 1), (117, .iload_n 3, 1), (118, .iconst 3, 1), (119, .iadd, 1), (120, .aload_n 0, 1), (121, .getfield 163, 3), (124, .iload 4, 2), (126, .iaload, 1), (127, .iastore, 1), (128, .aload_n 1, 1), (129, .iload_n 3, 1), (130, .iconst 4, 1), (131, .iadd, 1), (132, .aload_n 0, 1), (133, .getfield 166, 3), (136, .iload 4, 2), (138, .iaload, 1), (139, .iastore, 1), (140, .aload_n 1, 1), (141, .iload_n 3, 1), (142, .iconst 5, 1), (143, .iadd, 1), (144, .aload_n 0, 1), (145, .getfield 169, 3), (148, .iload 4, 2), (150, .iaload, 1), (151, .iastore, 1), (152, .aload_n 1, 1), (153, .iload_n 3, 1), (154, .bipush 6, 2), (156, .iadd, 1), (157, .aload_n 0, 1), (158, .getfield 172, 3), (161, .iload 4, 2), (163, .iaload, 1), (164, .iastore, 1), (165, .iinc 3 7, 3), (168, .iconst 0, 1), (169, .istore 5, 2), (171, .iload 5, 2), (173, .bipush 8, 2), (175, .if_icmp .ge 28, 3), (178, .aload_n 1, 1), (179, .iload_n 3, 1), (180, .aload_n 0, 1), (181, .getfield 160, 3), (184, .bipush 8, 2), (186, .iload 4, 2), (188, .imul, 1), (189, .iload 5, 2), (191, .iadd, 1), (192, .iaload, 1), (193, .iastore, 1), (194, .iinc 3 1, 3), (197, .iinc 5 1, 3), (200, .goto (-29), 3), (203, .iconst 0, 1), (204, .istore 5, 2), (206, .iload 5, 2), (208, .bipush 8, 2), (210, .if_icmp .ge 78, 3), (213, .aload_n 1, 1), (214, .iload_n 3, 1), (215, .iload 5, 2), (217, .aload_n 0, 1), (218, .getfield 172, 3), (221, .iload 4, 2), (223, .iaload, 1), (224, .if_icmp .ge 19, 3), (227, .aload_n 0, 1), (228, .getfield 175, 3), (231, .bipush 10, 2), (233, .iload 4, 2), (235, .imul, 1), (236, .iload 5, 2), (238, .iadd, 1), (239, .iaload, 1), (240, .goto 4, 3), (243, .iconst 0, 1), (244, .iastore, 1), (245, .aload_n 1, 1), (246, .iload_n 3, 1), (247, .iconst 1, 1), (248, .iadd, 1), (249, .iload 5, 2), (251, .aload_n 0, 1), (252, .getfield 172, 3), (255, .iload 4, 2), (257, .iaload, 1), (258, .if_icmp .ge 19, 3), (261, .aload_n 0, 1), (262, .getfield 178, 3), (265, .bipush 10, 2), (267, .iload 4, 2), (269, .imul, 1), (270, .iload 5, 2), (272, .iadd, 1), (273, .iaload, 1), (274, .goto 4, 3), (277, .iconst 0, 1), (278, .iastore, 1), (279, .iinc 3 2, 3), (282, .iinc 5 1, 3), (285, .goto (-79), 3), (288, .iinc 4 1, 3), (291, .goto (-216), 3), (294, .aload_n 0, 1), (295, .iload_n 3, 1), (296, .iload_n 2, 1), (297, .isub, 1), (298, .putfield 720, 3), (301, .return_, 1)] = true := by decide +kernel
set_option maxRecDepth 100000 in
set_option maxHeartbeats 4000000 in
theorem sg_pack_0 {G : mG} {d : Nat} {x : gd} {P : Option gv → gd → Prop} {a1 n1 : Nat} (ka1 : mK a1 = .inr (.int, n1)) (ma1 : a1 ∈ mL) (l2 : Int32)
    (h : MT G d z_pack 5 [(0, vr 0), (1, vr a1), (2, vi l2), (3, vi l2), (4, vi 0)] [] x P) :
    MT G d z_pack 0 [(0, vr 0), (1, vr a1), (2, vi l2)] [] x P := by
  refine T_iload_n 2 (dk dt_pack 0 rfl) rfl rfl ?_
  refine T_istore_n (lv2 := [(3, vi l2), (0, vr 0), (1, vr a1), (2, vi l2)]) (dk dt_pack 1 rfl) rfl (by decide) rfl ?_
  refine T_iconst (v := 0) (dk dt_pack 2 rfl) (by decide +kernel) ?_
  refine T_istore (lv2 := [(4, vi 0), (3, vi l2), (0, vr 0), (1, vr a1), (2, vi l2)]) (dk dt_pack 3 rfl) (by decide) rfl ?_
  exact T_sub [2, 3, 4, 1, 0] rfl h
set_option maxRecDepth 100000 in
set_option maxHeartbeats 4000000 in
theorem sg_pack_5 {G : mG} {d : Nat} {x : gd} {P : Option gv → gd → Prop} {a1 n1 : Nat} (ka1 : mK a1 = .inr (.int, n1)) (ma1 : a1 ∈ mL) (l2 : Int32) (l3 : Int32) (l4 : Int32)
    (h : (((24 : Int32) ≤ l4 → MT G d z_pack 34 [(0, vr 0), (1, vr a1), (2, vi l2), (3, vi l3), (4, vi 0)] [] x P) ∧ (¬ ((24 : Int32) ≤ l4) → vp_in l4 24 ∧ vp_in l3 n1 ∧ (∀ x4 : gd, x4 = si x a1 (l3 : Int32).toNatClampNeg (x.1 70 (l4 : Int32).toNatClampNeg) → MT G d z_pack 5 [(0, vr 0), (1, vr a1), (2, vi l2), (3, vi (l3 + 1)), (4, vi (l4 + 1))] [] x4 P)))) :
    MT G d z_pack 5 [(0, vr 0), (1, vr a1), (2, vi l2), (3, vi l3), (4, vi l4)] [] x P := by
  refine T_iload 4 (dk dt_pack 4 rfl) rfl ?_
  refine T_bipush (v := 24) (dk dt_pack 5 rfl) (by decide +kernel) ?_
  refine T_icmp_ge 31 (dk dt_pack 6 rfl) (by decide) (fun c1 => ?_) (fun c1 => ?_)
  · have h := h.1 c1
    refine T_iconst (v := 0) (dk dt_pack 17 rfl) (by decide +kernel) ?_
    refine T_istore (lv2 := [(4, vi 0), (0, vr 0), (1, vr a1), (2, vi l2), (3, vi l3)]) (dk dt_pack 18 rfl) (by decide) rfl ?_
    exact T_sub [1, 2, 3, 4, 0] rfl h
  · have h := h.2 c1
    refine T_aload_n 1 (dk dt_pack 7 rfl) rfl rfl ?_
    refine T_iload_n 3 (dk dt_pack 8 rfl) rfl rfl ?_
    refine T_aload_n 0 (dk dt_pack 9 rfl) rfl rfl ?_
    refine T_getR 0 69 70 (dk dt_pack 10 rfl) fl_142 mk_0 ml_0 (by decide) rfl rfl ?_
    refine T_iload 4 (dk dt_pack 11 rfl) rfl ?_
    obtain ⟨h2, h⟩ := h
    refine T_iald 70 24 (dk dt_pack 12 rfl) mk_70 ml_70 h2 ?_
    obtain ⟨h3, h⟩ := h
    obtain ⟨x4, ex4⟩ : ∃ z, z = si x a1 (l3 : Int32).toNatClampNeg (x.1 70 (l4 : Int32).toNatClampNeg) := ⟨_, rfl⟩
    have h := h x4 ex4
    refine T_iast a1 n1 (dk dt_pack 13 rfl) ka1 ma1 h3 ?_
    rw [← ex4]
    refine T_iinc (v := l3 + 1) (lv2 := [(3, vi (l3 + 1)), (0, vr 0), (1, vr a1), (2, vi l2), (4, vi l4)]) 3 (dk dt_pack 14 rfl) rfl rfl (by decide) rfl ?_
    refine T_iinc (v := l4 + 1) (lv2 := [(4, vi (l4 + 1)), (3, vi (l3 + 1)), (0, vr 0), (1, vr a1), (2, vi l2)]) 4 (dk dt_pack 15 rfl) rfl rfl (by decide) rfl ?_
    refine T_goto 5 (dk dt_pack 16 rfl) (by decide) ?_
    exact T_sub [2, 3, 4, 1, 0] rfl h
set_option maxRecDepth 100000 in
set_option maxHeartbeats 4000000 in
theorem sg_pack_34 {G : mG} {d : Nat} {x : gd} {P : Option gv → gd → Prop} {a1 n1 : Nat} (ka1 : mK a1 = .inr (.int, n1)) (ma1 : a1 ∈ mL) (l2 : Int32) (l3 : Int32) (l4 : Int32)
    (h : (((6 : Int32) ≤ l4 → MT G d z_pack 75 [(0, vr 0), (1, vr a1), (2, vi l2), (3, vi l3), (4, vi 0)] [] x P) ∧ (¬ ((6 : Int32) ≤ l4) → vp_in l4 6 ∧ vp_in l3 n1 ∧ (∀ x4 : gd, x4 = si x a1 (l3 : Int32).toNatClampNeg (x.1 71 (l4 : Int32).toNatClampNeg) → vp_in l4 6 ∧ vp_in (l3 + 1) n1 ∧ (∀ x7 : gd, x7 = si x4 a1 (l3 + 1 : Int32).toNatClampNeg (x4.1 72 (l4 : Int32).toNatClampNeg) → MT G d z_pack 34 [(0, vr 0), (1, vr a1), (2, vi l2), (3, vi (l3 + 2)), (4, vi (l4 + 1))] [] x7 P))))) :
    MT G d z_pack 34 [(0, vr 0), (1, vr a1), (2, vi l2), (3, vi l3), (4, vi l4)] [] x P := by
  refine T_iload 4 (dk dt_pack 19 rfl) rfl ?_
  refine T_bipush (v := 6) (dk dt_pack 20 rfl) (by decide +kernel) ?_
  refine T_icmp_ge 72 (dk dt_pack 21 rfl) (by decide) (fun c1 => ?_) (fun c1 => ?_)
  · have h := h.1 c1
    refine T_iconst (v := 0) (dk dt_pack 41 rfl) (by decide +kernel) ?_
    refine T_istore (lv2 := [(4, vi 0), (0, vr 0), (1, vr a1), (2, vi l2), (3, vi l3)]) (dk dt_pack 42 rfl) (by decide) rfl ?_
    exact T_sub [1, 2, 3, 4, 0] rfl h
  · have h := h.2 c1
    refine T_aload_n 1 (dk dt_pack 22 rfl) rfl rfl ?_
    refine T_iload_n 3 (dk dt_pack 23 rfl) rfl rfl ?_
    refine T_aload_n 0 (dk dt_pack 24 rfl) rfl rfl ?_
    refine T_getR 0 70 71 (dk dt_pack 25 rfl) fl_145 mk_0 ml_0 (by decide) rfl rfl ?_
    refine T_iload 4 (dk dt_pack 26 rfl) rfl ?_
    obtain ⟨h2, h⟩ := h
    refine T_iald 71 6 (dk dt_pack 27 rfl) mk_71 ml_71 h2 ?_
    obtain ⟨h3, h⟩ := h
    obtain ⟨x4, ex4⟩ : ∃ z, z = si x a1 (l3 : Int32).toNatClampNeg (x.1 71 (l4 : Int32).toNatClampNeg) := ⟨_, rfl⟩
    have h := h x4 ex4
    refine T_iast a1 n1 (dk dt_pack 28 rfl) ka1 ma1 h3 ?_
    rw [← ex4]
    refine T_aload_n 1 (dk dt_pack 29 rfl) rfl rfl ?_
    refine T_iload_n 3 (dk dt_pack 30 rfl) rfl rfl ?_
    refine T_iconst (v := 1) (dk dt_pack 31 rfl) (by decide +kernel) ?_
    refine T_iadd (dk dt_pack 32 rfl) ?_
    refine T_aload_n 0 (dk dt_pack 33 rfl) rfl rfl ?_
    refine T_getR 0 71 72 (dk dt_pack 34 rfl) fl_148 mk_0 ml_0 (by decide) rfl rfl ?_
    refine T_iload 4 (dk dt_pack 35 rfl) rfl ?_
    obtain ⟨h5, h⟩ := h
    refine T_iald 72 6 (dk dt_pack 36 rfl) mk_72 ml_72 h5 ?_
    obtain ⟨h6, h⟩ := h
    obtain ⟨x7, ex7⟩ : ∃ z, z = si x4 a1 (l3 + 1 : Int32).toNatClampNeg (x4.1 72 (l4 : Int32).toNatClampNeg) := ⟨_, rfl⟩
    have h := h x7 ex7
    refine T_iast a1 n1 (dk dt_pack 37 rfl) ka1 ma1 h6 ?_
    rw [← ex7]
    refine T_iinc (v := l3 + 2) (lv2 := [(3, vi (l3 + 2)), (0, vr 0), (1, vr a1), (2, vi l2), (4, vi l4)]) 3 (dk dt_pack 38 rfl) rfl rfl (by decide) rfl ?_
    refine T_iinc (v := l4 + 1) (lv2 := [(4, vi (l4 + 1)), (3, vi (l3 + 2)), (0, vr 0), (1, vr a1), (2, vi l2)]) 4 (dk dt_pack 39 rfl) rfl rfl (by decide) rfl ?_
    refine T_goto 34 (dk dt_pack 40 rfl) (by decide) ?_
    exact T_sub [2, 3, 4, 1, 0] rfl h
set_option maxRecDepth 100000 in
set_option maxHeartbeats 4000000 in
theorem sg_pack_75 {G : mG} {d : Nat} {x : gd} {P : Option gv → gd → Prop} {a1 n1 : Nat} (ka1 : mK a1 = .inr (.int, n1)) (ma1 : a1 ∈ mL) (l2 : Int32) (l3 : Int32) (l4 : Int32)
    (h : (((6 : Int32) ≤ l4 → (∀ x2 : gd, x2 = si x 0 136 (l3 - l2) → P none x2)) ∧ (¬ ((6 : Int32) ≤ l4) → vp_in l4 6 ∧ vp_in l3 n1 ∧ (∀ x5 : gd, x5 = si x a1 (l3 : Int32).toNatClampNeg (x.1 73 (l4 : Int32).toNatClampNeg) → vp_in l4 6 ∧ vp_in (l3 + 1) n1 ∧ (∀ x8 : gd, x8 = si x5 a1 (l3 + 1 : Int32).toNatClampNeg (x5.1 74 (l4 : Int32).toNatClampNeg) → vp_in l4 6 ∧ vp_in (l3 + 2) n1 ∧ (∀ x11 : gd, x11 = si x8 a1 (l3 + 2 : Int32).toNatClampNeg (x8.1 75 (l4 : Int32).toNatClampNeg) → vp_in l4 6 ∧ vp_in (l3 + 3) n1 ∧ (∀ x14 : gd, x14 = si x11 a1 (l3 + 3 : Int32).toNatClampNeg (x11.1 77 (l4 : Int32).toNatClampNeg) → vp_in l4 6 ∧ vp_in (l3 + 4) n1 ∧ (∀ x17 : gd, x17 = si x14 a1 (l3 + 4 : Int32).toNatClampNeg (x14.1 78 (l4 : Int32).toNatClampNeg) → vp_in l4 6 ∧ vp_in (l3 + 5) n1 ∧ (∀ x20 : gd, x20 = si x17 a1 (l3 + 5 : Int32).toNatClampNeg (x17.1 79 (l4 : Int32).toNatClampNeg) → vp_in l4 6 ∧ vp_in (l3 + 6) n1 ∧ (∀ x23 : gd, x23 = si x20 a1 (l3 + 6 : Int32).toNatClampNeg (x20.1 80 (l4 : Int32).toNatClampNeg) → MT G d z_pack 171 [(0, vr 0), (1, vr a1), (2, vi l2), (3, vi (l3 + 7)), (4, vi l4), (5, vi 0)] [] x23 P)))))))))) :
    MT G d z_pack 75 [(0, vr 0), (1, vr a1), (2, vi l2), (3, vi l3), (4, vi l4)] [] x P := by
  refine T_iload 4 (dk dt_pack 43 rfl) rfl ?_
  refine T_bipush (v := 6) (dk dt_pack 44 rfl) (by decide +kernel) ?_
  refine T_icmp_ge 294 (dk dt_pack 45 rfl) (by decide) (fun c1 => ?_) (fun c1 => ?_)
  · have h := h.1 c1
    refine T_aload_n 0 (dk dt_pack 177 rfl) rfl rfl ?_
    refine T_iload_n 3 (dk dt_pack 178 rfl) rfl rfl ?_
    refine T_iload_n 2 (dk dt_pack 179 rfl) rfl rfl ?_
    refine T_isub (dk dt_pack 180 rfl) ?_
    obtain ⟨x2, ex2⟩ : ∃ z, z = si x 0 136 (l3 - l2) := ⟨_, rfl⟩
    have h := h x2 ex2
    refine T_putI 0 136 (dk dt_pack 181 rfl) fl_720 mk_0 ml_0 (by decide) rfl ⟨rfl, rfl⟩ ?_
    rw [← ex2]
    exact MT_vret (dk dt_pack 182 rfl) rfl h
  · have h := h.2 c1
    refine T_aload_n 1 (dk dt_pack 46 rfl) rfl rfl ?_
    refine T_iload_n 3 (dk dt_pack 47 rfl) rfl rfl ?_
    refine T_aload_n 0 (dk dt_pack 48 rfl) rfl rfl ?_
    refine T_getR 0 72 73 (dk dt_pack 49 rfl) fl_151 mk_0 ml_0 (by decide) rfl rfl ?_
    refine T_iload 4 (dk dt_pack 50 rfl) rfl ?_
    obtain ⟨h3, h⟩ := h
    refine T_iald 73 6 (dk dt_pack 51 rfl) mk_73 ml_73 h3 ?_
    obtain ⟨h4, h⟩ := h
    obtain ⟨x5, ex5⟩ : ∃ z, z = si x a1 (l3 : Int32).toNatClampNeg (x.1 73 (l4 : Int32).toNatClampNeg) := ⟨_, rfl⟩
    have h := h x5 ex5
    refine T_iast a1 n1 (dk dt_pack 52 rfl) ka1 ma1 h4 ?_
    rw [← ex5]
    refine T_aload_n 1 (dk dt_pack 53 rfl) rfl rfl ?_
    refine T_iload_n 3 (dk dt_pack 54 rfl) rfl rfl ?_
    refine T_iconst (v := 1) (dk dt_pack 55 rfl) (by decide +kernel) ?_
    refine T_iadd (dk dt_pack 56 rfl) ?_
    refine T_aload_n 0 (dk dt_pack 57 rfl) rfl rfl ?_
    refine T_getR 0 73 74 (dk dt_pack 58 rfl) fl_154 mk_0 ml_0 (by decide) rfl rfl ?_
    refine T_iload 4 (dk dt_pack 59 rfl) rfl ?_
    obtain ⟨h6, h⟩ := h
    refine T_iald 74 6 (dk dt_pack 60 rfl) mk_74 ml_74 h6 ?_
    obtain ⟨h7, h⟩ := h
    obtain ⟨x8, ex8⟩ : ∃ z, z = si x5 a1 (l3 + 1 : Int32).toNatClampNeg (x5.1 74 (l4 : Int32).toNatClampNeg) := ⟨_, rfl⟩
    have h := h x8 ex8
    refine T_iast a1 n1 (dk dt_pack 61 rfl) ka1 ma1 h7 ?_
    rw [← ex8]
    refine T_aload_n 1 (dk dt_pack 62 rfl) rfl rfl ?_
    refine T_iload_n 3 (dk dt_pack 63 rfl) rfl rfl ?_
    refine T_iconst (v := 2) (dk dt_pack 64 rfl) (by decide +kernel) ?_
    refine T_iadd (dk dt_pack 65 rfl) ?_
    refine T_aload_n 0 (dk dt_pack 66 rfl) rfl rfl ?_
    refine T_getR 0 74 75 (dk dt_pack 67 rfl) fl_157 mk_0 ml_0 (by decide) rfl rfl ?_
    refine T_iload 4 (dk dt_pack 68 rfl) rfl ?_
    obtain ⟨h9, h⟩ := h
    refine T_iald 75 6 (dk dt_pack 69 rfl) mk_75 ml_75 h9 ?_
    obtain ⟨h10, h⟩ := h
    obtain ⟨x11, ex11⟩ : ∃ z, z = si x8 a1 (l3 + 2 : Int32).toNatClampNeg (x8.1 75 (l4 : Int32).toNatClampNeg) := ⟨_, rfl⟩
    have h := h x11 ex11
    refine T_iast a1 n1 (dk dt_pack 70 rfl) ka1 ma1 h10 ?_
    rw [← ex11]
    refine T_aload_n 1 (dk dt_pack 71 rfl) rfl rfl ?_
    refine T_iload_n 3 (dk dt_pack 72 rfl) rfl rfl ?_
    refine T_iconst (v := 3) (dk dt_pack 73 rfl) (by decide +kernel) ?_
    refine T_iadd (dk dt_pack 74 rfl) ?_
    refine T_aload_n 0 (dk dt_pack 75 rfl) rfl rfl ?_
    refine T_getR 0 76 77 (dk dt_pack 76 rfl) fl_163 mk_0 ml_0 (by decide) rfl rfl ?_
    refine T_iload 4 (dk dt_pack 77 rfl) rfl ?_
    obtain ⟨h12, h⟩ := h
    refine T_iald 77 6 (dk dt_pack 78 rfl) mk_77 ml_77 h12 ?_
    obtain ⟨h13, h⟩ := h
    obtain ⟨x14, ex14⟩ : ∃ z, z = si x11 a1 (l3 + 3 : Int32).toNatClampNeg (x11.1 77 (l4 : Int32).toNatClampNeg) := ⟨_, rfl⟩
    have h := h x14 ex14
    refine T_iast a1 n1 (dk dt_pack 79 rfl) ka1 ma1 h13 ?_
    rw [← ex14]
    refine T_aload_n 1 (dk dt_pack 80 rfl) rfl rfl ?_
    refine T_iload_n 3 (dk dt_pack 81 rfl) rfl rfl ?_
    refine T_iconst (v := 4) (dk dt_pack 82 rfl) (by decide +kernel) ?_
    refine T_iadd (dk dt_pack 83 rfl) ?_
    refine T_aload_n 0 (dk dt_pack 84 rfl) rfl rfl ?_
    refine T_getR 0 77 78 (dk dt_pack 85 rfl) fl_166 mk_0 ml_0 (by decide) rfl rfl ?_
    refine T_iload 4 (dk dt_pack 86 rfl) rfl ?_
    obtain ⟨h15, h⟩ := h
    refine T_iald 78 6 (dk dt_pack 87 rfl) mk_78 ml_78 h15 ?_
    obtain ⟨h16, h⟩ := h
    obtain ⟨x17, ex17⟩ : ∃ z, z = si x14 a1 (l3 + 4 : Int32).toNatClampNeg (x14.1 78 (l4 : Int32).toNatClampNeg) := ⟨_, rfl⟩
    have h := h x17 ex17
    refine T_iast a1 n1 (dk dt_pack 88 rfl) ka1 ma1 h16 ?_
    rw [← ex17]
    refine T_aload_n 1 (dk dt_pack 89 rfl) rfl rfl ?_
    refine T_iload_n 3 (dk dt_pack 90 rfl) rfl rfl ?_
    refine T_iconst (v := 5) (dk dt_pack 91 rfl) (by decide +kernel) ?_
    refine T_iadd (dk dt_pack 92 rfl) ?_
    refine T_aload_n 0 (dk dt_pack 93 rfl) rfl rfl ?_
    refine T_getR 0 78 79 (dk dt_pack 94 rfl) fl_169 mk_0 ml_0 (by decide) rfl rfl ?_
    refine T_iload 4 (dk dt_pack 95 rfl) rfl ?_
    obtain ⟨h18, h⟩ := h
    refine T_iald 79 6 (dk dt_pack 96 rfl) mk_79 ml_79 h18 ?_
    obtain ⟨h19, h⟩ := h
    obtain ⟨x20, ex20⟩ : ∃ z, z = si x17 a1 (l3 + 5 : Int32).toNatClampNeg (x17.1 79 (l4 : Int32).toNatClampNeg) := ⟨_, rfl⟩
    have h := h x20 ex20
    refine T_iast a1 n1 (dk dt_pack 97 rfl) ka1 ma1 h19 ?_
    rw [← ex20]
    refine T_aload_n 1 (dk dt_pack 98 rfl) rfl rfl ?_
    refine T_iload_n 3 (dk dt_pack 99 rfl) rfl rfl ?_
    refine T_bipush (v := 6) (dk dt_pack 100 rfl) (by decide +kernel) ?_
    refine T_iadd (dk dt_pack 101 rfl) ?_
    refine T_aload_n 0 (dk dt_pack 102 rfl) rfl rfl ?_
    refine T_getR 0 79 80 (dk dt_pack 103 rfl) fl_172 mk_0 ml_0 (by decide) rfl rfl ?_
    refine T_iload 4 (dk dt_pack 104 rfl) rfl ?_
    obtain ⟨h21, h⟩ := h
    refine T_iald 80 6 (dk dt_pack 105 rfl) mk_80 ml_80 h21 ?_
    obtain ⟨h22, h⟩ := h
    obtain ⟨x23, ex23⟩ : ∃ z, z = si x20 a1 (l3 + 6 : Int32).toNatClampNeg (x20.1 80 (l4 : Int32).toNatClampNeg) := ⟨_, rfl⟩
    have h := h x23 ex23
    refine T_iast a1 n1 (dk dt_pack 106 rfl) ka1 ma1 h22 ?_
    rw [← ex23]
    refine T_iinc (v := l3 + 7) (lv2 := [(3, vi (l3 + 7)), (0, vr 0), (1, vr a1), (2, vi l2), (4, vi l4)]) 3 (dk dt_pack 107 rfl) rfl rfl (by decide) rfl ?_
    refine T_iconst (v := 0) (dk dt_pack 108 rfl) (by decide +kernel) ?_
    refine T_istore (lv2 := [(5, vi 0), (3, vi (l3 + 7)), (0, vr 0), (1, vr a1), (2, vi l2), (4, vi l4)]) (dk dt_pack 109 rfl) (by decide) rfl ?_
    exact T_sub [2, 3, 4, 1, 5, 0] rfl h
set_option maxRecDepth 100000 in
set_option maxHeartbeats 4000000 in
theorem sg_pack_171 {G : mG} {d : Nat} {x : gd} {P : Option gv → gd → Prop} {a1 n1 : Nat} (ka1 : mK a1 = .inr (.int, n1)) (ma1 : a1 ∈ mL) (l2 : Int32) (l3 : Int32) (l4 : Int32) (l5 : Int32)
    (h : (((8 : Int32) ≤ l5 → MT G d z_pack 206 [(0, vr 0), (1, vr a1), (2, vi l2), (3, vi l3), (4, vi l4), (5, vi 0)] [] x P) ∧ (¬ ((8 : Int32) ≤ l5) → vp_in ((8 * l4) + l5) 48 ∧ vp_in l3 n1 ∧ (∀ x4 : gd, x4 = si x a1 (l3 : Int32).toNatClampNeg (x.1 76 ((8 * l4) + l5 : Int32).toNatClampNeg) → MT G d z_pack 171 [(0, vr 0), (1, vr a1), (2, vi l2), (3, vi (l3 + 1)), (4, vi l4), (5, vi (l5 + 1))] [] x4 P)))) :
    MT G d z_pack 171 [(0, vr 0), (1, vr a1), (2, vi l2), (3, vi l3), (4, vi l4), (5, vi l5)] [] x P := by
  refine T_iload 5 (dk dt_pack 110 rfl) rfl ?_
  refine T_bipush (v := 8) (dk dt_pack 111 rfl) (by decide +kernel) ?_
  refine T_icmp_ge 203 (dk dt_pack 112 rfl) (by decide) (fun c1 => ?_) (fun c1 => ?_)
  · have h := h.1 c1
    refine T_iconst (v := 0) (dk dt_pack 127 rfl) (by decide +kernel) ?_
    refine T_istore (lv2 := [(5, vi 0), (0, vr 0), (1, vr a1), (2, vi l2), (3, vi l3), (4, vi l4)]) (dk dt_pack 128 rfl) (by decide) rfl ?_
    exact T_sub [1, 2, 3, 4, 5, 0] rfl h
  · have h := h.2 c1
    refine T_aload_n 1 (dk dt_pack 113 rfl) rfl rfl ?_
    refine T_iload_n 3 (dk dt_pack 114 rfl) rfl rfl ?_
    refine T_aload_n 0 (dk dt_pack 115 rfl) rfl rfl ?_
    refine T_getR 0 75 76 (dk dt_pack 116 rfl) fl_160 mk_0 ml_0 (by decide) rfl rfl ?_
    refine T_bipush (v := 8) (dk dt_pack 117 rfl) (by decide +kernel) ?_
    refine T_iload 4 (dk dt_pack 118 rfl) rfl ?_
    refine T_imul (dk dt_pack 119 rfl) ?_
    refine T_iload 5 (dk dt_pack 120 rfl) rfl ?_
    refine T_iadd (dk dt_pack 121 rfl) ?_
    obtain ⟨h2, h⟩ := h
    refine T_iald 76 48 (dk dt_pack 122 rfl) mk_76 ml_76 h2 ?_
    obtain ⟨h3, h⟩ := h
    obtain ⟨x4, ex4⟩ : ∃ z, z = si x a1 (l3 : Int32).toNatClampNeg (x.1 76 ((8 * l4) + l5 : Int32).toNatClampNeg) := ⟨_, rfl⟩
    have h := h x4 ex4
    refine T_iast a1 n1 (dk dt_pack 123 rfl) ka1 ma1 h3 ?_
    rw [← ex4]
    refine T_iinc (v := l3 + 1) (lv2 := [(3, vi (l3 + 1)), (0, vr 0), (1, vr a1), (2, vi l2), (4, vi l4), (5, vi l5)]) 3 (dk dt_pack 124 rfl) rfl rfl (by decide) rfl ?_
    refine T_iinc (v := l5 + 1) (lv2 := [(5, vi (l5 + 1)), (3, vi (l3 + 1)), (0, vr 0), (1, vr a1), (2, vi l2), (4, vi l4)]) 5 (dk dt_pack 125 rfl) rfl rfl (by decide) rfl ?_
    refine T_goto 171 (dk dt_pack 126 rfl) (by decide) ?_
    exact T_sub [2, 3, 4, 1, 5, 0] rfl h
set_option maxRecDepth 100000 in
set_option maxHeartbeats 4000000 in
theorem sg_pack_206 {G : mG} {d : Nat} {x : gd} {P : Option gv → gd → Prop} {a1 n1 : Nat} (ka1 : mK a1 = .inr (.int, n1)) (ma1 : a1 ∈ mL) (l2 : Int32) (l3 : Int32) (l4 : Int32) (l5 : Int32)
    (h : (((8 : Int32) ≤ l5 → MT G d z_pack 75 [(0, vr 0), (1, vr a1), (2, vi l2), (3, vi l3), (4, vi (l4 + 1))] [] x P) ∧ (¬ ((8 : Int32) ≤ l5) → vp_in l4 6 ∧ (((x.1 80 (l4 : Int32).toNatClampNeg) ≤ l5 → MT G d z_pack 244 [(0, vr 0), (1, vr a1), (2, vi l2), (3, vi l3), (4, vi l4), (5, vi l5)] [vi 0, vi l3, vr a1] x P) ∧ (¬ ((x.1 80 (l4 : Int32).toNatClampNeg) ≤ l5) → vp_in ((10 * l4) + l5) 60 ∧ MT G d z_pack 244 [(0, vr 0), (1, vr a1), (2, vi l2), (3, vi l3), (4, vi l4), (5, vi l5)] [vi (x.1 81 ((10 * l4) + l5 : Int32).toNatClampNeg), vi l3, vr a1] x P))))) :
    MT G d z_pack 206 [(0, vr 0), (1, vr a1), (2, vi l2), (3, vi l3), (4, vi l4), (5, vi l5)] [] x P := by
  refine T_iload 5 (dk dt_pack 129 rfl) rfl ?_
  refine T_bipush (v := 8) (dk dt_pack 130 rfl) (by decide +kernel) ?_
  refine T_icmp_ge 288 (dk dt_pack 131 rfl) (by decide) (fun c1 => ?_) (fun c1 => ?_)
  · have h := h.1 c1
    refine T_iinc (v := l4 + 1) (lv2 := [(4, vi (l4 + 1)), (0, vr 0), (1, vr a1), (2, vi l2), (3, vi l3), (5, vi l5)]) 4 (dk dt_pack 175 rfl) rfl rfl (by decide) rfl ?_
    refine T_goto 75 (dk dt_pack 176 rfl) (by decide) ?_
    exact T_sub [1, 2, 3, 4, 0] rfl h
  · have h := h.2 c1
    refine T_aload_n 1 (dk dt_pack 132 rfl) rfl rfl ?_
    refine T_iload_n 3 (dk dt_pack 133 rfl) rfl rfl ?_
    refine T_iload 5 (dk dt_pack 134 rfl) rfl ?_
    refine T_aload_n 0 (dk dt_pack 135 rfl) rfl rfl ?_
    refine T_getR 0 79 80 (dk dt_pack 136 rfl) fl_172 mk_0 ml_0 (by decide) rfl rfl ?_
    refine T_iload 4 (dk dt_pack 137 rfl) rfl ?_
    obtain ⟨h2, h⟩ := h
    refine T_iald 80 6 (dk dt_pack 138 rfl) mk_80 ml_80 h2 ?_
    refine T_icmp_ge 243 (dk dt_pack 139 rfl) (by decide) (fun c3 => ?_) (fun c3 => ?_)
    · have h := h.1 c3
      refine T_iconst (v := 0) (dk dt_pack 149 rfl) (by decide +kernel) ?_
      exact h
    · have h := h.2 c3
      refine T_aload_n 0 (dk dt_pack 140 rfl) rfl rfl ?_
      refine T_getR 0 80 81 (dk dt_pack 141 rfl) fl_175 mk_0 ml_0 (by decide) rfl rfl ?_
      refine T_bipush (v := 10) (dk dt_pack 142 rfl) (by decide +kernel) ?_
      refine T_iload 4 (dk dt_pack 143 rfl) rfl ?_
      refine T_imul (dk dt_pack 144 rfl) ?_
      refine T_iload 5 (dk dt_pack 145 rfl) rfl ?_
      refine T_iadd (dk dt_pack 146 rfl) ?_
      obtain ⟨h4, h⟩ := h
      refine T_iald 81 60 (dk dt_pack 147 rfl) mk_81 ml_81 h4 ?_
      refine T_goto 244 (dk dt_pack 148 rfl) (by decide) ?_
      exact h
set_option maxRecDepth 100000 in
set_option maxHeartbeats 4000000 in
theorem sg_pack_244 {G : mG} {d : Nat} {x : gd} {P : Option gv → gd → Prop} {a1 n1 : Nat} (ka1 : mK a1 = .inr (.int, n1)) (ma1 : a1 ∈ mL) (l2 : Int32) (l3 : Int32) (l4 : Int32) (l5 : Int32) (s0 : Int32) (s1 : Int32)
    (h : vp_in s1 n1 ∧ (∀ x2 : gd, x2 = si x a1 (s1 : Int32).toNatClampNeg s0 → vp_in l4 6 ∧ (((x2.1 80 (l4 : Int32).toNatClampNeg) ≤ l5 → vp_in (l3 + 1) n1 ∧ (∀ x6 : gd, x6 = si x2 a1 (l3 + 1 : Int32).toNatClampNeg 0 → MT G d z_pack 206 [(0, vr 0), (1, vr a1), (2, vi l2), (3, vi (l3 + 2)), (4, vi l4), (5, vi (l5 + 1))] [] x6 P)) ∧ (¬ ((x2.1 80 (l4 : Int32).toNatClampNeg) ≤ l5) → vp_in ((10 * l4) + l5) 60 ∧ vp_in (l3 + 1) n1 ∧ (∀ x9 : gd, x9 = si x2 a1 (l3 + 1 : Int32).toNatClampNeg (x2.1 82 ((10 * l4) + l5 : Int32).toNatClampNeg) → MT G d z_pack 206 [(0, vr 0), (1, vr a1), (2, vi l2), (3, vi (l3 + 2)), (4, vi l4), (5, vi (l5 + 1))] [] x9 P))))) :
    MT G d z_pack 244 [(0, vr 0), (1, vr a1), (2, vi l2), (3, vi l3), (4, vi l4), (5, vi l5)] [vi s0, vi s1, vr a1] x P := by
  obtain ⟨h1, h⟩ := h
  obtain ⟨x2, ex2⟩ : ∃ z, z = si x a1 (s1 : Int32).toNatClampNeg s0 := ⟨_, rfl⟩
  have h := h x2 ex2
  refine T_iast a1 n1 (dk dt_pack 150 rfl) ka1 ma1 h1 ?_
  rw [← ex2]
  refine T_aload_n 1 (dk dt_pack 151 rfl) rfl rfl ?_
  refine T_iload_n 3 (dk dt_pack 152 rfl) rfl rfl ?_
  refine T_iconst (v := 1) (dk dt_pack 153 rfl) (by decide +kernel) ?_
  refine T_iadd (dk dt_pack 154 rfl) ?_
  refine T_iload 5 (dk dt_pack 155 rfl) rfl ?_
  refine T_aload_n 0 (dk dt_pack 156 rfl) rfl rfl ?_
  refine T_getR 0 79 80 (dk dt_pack 157 rfl) fl_172 mk_0 ml_0 (by decide) rfl rfl ?_
  refine T_iload 4 (dk dt_pack 158 rfl) rfl ?_
  obtain ⟨h3, h⟩ := h
  refine T_iald 80 6 (dk dt_pack 159 rfl) mk_80 ml_80 h3 ?_
  refine T_icmp_ge 277 (dk dt_pack 160 rfl) (by decide) (fun c4 => ?_) (fun c4 => ?_)
  · have h := h.1 c4
    refine T_iconst (v := 0) (dk dt_pack 170 rfl) (by decide +kernel) ?_
    obtain ⟨h5, h⟩ := h
    obtain ⟨x6, ex6⟩ : ∃ z, z = si x2 a1 (l3 + 1 : Int32).toNatClampNeg 0 := ⟨_, rfl⟩
    have h := h x6 ex6
    refine T_iast a1 n1 (dk dt_pack 171 rfl) ka1 ma1 h5 ?_
    rw [← ex6]
    refine T_iinc (v := l3 + 2) (lv2 := [(3, vi (l3 + 2)), (0, vr 0), (1, vr a1), (2, vi l2), (4, vi l4), (5, vi l5)]) 3 (dk dt_pack 172 rfl) rfl rfl (by decide) rfl ?_
    refine T_iinc (v := l5 + 1) (lv2 := [(5, vi (l5 + 1)), (3, vi (l3 + 2)), (0, vr 0), (1, vr a1), (2, vi l2), (4, vi l4)]) 5 (dk dt_pack 173 rfl) rfl rfl (by decide) rfl ?_
    refine T_goto 206 (dk dt_pack 174 rfl) (by decide) ?_
    exact T_sub [2, 3, 4, 1, 5, 0] rfl h
  · have h := h.2 c4
    refine T_aload_n 0 (dk dt_pack 161 rfl) rfl rfl ?_
    refine T_getR 0 81 82 (dk dt_pack 162 rfl) fl_178 mk_0 ml_0 (by decide) rfl rfl ?_
    refine T_bipush (v := 10) (dk dt_pack 163 rfl) (by decide +kernel) ?_
    refine T_iload 4 (dk dt_pack 164 rfl) rfl ?_
    refine T_imul (dk dt_pack 165 rfl) ?_
    refine T_iload 5 (dk dt_pack 166 rfl) rfl ?_
    refine T_iadd (dk dt_pack 167 rfl) ?_
    obtain ⟨h7, h⟩ := h
    refine T_iald 82 60 (dk dt_pack 168 rfl) mk_82 ml_82 h7 ?_
    refine T_goto 278 (dk dt_pack 169 rfl) (by decide) ?_
    obtain ⟨h8, h⟩ := h
    obtain ⟨x9, ex9⟩ : ∃ z, z = si x2 a1 (l3 + 1 : Int32).toNatClampNeg (x2.1 82 ((10 * l4) + l5 : Int32).toNatClampNeg) := ⟨_, rfl⟩
    have h := h x9 ex9
    refine T_iast a1 n1 (dk dt_pack 171 rfl) ka1 ma1 h8 ?_
    rw [← ex9]
    refine T_iinc (v := l3 + 2) (lv2 := [(3, vi (l3 + 2)), (0, vr 0), (1, vr a1), (2, vi l2), (4, vi l4), (5, vi l5)]) 3 (dk dt_pack 172 rfl) rfl rfl (by decide) rfl ?_
    refine T_iinc (v := l5 + 1) (lv2 := [(5, vi (l5 + 1)), (3, vi (l3 + 2)), (0, vr 0), (1, vr a1), (2, vi l2), (4, vi l4)]) 5 (dk dt_pack 173 rfl) rfl rfl (by decide) rfl ?_
    refine T_goto 206 (dk dt_pack 174 rfl) (by decide) ?_
    exact T_sub [2, 3, 4, 1, 5, 0] rfl h
set_option maxRecDepth 100000 in
theorem dt_unpack : dck cX12_unpack [(0, .iload_n 2, 1), (1, .istore_n 3, 1), (2, .iconst 0, 1), (3, .istore 4, 2), (5, .iload 4, 2), (7, .bipush 24, 2), (9, .if_icmp .ge 22, 3), (12, .aload_n 0, 1), (13, .getfield 142, 3), (16, .iload 4, 2), (18, .aload_n 1, 1), (19, .iload_n 3, 1), (20, .iaload, 1), (21, .iastore, 1), (22, .iinc 3 1, 3), (25, .iinc 4 1, 3), (28, .goto (-23), 3), (31, .iconst 0, 1), (32, .istore 4, 2), (34, .iload 4, 2), (36, .bipush 6, 2), (38, .if_icmp .ge 34, 3), (41, .aload_n 0, 1), (42, .getfield 145, 3), (45, .iload 4, 2), (47, .aload_n 1, 1), (48, .iload_n 3, 1), (49, .iaload, 1), (50, .iastore, 1), (51, .aload_n 0, 1), (52, .getfield 148, 3), (55, .iload 4, 2), (57, .aload_n 1, 1), (58, .iload_n 3, 1), (59, .iconst 1, 1), (60, .iadd, 1), (61, .iaload, 1), (62, .iastore, 1), (63, .iinc 3 2, 3), (66, .iinc 4 1, 3), (69, .goto (-35), 3), (72, .iconst 0, 1), (73, .istore 4, 2), (75, .iload 4, 2), (77, .bipush 6, 2), (79, .if_icmp .ge 183, 3), (82, .aload_n 0, 1), (83, .getfield 151, 3), (86, .iload 4, 2), (88, .aload_n 1, 1), (89, .iload_n 3, 1), (90, .iaload, 1), (91, .iastore, 1), (92, .aload_n 0, 1), (93, .getfield 154, 3), (96, .iload 4, 2), (98, .aload_n 1, 1), (99, .iload_n 3, 1), (100, .iconst 1, 1), (101, .iadd, 1), (102, .iaload, 1), (103, .iastore, 1), (104, .aload_n 0, 1), (105, .getfield 157, 3), (108, .iload 4, 2), (110, .aload_n 1, 1), (111, .iload_n 3, 1), (112, .iconst 2, 1), (113, .iadd, 1), (114, .iaload, 1), (115, .iastore, 1), (116, .aload_n 0, 1), (117, .getfield 163, 3), (120, .iload 4, 2), (122, .aload_n 1, 1), (123, .iload_n 3, 1), (124, .iconst 3, 1), (125, .iadd, 1), (126, .iaload, 1), (127, .iastore, 1), (128, .aload_n 0, 1), (129, .getfield 166, 3), (132, .iload 4, 2), (134, .aload_n 1, 1), (135, .iload_n 3, 1), (136, .iconst 4, 1), (137, .iadd, 1), (138, .iaload, 1), (139, .iastore, 1), (140, .aload_n 0, 1), (141, .getfield 169, 3), (144, .iload 4, 2), (146, .aload_n 1, 1), (147, .iload_n 3, 1), (148, .iconst 5, 1), (149, .iadd, 1), (150, .iaload, 1), (151, .iastore, 1), (152, .aload_n 0, 1), (153, .getfield 172, 3), (156, .iload 4, 2), (158, .aload_n 1, 1), (159, .iload_n 3, 1), (160, .bipush 6, 2), (162, .iadd, 1), (163, .iaload, 1), (164, .iastore, 1), (165, .iinc 3 7, 3), (168, .iconst 0, 1), (169, .istore 5, 2), (171, .iload 5, 2), (173, .bipush 8, 2), (175, .if_icmp .ge 28, 3), (178, .aload_n 0, 1), (179, .getfield 160, 3), (182, .bipush 8, 2), (184, .iload 4, 2), (186, .imul, 1), (187, .iload 5, 2), (189, .iadd, 1), (190, .aload_n 1, 1), (191, .iload_n 3, 1), (192, .iaload, 1), (193, .iastore, 1), (194, .iinc 3 1, 3), (197, .iinc 5 1, 3), (200, .goto (-29), 3), (203, .iconst 0, 1), (204, .istore 5, 2), (206, .iload 5, 2), (208, .bipush 8, 2), (210, .if_icmp .ge 46, 3), (213, .aload_n 0, 1), (214, .getfield 175, 3), (217, .bipush 10, 2), (219, .iload 4, 2), (221, .imul, 1), (222, .iload 5, 2), (224, .iadd, 1), (225, .aload_n 1, 1), (226, .iload_n 3, 1), (227, .iaload, 1), (228, .iastore, 1), (229, .aload_n 0, 1), (230, .getfield 178, 3), (233, .bipush 10, 2), (235, .iload 4, 2), (237, .imul, 1), (238, .iload 5, 2), (240, .iadd, 1), (241, .aload_n 1, 1), (242, .iload_n 3, 1), (243, .iconst 1, 1), (244, .iadd, 1), (245, .iaload, 1), (246, .iastore, 1), (247, .iinc 3 2, 3), (250, .iinc 5 1, 3), (253, .goto (-47), 3), (256, .iinc 4 1, 3), (259, .goto (-184), 3), (262, .return_, 1)] = true := by decide +kernel
set_option maxRecDepth 100000 in
set_option maxHeartbeats 4000000 in
theorem sg_unpack_0 {G : mG} {d : Nat} {x : gd} {P : Option gv → gd → Prop} {a1 n1 : Nat} (ka1 : mK a1 = .inr (.int, n1)) (ma1 : a1 ∈ mL) (l2 : Int32)
    (h : MT G d z_unpack 5 [(0, vr 0), (1, vr a1), (3, vi l2), (4, vi 0)] [] x P) :
    MT G d z_unpack 0 [(0, vr 0), (1, vr a1), (2, vi l2)] [] x P := by
  refine T_iload_n 2 (dk dt_unpack 0 rfl) rfl rfl ?_
  refine T_istore_n (lv2 := [(3, vi l2), (0, vr 0), (1, vr a1), (2, vi l2)]) (dk dt_unpack 1 rfl) rfl (by decide) rfl ?_
  refine T_iconst (v := 0) (dk dt_unpack 2 rfl) (by decide +kernel) ?_
  refine T_istore (lv2 := [(4, vi 0), (3, vi l2), (0, vr 0), (1, vr a1), (2, vi l2)]) (dk dt_unpack 3 rfl) (by decide) rfl ?_
  exact T_sub [2, 3, 1, 0] rfl h
set_option maxRecDepth 100000 in
set_option maxHeartbeats 4000000 in
theorem sg_unpack_5 {G : mG} {d : Nat} {x : gd} {P : Option gv → gd → Prop} {a1 n1 : Nat} (ka1 : mK a1 = .inr (.int, n1)) (ma1 : a1 ∈ mL) (l3 : Int32) (l4 : Int32)
    (h : (((24 : Int32) ≤ l4 → MT G d z_unpack 34 [(0, vr 0), (1, vr a1), (3, vi l3), (4, vi 0)] [] x P) ∧ (¬ ((24 : Int32) ≤ l4) → vp_in l3 n1 ∧ vp_in l4 24 ∧ (∀ x4 : gd, x4 = si x 70 (l4 : Int32).toNatClampNeg (x.1 a1 (l3 : Int32).toNatClampNeg) → MT G d z_unpack 5 [(0, vr 0), (1, vr a1), (3, vi (l3 + 1)), (4, vi (l4 + 1))] [] x4 P)))) :
    MT G d z_unpack 5 [(0, vr 0), (1, vr a1), (3, vi l3), (4, vi l4)] [] x P := by
  refine T_iload 3 (dk dt_unpack 4 rfl) rfl ?_
  refine T_bipush (v := 24) (dk dt_unpack 5 rfl) (by decide +kernel) ?_
  refine T_icmp_ge 31 (dk dt_unpack 6 rfl) (by decide) (fun c1 => ?_) (fun c1 => ?_)
  · have h := h.1 c1
    refine T_iconst (v := 0) (dk dt_unpack 17 rfl) (by decide +kernel) ?_
    refine T_istore (lv2 := [(4, vi 0), (0, vr 0), (1, vr a1), (3, vi l3)]) (dk dt_unpack 18 rfl) (by decide) rfl ?_
    exact T_sub [1, 2, 3, 0] rfl h
  · have h := h.2 c1
    refine T_aload_n 0 (dk dt_unpack 7 rfl) rfl rfl ?_
    refine T_getR 0 69 70 (dk dt_unpack 8 rfl) fl_142 mk_0 ml_0 (by decide) rfl rfl ?_
    refine T_iload 3 (dk dt_unpack 9 rfl) rfl ?_
    refine T_aload_n 1 (dk dt_unpack 10 rfl) rfl rfl ?_
    refine T_iload_n 2 (dk dt_unpack 11 rfl) rfl rfl ?_
    obtain ⟨h2, h⟩ := h
    refine T_iald a1 n1 (dk dt_unpack 12 rfl) ka1 ma1 h2 ?_
    obtain ⟨h3, h⟩ := h
    obtain ⟨x4, ex4⟩ : ∃ z, z = si x 70 (l4 : Int32).toNatClampNeg (x.1 a1 (l3 : Int32).toNatClampNeg) := ⟨_, rfl⟩
    have h := h x4 ex4
    refine T_iast 70 24 (dk dt_unpack 13 rfl) mk_70 ml_70 h3 ?_
    rw [← ex4]
    refine T_iinc (v := l3 + 1) (lv2 := [(3, vi (l3 + 1)), (0, vr 0), (1, vr a1), (4, vi l4)]) 2 (dk dt_unpack 14 rfl) rfl rfl (by decide) rfl ?_
    refine T_iinc (v := l4 + 1) (lv2 := [(4, vi (l4 + 1)), (3, vi (l3 + 1)), (0, vr 0), (1, vr a1)]) 3 (dk dt_unpack 15 rfl) rfl rfl (by decide) rfl ?_
    refine T_goto 5 (dk dt_unpack 16 rfl) (by decide) ?_
    exact T_sub [2, 3, 1, 0] rfl h
set_option maxRecDepth 100000 in
set_option maxHeartbeats 4000000 in
theorem sg_unpack_34 {G : mG} {d : Nat} {x : gd} {P : Option gv → gd → Prop} {a1 n1 : Nat} (ka1 : mK a1 = .inr (.int, n1)) (ma1 : a1 ∈ mL) (l3 : Int32) (l4 : Int32)
    (h : (((6 : Int32) ≤ l4 → MT G d z_unpack 75 [(0, vr 0), (1, vr a1), (3, vi l3), (4, vi 0)] [] x P) ∧ (¬ ((6 : Int32) ≤ l4) → vp_in l3 n1 ∧ vp_in l4 6 ∧ (∀ x4 : gd, x4 = si x 71 (l4 : Int32).toNatClampNeg (x.1 a1 (l3 : Int32).toNatClampNeg) → vp_in (l3 + 1) n1 ∧ vp_in l4 6 ∧ (∀ x7 : gd, x7 = si x4 72 (l4 : Int32).toNatClampNeg (x4.1 a1 (l3 + 1 : Int32).toNatClampNeg) → MT G d z_unpack 34 [(0, vr 0), (1, vr a1), (3, vi (l3 + 2)), (4, vi (l4 + 1))] [] x7 P))))) :
    MT G d z_unpack 34 [(0, vr 0), (1, vr a1), (3, vi l3), (4, vi l4)] [] x P := by
  refine T_iload 3 (dk dt_unpack 19 rfl) rfl ?_
  refine T_bipush (v := 6) (dk dt_unpack 20 rfl) (by decide +kernel) ?_
  refine T_icmp_ge 72 (dk dt_unpack 21 rfl) (by decide) (fun c1 => ?_) (fun c1 => ?_)
  · have h := h.1 c1
    refine T_iconst (v := 0) (dk dt_unpack 41 rfl) (by decide +kernel) ?_
    refine T_istore (lv2 := [(4, vi 0), (0, vr 0), (1, vr a1), (3, vi l3)]) (dk dt_unpack 42 rfl) (by decide) rfl ?_
    exact T_sub [1, 2, 3, 0] rfl h
  · have h := h.2 c1
    refine T_aload_n 0 (dk dt_unpack 22 rfl) rfl rfl ?_
    refine T_getR 0 70 71 (dk dt_unpack 23 rfl) fl_145 mk_0 ml_0 (by decide) rfl rfl ?_
    refine T_iload 3 (dk dt_unpack 24 rfl) rfl ?_
    refine T_aload_n 1 (dk dt_unpack 25 rfl) rfl rfl ?_
    refine T_iload_n 2 (dk dt_unpack 26 rfl) rfl rfl ?_
    obtain ⟨h2, h⟩ := h
    refine T_iald a1 n1 (dk dt_unpack 27 rfl) ka1 ma1 h2 ?_
    obtain ⟨h3, h⟩ := h
    obtain ⟨x4, ex4⟩ : ∃ z, z = si x 71 (l4 : Int32).toNatClampNeg (x.1 a1 (l3 : Int32).toNatClampNeg) := ⟨_, rfl⟩
    have h := h x4 ex4
    refine T_iast 71 6 (dk dt_unpack 28 rfl) mk_71 ml_71 h3 ?_
    rw [← ex4]
    refine T_aload_n 0 (dk dt_unpack 29 rfl) rfl rfl ?_
    refine T_getR 0 71 72 (dk dt_unpack 30 rfl) fl_148 mk_0 ml_0 (by decide) rfl rfl ?_
    refine T_iload 3 (dk dt_unpack 31 rfl) rfl ?_
    refine T_aload_n 1 (dk dt_unpack 32 rfl) rfl rfl ?_
    refine T_iload_n 2 (dk dt_unpack 33 rfl) rfl rfl ?_
    refine T_iconst (v := 1) (dk dt_unpack 34 rfl) (by decide +kernel) ?_
    refine T_iadd (dk dt_unpack 35 rfl) ?_
    obtain ⟨h5, h⟩ := h
    refine T_iald a1 n1 (dk dt_unpack 36 rfl) ka1 ma1 h5 ?_
    obtain ⟨h6, h⟩ := h
    obtain ⟨x7, ex7⟩ : ∃ z, z = si x4 72 (l4 : Int32).toNatClampNeg (x4.1 a1 (l3 + 1 : Int32).toNatClampNeg) := ⟨_, rfl⟩
    have h := h x7 ex7
    refine T_iast 72 6 (dk dt_unpack 37 rfl) mk_72 ml_72 h6 ?_
    rw [← ex7]
    refine T_iinc (v := l3 + 2) (lv2 := [(3, vi (l3 + 2)), (0, vr 0), (1, vr a1), (4, vi l4)]) 2 (dk dt_unpack 38 rfl) rfl rfl (by decide) rfl ?_
    refine T_iinc (v := l4 + 1) (lv2 := [(4, vi (l4 + 1)), (3, vi (l3 + 2)), (0, vr 0), (1, vr a1)]) 3 (dk dt_unpack 39 rfl) rfl rfl (by decide) rfl ?_
    refine T_goto 34 (dk dt_unpack 40 rfl) (by decide) ?_
    exact T_sub [2, 3, 1, 0] rfl h
set_option maxRecDepth 100000 in
set_option maxHeartbeats 4000000 in
theorem sg_unpack_75 {G : mG} {d : Nat} {x : gd} {P : Option gv → gd → Prop} {a1 n1 : Nat} (ka1 : mK a1 = .inr (.int, n1)) (ma1 : a1 ∈ mL) (l3 : Int32) (l4 : Int32)
    (h : (((6 : Int32) ≤ l4 → P none x) ∧ (¬ ((6 : Int32) ≤ l4) → vp_in l3 n1 ∧ vp_in l4 6 ∧ (∀ x4 : gd, x4 = si x 73 (l4 : Int32).toNatClampNeg (x.1 a1 (l3 : Int32).toNatClampNeg) → vp_in (l3 + 1) n1 ∧ vp_in l4 6 ∧ (∀ x7 : gd, x7 = si x4 74 (l4 : Int32).toNatClampNeg (x4.1 a1 (l3 + 1 : Int32).toNatClampNeg) → vp_in (l3 + 2) n1 ∧ vp_in l4 6 ∧ (∀ x10 : gd, x10 = si x7 75 (l4 : Int32).toNatClampNeg (x7.1 a1 (l3 + 2 : Int32).toNatClampNeg) → vp_in (l3 + 3) n1 ∧ vp_in l4 6 ∧ (∀ x13 : gd, x13 = si x10 77 (l4 : Int32).toNatClampNeg (x10.1 a1 (l3 + 3 : Int32).toNatClampNeg) → vp_in (l3 + 4) n1 ∧ vp_in l4 6 ∧ (∀ x16 : gd, x16 = si x13 78 (l4 : Int32).toNatClampNeg (x13.1 a1 (l3 + 4 : Int32).toNatClampNeg) → vp_in (l3 + 5) n1 ∧ vp_in l4 6 ∧ (∀ x19 : gd, x19 = si x16 79 (l4 : Int32).toNatClampNeg (x16.1 a1 (l3 + 5 : Int32).toNatClampNeg) → vp_in (l3 + 6) n1 ∧ vp_in l4 6 ∧ (∀ x22 : gd, x22 = si x19 80 (l4 : Int32).toNatClampNeg (x19.1 a1 (l3 + 6 : Int32).toNatClampNeg) → MT G d z_unpack 171 [(0, vr 0), (1, vr a1), (3, vi (l3 + 7)), (4, vi l4), (5, vi 0)] [] x22 P)))))))))) :
    MT G d z_unpack 75 [(0, vr 0), (1, vr a1), (3, vi l3), (4, vi l4)] [] x P := by
  refine T_iload 3 (dk dt_unpack 43 rfl) rfl ?_
  refine T_bipush (v := 6) (dk dt_unpack 44 rfl) (by decide +kernel) ?_
  refine T_icmp_ge 262 (dk dt_unpack 45 rfl) (by decide) (fun c1 => ?_) (fun c1 => ?_)
  · have h := h.1 c1
    exact MT_vret (dk dt_unpack 161 rfl) rfl h
  · have h := h.2 c1
    refine T_aload_n 0 (dk dt_unpack 46 rfl) rfl rfl ?_
    refine T_getR 0 72 73 (dk dt_unpack 47 rfl) fl_151 mk_0 ml_0 (by decide) rfl rfl ?_
    refine T_iload 3 (dk dt_unpack 48 rfl) rfl ?_
    refine T_aload_n 1 (dk dt_unpack 49 rfl) rfl rfl ?_
    refine T_iload_n 2 (dk dt_unpack 50 rfl) rfl rfl ?_
    obtain ⟨h2, h⟩ := h
    refine T_iald a1 n1 (dk dt_unpack 51 rfl) ka1 ma1 h2 ?_
    obtain ⟨h3, h⟩ := h
    obtain ⟨x4, ex4⟩ : ∃ z, z = si x 73 (l4 : Int32).toNatClampNeg (x.1 a1 (l3 : Int32).toNatClampNeg) := ⟨_, rfl⟩
    have h := h x4 ex4
    refine T_iast 73 6 (dk dt_unpack 52 rfl) mk_73 ml_73 h3 ?_
    rw [← ex4]
    refine T_aload_n 0 (dk dt_unpack 53 rfl) rfl rfl ?_
    refine T_getR 0 73 74 (dk dt_unpack 54 rfl) fl_154 mk_0 ml_0 (by decide) rfl rfl ?_
    refine T_iload 3 (dk dt_unpack 55 rfl) rfl ?_
    refine T_aload_n 1 (dk dt_unpack 56 rfl) rfl rfl ?_
    refine T_iload_n 2 (dk dt_unpack 57 rfl) rfl rfl ?_
    refine T_iconst (v := 1) (dk dt_unpack 58 rfl) (by decide +kernel) ?_
    refine T_iadd (dk dt_unpack 59 rfl) ?_
    obtain ⟨h5, h⟩ := h
    refine T_iald a1 n1 (dk dt_unpack 60 rfl) ka1 ma1 h5 ?_
    obtain ⟨h6, h⟩ := h
    obtain ⟨x7, ex7⟩ : ∃ z, z = si x4 74 (l4 : Int32).toNatClampNeg (x4.1 a1 (l3 + 1 : Int32).toNatClampNeg) := ⟨_, rfl⟩
    have h := h x7 ex7
    refine T_iast 74 6 (dk dt_unpack 61 rfl) mk_74 ml_74 h6 ?_
    rw [← ex7]
    refine T_aload_n 0 (dk dt_unpack 62 rfl) rfl rfl ?_
    refine T_getR 0 74 75 (dk dt_unpack 63 rfl) fl_157 mk_0 ml_0 (by decide) rfl rfl ?_
    refine T_iload 3 (dk dt_unpack 64 rfl) rfl ?_
    refine T_aload_n 1 (dk dt_unpack 65 rfl) rfl rfl ?_
    refine T_iload_n 2 (dk dt_unpack 66 rfl) rfl rfl ?_
    refine T_iconst (v := 2) (dk dt_unpack 67 rfl) (by decide +kernel) ?_
    refine T_iadd (dk dt_unpack 68 rfl) ?_
    obtain ⟨h8, h⟩ := h
    refine T_iald a1 n1 (dk dt_unpack 69 rfl) ka1 ma1 h8 ?_
    obtain ⟨h9, h⟩ := h
    obtain ⟨x10, ex10⟩ : ∃ z, z = si x7 75 (l4 : Int32).toNatClampNeg (x7.1 a1 (l3 + 2 : Int32).toNatClampNeg) := ⟨_, rfl⟩
    have h := h x10 ex10
    refine T_iast 75 6 (dk dt_unpack 70 rfl) mk_75 ml_75 h9 ?_
    rw [← ex10]
    refine T_aload_n 0 (dk dt_unpack 71 rfl) rfl rfl ?_
    refine T_getR 0 76 77 (dk dt_unpack 72 rfl) fl_163 mk_0 ml_0 (by decide) rfl rfl ?_
    refine T_iload 3 (dk dt_unpack 73 rfl) rfl ?_
    refine T_aload_n 1 (dk dt_unpack 74 rfl) rfl rfl ?_
    refine T_iload_n 2 (dk dt_unpack 75 rfl) rfl rfl ?_
    refine T_iconst (v := 3) (dk dt_unpack 76 rfl) (by decide +kernel) ?_
    refine T_iadd (dk dt_unpack 77 rfl) ?_
    obtain ⟨h11, h⟩ := h
    refine T_iald a1 n1 (dk dt_unpack 78 rfl) ka1 ma1 h11 ?_
    obtain ⟨h12, h⟩ := h
    obtain ⟨x13, ex13⟩ : ∃ z, z = si x10 77 (l4 : Int32).toNatClampNeg (x10.1 a1 (l3 + 3 : Int32).toNatClampNeg) := ⟨_, rfl⟩
    have h := h x13 ex13
    refine T_iast 77 6 (dk dt_unpack 79 rfl) mk_77 ml_77 h12 ?_
    rw [← ex13]
    refine T_aload_n 0 (dk dt_unpack 80 rfl) rfl rfl ?_
    refine T_getR 0 77 78 (dk dt_unpack 81 rfl) fl_166 mk_0 ml_0 (by decide) rfl rfl ?_
    refine T_iload 3 (dk dt_unpack 82 rfl) rfl ?_
    refine T_aload_n 1 (dk dt_unpack 83 rfl) rfl rfl ?_
    refine T_iload_n 2 (dk dt_unpack 84 rfl) rfl rfl ?_
    refine T_iconst (v := 4) (dk dt_unpack 85 rfl) (by decide +kernel) ?_
    refine T_iadd (dk dt_unpack 86 rfl) ?_
    obtain ⟨h14, h⟩ := h
    refine T_iald a1 n1 (dk dt_unpack 87 rfl) ka1 ma1 h14 ?_
    obtain ⟨h15, h⟩ := h
    obtain ⟨x16, ex16⟩ : ∃ z, z = si x13 78 (l4 : Int32).toNatClampNeg (x13.1 a1 (l3 + 4 : Int32).toNatClampNeg) := ⟨_, rfl⟩
    have h := h x16 ex16
    refine T_iast 78 6 (dk dt_unpack 88 rfl) mk_78 ml_78 h15 ?_
    rw [← ex16]
    refine T_aload_n 0 (dk dt_unpack 89 rfl) rfl rfl ?_
    refine T_getR 0 78 79 (dk dt_unpack 90 rfl) fl_169 mk_0 ml_0 (by decide) rfl rfl ?_
    refine T_iload 3 (dk dt_unpack 91 rfl) rfl ?_
    refine T_aload_n 1 (dk dt_unpack 92 rfl) rfl rfl ?_
    refine T_iload_n 2 (dk dt_unpack 93 rfl) rfl rfl ?_
    refine T_iconst (v := 5) (dk dt_unpack 94 rfl) (by decide +kernel) ?_
    refine T_iadd (dk dt_unpack 95 rfl) ?_
    obtain ⟨h17, h⟩ := h
    refine T_iald a1 n1 (dk dt_unpack 96 rfl) ka1 ma1 h17 ?_
    obtain ⟨h18, h⟩ := h
    obtain ⟨x19, ex19⟩ : ∃ z, z = si x16 79 (l4 : Int32).toNatClampNeg (x16.1 a1 (l3 + 5 : Int32).toNatClampNeg) := ⟨_, rfl⟩
    have h := h x19 ex19
    refine T_iast 79 6 (dk dt_unpack 97 rfl) mk_79 ml_79 h18 ?_
    rw [← ex19]
    refine T_aload_n 0 (dk dt_unpack 98 rfl) rfl rfl ?_
    refine T_getR 0 79 80 (dk dt_unpack 99 rfl) fl_172 mk_0 ml_0 (by decide) rfl rfl ?_
    refine T_iload 3 (dk dt_unpack 100 rfl) rfl ?_
    refine T_aload_n 1 (dk dt_unpack 101 rfl) rfl rfl ?_
    refine T_iload_n 2 (dk dt_unpack 102 rfl) rfl rfl ?_
    refine T_bipush (v := 6) (dk dt_unpack 103 rfl) (by decide +kernel) ?_
    refine T_iadd (dk dt_unpack 104 rfl) ?_
    obtain ⟨h20, h⟩ := h
    refine T_iald a1 n1 (dk dt_unpack 105 rfl) ka1 ma1 h20 ?_
    obtain ⟨h21, h⟩ := h
    obtain ⟨x22, ex22⟩ : ∃ z, z = si x19 80 (l4 : Int32).toNatClampNeg (x19.1 a1 (l3 + 6 : Int32).toNatClampNeg) := ⟨_, rfl⟩
    have h := h x22 ex22
    refine T_iast 80 6 (dk dt_unpack 106 rfl) mk_80 ml_80 h21 ?_
    rw [← ex22]
    refine T_iinc (v := l3 + 7) (lv2 := [(3, vi (l3 + 7)), (0, vr 0), (1, vr a1), (4, vi l4)]) 2 (dk dt_unpack 107 rfl) rfl rfl (by decide) rfl ?_
    refine T_iconst (v := 0) (dk dt_unpack 108 rfl) (by decide +kernel) ?_
    refine T_istore (lv2 := [(5, vi 0), (3, vi (l3 + 7)), (0, vr 0), (1, vr a1), (4, vi l4)]) (dk dt_unpack 109 rfl) (by decide) rfl ?_
    exact T_sub [2, 3, 1, 4, 0] rfl h
set_option maxRecDepth 100000 in
set_option maxHeartbeats 4000000 in
theorem sg_unpack_171 {G : mG} {d : Nat} {x : gd} {P : Option gv → gd → Prop} {a1 n1 : Nat} (ka1 : mK a1 = .inr (.int, n1)) (ma1 : a1 ∈ mL) (l3 : Int32) (l4 : Int32) (l5 : Int32)
    (h : (((8 : Int32) ≤ l5 → MT G d z_unpack 206 [(0, vr 0), (1, vr a1), (3, vi l3), (4, vi l4), (5, vi 0)] [] x P) ∧ (¬ ((8 : Int32) ≤ l5) → vp_in l3 n1 ∧ vp_in ((8 * l4) + l5) 48 ∧ (∀ x4 : gd, x4 = si x 76 ((8 * l4) + l5 : Int32).toNatClampNeg (x.1 a1 (l3 : Int32).toNatClampNeg) → MT G d z_unpack 171 [(0, vr 0), (1, vr a1), (3, vi (l3 + 1)), (4, vi l4), (5, vi (l5 + 1))] [] x4 P)))) :
    MT G d z_unpack 171 [(0, vr 0), (1, vr a1), (3, vi l3), (4, vi l4), (5, vi l5)] [] x P := by
  refine T_iload 4 (dk dt_unpack 110 rfl) rfl ?_
  refine T_bipush (v := 8) (dk dt_unpack 111 rfl) (by decide +kernel) ?_
  refine T_icmp_ge 203 (dk dt_unpack 112 rfl) (by decide) (fun c1 => ?_) (fun c1 => ?_)
  · have h := h.1 c1
    refine T_iconst (v := 0) (dk dt_unpack 127 rfl) (by decide +kernel) ?_
    refine T_istore (lv2 := [(5, vi 0), (0, vr 0), (1, vr a1), (3, vi l3), (4, vi l4)]) (dk dt_unpack 128 rfl) (by decide) rfl ?_
    exact T_sub [1, 2, 3, 4, 0] rfl h
  · have h := h.2 c1
    refine T_aload_n 0 (dk dt_unpack 113 rfl) rfl rfl ?_
    refine T_getR 0 75 76 (dk dt_unpack 114 rfl) fl_160 mk_0 ml_0 (by decide) rfl rfl ?_
    refine T_bipush (v := 8) (dk dt_unpack 115 rfl) (by decide +kernel) ?_
    refine T_iload 3 (dk dt_unpack 116 rfl) rfl ?_
    refine T_imul (dk dt_unpack 117 rfl) ?_
    refine T_iload 4 (dk dt_unpack 118 rfl) rfl ?_
    refine T_iadd (dk dt_unpack 119 rfl) ?_
    refine T_aload_n 1 (dk dt_unpack 120 rfl) rfl rfl ?_
    refine T_iload_n 2 (dk dt_unpack 121 rfl) rfl rfl ?_
    obtain ⟨h2, h⟩ := h
    refine T_iald a1 n1 (dk dt_unpack 122 rfl) ka1 ma1 h2 ?_
    obtain ⟨h3, h⟩ := h
    obtain ⟨x4, ex4⟩ : ∃ z, z = si x 76 ((8 * l4) + l5 : Int32).toNatClampNeg (x.1 a1 (l3 : Int32).toNatClampNeg) := ⟨_, rfl⟩
    have h := h x4 ex4
    refine T_iast 76 48 (dk dt_unpack 123 rfl) mk_76 ml_76 h3 ?_
    rw [← ex4]
    refine T_iinc (v := l3 + 1) (lv2 := [(3, vi (l3 + 1)), (0, vr 0), (1, vr a1), (4, vi l4), (5, vi l5)]) 2 (dk dt_unpack 124 rfl) rfl rfl (by decide) rfl ?_
    refine T_iinc (v := l5 + 1) (lv2 := [(5, vi (l5 + 1)), (3, vi (l3 + 1)), (0, vr 0), (1, vr a1), (4, vi l4)]) 4 (dk dt_unpack 125 rfl) rfl rfl (by decide) rfl ?_
    refine T_goto 171 (dk dt_unpack 126 rfl) (by decide) ?_
    exact T_sub [2, 3, 1, 4, 0] rfl h
set_option maxRecDepth 100000 in
set_option maxHeartbeats 4000000 in
theorem sg_unpack_206 {G : mG} {d : Nat} {x : gd} {P : Option gv → gd → Prop} {a1 n1 : Nat} (ka1 : mK a1 = .inr (.int, n1)) (ma1 : a1 ∈ mL) (l3 : Int32) (l4 : Int32) (l5 : Int32)
    (h : (((8 : Int32) ≤ l5 → MT G d z_unpack 75 [(0, vr 0), (1, vr a1), (3, vi l3), (4, vi (l4 + 1))] [] x P) ∧ (¬ ((8 : Int32) ≤ l5) → vp_in l3 n1 ∧ vp_in ((10 * l4) + l5) 60 ∧ (∀ x4 : gd, x4 = si x 81 ((10 * l4) + l5 : Int32).toNatClampNeg (x.1 a1 (l3 : Int32).toNatClampNeg) → vp_in (l3 + 1) n1 ∧ vp_in ((10 * l4) + l5) 60 ∧ (∀ x7 : gd, x7 = si x4 82 ((10 * l4) + l5 : Int32).toNatClampNeg (x4.1 a1 (l3 + 1 : Int32).toNatClampNeg) → MT G d z_unpack 206 [(0, vr 0), (1, vr a1), (3, vi (l3 + 2)), (4, vi l4), (5, vi (l5 + 1))] [] x7 P))))) :
    MT G d z_unpack 206 [(0, vr 0), (1, vr a1), (3, vi l3), (4, vi l4), (5, vi l5)] [] x P := by
  refine T_iload 4 (dk dt_unpack 129 rfl) rfl ?_
  refine T_bipush (v := 8) (dk dt_unpack 130 rfl) (by decide +kernel) ?_
  refine T_icmp_ge 256 (dk dt_unpack 131 rfl) (by decide) (fun c1 => ?_) (fun c1 => ?_)
  · have h := h.1 c1
    refine T_iinc (v := l4 + 1) (lv2 := [(4, vi (l4 + 1)), (0, vr 0), (1, vr a1), (3, vi l3), (5, vi l5)]) 3 (dk dt_unpack 159 rfl) rfl rfl (by decide) rfl ?_
    refine T_goto 75 (dk dt_unpack 160 rfl) (by decide) ?_
    exact T_sub [1, 2, 3, 0] rfl h
  · have h := h.2 c1
    refine T_aload_n 0 (dk dt_unpack 132 rfl) rfl rfl ?_
    refine T_getR 0 80 81 (dk dt_unpack 133 rfl) fl_175 mk_0 ml_0 (by decide) rfl rfl ?_
    refine T_bipush (v := 10) (dk dt_unpack 134 rfl) (by decide +kernel) ?_
    refine T_iload 3 (dk dt_unpack 135 rfl) rfl ?_
    refine T_imul (dk dt_unpack 136 rfl) ?_
    refine T_iload 4 (dk dt_unpack 137 rfl) rfl ?_
    refine T_iadd (dk dt_unpack 138 rfl) ?_
    refine T_aload_n 1 (dk dt_unpack 139 rfl) rfl rfl ?_
    refine T_iload_n 2 (dk dt_unpack 140 rfl) rfl rfl ?_
    obtain ⟨h2, h⟩ := h
    refine T_iald a1 n1 (dk dt_unpack 141 rfl) ka1 ma1 h2 ?_
    obtain ⟨h3, h⟩ := h
    obtain ⟨x4, ex4⟩ : ∃ z, z = si x 81 ((10 * l4) + l5 : Int32).toNatClampNeg (x.1 a1 (l3 : Int32).toNatClampNeg) := ⟨_, rfl⟩
    have h := h x4 ex4
    refine T_iast 81 60 (dk dt_unpack 142 rfl) mk_81 ml_81 h3 ?_
    rw [← ex4]
    refine T_aload_n 0 (dk dt_unpack 143 rfl) rfl rfl ?_
    refine T_getR 0 81 82 (dk dt_unpack 144 rfl) fl_178 mk_0 ml_0 (by decide) rfl rfl ?_
    refine T_bipush (v := 10) (dk dt_unpack 145 rfl) (by decide +kernel) ?_
    refine T_iload 3 (dk dt_unpack 146 rfl) rfl ?_
    refine T_imul (dk dt_unpack 147 rfl) ?_
    refine T_iload 4 (dk dt_unpack 148 rfl) rfl ?_
    refine T_iadd (dk dt_unpack 149 rfl) ?_
    refine T_aload_n 1 (dk dt_unpack 150 rfl) rfl rfl ?_
    refine T_iload_n 2 (dk dt_unpack 151 rfl) rfl rfl ?_
    refine T_iconst (v := 1) (dk dt_unpack 152 rfl) (by decide +kernel) ?_
    refine T_iadd (dk dt_unpack 153 rfl) ?_
    obtain ⟨h5, h⟩ := h
    refine T_iald a1 n1 (dk dt_unpack 154 rfl) ka1 ma1 h5 ?_
    obtain ⟨h6, h⟩ := h
    obtain ⟨x7, ex7⟩ : ∃ z, z = si x4 82 ((10 * l4) + l5 : Int32).toNatClampNeg (x4.1 a1 (l3 + 1 : Int32).toNatClampNeg) := ⟨_, rfl⟩
    have h := h x7 ex7
    refine T_iast 82 60 (dk dt_unpack 155 rfl) mk_82 ml_82 h6 ?_
    rw [← ex7]
    refine T_iinc (v := l3 + 2) (lv2 := [(3, vi (l3 + 2)), (0, vr 0), (1, vr a1), (4, vi l4), (5, vi l5)]) 2 (dk dt_unpack 156 rfl) rfl rfl (by decide) rfl ?_
    refine T_iinc (v := l5 + 1) (lv2 := [(5, vi (l5 + 1)), (3, vi (l3 + 2)), (0, vr 0), (1, vr a1), (4, vi l4)]) 4 (dk dt_unpack 157 rfl) rfl rfl (by decide) rfl ?_
    refine T_goto 206 (dk dt_unpack 158 rfl) (by decide) ?_
    exact T_sub [2, 3, 1, 4, 0] rfl h
set_option maxRecDepth 100000 in
theorem dt_seek : dck cX12_seek [(0, .sipush 240, 3), (3, .aload_n 0, 1), (4, .getfield 257, 3), (7, .iload_n 1, 1), (8, .iaload, 1), (9, .imul, 1), (10, .istore_n 2, 1), (11, .aload_n 0, 1), (12, .aload_n 0, 1), (13, .getfield 298, 3), (16, .iload_n 2, 1), (17, .invokevirtual 723, 3), (20, .iconst 0, 1), (21, .istore_n 3, 1), (22, .iconst 0, 1), (23, .istore 4, 2), (25, .iload 4, 2), (27, .aload_n 0, 1), (28, .getfield 720, 3), (31, .if_icmp .ge 24, 3), (34, .iload_n 3, 1), (35, .bipush 31, 2), (37, .imul, 1), (38, .aload_n 0, 1), (39, .getfield 298, 3), (42, .iload_n 2, 1), (43, .iload 4, 2), (45, .iadd, 1), (46, .iaload, 1), (47, .iadd, 1), (48, .istore_n 3, 1), (49, .iinc 4 1, 3), (52, .goto (-27), 3), (55, .iload_n 3, 1), (56, .iload_n 3, 1), (57, .bipush 12, 2), (59, .iushr, 1), (60, .ixor, 1), (61, .iload_n 3, 1), (62, .bipush 22, 2), (64, .iushr, 1), (65, .ixor, 1), (66, .sipush 4095, 3), (69, .iand, 1), (70, .istore_n 3, 1), (71, .aload_n 0, 1), (72, .getfield 304, 3), (75, .iload_n 3, 1), (76, .iaload, 1), (77, .istore 4, 2), (79, .iload 4, 2), (81, .iconst (-1), 1), (82, .if_icmp .eq 82, 3), (85, .iconst 1, 1), (86, .istore 5, 2), (88, .iconst 0, 1), (89, .istore 6, 2), (91, .iload 6, 2), (93, .aload_n 0, 1), (94, .getfield 720, 3), (97, .if_icmp .ge 47, 3), (100, .iload 5, 2), (102, .ifCond .eq 42, 3), (105, .aload_n 0, 1), (106, .getfield 298, 3), (109, .sipush 240, 3), (112, .iload 4, 2), (114, .imul, 1), (115, .iload 6, 2), (117, .iadd, 1), (118, .iaload, 1), (119, .aload_n 0, 1), (120, .getfield 298, 3), (123, .iload_n 2, 1), (124, .iload 6, 2), (126, .iadd, 1), (127, .iaload, 1), (128, .if_icmp .ne 7, 3), (131, .iconst 1, 1), (132, .goto 4, 3), (135, .iconst 0, 1), (136, .istore 5, 2), (138, .iinc 6 1, 3), (141, .goto (-50), 3), (144, .iload 5, 2), (146, .ifCond .eq 6, 3), (149, .iload 4, 2), (151, .ireturn, 1), (152, .aload_n 0, 1), (153, .getfield 301, 3), (156, .iload 4, 2), (158, .iaload, 1), (159, .istore 4, 2), (161, .goto (-82), 3), (164, .aload_n 0, 1), (165, .getfield 301, 3), (168, .aload_n 0, 1), (169, .getfield 257, 3), (172, .iload_n 1, 1), (173, .iaload, 1), (174, .aload_n 0, 1), (175, .getfield 304, 3), (178, .iload_n 3, 1), (179, .iaload, 1), (180, .iastore, 1), (181, .aload_n 0, 1), (182, .getfield 304, 3), (185, .iload_n 3, 1), (186, .aload_n 0, 1), (187, .getfield 257, 3), (190, .iload_n 1, 1), (191, .iaload, 1), (192, .iastore, 1), (193, .aload_n 0, 1), (194, .getfield 257, 3), (197, .iload_n 1, 1), (198, .iaload, 1), (199, .ireturn, 1)] = true := by decide +kernel
set_option maxRecDepth 100000 in
set_option maxHeartbeats 4000000 in
theorem sg_seek_0 {G : mG} {d : Nat} {x : gd} {P : Option gv → gd → Prop} (l1 : Int32)
    (h : vp_in l1 2 ∧ MT G d z_pack 0 [(0, vr 0), (1, vr 133), (2, vi (240 * (x.1 120 (l1 : Int32).toNatClampNeg)))] [] x (rv (fun x2 => MT G (d + 1) z_seek 25 [(0, vr 0), (1, vi l1), (2, vi (240 * (x.1 120 (l1 : Int32).toNatClampNeg))), (3, vi 0), (4, vi 0)] [] x2 P))) :
    MT G (d + 1) z_seek 0 [(0, vr 0), (1, vi l1)] [] x P := by
  refine T_sipush (v := 240) (dk dt_seek 0 rfl) (by decide +kernel) ?_
  refine T_aload_n 0 (dk dt_seek 1 rfl) rfl rfl ?_
  refine T_getR 0 119 120 (dk dt_seek 2 rfl) fl_257 mk_0 ml_0 (by decide) rfl rfl ?_
  refine T_iload_n 1 (dk dt_seek 3 rfl) rfl rfl ?_
  obtain ⟨h1, h⟩ := h
  refine T_iald 120 2 (dk dt_seek 4 rfl) mk_120 ml_120 h1 ?_
  refine T_imul (dk dt_seek 5 rfl) ?_
  refine T_istore_n (lv2 := [(2, vi (240 * (x.1 120 (l1 : Int32).toNatClampNeg))), (0, vr 0), (1, vi l1)]) (dk dt_seek 6 rfl) rfl (by decide) rfl ?_
  refine T_aload_n 1 (dk dt_seek 7 rfl) rfl rfl ?_
  refine T_aload_n 1 (dk dt_seek 8 rfl) rfl rfl ?_
  refine T_getR 0 132 133 (dk dt_seek 9 rfl) fl_298 mk_0 ml_0 (by decide) rfl rfl ?_
  refine T_iload_n 0 (dk dt_seek 10 rfl) rfl rfl ?_
  refine MT_callVv [vr 133, vi (240 * (x.1 120 (l1 : Int32).toNatClampNeg))] [] rfl (dk dt_seek 11 rfl) cv_723 rfl rfl (Nat.le_of_ble_eq_true rfl) (Nat.le_of_ble_eq_true rfl) rfl rfl h (fun x2 h => ?_)
  refine T_iconst (v := 0) (dk dt_seek 12 rfl) (by decide +kernel) ?_
  refine T_istore_n (lv2 := [(3, vi 0), (2, vi (240 * (x.1 120 (l1 : Int32).toNatClampNeg))), (0, vr 0), (1, vi l1)]) (dk dt_seek 13 rfl) rfl (by decide) rfl ?_
  refine T_iconst (v := 0) (dk dt_seek 14 rfl) (by decide +kernel) ?_
  refine T_istore (lv2 := [(4, vi 0), (3, vi 0), (2, vi (240 * (x.1 120 (l1 : Int32).toNatClampNeg))), (0, vr 0), (1, vi l1)]) (dk dt_seek 15 rfl) (by decide) rfl ?_
  exact T_sub [3, 4, 2, 1, 0] rfl h
set_option maxRecDepth 100000 in
set_option maxHeartbeats 4000000 in
theorem sg_seek_25 {G : mG} {d : Nat} {x : gd} {P : Option gv → gd → Prop} (l1 : Int32) (l2 : Int32) (l3 : Int32) (l4 : Int32)
    (h : (((x.1 0 136) ≤ l4 → vp_in (((l3 ^^^ (((l3 : Int32).toUInt32 >>> ((12 : Int32).toUInt32 &&& Int32.toUInt32 31)).toInt32)) ^^^ (((l3 : Int32).toUInt32 >>> ((22 : Int32).toUInt32 &&& Int32.toUInt32 31)).toInt32)) &&& 4095) 4096 ∧ MT G (d + 1) z_seek 79 [(0, vr 0), (1, vi l1), (2, vi l2), (3, vi (((l3 ^^^ (((l3 : Int32).toUInt32 >>> ((12 : Int32).toUInt32 &&& Int32.toUInt32 31)).toInt32)) ^^^ (((l3 : Int32).toUInt32 >>> ((22 : Int32).toUInt32 &&& Int32.toUInt32 31)).toInt32)) &&& 4095)), (4, vi (x.1 135 (((l3 ^^^ (((l3 : Int32).toUInt32 >>> ((12 : Int32).toUInt32 &&& Int32.toUInt32 31)).toInt32)) ^^^ (((l3 : Int32).toUInt32 >>> ((22 : Int32).toUInt32 &&& Int32.toUInt32 31)).toInt32)) &&& 4095 : Int32).toNatClampNeg))] [] x P) ∧ (¬ ((x.1 0 136) ≤ l4) → vp_in (l2 + l4) 720480 ∧ MT G (d + 1) z_seek 25 [(0, vr 0), (1, vi l1), (2, vi l2), (3, vi ((l3 * 31) + (x.1 133 (l2 + l4 : Int32).toNatClampNeg))), (4, vi (l4 + 1))] [] x P))) :
    MT G (d + 1) z_seek 25 [(0, vr 0), (1, vi l1), (2, vi l2), (3, vi l3), (4, vi l4)] [] x P := by
  refine T_iload 4 (dk dt_seek 16 rfl) rfl ?_
  refine T_aload_n 0 (dk dt_seek 17 rfl) rfl rfl ?_
  refine T_getI 0 136 (dk dt_seek 18 rfl) fl_720 mk_0 ml_0 (by decide) rfl ?_
  refine T_icmp_ge 55 (dk dt_seek 19 rfl) (by decide) (fun c1 => ?_) (fun c1 => ?_)
  · have h := h.1 c1
    refine T_iload_n 3 (dk dt_seek 33 rfl) rfl rfl ?_
    refine T_iload_n 3 (dk dt_seek 34 rfl) rfl rfl ?_
    refine T_bipush (v := 12) (dk dt_seek 35 rfl) (by decide +kernel) ?_
    refine T_iushr (dk dt_seek 36 rfl) ?_
    refine T_ixor (dk dt_seek 37 rfl) ?_
    refine T_iload_n 3 (dk dt_seek 38 rfl) rfl rfl ?_
    refine T_bipush (v := 22) (dk dt_seek 39 rfl) (by decide +kernel) ?_
    refine T_iushr (dk dt_seek 40 rfl) ?_
    refine T_ixor (dk dt_seek 41 rfl) ?_
    refine T_sipush (v := 4095) (dk dt_seek 42 rfl) (by decide +kernel) ?_
    refine T_iand (dk dt_seek 43 rfl) ?_
    refine T_istore_n (lv2 := [(3, vi (((l3 ^^^ (((l3 : Int32).toUInt32 >>> ((12 : Int32).toUInt32 &&& Int32.toUInt32 31)).toInt32)) ^^^ (((l3 : Int32).toUInt32 >>> ((22 : Int32).toUInt32 &&& Int32.toUInt32 31)).toInt32)) &&& 4095)), (0, vr 0), (1, vi l1), (2, vi l2), (4, vi l4)]) (dk dt_seek 44 rfl) rfl (by decide) rfl ?_
    refine T_aload_n 1 (dk dt_seek 45 rfl) rfl rfl ?_
    refine T_getR 0 134 135 (dk dt_seek 46 rfl) fl_304 mk_0 ml_0 (by decide) rfl rfl ?_
    refine T_iload_n 0 (dk dt_seek 47 rfl) rfl rfl ?_
    obtain ⟨h2, h⟩ := h
    refine T_iald 135 4096 (dk dt_seek 48 rfl) mk_135 ml_135 h2 ?_
    refine T_istore (lv2 := [(4, vi (x.1 135 (((l3 ^^^ (((l3 : Int32).toUInt32 >>> ((12 : Int32).toUInt32 &&& Int32.toUInt32 31)).toInt32)) ^^^ (((l3 : Int32).toUInt32 >>> ((22 : Int32).toUInt32 &&& Int32.toUInt32 31)).toInt32)) &&& 4095 : Int32).toNatClampNeg)), (3, vi (((l3 ^^^ (((l3 : Int32).toUInt32 >>> ((12 : Int32).toUInt32 &&& Int32.toUInt32 31)).toInt32)) ^^^ (((l3 : Int32).toUInt32 >>> ((22 : Int32).toUInt32 &&& Int32.toUInt32 31)).toInt32)) &&& 4095)), (0, vr 0), (1, vi l1), (2, vi l2)]) (dk dt_seek 49 rfl) (by decide) rfl ?_
    exact T_sub [2, 3, 4, 1, 0] rfl h
  · have h := h.2 c1
    refine T_iload_n 3 (dk dt_seek 20 rfl) rfl rfl ?_
    refine T_bipush (v := 31) (dk dt_seek 21 rfl) (by decide +kernel) ?_
    refine T_imul (dk dt_seek 22 rfl) ?_
    refine T_aload_n 0 (dk dt_seek 23 rfl) rfl rfl ?_
    refine T_getR 0 132 133 (dk dt_seek 24 rfl) fl_298 mk_0 ml_0 (by decide) rfl rfl ?_
    refine T_iload_n 2 (dk dt_seek 25 rfl) rfl rfl ?_
    refine T_iload 4 (dk dt_seek 26 rfl) rfl ?_
    refine T_iadd (dk dt_seek 27 rfl) ?_
    obtain ⟨h3, h⟩ := h
    refine T_iald 133 720480 (dk dt_seek 28 rfl) mk_133 ml_133 h3 ?_
    refine T_iadd (dk dt_seek 29 rfl) ?_
    refine T_istore_n (lv2 := [(3, vi ((l3 * 31) + (x.1 133 (l2 + l4 : Int32).toNatClampNeg))), (0, vr 0), (1, vi l1), (2, vi l2), (4, vi l4)]) (dk dt_seek 30 rfl) rfl (by decide) rfl ?_
    refine T_iinc (v := l4 + 1) (lv2 := [(4, vi (l4 + 1)), (3, vi ((l3 * 31) + (x.1 133 (l2 + l4 : Int32).toNatClampNeg))), (0, vr 0), (1, vi l1), (2, vi l2)]) 4 (dk dt_seek 31 rfl) rfl rfl (by decide) rfl ?_
    refine T_goto 25 (dk dt_seek 32 rfl) (by decide) ?_
    exact T_sub [2, 3, 4, 1, 0] rfl h
set_option maxRecDepth 100000 in
set_option maxHeartbeats 4000000 in
theorem sg_seek_79 {G : mG} {d : Nat} {x : gd} {P : Option gv → gd → Prop} (l1 : Int32) (l2 : Int32) (l3 : Int32) (l4 : Int32)
    (h : ((l4 = (-1 : Int32) → vp_in l1 2 ∧ vp_in l3 4096 ∧ vp_in (x.1 120 (l1 : Int32).toNatClampNeg) 3001 ∧ (∀ x5 : gd, x5 = si x 134 (x.1 120 (l1 : Int32).toNatClampNeg : Int32).toNatClampNeg (x.1 135 (l3 : Int32).toNatClampNeg) → vp_in l1 2 ∧ vp_in l3 4096 ∧ (∀ x8 : gd, x8 = si x5 135 (l3 : Int32).toNatClampNeg (x5.1 120 (l1 : Int32).toNatClampNeg) → vp_in l1 2 ∧ P (some (vi (x8.1 120 (l1 : Int32).toNatClampNeg))) x8))) ∧ (¬ (l4 = (-1 : Int32)) → MT G (d + 1) z_seek 91 [(0, vr 0), (1, vi l1), (2, vi l2), (3, vi l3), (4, vi l4), (5, vi 1), (6, vi 0)] [] x P))) :
    MT G (d + 1) z_seek 79 [(0, vr 0), (1, vi l1), (2, vi l2), (3, vi l3), (4, vi l4)] [] x P := by
  refine T_iload 4 (dk dt_seek 50 rfl) rfl ?_
  refine T_iconst (v := (-1)) (dk dt_seek 51 rfl) (by decide +kernel) ?_
  refine T_icmp_eq 164 (dk dt_seek 52 rfl) (by decide) (fun c1 => ?_) (fun c1 => ?_)
  · have h := h.1 c1
    refine T_aload_n 0 (dk dt_seek 94 rfl) rfl rfl ?_
    refine T_getR 0 133 134 (dk dt_seek 95 rfl) fl_301 mk_0 ml_0 (by decide) rfl rfl ?_
    refine T_aload_n 0 (dk dt_seek 96 rfl) rfl rfl ?_
    refine T_getR 0 119 120 (dk dt_seek 97 rfl) fl_257 mk_0 ml_0 (by decide) rfl rfl ?_
    refine T_iload_n 1 (dk dt_seek 98 rfl) rfl rfl ?_
    obtain ⟨h2, h⟩ := h
    refine T_iald 120 2 (dk dt_seek 99 rfl) mk_120 ml_120 h2 ?_
    refine T_aload_n 0 (dk dt_seek 100 rfl) rfl rfl ?_
    refine T_getR 0 134 135 (dk dt_seek 101 rfl) fl_304 mk_0 ml_0 (by decide) rfl rfl ?_
    refine T_iload_n 3 (dk dt_seek 102 rfl) rfl rfl ?_
    obtain ⟨h3, h⟩ := h
    refine T_iald 135 4096 (dk dt_seek 103 rfl) mk_135 ml_135 h3 ?_
    obtain ⟨h4, h⟩ := h
    obtain ⟨x5, ex5⟩ : ∃ z, z = si x 134 (x.1 120 (l1 : Int32).toNatClampNeg : Int32).toNatClampNeg (x.1 135 (l3 : Int32).toNatClampNeg) := ⟨_, rfl⟩
    have h := h x5 ex5
    refine T_iast 134 3001 (dk dt_seek 104 rfl) mk_134 ml_134 h4 ?_
    rw [← ex5]
    refine T_aload_n 0 (dk dt_seek 105 rfl) rfl rfl ?_
    refine T_getR 0 134 135 (dk dt_seek 106 rfl) fl_304 mk_0 ml_0 (by decide) rfl rfl ?_
    refine T_iload_n 3 (dk dt_seek 107 rfl) rfl rfl ?_
    refine T_aload_n 0 (dk dt_seek 108 rfl) rfl rfl ?_
    refine T_getR 0 119 120 (dk dt_seek 109 rfl) fl_257 mk_0 ml_0 (by decide) rfl rfl ?_
    refine T_iload_n 1 (dk dt_seek 110 rfl) rfl rfl ?_
    obtain ⟨h6, h⟩ := h
    refine T_iald 120 2 (dk dt_seek 111 rfl) mk_120 ml_120 h6 ?_
    obtain ⟨h7, h⟩ := h
    obtain ⟨x8, ex8⟩ : ∃ z, z = si x5 135 (l3 : Int32).toNatClampNeg (x5.1 120 (l1 : Int32).toNatClampNeg) := ⟨_, rfl⟩
    have h := h x8 ex8
    refine T_iast 135 4096 (dk dt_seek 112 rfl) mk_135 ml_135 h7 ?_
    rw [← ex8]
    refine T_aload_n 0 (dk dt_seek 113 rfl) rfl rfl ?_
    refine T_getR 0 119 120 (dk dt_seek 114 rfl) fl_257 mk_0 ml_0 (by decide) rfl rfl ?_
    refine T_iload_n 1 (dk dt_seek 115 rfl) rfl rfl ?_
    obtain ⟨h9, h⟩ := h
    refine T_iald 120 2 (dk dt_seek 116 rfl) mk_120 ml_120 h9 ?_
    exact MT_iret (dk dt_seek 117 rfl) rfl rfl h
  · have h := h.2 c1
    refine T_iconst (v := 1) (dk dt_seek 53 rfl) (by decide +kernel) ?_
    refine T_istore (lv2 := [(5, vi 1), (0, vr 0), (1, vi l1), (2, vi l2), (3, vi l3), (4, vi l4)]) (dk dt_seek 54 rfl) (by decide) rfl ?_
    refine T_iconst (v := 0) (dk dt_seek 55 rfl) (by decide +kernel) ?_
    refine T_istore (lv2 := [(6, vi 0), (5, vi 1), (0, vr 0), (1, vi l1), (2, vi l2), (3, vi l3), (4, vi l4)]) (dk dt_seek 56 rfl) (by decide) rfl ?_
    exact T_sub [2, 3, 4, 5, 6, 1, 0] rfl h
set_option maxRecDepth 100000 in
set_option maxHeartbeats 4000000 in
theorem sg_seek_91 {G : mG} {d : Nat} {x : gd} {P : Option gv → gd → Prop} (l1 : Int32) (l2 : Int32) (l3 : Int32) (l4 : Int32) (l5 : Int32) (l6 : Int32)
    (h : (((x.1 0 136) ≤ l6 → MT G (d + 1) z_seek 144 [(0, vr 0), (1, vi l1), (2, vi l2), (3, vi l3), (4, vi l4), (5, vi l5)] [] x P) ∧ (¬ ((x.1 0 136) ≤ l6) → ((l5 = (0 : Int32) → MT G (d + 1) z_seek 144 [(0, vr 0), (1, vi l1), (2, vi l2), (3, vi l3), (4, vi l4), (5, vi l5)] [] x P) ∧ (¬ (l5 = (0 : Int32)) → vp_in ((240 * l4) + l6) 720480 ∧ vp_in (l2 + l6) 720480 ∧ ((¬ ((x.1 133 ((240 * l4) + l6 : Int32).toNatClampNeg) = (x.1 133 (l2 + l6 : Int32).toNatClampNeg)) → MT G (d + 1) z_seek 91 [(0, vr 0), (1, vi l1), (2, vi l2), (3, vi l3), (4, vi l4), (5, vi 0), (6, vi (l6 + 1))] [] x P) ∧ ((x.1 133 ((240 * l4) + l6 : Int32).toNatClampNeg) = (x.1 133 (l2 + l6 : Int32).toNatClampNeg) → MT G (d + 1) z_seek 91 [(0, vr 0), (1, vi l1), (2, vi l2), (3, vi l3), (4, vi l4), (5, vi 1), (6, vi (l6 + 1))] [] x P))))))) :
    MT G (d + 1) z_seek 91 [(0, vr 0), (1, vi l1), (2, vi l2), (3, vi l3), (4, vi l4), (5, vi l5), (6, vi l6)] [] x P := by
  refine T_iload 6 (dk dt_seek 57 rfl) rfl ?_
  refine T_aload_n 0 (dk dt_seek 58 rfl) rfl rfl ?_
  refine T_getI 0 136 (dk dt_seek 59 rfl) fl_720 mk_0 ml_0 (by decide) rfl ?_
  refine T_icmp_ge 144 (dk dt_seek 60 rfl) (by decide) (fun c1 => ?_) (fun c1 => ?_)
  · have h := h.1 c1
    exact T_sub [0, 1, 2, 3, 4, 5] rfl h
  · have h := h.2 c1
    refine T_iload 5 (dk dt_seek 61 rfl) rfl ?_
    refine T_if_eq 144 (dk dt_seek 62 rfl) (by decide) (fun c2 => ?_) (fun c2 => ?_)
    · have h := h.1 c2
      exact T_sub [0, 1, 2, 3, 4, 5] rfl h
    · have h := h.2 c2
      refine T_aload_n 0 (dk dt_seek 63 rfl) rfl rfl ?_
      refine T_getR 0 132 133 (dk dt_seek 64 rfl) fl_298 mk_0 ml_0 (by decide) rfl rfl ?_
      refine T_sipush (v := 240) (dk dt_seek 65 rfl) (by decide +kernel) ?_
      refine T_iload 4 (dk dt_seek 66 rfl) rfl ?_
      refine T_imul (dk dt_seek 67 rfl) ?_
      refine T_iload 6 (dk dt_seek 68 rfl) rfl ?_
      refine T_iadd (dk dt_seek 69 rfl) ?_
      obtain ⟨h3, h⟩ := h
      refine T_iald 133 720480 (dk dt_seek 70 rfl) mk_133 ml_133 h3 ?_
      refine T_aload_n 0 (dk dt_seek 71 rfl) rfl rfl ?_
      refine T_getR 0 132 133 (dk dt_seek 72 rfl) fl_298 mk_0 ml_0 (by decide) rfl rfl ?_
      refine T_iload_n 2 (dk dt_seek 73 rfl) rfl rfl ?_
      refine T_iload 6 (dk dt_seek 74 rfl) rfl ?_
      refine T_iadd (dk dt_seek 75 rfl) ?_
      obtain ⟨h4, h⟩ := h
      refine T_iald 133 720480 (dk dt_seek 76 rfl) mk_133 ml_133 h4 ?_
      refine T_icmp_ne 135 (dk dt_seek 77 rfl) (by decide) (fun c5 => ?_) (fun c5 => ?_)
      · have h := h.1 c5
        refine T_iconst (v := 0) (dk dt_seek 80 rfl) (by decide +kernel) ?_
        refine T_istore (lv2 := [(5, vi 0), (0, vr 0), (1, vi l1), (2, vi l2), (3, vi l3), (4, vi l4), (6, vi l6)]) (dk dt_seek 81 rfl) (by decide) rfl ?_
        refine T_iinc (v := l6 + 1) (lv2 := [(6, vi (l6 + 1)), (5, vi 0), (0, vr 0), (1, vi l1), (2, vi l2), (3, vi l3), (4, vi l4)]) 6 (dk dt_seek 82 rfl) rfl rfl (by decide) rfl ?_
        refine T_goto 91 (dk dt_seek 83 rfl) (by decide) ?_
        exact T_sub [2, 3, 4, 5, 6, 1, 0] rfl h
      · have h := h.2 c5
        refine T_iconst (v := 1) (dk dt_seek 78 rfl) (by decide +kernel) ?_
        refine T_goto 136 (dk dt_seek 79 rfl) (by decide) ?_
        refine T_istore (lv2 := [(5, vi 1), (0, vr 0), (1, vi l1), (2, vi l2), (3, vi l3), (4, vi l4), (6, vi l6)]) (dk dt_seek 81 rfl) (by decide) rfl ?_
        refine T_iinc (v := l6 + 1) (lv2 := [(6, vi (l6 + 1)), (5, vi 1), (0, vr 0), (1, vi l1), (2, vi l2), (3, vi l3), (4, vi l4)]) 6 (dk dt_seek 82 rfl) rfl rfl (by decide) rfl ?_
        refine T_goto 91 (dk dt_seek 83 rfl) (by decide) ?_
        exact T_sub [2, 3, 4, 5, 6, 1, 0] rfl h
set_option maxRecDepth 100000 in
set_option maxHeartbeats 4000000 in
theorem sg_seek_144 {G : mG} {d : Nat} {x : gd} {P : Option gv → gd → Prop} (l1 : Int32) (l2 : Int32) (l3 : Int32) (l4 : Int32) (l5 : Int32)
    (h : ((l5 = (0 : Int32) → vp_in l4 3001 ∧ MT G (d + 1) z_seek 79 [(0, vr 0), (1, vi l1), (2, vi l2), (3, vi l3), (4, vi (x.1 134 (l4 : Int32).toNatClampNeg))] [] x P) ∧ (¬ (l5 = (0 : Int32)) → P (some (vi l4)) x))) :
    MT G (d + 1) z_seek 144 [(0, vr 0), (1, vi l1), (2, vi l2), (3, vi l3), (4, vi l4), (5, vi l5)] [] x P := by
  refine T_iload 5 (dk dt_seek 84 rfl) rfl ?_
  refine T_if_eq 152 (dk dt_seek 85 rfl) (by decide) (fun c1 => ?_) (fun c1 => ?_)
  · have h := h.1 c1
    refine T_aload_n 0 (dk dt_seek 88 rfl) rfl rfl ?_
    refine T_getR 0 133 134 (dk dt_seek 89 rfl) fl_301 mk_0 ml_0 (by decide) rfl rfl ?_
    refine T_iload 4 (dk dt_seek 90 rfl) rfl ?_
    obtain ⟨h2, h⟩ := h
    refine T_iald 134 3001 (dk dt_seek 91 rfl) mk_134 ml_134 h2 ?_
    refine T_istore (lv2 := [(4, vi (x.1 134 (l4 : Int32).toNatClampNeg)), (0, vr 0), (1, vi l1), (2, vi l2), (3, vi l3), (5, vi l5)]) (dk dt_seek 92 rfl) (by decide) rfl ?_
    refine T_goto 79 (dk dt_seek 93 rfl) (by decide) ?_
    exact T_sub [1, 2, 3, 4, 0] rfl h
  · have h := h.2 c1
    refine T_iload 4 (dk dt_seek 86 rfl) rfl ?_
    exact MT_iret (dk dt_seek 87 rfl) rfl rfl h
set_option maxRecDepth 100000 in
theorem dt_find : dck cX12_find [(0, .aload_n 0, 1), (1, .getfield 275, 3), (4, .bipush 11, 2), (6, .iload_n 1, 1), (7, .imul, 1), (8, .iload_n 2, 1), (9, .iadd, 1), (10, .iaload, 1), (11, .iconst (-1), 1), (12, .if_icmp .ne 15, 3), (15, .aload_n 0, 1), (16, .getfield 275, 3), (19, .bipush 11, 2), (21, .iload_n 1, 1), (22, .imul, 1), (23, .iload_n 2, 1), (24, .iadd, 1), (25, .iload_n 3, 1), (26, .iastore, 1), (27, .return_, 1)] = true := by decide +kernel
set_option maxRecDepth 100000 in
set_option maxHeartbeats 4000000 in
theorem sg_find_0 {G : mG} {d : Nat} {x : gd} {P : Option gv → gd → Prop} (l1 : Int32) (l2 : Int32) (l3 : Int32)
    (h : vp_in ((11 * l1) + l2) 22 ∧ ((¬ ((x.1 126 ((11 * l1) + l2 : Int32).toNatClampNeg) = (-1 : Int32)) → P none x) ∧ ((x.1 126 ((11 * l1) + l2 : Int32).toNatClampNeg) = (-1 : Int32) → vp_in ((11 * l1) + l2) 22 ∧ (∀ x4 : gd, x4 = si x 126 ((11 * l1) + l2 : Int32).toNatClampNeg l3 → P none x4)))) :
    MT G d z_find 0 [(0, vr 0), (1, vi l1), (2, vi l2), (3, vi l3)] [] x P := by
  refine T_aload_n 0 (dk dt_find 0 rfl) rfl rfl ?_
  refine T_getR 0 125 126 (dk dt_find 1 rfl) fl_275 mk_0 ml_0 (by decide) rfl rfl ?_
  refine T_bipush (v := 11) (dk dt_find 2 rfl) (by decide +kernel) ?_
  refine T_iload_n 1 (dk dt_find 3 rfl) rfl rfl ?_
  refine T_imul (dk dt_find 4 rfl) ?_
  refine T_iload_n 2 (dk dt_find 5 rfl) rfl rfl ?_
  refine T_iadd (dk dt_find 6 rfl) ?_
  obtain ⟨h1, h⟩ := h
  refine T_iald 126 22 (dk dt_find 7 rfl) mk_126 ml_126 h1 ?_
  refine T_iconst (v := (-1)) (dk dt_find 8 rfl) (by decide +kernel) ?_
  refine T_icmp_ne 27 (dk dt_find 9 rfl) (by decide) (fun c2 => ?_) (fun c2 => ?_)
  · have h := h.1 c2
    exact MT_vret (dk dt_find 19 rfl) rfl h
  · have h := h.2 c2
    refine T_aload_n 0 (dk dt_find 10 rfl) rfl rfl ?_
    refine T_getR 0 125 126 (dk dt_find 11 rfl) fl_275 mk_0 ml_0 (by decide) rfl rfl ?_
    refine T_bipush (v := 11) (dk dt_find 12 rfl) (by decide +kernel) ?_
    refine T_iload_n 1 (dk dt_find 13 rfl) rfl rfl ?_
    refine T_imul (dk dt_find 14 rfl) ?_
    refine T_iload_n 2 (dk dt_find 15 rfl) rfl rfl ?_
    refine T_iadd (dk dt_find 16 rfl) ?_
    refine T_iload_n 3 (dk dt_find 17 rfl) rfl rfl ?_
    obtain ⟨h3, h⟩ := h
    obtain ⟨x4, ex4⟩ : ∃ z, z = si x 126 ((11 * l1) + l2 : Int32).toNatClampNeg l3 := ⟨_, rfl⟩
    have h := h x4 ex4
    refine T_iast 126 22 (dk dt_find 18 rfl) mk_126 ml_126 h3 ?_
    rw [← ex4]
    exact MT_vret (dk dt_find 19 rfl) rfl h
set_option maxRecDepth 100000 in
theorem dt_locksOf : dck cX12_locksOf [(0, .iconst 0, 1), (1, .istore_n 2, 1), (2, .iconst 0, 1), (3, .istore_n 3, 1), (4, .iload_n 3, 1), (5, .aload_n 0, 1), (6, .getfield 458, 3), (9, .if_icmp .ge 29, 3), (12, .aload_n 0, 1), (13, .getfield 145, 3), (16, .iload_n 3, 1), (17, .iaload, 1), (18, .iload_n 1, 1), (19, .if_icmp .ne 11, 3), (22, .iload_n 2, 1), (23, .iconst 1, 1), (24, .iload_n 3, 1), (25, .ishl, 1), (26, .ior, 1), (27, .goto 4, 3), (30, .iload_n 2, 1), (31, .istore_n 2, 1), (32, .iinc 3 1, 3), (35, .goto (-31), 3), (38, .iload_n 2, 1), (39, .ireturn, 1)] = true := by decide +kernel
set_option maxRecDepth 100000 in
set_option maxHeartbeats 4000000 in
theorem sg_locksOf_0 {G : mG} {d : Nat} {x : gd} {P : Option gv → gd → Prop} (l1 : Int32)
    (h : MT G d z_locksOf 4 [(0, vr 0), (1, vi l1), (2, vi 0), (3, vi 0)] [] x P) :
    MT G d z_locksOf 0 [(0, vr 0), (1, vi l1)] [] x P := by
  refine T_iconst (v := 0) (dk dt_locksOf 0 rfl) (by decide +kernel) ?_
  refine T_istore_n (lv2 := [(2, vi 0), (0, vr 0), (1, vi l1)]) (dk dt_locksOf 1 rfl) rfl (by decide) rfl ?_
  refine T_iconst (v := 0) (dk dt_locksOf 2 rfl) (by decide +kernel) ?_
  refine T_istore_n (lv2 := [(3, vi 0), (2, vi 0), (0, vr 0), (1, vi l1)]) (dk dt_locksOf 3 rfl) rfl (by decide) rfl ?_
  exact T_sub [2, 3, 1, 0] rfl h
set_option maxRecDepth 100000 in
set_option maxHeartbeats 4000000 in
theorem sg_locksOf_4 {G : mG} {d : Nat} {x : gd} {P : Option gv → gd → Prop} (l1 : Int32) (l2 : Int32) (l3 : Int32)
    (h : (((x.1 0 24) ≤ l3 → P (some (vi l2)) x) ∧ (¬ ((x.1 0 24) ≤ l3) → vp_in l3 6 ∧ ((¬ ((x.1 71 (l3 : Int32).toNatClampNeg) = l1) → MT G d z_locksOf 4 [(0, vr 0), (1, vi l1), (2, vi l2), (3, vi (l3 + 1))] [] x P) ∧ ((x.1 71 (l3 : Int32).toNatClampNeg) = l1 → MT G d z_locksOf 4 [(0, vr 0), (1, vi l1), (2, vi (l2 ||| (1 <<< (l3 &&& 31 : Int32)))), (3, vi (l3 + 1))] [] x P))))) :
    MT G d z_locksOf 4 [(0, vr 0), (1, vi l1), (2, vi l2), (3, vi l3)] [] x P := by
  refine T_iload_n 3 (dk dt_locksOf 4 rfl) rfl rfl ?_
  refine T_aload_n 0 (dk dt_locksOf 5 rfl) rfl rfl ?_
  refine T_getI 0 24 (dk dt_locksOf 6 rfl) fl_458 mk_0 ml_0 (by decide) rfl ?_
  refine T_icmp_ge 38 (dk dt_locksOf 7 rfl) (by decide) (fun c1 => ?_) (fun c1 => ?_)
  · have h := h.1 c1
    refine T_iload_n 2 (dk dt_locksOf 24 rfl) rfl rfl ?_
    exact MT_iret (dk dt_locksOf 25 rfl) rfl rfl h
  · have h := h.2 c1
    refine T_aload_n 0 (dk dt_locksOf 8 rfl) rfl rfl ?_
    refine T_getR 0 70 71 (dk dt_locksOf 9 rfl) fl_145 mk_0 ml_0 (by decide) rfl rfl ?_
    refine T_iload_n 3 (dk dt_locksOf 10 rfl) rfl rfl ?_
    obtain ⟨h2, h⟩ := h
    refine T_iald 71 6 (dk dt_locksOf 11 rfl) mk_71 ml_71 h2 ?_
    refine T_iload_n 1 (dk dt_locksOf 12 rfl) rfl rfl ?_
    refine T_icmp_ne 30 (dk dt_locksOf 13 rfl) (by decide) (fun c3 => ?_) (fun c3 => ?_)
    · have h := h.1 c3
      refine T_iload_n 2 (dk dt_locksOf 20 rfl) rfl rfl ?_
      refine T_istore_n (lv2 := [(2, vi l2), (0, vr 0), (1, vi l1), (3, vi l3)]) (dk dt_locksOf 21 rfl) rfl (by decide) rfl ?_
      refine T_iinc (v := l3 + 1) (lv2 := [(3, vi (l3 + 1)), (2, vi l2), (0, vr 0), (1, vi l1)]) 3 (dk dt_locksOf 22 rfl) rfl rfl (by decide) rfl ?_
      refine T_goto 4 (dk dt_locksOf 23 rfl) (by decide) ?_
      exact T_sub [2, 3, 1, 0] rfl h
    · have h := h.2 c3
      refine T_iload_n 2 (dk dt_locksOf 14 rfl) rfl rfl ?_
      refine T_iconst (v := 1) (dk dt_locksOf 15 rfl) (by decide +kernel) ?_
      refine T_iload_n 3 (dk dt_locksOf 16 rfl) rfl rfl ?_
      refine T_ishl (dk dt_locksOf 17 rfl) ?_
      refine T_ior (dk dt_locksOf 18 rfl) ?_
      refine T_goto 31 (dk dt_locksOf 19 rfl) (by decide) ?_
      refine T_istore_n (lv2 := [(2, vi (l2 ||| (1 <<< (l3 &&& 31 : Int32)))), (0, vr 0), (1, vi l1), (3, vi l3)]) (dk dt_locksOf 21 rfl) rfl (by decide) rfl ?_
      refine T_iinc (v := l3 + 1) (lv2 := [(3, vi (l3 + 1)), (2, vi (l2 ||| (1 <<< (l3 &&& 31 : Int32)))), (0, vr 0), (1, vi l1)]) 3 (dk dt_locksOf 22 rfl) rfl rfl (by decide) rfl ?_
      refine T_goto 4 (dk dt_locksOf 23 rfl) (by decide) ?_
      exact T_sub [2, 3, 1, 0] rfl h
set_option maxRecDepth 100000 in
theorem dt_addOutcome : dck cX12_addOutcome [(0, .iconst 0, 1), (1, .istore_n 2, 1), (2, .iload_n 2, 1), (3, .aload_n 0, 1), (4, .getfield 266, 3), (7, .iload_n 1, 1), (8, .iaload, 1), (9, .if_icmp .ge 72, 3), (12, .iconst 1, 1), (13, .istore_n 3, 1), (14, .iconst 0, 1), (15, .istore 4, 2), (17, .iload 4, 2), (19, .aload_n 0, 1), (20, .getfield 448, 3), (23, .if_icmp .ge 47, 3), (26, .iload_n 3, 1), (27, .ifCond .eq 43, 3), (30, .aload_n 0, 1), (31, .getfield 285, 3), (34, .ldc_w 727, 3), (37, .iload_n 1, 1), (38, .imul, 1), (39, .bipush 24, 2), (41, .iload_n 2, 1), (42, .imul, 1), (43, .iadd, 1), (44, .iload 4, 2), (46, .iadd, 1), (47, .iaload, 1), (48, .aload_n 0, 1), (49, .getfield 142, 3), (52, .iload 4, 2), (54, .iaload, 1), (55, .if_icmp .ne 7, 3), (58, .iconst 1, 1), (59, .goto 4, 3), (62, .iconst 0, 1), (63, .istore_n 3, 1), (64, .iinc 4 1, 3), (67, .goto (-50), 3), (70, .iload_n 3, 1), (71, .ifCond .eq 4, 3), (74, .return_, 1), (75, .iinc 2 1, 3), (78, .goto (-76), 3), (81, .iconst 0, 1), (82, .istore_n 2, 1), (83, .iload_n 2, 1), (84, .bipush 24, 2), (86, .if_icmp .ge 37, 3), (89, .aload_n 0, 1), (90, .getfield 285, 3), (93, .ldc_w 727, 3), (96, .iload_n 1, 1), (97, .imul, 1), (98, .bipush 24, 2), (100, .aload_n 0, 1), (101, .getfield 266, 3), (104, .iload_n 1, 1), (105, .iaload, 1), (106, .imul, 1), (107, .iadd, 1), (108, .iload_n 2, 1), (109, .iadd, 1), (110, .aload_n 0, 1), (111, .getfield 142, 3), (114, .iload_n 2, 1), (115, .iaload, 1), (116, .iastore, 1), (117, .iinc 2 1, 3), (120, .goto (-37), 3), (123, .aload_n 0, 1), (124, .getfield 266, 3), (127, .iload_n 1, 1), (128, .dup2, 1), (129, .iaload, 1), (130, .iconst 1, 1), (131, .iadd, 1), (132, .iastore, 1), (133, .return_, 1)] = true := by decide +kernel
set_option maxRecDepth 100000 in
set_option maxHeartbeats 4000000 in
theorem sg_addOutcome_0 {G : mG} {d : Nat} {x : gd} {P : Option gv → gd → Prop} (l1 : Int32)
    (h : MT G d z_addOutcome 2 [(0, vr 0), (1, vi l1), (2, vi 0)] [] x P) :
    MT G d z_addOutcome 0 [(0, vr 0), (1, vi l1)] [] x P := by
  refine T_iconst (v := 0) (dk dt_addOutcome 0 rfl) (by decide +kernel) ?_
  refine T_istore_n (lv2 := [(2, vi 0), (0, vr 0), (1, vi l1)]) (dk dt_addOutcome 1 rfl) rfl (by decide) rfl ?_
  exact T_sub [1, 2, 0] rfl h
set_option maxRecDepth 100000 in
set_option maxHeartbeats 4000000 in
theorem sg_addOutcome_2 {G : mG} {d : Nat} {x : gd} {P : Option gv → gd → Prop} (l1 : Int32) (l2 : Int32)
    (h : vp_in l1 2 ∧ (((x.1 123 (l1 : Int32).toNatClampNeg) ≤ l2 → MT G d z_addOutcome 83 [(0, vr 0), (1, vi l1), (2, vi 0)] [] x P) ∧ (¬ ((x.1 123 (l1 : Int32).toNatClampNeg) ≤ l2) → MT G d z_addOutcome 17 [(0, vr 0), (1, vi l1), (2, vi l2), (3, vi 1), (4, vi 0)] [] x P))) :
    MT G d z_addOutcome 2 [(0, vr 0), (1, vi l1), (2, vi l2)] [] x P := by
  refine T_iload_n 2 (dk dt_addOutcome 2 rfl) rfl rfl ?_
  refine T_aload_n 0 (dk dt_addOutcome 3 rfl) rfl rfl ?_
  refine T_getR 0 122 123 (dk dt_addOutcome 4 rfl) fl_266 mk_0 ml_0 (by decide) rfl rfl ?_
  refine T_iload_n 1 (dk dt_addOutcome 5 rfl) rfl rfl ?_
  obtain ⟨h1, h⟩ := h
  refine T_iald 123 2 (dk dt_addOutcome 6 rfl) mk_123 ml_123 h1 ?_
  refine T_icmp_ge 81 (dk dt_addOutcome 7 rfl) (by decide) (fun c2 => ?_) (fun c2 => ?_)
  · have h := h.1 c2
    refine T_iconst (v := 0) (dk dt_addOutcome 46 rfl) (by decide +kernel) ?_
    refine T_istore_n (lv2 := [(2, vi 0), (0, vr 0), (1, vi l1)]) (dk dt_addOutcome 47 rfl) rfl (by decide) rfl ?_
    exact T_sub [1, 2, 0] rfl h
  · have h := h.2 c2
    refine T_iconst (v := 1) (dk dt_addOutcome 8 rfl) (by decide +kernel) ?_
    refine T_istore_n (lv2 := [(3, vi 1), (0, vr 0), (1, vi l1), (2, vi l2)]) (dk dt_addOutcome 9 rfl) rfl (by decide) rfl ?_
    refine T_iconst (v := 0) (dk dt_addOutcome 10 rfl) (by decide +kernel) ?_
    refine T_istore (lv2 := [(4, vi 0), (3, vi 1), (0, vr 0), (1, vi l1), (2, vi l2)]) (dk dt_addOutcome 11 rfl) (by decide) rfl ?_
    exact T_sub [2, 3, 4, 1, 0] rfl h
set_option maxRecDepth 100000 in
set_option maxHeartbeats 4000000 in
theorem sg_addOutcome_17 {G : mG} {d : Nat} {x : gd} {P : Option gv → gd → Prop} (l1 : Int32) (l2 : Int32) (l3 : Int32) (l4 : Int32)
    (h : (((x.1 0 23) ≤ l4 → MT G d z_addOutcome 70 [(0, vr 0), (1, vi l1), (2, vi l2), (3, vi l3)] [] x P) ∧ (¬ ((x.1 0 23) ≤ l4) → ((l3 = (0 : Int32) → MT G d z_addOutcome 70 [(0, vr 0), (1, vi l1), (2, vi l2), (3, vi l3)] [] x P) ∧ (¬ (l3 = (0 : Int32)) → vp_in (((72000 * l1) + (24 * l2)) + l4) 144000 ∧ vp_in l4 24 ∧ ((¬ ((x.1 129 (((72000 * l1) + (24 * l2)) + l4 : Int32).toNatClampNeg) = (x.1 70 (l4 : Int32).toNatClampNeg)) → MT G d z_addOutcome 17 [(0, vr 0), (1, vi l1), (2, vi l2), (3, vi 0), (4, vi (l4 + 1))] [] x P) ∧ ((x.1 129 (((72000 * l1) + (24 * l2)) + l4 : Int32).toNatClampNeg) = (x.1 70 (l4 : Int32).toNatClampNeg) → MT G d z_addOutcome 17 [(0, vr 0), (1, vi l1), (2, vi l2), (3, vi 1), (4, vi (l4 + 1))] [] x P))))))) :
    MT G d z_addOutcome 17 [(0, vr 0), (1, vi l1), (2, vi l2), (3, vi l3), (4, vi l4)] [] x P := by
  refine T_iload 4 (dk dt_addOutcome 12 rfl) rfl ?_
  refine T_aload_n 0 (dk dt_addOutcome 13 rfl) rfl rfl ?_
  refine T_getI 0 23 (dk dt_addOutcome 14 rfl) fl_448 mk_0 ml_0 (by decide) rfl ?_
  refine T_icmp_ge 70 (dk dt_addOutcome 15 rfl) (by decide) (fun c1 => ?_) (fun c1 => ?_)
  · have h := h.1 c1
    exact T_sub [0, 1, 2, 3] rfl h
  · have h := h.2 c1
    refine T_iload_n 3 (dk dt_addOutcome 16 rfl) rfl rfl ?_
    refine T_if_eq 70 (dk dt_addOutcome 17 rfl) (by decide) (fun c2 => ?_) (fun c2 => ?_)
    · have h := h.1 c2
      exact T_sub [0, 1, 2, 3] rfl h
    · have h := h.2 c2
      refine T_aload_n 0 (dk dt_addOutcome 18 rfl) rfl rfl ?_
      refine T_getR 0 128 129 (dk dt_addOutcome 19 rfl) fl_285 mk_0 ml_0 (by decide) rfl rfl ?_
      refine T_ldcw (v := 72000) (dk dt_addOutcome 20 rfl) kc_727 ?_
      refine T_iload_n 1 (dk dt_addOutcome 21 rfl) rfl rfl ?_
      refine T_imul (dk dt_addOutcome 22 rfl) ?_
      refine T_bipush (v := 24) (dk dt_addOutcome 23 rfl) (by decide +kernel) ?_
      refine T_iload_n 2 (dk dt_addOutcome 24 rfl) rfl rfl ?_
      refine T_imul (dk dt_addOutcome 25 rfl) ?_
      refine T_iadd (dk dt_addOutcome 26 rfl) ?_
      refine T_iload 4 (dk dt_addOutcome 27 rfl) rfl ?_
      refine T_iadd (dk dt_addOutcome 28 rfl) ?_
      obtain ⟨h3, h⟩ := h
      refine T_iald 129 144000 (dk dt_addOutcome 29 rfl) mk_129 ml_129 h3 ?_
      refine T_aload_n 0 (dk dt_addOutcome 30 rfl) rfl rfl ?_
      refine T_getR 0 69 70 (dk dt_addOutcome 31 rfl) fl_142 mk_0 ml_0 (by decide) rfl rfl ?_
      refine T_iload 4 (dk dt_addOutcome 32 rfl) rfl ?_
      obtain ⟨h4, h⟩ := h
      refine T_iald 70 24 (dk dt_addOutcome 33 rfl) mk_70 ml_70 h4 ?_
      refine T_icmp_ne 62 (dk dt_addOutcome 34 rfl) (by decide) (fun c5 => ?_) (fun c5 => ?_)
      · have h := h.1 c5
        refine T_iconst (v := 0) (dk dt_addOutcome 37 rfl) (by decide +kernel) ?_
        refine T_istore_n (lv2 := [(3, vi 0), (0, vr 0), (1, vi l1), (2, vi l2), (4, vi l4)]) (dk dt_addOutcome 38 rfl) rfl (by decide) rfl ?_
        refine T_iinc (v := l4 + 1) (lv2 := [(4, vi (l4 + 1)), (3, vi 0), (0, vr 0), (1, vi l1), (2, vi l2)]) 4 (dk dt_addOutcome 39 rfl) rfl rfl (by decide) rfl ?_
        refine T_goto 17 (dk dt_addOutcome 40 rfl) (by decide) ?_
        exact T_sub [2, 3, 4, 1, 0] rfl h
      · have h := h.2 c5
        refine T_iconst (v := 1) (dk dt_addOutcome 35 rfl) (by decide +kernel) ?_
        refine T_goto 63 (dk dt_addOutcome 36 rfl) (by decide) ?_
        refine T_istore_n (lv2 := [(3, vi 1), (0, vr 0), (1, vi l1), (2, vi l2), (4, vi l4)]) (dk dt_addOutcome 38 rfl) rfl (by decide) rfl ?_
        refine T_iinc (v := l4 + 1) (lv2 := [(4, vi (l4 + 1)), (3, vi 1), (0, vr 0), (1, vi l1), (2, vi l2)]) 4 (dk dt_addOutcome 39 rfl) rfl rfl (by decide) rfl ?_
        refine T_goto 17 (dk dt_addOutcome 40 rfl) (by decide) ?_
        exact T_sub [2, 3, 4, 1, 0] rfl h
set_option maxRecDepth 100000 in
set_option maxHeartbeats 4000000 in
theorem sg_addOutcome_70 {G : mG} {d : Nat} {x : gd} {P : Option gv → gd → Prop} (l1 : Int32) (l2 : Int32) (l3 : Int32)
    (h : ((l3 = (0 : Int32) → MT G d z_addOutcome 2 [(0, vr 0), (1, vi l1), (2, vi (l2 + 1))] [] x P) ∧ (¬ (l3 = (0 : Int32)) → P none x))) :
    MT G d z_addOutcome 70 [(0, vr 0), (1, vi l1), (2, vi l2), (3, vi l3)] [] x P := by
  refine T_iload_n 3 (dk dt_addOutcome 41 rfl) rfl rfl ?_
  refine T_if_eq 75 (dk dt_addOutcome 42 rfl) (by decide) (fun c1 => ?_) (fun c1 => ?_)
  · have h := h.1 c1
    refine T_iinc (v := l2 + 1) (lv2 := [(2, vi (l2 + 1)), (0, vr 0), (1, vi l1), (3, vi l3)]) 2 (dk dt_addOutcome 44 rfl) rfl rfl (by decide) rfl ?_
    refine T_goto 2 (dk dt_addOutcome 45 rfl) (by decide) ?_
    exact T_sub [1, 2, 0] rfl h
  · have h := h.2 c1
    exact MT_vret (dk dt_addOutcome 43 rfl) rfl h
set_option maxRecDepth 100000 in
set_option maxHeartbeats 4000000 in
theorem sg_addOutcome_83 {G : mG} {d : Nat} {x : gd} {P : Option gv → gd → Prop} (l1 : Int32) (l2 : Int32)
    (h : (((24 : Int32) ≤ l2 → vp_in l1 2 ∧ vp_in l1 2 ∧ (∀ x4 : gd, x4 = si x 123 (l1 : Int32).toNatClampNeg ((x.1 123 (l1 : Int32).toNatClampNeg) + 1) → P none x4)) ∧ (¬ ((24 : Int32) ≤ l2) → vp_in l1 2 ∧ vp_in l2 24 ∧ vp_in (((72000 * l1) + (24 * (x.1 123 (l1 : Int32).toNatClampNeg))) + l2) 144000 ∧ (∀ x8 : gd, x8 = si x 129 (((72000 * l1) + (24 * (x.1 123 (l1 : Int32).toNatClampNeg))) + l2 : Int32).toNatClampNeg (x.1 70 (l2 : Int32).toNatClampNeg) → MT G d z_addOutcome 83 [(0, vr 0), (1, vi l1), (2, vi (l2 + 1))] [] x8 P)))) :
    MT G d z_addOutcome 83 [(0, vr 0), (1, vi l1), (2, vi l2)] [] x P := by
  refine T_iload_n 2 (dk dt_addOutcome 48 rfl) rfl rfl ?_
  refine T_bipush (v := 24) (dk dt_addOutcome 49 rfl) (by decide +kernel) ?_
  refine T_icmp_ge 123 (dk dt_addOutcome 50 rfl) (by decide) (fun c1 => ?_) (fun c1 => ?_)
  · have h := h.1 c1
    refine T_aload_n 0 (dk dt_addOutcome 72 rfl) rfl rfl ?_
    refine T_getR 0 122 123 (dk dt_addOutcome 73 rfl) fl_266 mk_0 ml_0 (by decide) rfl rfl ?_
    refine T_iload_n 1 (dk dt_addOutcome 74 rfl) rfl rfl ?_
    refine T_dup2 (dk dt_addOutcome 75 rfl) rfl rfl ?_
    obtain ⟨h2, h⟩ := h
    refine T_iald 123 2 (dk dt_addOutcome 76 rfl) mk_123 ml_123 h2 ?_
    refine T_iconst (v := 1) (dk dt_addOutcome 77 rfl) (by decide +kernel) ?_
    refine T_iadd (dk dt_addOutcome 78 rfl) ?_
    obtain ⟨h3, h⟩ := h
    obtain ⟨x4, ex4⟩ : ∃ z, z = si x 123 (l1 : Int32).toNatClampNeg ((x.1 123 (l1 : Int32).toNatClampNeg) + 1) := ⟨_, rfl⟩
    have h := h x4 ex4
    refine T_iast 123 2 (dk dt_addOutcome 79 rfl) mk_123 ml_123 h3 ?_
    rw [← ex4]
    exact MT_vret (dk dt_addOutcome 80 rfl) rfl h
  · have h := h.2 c1
    refine T_aload_n 0 (dk dt_addOutcome 51 rfl) rfl rfl ?_
    refine T_getR 0 128 129 (dk dt_addOutcome 52 rfl) fl_285 mk_0 ml_0 (by decide) rfl rfl ?_
    refine T_ldcw (v := 72000) (dk dt_addOutcome 53 rfl) kc_727 ?_
    refine T_iload_n 1 (dk dt_addOutcome 54 rfl) rfl rfl ?_
    refine T_imul (dk dt_addOutcome 55 rfl) ?_
    refine T_bipush (v := 24) (dk dt_addOutcome 56 rfl) (by decide +kernel) ?_
    refine T_aload_n 0 (dk dt_addOutcome 57 rfl) rfl rfl ?_
    refine T_getR 0 122 123 (dk dt_addOutcome 58 rfl) fl_266 mk_0 ml_0 (by decide) rfl rfl ?_
    refine T_iload_n 1 (dk dt_addOutcome 59 rfl) rfl rfl ?_
    obtain ⟨h5, h⟩ := h
    refine T_iald 123 2 (dk dt_addOutcome 60 rfl) mk_123 ml_123 h5 ?_
    refine T_imul (dk dt_addOutcome 61 rfl) ?_
    refine T_iadd (dk dt_addOutcome 62 rfl) ?_
    refine T_iload_n 2 (dk dt_addOutcome 63 rfl) rfl rfl ?_
    refine T_iadd (dk dt_addOutcome 64 rfl) ?_
    refine T_aload_n 0 (dk dt_addOutcome 65 rfl) rfl rfl ?_
    refine T_getR 0 69 70 (dk dt_addOutcome 66 rfl) fl_142 mk_0 ml_0 (by decide) rfl rfl ?_
    refine T_iload_n 2 (dk dt_addOutcome 67 rfl) rfl rfl ?_
    obtain ⟨h6, h⟩ := h
    refine T_iald 70 24 (dk dt_addOutcome 68 rfl) mk_70 ml_70 h6 ?_
    obtain ⟨h7, h⟩ := h
    obtain ⟨x8, ex8⟩ : ∃ z, z = si x 129 (((72000 * l1) + (24 * (x.1 123 (l1 : Int32).toNatClampNeg))) + l2 : Int32).toNatClampNeg (x.1 70 (l2 : Int32).toNatClampNeg) := ⟨_, rfl⟩
    have h := h x8 ex8
    refine T_iast 129 144000 (dk dt_addOutcome 69 rfl) mk_129 ml_129 h7 ?_
    rw [← ex8]
    refine T_iinc (v := l2 + 1) (lv2 := [(2, vi (l2 + 1)), (0, vr 0), (1, vi l1)]) 2 (dk dt_addOutcome 70 rfl) rfl rfl (by decide) rfl ?_
    refine T_goto 83 (dk dt_addOutcome 71 rfl) (by decide) ?_
    exact T_sub [1, 2, 0] rfl h
