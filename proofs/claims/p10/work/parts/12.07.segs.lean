set_option maxRecDepth 100000 in
theorem dt_worked : dck cX12_worked [(0, .iconst 0, 1), (1, .istore_n 3, 1), (2, .aload_n 0, 1), (3, .iconst 0, 1), (4, .putfield 581, 3), (7, .iload_n 1, 1), (8, .istore 4, 2), (10, .aload_n 0, 1), (11, .getfield 97, 3), (14, .iload 4, 2), (16, .iaload, 1), (17, .ifCond .eq 217, 3), (20, .aload_n 0, 1), (21, .getfield 100, 3), (24, .iload 4, 2), (26, .iaload, 1), (27, .istore 5, 2), (29, .aload_n 0, 1), (30, .getfield 97, 3), (33, .iload 4, 2), (35, .iaload, 1), (36, .tableswitch 152 1 5 #[36, 50, 74, 87, 106], 36), (72, .aload_n 0, 1), (73, .getfield 181, 3), (76, .iload_n 3, 1), (77, .iload 5, 2), (79, .iastore, 1), (80, .iinc 3 1, 3), (83, .goto 145, 3), (86, .aload_n 0, 1), (87, .getfield 181, 3), (90, .iload_n 3, 1), (91, .aload_n 0, 1), (92, .getfield 160, 3), (95, .bipush 8, 2), (97, .iload_n 2, 1), (98, .imul, 1), (99, .iload 5, 2), (101, .iadd, 1), (102, .iaload, 1), (103, .iastore, 1), (104, .iinc 3 1, 3), (107, .goto 121, 3), (110, .aload_n 0, 1), (111, .getfield 181, 3), (114, .iload_n 3, 1), (115, .iload_n 2, 1), (116, .iastore, 1), (117, .iinc 3 1, 3), (120, .goto 108, 3), (123, .aload_n 0, 1), (124, .getfield 181, 3), (127, .iload_n 3, 1), (128, .aload_n 0, 1), (129, .getfield 142, 3), (132, .iload 5, 2), (134, .iaload, 1), (135, .iastore, 1), (136, .iinc 3 1, 3), (139, .goto 89, 3), (142, .aload_n 0, 1), (143, .getfield 181, 3), (146, .iload_n 3, 1), (147, .iconst 1, 1), (148, .isub, 1), (149, .iload 5, 2), (151, .bipush 29, 2), (153, .if_icmp .ne 22, 3), (156, .aload_n 0, 1), (157, .getfield 181, 3), (160, .iload_n 3, 1), (161, .iconst 1, 1), (162, .isub, 1), (163, .iaload, 1), (164, .ifCond .ne 7, 3), (167, .iconst 1, 1), (168, .goto 16, 3), (171, .iconst 0, 1), (172, .goto 12, 3), (175, .aload_n 0, 1), (176, .getfield 181, 3), (179, .iload_n 3, 1), (180, .iconst 1, 1), (181, .isub, 1), (182, .iaload, 1), (183, .ineg, 1), (184, .iastore, 1), (185, .goto 43, 3), (188, .iinc 3 (-1), 3), (191, .aload_n 0, 1), (192, .getfield 181, 3), (195, .iload_n 3, 1), (196, .iconst 1, 1), (197, .isub, 1), (198, .aload_n 0, 1), (199, .iload 5, 2), (201, .aload_n 0, 1), (202, .getfield 181, 3), (205, .iload_n 3, 1), (206, .iconst 1, 1), (207, .isub, 1), (208, .iaload, 1), (209, .aload_n 0, 1), (210, .getfield 181, 3), (213, .iload_n 3, 1), (214, .iaload, 1), (215, .invokevirtual 584, 3), (218, .iastore, 1), (219, .aload_n 0, 1), (220, .getfield 581, 3), (223, .ifCond .le 5, 3), (226, .iconst 0, 1), (227, .ireturn, 1), (228, .iinc 4 1, 3), (231, .goto (-221), 3), (234, .aload_n 0, 1), (235, .getfield 181, 3), (238, .iconst 0, 1), (239, .iaload, 1), (240, .ireturn, 1)] = true := by decide +kernel
set_option maxRecDepth 100000 in
set_option maxHeartbeats 4000000 in
theorem sg_worked_0 {G : mG} {d : Nat} {x : gd} {P : Option gv → gd → Prop} (l1 : Int32) (l2 : Int32)
    (h : (∀ x1 : gd, x1 = si x 0 82 0 → MT G (d + 1) z_worked 10 [(0, vr 0), (2, vi l2), (3, vi 0), (4, vi l1)] [] x1 P)) :
    MT G (d + 1) z_worked 0 [(0, vr 0), (1, vi l1), (2, vi l2)] [] x P := by
  refine T_iconst (v := 0) (dk dt_worked 0 rfl) (by decide +kernel) ?_
  refine T_istore_n (lv2 := [(3, vi 0), (0, vr 0), (1, vi l1), (2, vi l2)]) (dk dt_worked 1 rfl) rfl (by decide) rfl ?_
  refine T_aload_n 1 (dk dt_worked 2 rfl) rfl rfl ?_
  refine T_iconst (v := 0) (dk dt_worked 3 rfl) (by decide +kernel) ?_
  obtain ⟨x1, ex1⟩ : ∃ z, z = si x 0 82 0 := ⟨_, rfl⟩
  have h := h x1 ex1
  refine T_putI 0 82 (dk dt_worked 4 rfl) fl_581 mk_0 ml_0 (by decide) rfl ⟨rfl, rfl⟩ ?_
  rw [← ex1]
  refine T_iload_n 2 (dk dt_worked 5 rfl) rfl rfl ?_
  refine T_istore (lv2 := [(4, vi l1), (3, vi 0), (0, vr 0), (1, vi l1), (2, vi l2)]) (dk dt_worked 6 rfl) (by decide) rfl ?_
  exact T_sub [2, 4, 1, 0] rfl h
set_option maxRecDepth 100000 in
set_option maxHeartbeats 4000000 in
theorem sg_worked_10 {G : mG} {d : Nat} {x : gd} {P : Option gv → gd → Prop} (l2 : Int32) (l3 : Int32) (l4 : Int32)
    (h : vp_in l4 6000 ∧ (((x.1 51 (l4 : Int32).toNatClampNeg) = (0 : Int32) → vp_in 0 60 ∧ P (some (vi (x.1 84 (0 : Int32).toNatClampNeg))) x) ∧ (¬ ((x.1 51 (l4 : Int32).toNatClampNeg) = (0 : Int32)) → vp_in l4 6000 ∧ vp_in l4 6000 ∧ ((((x.1 51 (l4 : Int32).toNatClampNeg) = 1) → vp_in l3 60 ∧ (∀ x8 : gd, x8 = si x 84 (l3 : Int32).toNatClampNeg (x.1 52 (l4 : Int32).toNatClampNeg) → MT G (d + 1) z_worked 10 [(0, vr 0), (2, vi l2), (3, vi (l3 + 1)), (4, vi (l4 + 1))] [] x8 P)) ∧ (((x.1 51 (l4 : Int32).toNatClampNeg) = 2) → vp_in ((8 * l2) + (x.1 52 (l4 : Int32).toNatClampNeg)) 48 ∧ vp_in l3 60 ∧ (∀ x12 : gd, x12 = si x 84 (l3 : Int32).toNatClampNeg (x.1 76 ((8 * l2) + (x.1 52 (l4 : Int32).toNatClampNeg) : Int32).toNatClampNeg) → MT G (d + 1) z_worked 10 [(0, vr 0), (2, vi l2), (3, vi (l3 + 1)), (4, vi (l4 + 1))] [] x12 P)) ∧ (((x.1 51 (l4 : Int32).toNatClampNeg) = 3) → vp_in l3 60 ∧ (∀ x15 : gd, x15 = si x 84 (l3 : Int32).toNatClampNeg l2 → MT G (d + 1) z_worked 10 [(0, vr 0), (2, vi l2), (3, vi (l3 + 1)), (4, vi (l4 + 1))] [] x15 P)) ∧ (((x.1 51 (l4 : Int32).toNatClampNeg) = 4) → vp_in (x.1 52 (l4 : Int32).toNatClampNeg) 24 ∧ vp_in l3 60 ∧ (∀ x19 : gd, x19 = si x 84 (l3 : Int32).toNatClampNeg (x.1 70 (x.1 52 (l4 : Int32).toNatClampNeg : Int32).toNatClampNeg) → MT G (d + 1) z_worked 10 [(0, vr 0), (2, vi l2), (3, vi (l3 + 1)), (4, vi (l4 + 1))] [] x19 P)) ∧ (((x.1 51 (l4 : Int32).toNatClampNeg) = 5) → ((¬ ((x.1 52 (l4 : Int32).toNatClampNeg) = (29 : Int32)) → vp_in (l3 - 1) 60 ∧ vp_in (l3 - 1) 60 ∧ (∀ x24 : gd, x24 = si x 84 (l3 - 1 : Int32).toNatClampNeg (-(x.1 84 (l3 - 1 : Int32).toNatClampNeg)) → MT G (d + 1) z_worked 10 [(0, vr 0), (2, vi l2), (3, vi l3), (4, vi (l4 + 1))] [] x24 P)) ∧ ((x.1 52 (l4 : Int32).toNatClampNeg) = (29 : Int32) → vp_in (l3 - 1) 60 ∧ ((¬ ((x.1 84 (l3 - 1 : Int32).toNatClampNeg) = (0 : Int32)) → vp_in (l3 - 1) 60 ∧ (∀ x28 : gd, x28 = si x 84 (l3 - 1 : Int32).toNatClampNeg 0 → MT G (d + 1) z_worked 10 [(0, vr 0), (2, vi l2), (3, vi l3), (4, vi (l4 + 1))] [] x28 P)) ∧ ((x.1 84 (l3 - 1 : Int32).toNatClampNeg) = (0 : Int32) → vp_in (l3 - 1) 60 ∧ (∀ x30 : gd, x30 = si x 84 (l3 - 1 : Int32).toNatClampNeg 1 → MT G (d + 1) z_worked 10 [(0, vr 0), (2, vi l2), (3, vi l3), (4, vi (l4 + 1))] [] x30 P)))))) ∧ ((∀ k ∈ [(1 : Int32), (2 : Int32), (3 : Int32), (4 : Int32), (5 : Int32)], ¬ (x.1 51 (l4 : Int32).toNatClampNeg) = k) → vp_in ((l3 + (-1)) - 1) 60 ∧ vp_in (l3 + (-1)) 60 ∧ MT G d z_reckon 0 [(0, vr 0), (1, vi (x.1 52 (l4 : Int32).toNatClampNeg)), (2, vi (x.1 84 ((l3 + (-1)) - 1 : Int32).toNatClampNeg)), (3, vi (x.1 84 (l3 + (-1) : Int32).toNatClampNeg))] [] x (ri (fun r35 x34 => vp_in ((l3 + (-1)) - 1) 60 ∧ (∀ x37 : gd, x37 = si x34 84 ((l3 + (-1)) - 1 : Int32).toNatClampNeg r35 → (((x37.1 0 82) ≤ (0 : Int32) → MT G (d + 1) z_worked 10 [(0, vr 0), (2, vi l2), (3, vi (l3 + (-1))), (4, vi (l4 + 1))] [] x37 P) ∧ (¬ ((x37.1 0 82) ≤ (0 : Int32)) → P (some (vi 0)) x37)))))))))) :
    MT G (d + 1) z_worked 10 [(0, vr 0), (2, vi l2), (3, vi l3), (4, vi l4)] [] x P := by
  refine T_aload_n 0 (dk dt_worked 7 rfl) rfl rfl ?_
  refine T_getR 0 50 51 (dk dt_worked 8 rfl) fl_97 mk_0 ml_0 (by decide) rfl rfl ?_
  refine T_iload 3 (dk dt_worked 9 rfl) rfl ?_
  obtain ⟨h1, h⟩ := h
  refine T_iald 51 6000 (dk dt_worked 10 rfl) mk_51 ml_51 h1 ?_
  refine T_if_eq 234 (dk dt_worked 11 rfl) (by decide) (fun c2 => ?_) (fun c2 => ?_)
  · have h := h.1 c2
    refine T_aload_n 0 (dk dt_worked 115 rfl) rfl rfl ?_
    refine T_getR 0 83 84 (dk dt_worked 116 rfl) fl_181 mk_0 ml_0 (by decide) rfl rfl ?_
    refine T_iconst (v := 0) (dk dt_worked 117 rfl) (by decide +kernel) ?_
    obtain ⟨h3, h⟩ := h
    refine T_iald 84 60 (dk dt_worked 118 rfl) mk_84 ml_84 h3 ?_
    exact MT_iret (dk dt_worked 119 rfl) rfl rfl h
  · have h := h.2 c2
    refine T_aload_n 0 (dk dt_worked 12 rfl) rfl rfl ?_
    refine T_getR 0 51 52 (dk dt_worked 13 rfl) fl_100 mk_0 ml_0 (by decide) rfl rfl ?_
    refine T_iload 3 (dk dt_worked 14 rfl) rfl ?_
    obtain ⟨h4, h⟩ := h
    refine T_iald 52 6000 (dk dt_worked 15 rfl) mk_52 ml_52 h4 ?_
    refine T_istore (lv2 := [(5, vi (x.1 52 (l4 : Int32).toNatClampNeg)), (0, vr 0), (2, vi l2), (3, vi l3), (4, vi l4)]) (dk dt_worked 16 rfl) (by decide) rfl ?_
    refine T_aload_n 1 (dk dt_worked 17 rfl) rfl rfl ?_
    refine T_getR 0 50 51 (dk dt_worked 18 rfl) fl_97 mk_0 ml_0 (by decide) rfl rfl ?_
    refine T_iload 4 (dk dt_worked 19 rfl) rfl ?_
    obtain ⟨h5, h⟩ := h
    refine T_iald 51 6000 (dk dt_worked 20 rfl) mk_51 ml_51 h5 ?_
    by_cases c6 : (x.1 51 (l4 : Int32).toNatClampNeg) = 1
    · have h := h.1 c6
      refine T_table 36 72 (dk dt_worked 21 rfl) (by decide) (by rw [c6]; decide +kernel) (by decide) ?_
      refine T_aload_n 1 (dk dt_worked 22 rfl) rfl rfl ?_
      refine T_getR 0 83 84 (dk dt_worked 23 rfl) fl_181 mk_0 ml_0 (by decide) rfl rfl ?_
      refine T_iload_n 3 (dk dt_worked 24 rfl) rfl rfl ?_
      refine T_iload 0 (dk dt_worked 25 rfl) rfl ?_
      obtain ⟨h7, h⟩ := h
      obtain ⟨x8, ex8⟩ : ∃ z, z = si x 84 (l3 : Int32).toNatClampNeg (x.1 52 (l4 : Int32).toNatClampNeg) := ⟨_, rfl⟩
      have h := h x8 ex8
      refine T_iast 84 60 (dk dt_worked 26 rfl) mk_84 ml_84 h7 ?_
      rw [← ex8]
      refine T_iinc (v := l3 + 1) (lv2 := [(3, vi (l3 + 1)), (5, vi (x.1 52 (l4 : Int32).toNatClampNeg)), (0, vr 0), (2, vi l2), (4, vi l4)]) 3 (dk dt_worked 27 rfl) rfl rfl (by decide) rfl ?_
      refine T_goto 228 (dk dt_worked 28 rfl) (by decide) ?_
      refine T_iinc (v := l4 + 1) (lv2 := [(4, vi (l4 + 1)), (3, vi (l3 + 1)), (5, vi (x.1 52 (l4 : Int32).toNatClampNeg)), (0, vr 0), (2, vi l2)]) 4 (dk dt_worked 113 rfl) rfl rfl (by decide) rfl ?_
      refine T_goto 10 (dk dt_worked 114 rfl) (by decide) ?_
      exact T_sub [3, 4, 1, 0] rfl h
    · have h := h.2
      by_cases c9 : (x.1 51 (l4 : Int32).toNatClampNeg) = 2
      · have h := h.1 c9
        refine T_table 50 86 (dk dt_worked 21 rfl) (by decide) (by rw [c9]; decide +kernel) (by decide) ?_
        refine T_aload_n 1 (dk dt_worked 29 rfl) rfl rfl ?_
        refine T_getR 0 83 84 (dk dt_worked 30 rfl) fl_181 mk_0 ml_0 (by decide) rfl rfl ?_
        refine T_iload_n 3 (dk dt_worked 31 rfl) rfl rfl ?_
        refine T_aload_n 1 (dk dt_worked 32 rfl) rfl rfl ?_
        refine T_getR 0 75 76 (dk dt_worked 33 rfl) fl_160 mk_0 ml_0 (by decide) rfl rfl ?_
        refine T_bipush (v := 8) (dk dt_worked 34 rfl) (by decide +kernel) ?_
        refine T_iload_n 2 (dk dt_worked 35 rfl) rfl rfl ?_
        refine T_imul (dk dt_worked 36 rfl) ?_
        refine T_iload 0 (dk dt_worked 37 rfl) rfl ?_
        refine T_iadd (dk dt_worked 38 rfl) ?_
        obtain ⟨h10, h⟩ := h
        refine T_iald 76 48 (dk dt_worked 39 rfl) mk_76 ml_76 h10 ?_
        obtain ⟨h11, h⟩ := h
        obtain ⟨x12, ex12⟩ : ∃ z, z = si x 84 (l3 : Int32).toNatClampNeg (x.1 76 ((8 * l2) + (x.1 52 (l4 : Int32).toNatClampNeg) : Int32).toNatClampNeg) := ⟨_, rfl⟩
        have h := h x12 ex12
        refine T_iast 84 60 (dk dt_worked 40 rfl) mk_84 ml_84 h11 ?_
        rw [← ex12]
        refine T_iinc (v := l3 + 1) (lv2 := [(3, vi (l3 + 1)), (5, vi (x.1 52 (l4 : Int32).toNatClampNeg)), (0, vr 0), (2, vi l2), (4, vi l4)]) 3 (dk dt_worked 41 rfl) rfl rfl (by decide) rfl ?_
        refine T_goto 228 (dk dt_worked 42 rfl) (by decide) ?_
        refine T_iinc (v := l4 + 1) (lv2 := [(4, vi (l4 + 1)), (3, vi (l3 + 1)), (5, vi (x.1 52 (l4 : Int32).toNatClampNeg)), (0, vr 0), (2, vi l2)]) 4 (dk dt_worked 113 rfl) rfl rfl (by decide) rfl ?_
        refine T_goto 10 (dk dt_worked 114 rfl) (by decide) ?_
        exact T_sub [3, 4, 1, 0] rfl h
      · have h := h.2
        by_cases c13 : (x.1 51 (l4 : Int32).toNatClampNeg) = 3
        · have h := h.1 c13
          refine T_table 74 110 (dk dt_worked 21 rfl) (by decide) (by rw [c13]; decide +kernel) (by decide) ?_
          refine T_aload_n 1 (dk dt_worked 43 rfl) rfl rfl ?_
          refine T_getR 0 83 84 (dk dt_worked 44 rfl) fl_181 mk_0 ml_0 (by decide) rfl rfl ?_
          refine T_iload_n 3 (dk dt_worked 45 rfl) rfl rfl ?_
          refine T_iload_n 2 (dk dt_worked 46 rfl) rfl rfl ?_
          obtain ⟨h14, h⟩ := h
          obtain ⟨x15, ex15⟩ : ∃ z, z = si x 84 (l3 : Int32).toNatClampNeg l2 := ⟨_, rfl⟩
          have h := h x15 ex15
          refine T_iast 84 60 (dk dt_worked 47 rfl) mk_84 ml_84 h14 ?_
          rw [← ex15]
          refine T_iinc (v := l3 + 1) (lv2 := [(3, vi (l3 + 1)), (5, vi (x.1 52 (l4 : Int32).toNatClampNeg)), (0, vr 0), (2, vi l2), (4, vi l4)]) 3 (dk dt_worked 48 rfl) rfl rfl (by decide) rfl ?_
          refine T_goto 228 (dk dt_worked 49 rfl) (by decide) ?_
          refine T_iinc (v := l4 + 1) (lv2 := [(4, vi (l4 + 1)), (3, vi (l3 + 1)), (5, vi (x.1 52 (l4 : Int32).toNatClampNeg)), (0, vr 0), (2, vi l2)]) 4 (dk dt_worked 113 rfl) rfl rfl (by decide) rfl ?_
          refine T_goto 10 (dk dt_worked 114 rfl) (by decide) ?_
          exact T_sub [3, 4, 1, 0] rfl h
        · have h := h.2
          by_cases c16 : (x.1 51 (l4 : Int32).toNatClampNeg) = 4
          · have h := h.1 c16
            refine T_table 87 123 (dk dt_worked 21 rfl) (by decide) (by rw [c16]; decide +kernel) (by decide) ?_
            refine T_aload_n 1 (dk dt_worked 50 rfl) rfl rfl ?_
            refine T_getR 0 83 84 (dk dt_worked 51 rfl) fl_181 mk_0 ml_0 (by decide) rfl rfl ?_
            refine T_iload_n 3 (dk dt_worked 52 rfl) rfl rfl ?_
            refine T_aload_n 1 (dk dt_worked 53 rfl) rfl rfl ?_
            refine T_getR 0 69 70 (dk dt_worked 54 rfl) fl_142 mk_0 ml_0 (by decide) rfl rfl ?_
            refine T_iload 0 (dk dt_worked 55 rfl) rfl ?_
            obtain ⟨h17, h⟩ := h
            refine T_iald 70 24 (dk dt_worked 56 rfl) mk_70 ml_70 h17 ?_
            obtain ⟨h18, h⟩ := h
            obtain ⟨x19, ex19⟩ : ∃ z, z = si x 84 (l3 : Int32).toNatClampNeg (x.1 70 (x.1 52 (l4 : Int32).toNatClampNeg : Int32).toNatClampNeg) := ⟨_, rfl⟩
            have h := h x19 ex19
            refine T_iast 84 60 (dk dt_worked 57 rfl) mk_84 ml_84 h18 ?_
            rw [← ex19]
            refine T_iinc (v := l3 + 1) (lv2 := [(3, vi (l3 + 1)), (5, vi (x.1 52 (l4 : Int32).toNatClampNeg)), (0, vr 0), (2, vi l2), (4, vi l4)]) 3 (dk dt_worked 58 rfl) rfl rfl (by decide) rfl ?_
            refine T_goto 228 (dk dt_worked 59 rfl) (by decide) ?_
            refine T_iinc (v := l4 + 1) (lv2 := [(4, vi (l4 + 1)), (3, vi (l3 + 1)), (5, vi (x.1 52 (l4 : Int32).toNatClampNeg)), (0, vr 0), (2, vi l2)]) 4 (dk dt_worked 113 rfl) rfl rfl (by decide) rfl ?_
            refine T_goto 10 (dk dt_worked 114 rfl) (by decide) ?_
            exact T_sub [3, 4, 1, 0] rfl h
          · have h := h.2
            by_cases c20 : (x.1 51 (l4 : Int32).toNatClampNeg) = 5
            · have h := h.1 c20
              refine T_table 106 142 (dk dt_worked 21 rfl) (by decide) (by rw [c20]; decide +kernel) (by decide) ?_
              refine T_aload_n 1 (dk dt_worked 60 rfl) rfl rfl ?_
              refine T_getR 0 83 84 (dk dt_worked 61 rfl) fl_181 mk_0 ml_0 (by decide) rfl rfl ?_
              refine T_iload_n 3 (dk dt_worked 62 rfl) rfl rfl ?_
              refine T_iconst (v := 1) (dk dt_worked 63 rfl) (by decide +kernel) ?_
              refine T_isub (dk dt_worked 64 rfl) ?_
              refine T_iload 0 (dk dt_worked 65 rfl) rfl ?_
              refine T_bipush (v := 29) (dk dt_worked 66 rfl) (by decide +kernel) ?_
              refine T_icmp_ne 175 (dk dt_worked 67 rfl) (by decide) (fun c21 => ?_) (fun c21 => ?_)
              · have h := h.1 c21
                refine T_aload_n 1 (dk dt_worked 79 rfl) rfl rfl ?_
                refine T_getR 0 83 84 (dk dt_worked 80 rfl) fl_181 mk_0 ml_0 (by decide) rfl rfl ?_
                refine T_iload_n 3 (dk dt_worked 81 rfl) rfl rfl ?_
                refine T_iconst (v := 1) (dk dt_worked 82 rfl) (by decide +kernel) ?_
                refine T_isub (dk dt_worked 83 rfl) ?_
                obtain ⟨h22, h⟩ := h
                refine T_iald 84 60 (dk dt_worked 84 rfl) mk_84 ml_84 h22 ?_
                refine T_ineg (dk dt_worked 85 rfl) ?_
                obtain ⟨h23, h⟩ := h
                obtain ⟨x24, ex24⟩ : ∃ z, z = si x 84 (l3 - 1 : Int32).toNatClampNeg (-(x.1 84 (l3 - 1 : Int32).toNatClampNeg)) := ⟨_, rfl⟩
                have h := h x24 ex24
                refine T_iast 84 60 (dk dt_worked 86 rfl) mk_84 ml_84 h23 ?_
                rw [← ex24]
                refine T_goto 228 (dk dt_worked 87 rfl) (by decide) ?_
                refine T_iinc (v := l4 + 1) (lv2 := [(4, vi (l4 + 1)), (5, vi (x.1 52 (l4 : Int32).toNatClampNeg)), (0, vr 0), (2, vi l2), (3, vi l3)]) 4 (dk dt_worked 113 rfl) rfl rfl (by decide) rfl ?_
                refine T_goto 10 (dk dt_worked 114 rfl) (by decide) ?_
                exact T_sub [2, 3, 4, 0] rfl h
              · have h := h.2 c21
                refine T_aload_n 1 (dk dt_worked 68 rfl) rfl rfl ?_
                refine T_getR 0 83 84 (dk dt_worked 69 rfl) fl_181 mk_0 ml_0 (by decide) rfl rfl ?_
                refine T_iload_n 3 (dk dt_worked 70 rfl) rfl rfl ?_
                refine T_iconst (v := 1) (dk dt_worked 71 rfl) (by decide +kernel) ?_
                refine T_isub (dk dt_worked 72 rfl) ?_
                obtain ⟨h25, h⟩ := h
                refine T_iald 84 60 (dk dt_worked 73 rfl) mk_84 ml_84 h25 ?_
                refine T_if_ne 171 (dk dt_worked 74 rfl) (by decide) (fun c26 => ?_) (fun c26 => ?_)
                · have h := h.1 c26
                  refine T_iconst (v := 0) (dk dt_worked 77 rfl) (by decide +kernel) ?_
                  refine T_goto 184 (dk dt_worked 78 rfl) (by decide) ?_
                  obtain ⟨h27, h⟩ := h
                  obtain ⟨x28, ex28⟩ : ∃ z, z = si x 84 (l3 - 1 : Int32).toNatClampNeg 0 := ⟨_, rfl⟩
                  have h := h x28 ex28
                  refine T_iast 84 60 (dk dt_worked 86 rfl) mk_84 ml_84 h27 ?_
                  rw [← ex28]
                  refine T_goto 228 (dk dt_worked 87 rfl) (by decide) ?_
                  refine T_iinc (v := l4 + 1) (lv2 := [(4, vi (l4 + 1)), (5, vi (x.1 52 (l4 : Int32).toNatClampNeg)), (0, vr 0), (2, vi l2), (3, vi l3)]) 4 (dk dt_worked 113 rfl) rfl rfl (by decide) rfl ?_
                  refine T_goto 10 (dk dt_worked 114 rfl) (by decide) ?_
                  exact T_sub [2, 3, 4, 0] rfl h
                · have h := h.2 c26
                  refine T_iconst (v := 1) (dk dt_worked 75 rfl) (by decide +kernel) ?_
                  refine T_goto 184 (dk dt_worked 76 rfl) (by decide) ?_
                  obtain ⟨h29, h⟩ := h
                  obtain ⟨x30, ex30⟩ : ∃ z, z = si x 84 (l3 - 1 : Int32).toNatClampNeg 1 := ⟨_, rfl⟩
                  have h := h x30 ex30
                  refine T_iast 84 60 (dk dt_worked 86 rfl) mk_84 ml_84 h29 ?_
                  rw [← ex30]
                  refine T_goto 228 (dk dt_worked 87 rfl) (by decide) ?_
                  refine T_iinc (v := l4 + 1) (lv2 := [(4, vi (l4 + 1)), (5, vi (x.1 52 (l4 : Int32).toNatClampNeg)), (0, vr 0), (2, vi l2), (3, vi l3)]) 4 (dk dt_worked 113 rfl) rfl rfl (by decide) rfl ?_
                  refine T_goto 10 (dk dt_worked 114 rfl) (by decide) ?_
                  exact T_sub [2, 3, 4, 0] rfl h
            · have h := h.2
              have n31 : ∀ k ∈ [(1 : Int32), (2 : Int32), (3 : Int32), (4 : Int32), (5 : Int32)], ¬ (x.1 51 (l4 : Int32).toNatClampNeg) = k := (gno c6 (gno c9 (gno c13 (gno c16 (gno c20 gno0)))))
              have h := h n31
              refine T_table 152 188 (dk dt_worked 21 rfl) (by decide) (gtab_d [(1 : Int32), (2 : Int32), (3 : Int32), (4 : Int32), (5 : Int32)] (by decide +kernel) n31) (by decide) ?_
              refine T_iinc (v := l3 + (-1)) (lv2 := [(3, vi (l3 + (-1))), (5, vi (x.1 52 (l4 : Int32).toNatClampNeg)), (0, vr 0), (2, vi l2), (4, vi l4)]) 3 (dk dt_worked 88 rfl) rfl rfl (by decide) rfl ?_
              refine T_aload_n 2 (dk dt_worked 89 rfl) rfl rfl ?_
              refine T_getR 0 83 84 (dk dt_worked 90 rfl) fl_181 mk_0 ml_0 (by decide) rfl rfl ?_
              refine T_iload_n 0 (dk dt_worked 91 rfl) rfl rfl ?_
              refine T_iconst (v := 1) (dk dt_worked 92 rfl) (by decide +kernel) ?_
              refine T_isub (dk dt_worked 93 rfl) ?_
              refine T_aload_n 2 (dk dt_worked 94 rfl) rfl rfl ?_
              refine T_iload 1 (dk dt_worked 95 rfl) rfl ?_
              refine T_aload_n 2 (dk dt_worked 96 rfl) rfl rfl ?_
              refine T_getR 0 83 84 (dk dt_worked 97 rfl) fl_181 mk_0 ml_0 (by decide) rfl rfl ?_
              refine T_iload_n 0 (dk dt_worked 98 rfl) rfl rfl ?_
              refine T_iconst (v := 1) (dk dt_worked 99 rfl) (by decide +kernel) ?_
              refine T_isub (dk dt_worked 100 rfl) ?_
              obtain ⟨h32, h⟩ := h
              refine T_iald 84 60 (dk dt_worked 101 rfl) mk_84 ml_84 h32 ?_
              refine T_aload_n 2 (dk dt_worked 102 rfl) rfl rfl ?_
              refine T_getR 0 83 84 (dk dt_worked 103 rfl) fl_181 mk_0 ml_0 (by decide) rfl rfl ?_
              refine T_iload_n 0 (dk dt_worked 104 rfl) rfl rfl ?_
              obtain ⟨h33, h⟩ := h
              refine T_iald 84 60 (dk dt_worked 105 rfl) mk_84 ml_84 h33 ?_
              refine MT_callVi [vi (x.1 52 (l4 : Int32).toNatClampNeg), vi (x.1 84 ((l3 + (-1)) - 1 : Int32).toNatClampNeg), vi (x.1 84 (l3 + (-1) : Int32).toNatClampNeg)] [vi ((l3 + (-1)) - 1), vr 84] rfl (dk dt_worked 106 rfl) cv_584 rfl rfl (Nat.le_of_ble_eq_true rfl) (Nat.le_of_ble_eq_true rfl) rfl rfl h (fun r35 x34 h => ?_)
              obtain ⟨h36, h⟩ := h
              obtain ⟨x37, ex37⟩ : ∃ z, z = si x34 84 ((l3 + (-1)) - 1 : Int32).toNatClampNeg r35 := ⟨_, rfl⟩
              have h := h x37 ex37
              refine T_iast 84 60 (dk dt_worked 107 rfl) mk_84 ml_84 h36 ?_
              rw [← ex37]
              refine T_aload_n 2 (dk dt_worked 108 rfl) rfl rfl ?_
              refine T_getI 0 82 (dk dt_worked 109 rfl) fl_581 mk_0 ml_0 (by decide) rfl ?_
              refine T_if_le 228 (dk dt_worked 110 rfl) (by decide) (fun c38 => ?_) (fun c38 => ?_)
              · have h := h.1 c38
                refine T_iinc (v := l4 + 1) (lv2 := [(4, vi (l4 + 1)), (3, vi (l3 + (-1))), (5, vi (x.1 52 (l4 : Int32).toNatClampNeg)), (0, vr 0), (2, vi l2)]) 4 (dk dt_worked 113 rfl) rfl rfl (by decide) rfl ?_
                refine T_goto 10 (dk dt_worked 114 rfl) (by decide) ?_
                exact T_sub [3, 4, 1, 0] rfl h
              · have h := h.2 c38
                refine T_iconst (v := 0) (dk dt_worked 111 rfl) (by decide +kernel) ?_
                exact MT_iret (dk dt_worked 112 rfl) rfl rfl h
set_option maxRecDepth 100000 in
theorem dt_one : dck cX12_one [(0, .iload_n 0, 1), (1, .ifCond .eq 7, 3), (4, .iconst 1, 1), (5, .goto 4, 3), (8, .iconst 0, 1), (9, .ireturn, 1)] = true := by decide +kernel
set_option maxRecDepth 100000 in
set_option maxHeartbeats 4000000 in
theorem sg_one_0 {G : mG} {d : Nat} {x : gd} {P : Option gv → gd → Prop} (l0 : Int32)
    (h : ((l0 = (0 : Int32) → P (some (vi 0)) x) ∧ (¬ (l0 = (0 : Int32)) → P (some (vi 1)) x))) :
    MT G d z_one 0 [(0, vi l0)] [] x P := by
  refine T_iload_n 0 (dk dt_one 0 rfl) rfl rfl ?_
  refine T_if_eq 8 (dk dt_one 1 rfl) (by decide) (fun c1 => ?_) (fun c1 => ?_)
  · have h := h.1 c1
    refine T_iconst (v := 0) (dk dt_one 4 rfl) (by decide +kernel) ?_
    exact MT_iret (dk dt_one 5 rfl) rfl rfl h
  · have h := h.2 c1
    refine T_iconst (v := 1) (dk dt_one 2 rfl) (by decide +kernel) ?_
    refine T_goto 9 (dk dt_one 3 rfl) (by decide) ?_
    exact MT_iret (dk dt_one 5 rfl) rfl rfl h
set_option maxRecDepth 100000 in
theorem dt_reckon : dck cX12_reckon [(0, .iload_n 1, 1), (1, .lookupswitch 229 #[(12, 116), (30, 99), (51, 133), (52, 147), (53, 161), (54, 175), (55, 189), (56, 203), (57, 217), (58, 221), (59, 225)], 99), (100, .iload_n 2, 1), (101, .ifCond .ne 7, 3), (104, .iload_n 3, 1), (105, .ifCond .eq 7, 3), (108, .iconst 1, 1), (109, .goto 4, 3), (112, .iconst 0, 1), (113, .invokestatic 587, 3), (116, .ireturn, 1), (117, .iload_n 2, 1), (118, .ifCond .eq 11, 3), (121, .iload_n 3, 1), (122, .ifCond .eq 7, 3), (125, .iconst 1, 1), (126, .goto 4, 3), (129, .iconst 0, 1), (130, .invokestatic 587, 3), (133, .ireturn, 1), (134, .iload_n 2, 1), (135, .iload_n 3, 1), (136, .if_icmp .ne 7, 3), (139, .iconst 1, 1), (140, .goto 4, 3), (143, .iconst 0, 1), (144, .invokestatic 587, 3), (147, .ireturn, 1), (148, .iload_n 2, 1), (149, .iload_n 3, 1), (150, .if_icmp .eq 7, 3), (153, .iconst 1, 1), (154, .goto 4, 3), (157, .iconst 0, 1), (158, .invokestatic 587, 3), (161, .ireturn, 1), (162, .iload_n 2, 1), (163, .iload_n 3, 1), (164, .if_icmp .ge 7, 3), (167, .iconst 1, 1), (168, .goto 4, 3), (171, .iconst 0, 1), (172, .invokestatic 587, 3), (175, .ireturn, 1), (176, .iload_n 2, 1), (177, .iload_n 3, 1), (178, .if_icmp .gt 7, 3), (181, .iconst 1, 1), (182, .goto 4, 3), (185, .iconst 0, 1), (186, .invokestatic 587, 3), (189, .ireturn, 1), (190, .iload_n 2, 1), (191, .iload_n 3, 1), (192, .if_icmp .le 7, 3), (195, .iconst 1, 1), (196, .goto 4, 3), (199, .iconst 0, 1), (200, .invokestatic 587, 3), (203, .ireturn, 1), (204, .iload_n 2, 1), (205, .iload_n 3, 1), (206, .if_icmp .lt 7, 3), (209, .iconst 1, 1), (210, .goto 4, 3), (213, .iconst 0, 1), (214, .invokestatic 587, 3), (217, .ireturn, 1), (218, .iload_n 2, 1), (219, .iload_n 3, 1), (220, .iadd, 1), (221, .ireturn, 1), (222, .iload_n 2, 1), (223, .iload_n 3, 1), (224, .isub, 1), (225, .ireturn, 1), (226, .iload_n 2, 1), (227, .iload_n 3, 1), (228, .imul, 1), (229, .ireturn, 1), (230, .iload_n 3, 1), (231, .ifCond .ne 10, 3), (234, .aload_n 0, 1), (235, .iconst 1, 1), (236, .putfield 581, 3), (239, .iconst 0, 1), (240, .ireturn, 1), (241, .iload_n 1, 1), (242, .bipush 60, 2), (244, .if_icmp .ne 19, 3), (247, .iload_n 3, 1), (248, .iconst (-1), 1), (249, .if_icmp .ne 8, 3), (252, .iload_n 2, 1), (253, .ineg, 1), (254, .goto 21, 3), (257, .iload_n 2, 1), (258, .iload_n 3, 1), (259, .idiv, 1), (260, .goto 15, 3), (263, .iload_n 3, 1), (264, .iconst (-1), 1), (265, .if_icmp .ne 7, 3), (268, .iconst 0, 1), (269, .goto 6, 3), (272, .iload_n 2, 1), (273, .iload_n 3, 1), (274, .irem, 1), (275, .ireturn, 1)] = true := by decide +kernel
set_option maxRecDepth 100000 in
set_option maxHeartbeats 4000000 in
theorem sg_reckon_0 {G : mG} {d : Nat} {x : gd} {P : Option gv → gd → Prop} (l1 : Int32) (l2 : Int32) (l3 : Int32)
    (h : (((l1 = 30) → ((¬ (l2 = (0 : Int32)) → MT G (d + 1) z_reckon 113 [(0, vr 0)] [vi 1] x P) ∧ (l2 = (0 : Int32) → ((l3 = (0 : Int32) → MT G (d + 1) z_reckon 113 [(0, vr 0)] [vi 0] x P) ∧ (¬ (l3 = (0 : Int32)) → MT G (d + 1) z_reckon 113 [(0, vr 0)] [vi 1] x P))))) ∧ ((l1 = 12) → ((l2 = (0 : Int32) → MT G (d + 1) z_reckon 130 [(0, vr 0)] [vi 0] x P) ∧ (¬ (l2 = (0 : Int32)) → ((l3 = (0 : Int32) → MT G (d + 1) z_reckon 130 [(0, vr 0)] [vi 0] x P) ∧ (¬ (l3 = (0 : Int32)) → MT G (d + 1) z_reckon 130 [(0, vr 0)] [vi 1] x P))))) ∧ ((l1 = 51) → ((¬ (l2 = l3) → MT G (d + 1) z_reckon 144 [(0, vr 0)] [vi 0] x P) ∧ (l2 = l3 → MT G (d + 1) z_reckon 144 [(0, vr 0)] [vi 1] x P))) ∧ ((l1 = 52) → ((l2 = l3 → MT G (d + 1) z_reckon 158 [(0, vr 0)] [vi 0] x P) ∧ (¬ (l2 = l3) → MT G (d + 1) z_reckon 158 [(0, vr 0)] [vi 1] x P))) ∧ ((l1 = 53) → ((l3 ≤ l2 → MT G (d + 1) z_reckon 172 [(0, vr 0)] [vi 0] x P) ∧ (¬ (l3 ≤ l2) → MT G (d + 1) z_reckon 172 [(0, vr 0)] [vi 1] x P))) ∧ ((l1 = 54) → ((l3 < l2 → MT G (d + 1) z_reckon 186 [(0, vr 0)] [vi 0] x P) ∧ (¬ (l3 < l2) → MT G (d + 1) z_reckon 186 [(0, vr 0)] [vi 1] x P))) ∧ ((l1 = 55) → ((l2 ≤ l3 → MT G (d + 1) z_reckon 200 [(0, vr 0)] [vi 0] x P) ∧ (¬ (l2 ≤ l3) → MT G (d + 1) z_reckon 200 [(0, vr 0)] [vi 1] x P))) ∧ ((l1 = 56) → ((l2 < l3 → MT G (d + 1) z_reckon 214 [(0, vr 0)] [vi 0] x P) ∧ (¬ (l2 < l3) → MT G (d + 1) z_reckon 214 [(0, vr 0)] [vi 1] x P))) ∧ ((l1 = 57) → P (some (vi (l2 + l3))) x) ∧ ((l1 = 58) → P (some (vi (l2 - l3))) x) ∧ ((l1 = 59) → P (some (vi (l2 * l3))) x) ∧ ((∀ k ∈ [(30 : Int32), (12 : Int32), (51 : Int32), (52 : Int32), (53 : Int32), (54 : Int32), (55 : Int32), (56 : Int32), (57 : Int32), (58 : Int32), (59 : Int32)], ¬ l1 = k) → ((¬ (l3 = (0 : Int32)) → ((¬ (l1 = (60 : Int32)) → ((¬ (l3 = (-1 : Int32)) → ¬ l3 = 0 ∧ P (some (vi (l2 - l2 / l3 * l3))) x) ∧ (l3 = (-1 : Int32) → P (some (vi 0)) x))) ∧ (l1 = (60 : Int32) → ((¬ (l3 = (-1 : Int32)) → ¬ l3 = 0 ∧ P (some (vi (l2 / l3))) x) ∧ (l3 = (-1 : Int32) → P (some (vi (-l2))) x))))) ∧ (l3 = (0 : Int32) → (∀ x29 : gd, x29 = si x 0 82 1 → P (some (vi 0)) x29)))))) :
    MT G (d + 1) z_reckon 0 [(0, vr 0), (1, vi l1), (2, vi l2), (3, vi l3)] [] x P := by
  refine T_iload_n 1 (dk dt_reckon 0 rfl) rfl rfl ?_
  by_cases c1 : l1 = 30
  · have h := h.1 c1
    refine T_lookup 99 100 (dk dt_reckon 1 rfl) (by decide +kernel) (by rw [c1]; decide +kernel) (by decide) ?_
    refine T_iload_n 2 (dk dt_reckon 2 rfl) rfl rfl ?_
    refine T_if_ne 108 (dk dt_reckon 3 rfl) (by decide) (fun c2 => ?_) (fun c2 => ?_)
    · have h := h.1 c2
      refine T_iconst (v := 1) (dk dt_reckon 6 rfl) (by decide +kernel) ?_
      refine T_goto 113 (dk dt_reckon 7 rfl) (by decide) ?_
      exact T_sub [0] rfl h
    · have h := h.2 c2
      refine T_iload_n 3 (dk dt_reckon 4 rfl) rfl rfl ?_
      refine T_if_eq 112 (dk dt_reckon 5 rfl) (by decide) (fun c3 => ?_) (fun c3 => ?_)
      · have h := h.1 c3
        refine T_iconst (v := 0) (dk dt_reckon 8 rfl) (by decide +kernel) ?_
        exact T_sub [0] rfl h
      · have h := h.2 c3
        refine T_iconst (v := 1) (dk dt_reckon 6 rfl) (by decide +kernel) ?_
        refine T_goto 113 (dk dt_reckon 7 rfl) (by decide) ?_
        exact T_sub [0] rfl h
  · have h := h.2
    by_cases c4 : l1 = 12
    · have h := h.1 c4
      refine T_lookup 116 117 (dk dt_reckon 1 rfl) (by decide +kernel) (by rw [c4]; decide +kernel) (by decide) ?_
      refine T_iload_n 2 (dk dt_reckon 11 rfl) rfl rfl ?_
      refine T_if_eq 129 (dk dt_reckon 12 rfl) (by decide) (fun c5 => ?_) (fun c5 => ?_)
      · have h := h.1 c5
        refine T_iconst (v := 0) (dk dt_reckon 17 rfl) (by decide +kernel) ?_
        exact T_sub [0] rfl h
      · have h := h.2 c5
        refine T_iload_n 3 (dk dt_reckon 13 rfl) rfl rfl ?_
        refine T_if_eq 129 (dk dt_reckon 14 rfl) (by decide) (fun c6 => ?_) (fun c6 => ?_)
        · have h := h.1 c6
          refine T_iconst (v := 0) (dk dt_reckon 17 rfl) (by decide +kernel) ?_
          exact T_sub [0] rfl h
        · have h := h.2 c6
          refine T_iconst (v := 1) (dk dt_reckon 15 rfl) (by decide +kernel) ?_
          refine T_goto 130 (dk dt_reckon 16 rfl) (by decide) ?_
          exact T_sub [0] rfl h
    · have h := h.2
      by_cases c7 : l1 = 51
      · have h := h.1 c7
        refine T_lookup 133 134 (dk dt_reckon 1 rfl) (by decide +kernel) (by rw [c7]; decide +kernel) (by decide) ?_
        refine T_iload_n 2 (dk dt_reckon 20 rfl) rfl rfl ?_
        refine T_iload_n 3 (dk dt_reckon 21 rfl) rfl rfl ?_
        refine T_icmp_ne 143 (dk dt_reckon 22 rfl) (by decide) (fun c8 => ?_) (fun c8 => ?_)
        · have h := h.1 c8
          refine T_iconst (v := 0) (dk dt_reckon 25 rfl) (by decide +kernel) ?_
          exact T_sub [0] rfl h
        · have h := h.2 c8
          refine T_iconst (v := 1) (dk dt_reckon 23 rfl) (by decide +kernel) ?_
          refine T_goto 144 (dk dt_reckon 24 rfl) (by decide) ?_
          exact T_sub [0] rfl h
      · have h := h.2
        by_cases c9 : l1 = 52
        · have h := h.1 c9
          refine T_lookup 147 148 (dk dt_reckon 1 rfl) (by decide +kernel) (by rw [c9]; decide +kernel) (by decide) ?_
          refine T_iload_n 2 (dk dt_reckon 28 rfl) rfl rfl ?_
          refine T_iload_n 3 (dk dt_reckon 29 rfl) rfl rfl ?_
          refine T_icmp_eq 157 (dk dt_reckon 30 rfl) (by decide) (fun c10 => ?_) (fun c10 => ?_)
          · have h := h.1 c10
            refine T_iconst (v := 0) (dk dt_reckon 33 rfl) (by decide +kernel) ?_
            exact T_sub [0] rfl h
          · have h := h.2 c10
            refine T_iconst (v := 1) (dk dt_reckon 31 rfl) (by decide +kernel) ?_
            refine T_goto 158 (dk dt_reckon 32 rfl) (by decide) ?_
            exact T_sub [0] rfl h
        · have h := h.2
          by_cases c11 : l1 = 53
          · have h := h.1 c11
            refine T_lookup 161 162 (dk dt_reckon 1 rfl) (by decide +kernel) (by rw [c11]; decide +kernel) (by decide) ?_
            refine T_iload_n 2 (dk dt_reckon 36 rfl) rfl rfl ?_
            refine T_iload_n 3 (dk dt_reckon 37 rfl) rfl rfl ?_
            refine T_icmp_ge 171 (dk dt_reckon 38 rfl) (by decide) (fun c12 => ?_) (fun c12 => ?_)
            · have h := h.1 c12
              refine T_iconst (v := 0) (dk dt_reckon 41 rfl) (by decide +kernel) ?_
              exact T_sub [0] rfl h
            · have h := h.2 c12
              refine T_iconst (v := 1) (dk dt_reckon 39 rfl) (by decide +kernel) ?_
              refine T_goto 172 (dk dt_reckon 40 rfl) (by decide) ?_
              exact T_sub [0] rfl h
          · have h := h.2
            by_cases c13 : l1 = 54
            · have h := h.1 c13
              refine T_lookup 175 176 (dk dt_reckon 1 rfl) (by decide +kernel) (by rw [c13]; decide +kernel) (by decide) ?_
              refine T_iload_n 2 (dk dt_reckon 44 rfl) rfl rfl ?_
              refine T_iload_n 3 (dk dt_reckon 45 rfl) rfl rfl ?_
              refine T_icmp_gt 185 (dk dt_reckon 46 rfl) (by decide) (fun c14 => ?_) (fun c14 => ?_)
              · have h := h.1 c14
                refine T_iconst (v := 0) (dk dt_reckon 49 rfl) (by decide +kernel) ?_
                exact T_sub [0] rfl h
              · have h := h.2 c14
                refine T_iconst (v := 1) (dk dt_reckon 47 rfl) (by decide +kernel) ?_
                refine T_goto 186 (dk dt_reckon 48 rfl) (by decide) ?_
                exact T_sub [0] rfl h
            · have h := h.2
              by_cases c15 : l1 = 55
              · have h := h.1 c15
                refine T_lookup 189 190 (dk dt_reckon 1 rfl) (by decide +kernel) (by rw [c15]; decide +kernel) (by decide) ?_
                refine T_iload_n 2 (dk dt_reckon 52 rfl) rfl rfl ?_
                refine T_iload_n 3 (dk dt_reckon 53 rfl) rfl rfl ?_
                refine T_icmp_le 199 (dk dt_reckon 54 rfl) (by decide) (fun c16 => ?_) (fun c16 => ?_)
                · have h := h.1 c16
                  refine T_iconst (v := 0) (dk dt_reckon 57 rfl) (by decide +kernel) ?_
                  exact T_sub [0] rfl h
                · have h := h.2 c16
                  refine T_iconst (v := 1) (dk dt_reckon 55 rfl) (by decide +kernel) ?_
                  refine T_goto 200 (dk dt_reckon 56 rfl) (by decide) ?_
                  exact T_sub [0] rfl h
              · have h := h.2
                by_cases c17 : l1 = 56
                · have h := h.1 c17
                  refine T_lookup 203 204 (dk dt_reckon 1 rfl) (by decide +kernel) (by rw [c17]; decide +kernel) (by decide) ?_
                  refine T_iload_n 2 (dk dt_reckon 60 rfl) rfl rfl ?_
                  refine T_iload_n 3 (dk dt_reckon 61 rfl) rfl rfl ?_
                  refine T_icmp_lt 213 (dk dt_reckon 62 rfl) (by decide) (fun c18 => ?_) (fun c18 => ?_)
                  · have h := h.1 c18
                    refine T_iconst (v := 0) (dk dt_reckon 65 rfl) (by decide +kernel) ?_
                    exact T_sub [0] rfl h
                  · have h := h.2 c18
                    refine T_iconst (v := 1) (dk dt_reckon 63 rfl) (by decide +kernel) ?_
                    refine T_goto 214 (dk dt_reckon 64 rfl) (by decide) ?_
                    exact T_sub [0] rfl h
                · have h := h.2
                  by_cases c19 : l1 = 57
                  · have h := h.1 c19
                    refine T_lookup 217 218 (dk dt_reckon 1 rfl) (by decide +kernel) (by rw [c19]; decide +kernel) (by decide) ?_
                    refine T_iload_n 2 (dk dt_reckon 68 rfl) rfl rfl ?_
                    refine T_iload_n 3 (dk dt_reckon 69 rfl) rfl rfl ?_
                    refine T_iadd (dk dt_reckon 70 rfl) ?_
                    exact MT_iret (dk dt_reckon 71 rfl) rfl rfl h
                  · have h := h.2
                    by_cases c20 : l1 = 58
                    · have h := h.1 c20
                      refine T_lookup 221 222 (dk dt_reckon 1 rfl) (by decide +kernel) (by rw [c20]; decide +kernel) (by decide) ?_
                      refine T_iload_n 2 (dk dt_reckon 72 rfl) rfl rfl ?_
                      refine T_iload_n 3 (dk dt_reckon 73 rfl) rfl rfl ?_
                      refine T_isub (dk dt_reckon 74 rfl) ?_
                      exact MT_iret (dk dt_reckon 75 rfl) rfl rfl h
                    · have h := h.2
                      by_cases c21 : l1 = 59
                      · have h := h.1 c21
                        refine T_lookup 225 226 (dk dt_reckon 1 rfl) (by decide +kernel) (by rw [c21]; decide +kernel) (by decide) ?_
                        refine T_iload_n 2 (dk dt_reckon 76 rfl) rfl rfl ?_
                        refine T_iload_n 3 (dk dt_reckon 77 rfl) rfl rfl ?_
                        refine T_imul (dk dt_reckon 78 rfl) ?_
                        exact MT_iret (dk dt_reckon 79 rfl) rfl rfl h
                      · have h := h.2
                        have n22 : ∀ k ∈ [(30 : Int32), (12 : Int32), (51 : Int32), (52 : Int32), (53 : Int32), (54 : Int32), (55 : Int32), (56 : Int32), (57 : Int32), (58 : Int32), (59 : Int32)], ¬ l1 = k := (gno c1 (gno c4 (gno c7 (gno c9 (gno c11 (gno c13 (gno c15 (gno c17 (gno c19 (gno c20 (gno c21 gno0)))))))))))
                        have h := h n22
                        refine T_lookup 229 230 (dk dt_reckon 1 rfl) (by decide +kernel) (glk_d [(30 : Int32), (12 : Int32), (51 : Int32), (52 : Int32), (53 : Int32), (54 : Int32), (55 : Int32), (56 : Int32), (57 : Int32), (58 : Int32), (59 : Int32)] (by decide +kernel) n22) (by decide) ?_
                        refine T_iload_n 3 (dk dt_reckon 80 rfl) rfl rfl ?_
                        refine T_if_ne 241 (dk dt_reckon 81 rfl) (by decide) (fun c23 => ?_) (fun c23 => ?_)
                        · have h := h.1 c23
                          refine T_iload_n 1 (dk dt_reckon 87 rfl) rfl rfl ?_
                          refine T_bipush (v := 60) (dk dt_reckon 88 rfl) (by decide +kernel) ?_
                          refine T_icmp_ne 263 (dk dt_reckon 89 rfl) (by decide) (fun c24 => ?_) (fun c24 => ?_)
                          · have h := h.1 c24
                            refine T_iload_n 3 (dk dt_reckon 100 rfl) rfl rfl ?_
                            refine T_iconst (v := (-1)) (dk dt_reckon 101 rfl) (by decide +kernel) ?_
                            refine T_icmp_ne 272 (dk dt_reckon 102 rfl) (by decide) (fun c25 => ?_) (fun c25 => ?_)
                            · have h := h.1 c25
                              refine T_iload_n 2 (dk dt_reckon 105 rfl) rfl rfl ?_
                              refine T_iload_n 3 (dk dt_reckon 106 rfl) rfl rfl ?_
                              obtain ⟨h26, h⟩ := h
                              refine T_irem (dk dt_reckon 107 rfl) h26 ?_
                              exact MT_iret (dk dt_reckon 108 rfl) rfl rfl h
                            · have h := h.2 c25
                              refine T_iconst (v := 0) (dk dt_reckon 103 rfl) (by decide +kernel) ?_
                              refine T_goto 275 (dk dt_reckon 104 rfl) (by decide) ?_
                              exact MT_iret (dk dt_reckon 108 rfl) rfl rfl h
                          · have h := h.2 c24
                            refine T_iload_n 3 (dk dt_reckon 90 rfl) rfl rfl ?_
                            refine T_iconst (v := (-1)) (dk dt_reckon 91 rfl) (by decide +kernel) ?_
                            refine T_icmp_ne 257 (dk dt_reckon 92 rfl) (by decide) (fun c27 => ?_) (fun c27 => ?_)
                            · have h := h.1 c27
                              refine T_iload_n 2 (dk dt_reckon 96 rfl) rfl rfl ?_
                              refine T_iload_n 3 (dk dt_reckon 97 rfl) rfl rfl ?_
                              obtain ⟨h28, h⟩ := h
                              refine T_idiv (dk dt_reckon 98 rfl) h28 ?_
                              refine T_goto 275 (dk dt_reckon 99 rfl) (by decide) ?_
                              exact MT_iret (dk dt_reckon 108 rfl) rfl rfl h
                            · have h := h.2 c27
                              refine T_iload_n 2 (dk dt_reckon 93 rfl) rfl rfl ?_
                              refine T_ineg (dk dt_reckon 94 rfl) ?_
                              refine T_goto 275 (dk dt_reckon 95 rfl) (by decide) ?_
                              exact MT_iret (dk dt_reckon 108 rfl) rfl rfl h
                        · have h := h.2 c23
                          refine T_aload_n 0 (dk dt_reckon 82 rfl) rfl rfl ?_
                          refine T_iconst (v := 1) (dk dt_reckon 83 rfl) (by decide +kernel) ?_
                          obtain ⟨x29, ex29⟩ : ∃ z, z = si x 0 82 1 := ⟨_, rfl⟩
                          have h := h x29 ex29
                          refine T_putI 0 82 (dk dt_reckon 84 rfl) fl_581 mk_0 ml_0 (by decide) rfl ⟨rfl, rfl⟩ ?_
                          rw [← ex29]
                          refine T_iconst (v := 0) (dk dt_reckon 85 rfl) (by decide +kernel) ?_
                          exact MT_iret (dk dt_reckon 86 rfl) rfl rfl h
set_option maxRecDepth 100000 in
set_option maxHeartbeats 4000000 in
theorem sg_reckon_113 {G : mG} {d : Nat} {x : gd} {P : Option gv → gd → Prop} (s0 : Int32)
    (h : MT G d z_one 0 [(0, vi s0)] [] x (ri (fun r2 x1 => P (some (vi r2)) x1))) :
    MT G (d + 1) z_reckon 113 [(0, vr 0)] [vi s0] x P := by
  refine MT_callSi [vi s0] [] rfl (dk dt_reckon 9 rfl) cs_587 rfl (Nat.le_of_ble_eq_true rfl) (Nat.le_of_ble_eq_true rfl) rfl rfl h (fun r2 x1 h => ?_)
  exact MT_iret (dk dt_reckon 10 rfl) rfl rfl h
set_option maxRecDepth 100000 in
set_option maxHeartbeats 4000000 in
theorem sg_reckon_130 {G : mG} {d : Nat} {x : gd} {P : Option gv → gd → Prop} (s0 : Int32)
    (h : MT G d z_one 0 [(0, vi s0)] [] x (ri (fun r2 x1 => P (some (vi r2)) x1))) :
    MT G (d + 1) z_reckon 130 [(0, vr 0)] [vi s0] x P := by
  refine MT_callSi [vi s0] [] rfl (dk dt_reckon 18 rfl) cs_587 rfl (Nat.le_of_ble_eq_true rfl) (Nat.le_of_ble_eq_true rfl) rfl rfl h (fun r2 x1 h => ?_)
  exact MT_iret (dk dt_reckon 19 rfl) rfl rfl h
set_option maxRecDepth 100000 in
set_option maxHeartbeats 4000000 in
theorem sg_reckon_144 {G : mG} {d : Nat} {x : gd} {P : Option gv → gd → Prop} (s0 : Int32)
    (h : MT G d z_one 0 [(0, vi s0)] [] x (ri (fun r2 x1 => P (some (vi r2)) x1))) :
    MT G (d + 1) z_reckon 144 [(0, vr 0)] [vi s0] x P := by
  refine MT_callSi [vi s0] [] rfl (dk dt_reckon 26 rfl) cs_587 rfl (Nat.le_of_ble_eq_true rfl) (Nat.le_of_ble_eq_true rfl) rfl rfl h (fun r2 x1 h => ?_)
  exact MT_iret (dk dt_reckon 27 rfl) rfl rfl h
set_option maxRecDepth 100000 in
set_option maxHeartbeats 4000000 in
theorem sg_reckon_158 {G : mG} {d : Nat} {x : gd} {P : Option gv → gd → Prop} (s0 : Int32)
    (h : MT G d z_one 0 [(0, vi s0)] [] x (ri (fun r2 x1 => P (some (vi r2)) x1))) :
    MT G (d + 1) z_reckon 158 [(0, vr 0)] [vi s0] x P := by
  refine MT_callSi [vi s0] [] rfl (dk dt_reckon 34 rfl) cs_587 rfl (Nat.le_of_ble_eq_true rfl) (Nat.le_of_ble_eq_true rfl) rfl rfl h (fun r2 x1 h => ?_)
  exact MT_iret (dk dt_reckon 35 rfl) rfl rfl h
set_option maxRecDepth 100000 in
set_option maxHeartbeats 4000000 in
theorem sg_reckon_172 {G : mG} {d : Nat} {x : gd} {P : Option gv → gd → Prop} (s0 : Int32)
    (h : MT G d z_one 0 [(0, vi s0)] [] x (ri (fun r2 x1 => P (some (vi r2)) x1))) :
    MT G (d + 1) z_reckon 172 [(0, vr 0)] [vi s0] x P := by
  refine MT_callSi [vi s0] [] rfl (dk dt_reckon 42 rfl) cs_587 rfl (Nat.le_of_ble_eq_true rfl) (Nat.le_of_ble_eq_true rfl) rfl rfl h (fun r2 x1 h => ?_)
  exact MT_iret (dk dt_reckon 43 rfl) rfl rfl h
set_option maxRecDepth 100000 in
set_option maxHeartbeats 4000000 in
theorem sg_reckon_186 {G : mG} {d : Nat} {x : gd} {P : Option gv → gd → Prop} (s0 : Int32)
    (h : MT G d z_one 0 [(0, vi s0)] [] x (ri (fun r2 x1 => P (some (vi r2)) x1))) :
    MT G (d + 1) z_reckon 186 [(0, vr 0)] [vi s0] x P := by
  refine MT_callSi [vi s0] [] rfl (dk dt_reckon 50 rfl) cs_587 rfl (Nat.le_of_ble_eq_true rfl) (Nat.le_of_ble_eq_true rfl) rfl rfl h (fun r2 x1 h => ?_)
  exact MT_iret (dk dt_reckon 51 rfl) rfl rfl h
set_option maxRecDepth 100000 in
set_option maxHeartbeats 4000000 in
theorem sg_reckon_200 {G : mG} {d : Nat} {x : gd} {P : Option gv → gd → Prop} (s0 : Int32)
    (h : MT G d z_one 0 [(0, vi s0)] [] x (ri (fun r2 x1 => P (some (vi r2)) x1))) :
    MT G (d + 1) z_reckon 200 [(0, vr 0)] [vi s0] x P := by
  refine MT_callSi [vi s0] [] rfl (dk dt_reckon 58 rfl) cs_587 rfl (Nat.le_of_ble_eq_true rfl) (Nat.le_of_ble_eq_true rfl) rfl rfl h (fun r2 x1 h => ?_)
  exact MT_iret (dk dt_reckon 59 rfl) rfl rfl h
set_option maxRecDepth 100000 in
set_option maxHeartbeats 4000000 in
theorem sg_reckon_214 {G : mG} {d : Nat} {x : gd} {P : Option gv → gd → Prop} (s0 : Int32)
    (h : MT G d z_one 0 [(0, vi s0)] [] x (ri (fun r2 x1 => P (some (vi r2)) x1))) :
    MT G (d + 1) z_reckon 214 [(0, vr 0)] [vi s0] x P := by
  refine MT_callSi [vi s0] [] rfl (dk dt_reckon 66 rfl) cs_587 rfl (Nat.le_of_ble_eq_true rfl) (Nat.le_of_ble_eq_true rfl) rfl rfl h (fun r2 x1 h => ?_)
  exact MT_iret (dk dt_reckon 67 rfl) rfl rfl h
set_option maxRecDepth 100000 in
theorem dt_failThread : dck cX12_failThread [(0, .aload_n 0, 1), (1, .getfield 151, 3), (4, .iload_n 1, 1), (5, .iconst 3, 1), (6, .iastore, 1), (7, .aload_n 0, 1), (8, .getfield 157, 3), (11, .iload_n 1, 1), (12, .iload_n 2, 1), (13, .iastore, 1), (14, .aload_n 0, 1), (15, .getfield 163, 3), (18, .iload_n 1, 1), (19, .iconst 0, 1), (20, .iastore, 1), (21, .aload_n 0, 1), (22, .getfield 166, 3), (25, .iload_n 1, 1), (26, .iconst 0, 1), (27, .iastore, 1), (28, .return_, 1)] = true := by decide +kernel
set_option maxRecDepth 100000 in
set_option maxHeartbeats 4000000 in
theorem sg_failThread_0 {G : mG} {d : Nat} {x : gd} {P : Option gv → gd → Prop} (l1 : Int32) (l2 : Int32)
    (h : vp_in l1 6 ∧ (∀ x2 : gd, x2 = si x 73 (l1 : Int32).toNatClampNeg 3 → vp_in l1 6 ∧ (∀ x4 : gd, x4 = si x2 75 (l1 : Int32).toNatClampNeg l2 → vp_in l1 6 ∧ (∀ x6 : gd, x6 = si x4 77 (l1 : Int32).toNatClampNeg 0 → vp_in l1 6 ∧ (∀ x8 : gd, x8 = si x6 78 (l1 : Int32).toNatClampNeg 0 → P none x8))))) :
    MT G d z_failThread 0 [(0, vr 0), (1, vi l1), (2, vi l2)] [] x P := by
  refine T_aload_n 0 (dk dt_failThread 0 rfl) rfl rfl ?_
  refine T_getR 0 72 73 (dk dt_failThread 1 rfl) fl_151 mk_0 ml_0 (by decide) rfl rfl ?_
  refine T_iload_n 1 (dk dt_failThread 2 rfl) rfl rfl ?_
  refine T_iconst (v := 3) (dk dt_failThread 3 rfl) (by decide +kernel) ?_
  obtain ⟨h1, h⟩ := h
  obtain ⟨x2, ex2⟩ : ∃ z, z = si x 73 (l1 : Int32).toNatClampNeg 3 := ⟨_, rfl⟩
  have h := h x2 ex2
  refine T_iast 73 6 (dk dt_failThread 4 rfl) mk_73 ml_73 h1 ?_
  rw [← ex2]
  refine T_aload_n 0 (dk dt_failThread 5 rfl) rfl rfl ?_
  refine T_getR 0 74 75 (dk dt_failThread 6 rfl) fl_157 mk_0 ml_0 (by decide) rfl rfl ?_
  refine T_iload_n 1 (dk dt_failThread 7 rfl) rfl rfl ?_
  refine T_iload_n 2 (dk dt_failThread 8 rfl) rfl rfl ?_
  obtain ⟨h3, h⟩ := h
  obtain ⟨x4, ex4⟩ : ∃ z, z = si x2 75 (l1 : Int32).toNatClampNeg l2 := ⟨_, rfl⟩
  have h := h x4 ex4
  refine T_iast 75 6 (dk dt_failThread 9 rfl) mk_75 ml_75 h3 ?_
  rw [← ex4]
  refine T_aload_n 0 (dk dt_failThread 10 rfl) rfl rfl ?_
  refine T_getR 0 76 77 (dk dt_failThread 11 rfl) fl_163 mk_0 ml_0 (by decide) rfl rfl ?_
  refine T_iload_n 1 (dk dt_failThread 12 rfl) rfl rfl ?_
  refine T_iconst (v := 0) (dk dt_failThread 13 rfl) (by decide +kernel) ?_
  obtain ⟨h5, h⟩ := h
  obtain ⟨x6, ex6⟩ : ∃ z, z = si x4 77 (l1 : Int32).toNatClampNeg 0 := ⟨_, rfl⟩
  have h := h x6 ex6
  refine T_iast 77 6 (dk dt_failThread 14 rfl) mk_77 ml_77 h5 ?_
  rw [← ex6]
  refine T_aload_n 0 (dk dt_failThread 15 rfl) rfl rfl ?_
  refine T_getR 0 77 78 (dk dt_failThread 16 rfl) fl_166 mk_0 ml_0 (by decide) rfl rfl ?_
  refine T_iload_n 1 (dk dt_failThread 17 rfl) rfl rfl ?_
  refine T_iconst (v := 0) (dk dt_failThread 18 rfl) (by decide +kernel) ?_
  obtain ⟨h7, h⟩ := h
  obtain ⟨x8, ex8⟩ : ∃ z, z = si x6 78 (l1 : Int32).toNatClampNeg 0 := ⟨_, rfl⟩
  have h := h x8 ex8
  refine T_iast 78 6 (dk dt_failThread 19 rfl) mk_78 ml_78 h7 ?_
  rw [← ex8]
  exact MT_vret (dk dt_failThread 20 rfl) rfl h
set_option maxRecDepth 100000 in
theorem dt_clean : dck cX12_clean [(0, .aload_n 0, 1), (1, .getfield 151, 3), (4, .iload_n 1, 1), (5, .iaload, 1), (6, .iconst 1, 1), (7, .if_icmp .eq 13, 3), (10, .aload_n 0, 1), (11, .getfield 151, 3), (14, .iload_n 1, 1), (15, .iaload, 1), (16, .iconst 3, 1), (17, .if_icmp .ne 17, 3), (20, .aload_n 0, 1), (21, .getfield 127, 3), (24, .aload_n 0, 1), (25, .getfield 154, 3), (28, .iload_n 1, 1), (29, .iaload, 1), (30, .iaload, 1), (31, .goto 4, 3), (34, .iconst 0, 1), (35, .istore_n 2, 1), (36, .iconst 0, 1), (37, .istore_n 3, 1), (38, .iload_n 3, 1), (39, .bipush 8, 2), (41, .if_icmp .ge 29, 3), (44, .iload_n 2, 1), (45, .iload_n 3, 1), (46, .ishr, 1), (47, .iconst 1, 1), (48, .iand, 1), (49, .ifCond .ne 15, 3), (52, .aload_n 0, 1), (53, .getfield 160, 3), (56, .bipush 8, 2), (58, .iload_n 1, 1), (59, .imul, 1), (60, .iload_n 3, 1), (61, .iadd, 1), (62, .iconst 0, 1), (63, .iastore, 1), (64, .iinc 3 1, 3), (67, .goto (-29), 3), (70, .aload_n 0, 1), (71, .getfield 151, 3), (74, .iload_n 1, 1), (75, .iaload, 1), (76, .ifCond .eq 13, 3), (79, .aload_n 0, 1), (80, .getfield 151, 3), (83, .iload_n 1, 1), (84, .iaload, 1), (85, .iconst 2, 1), (86, .if_icmp .ne 10, 3), (89, .aload_n 0, 1), (90, .getfield 154, 3), (93, .iload_n 1, 1), (94, .iconst 0, 1), (95, .iastore, 1), (96, .return_, 1)] = true := by decide +kernel
set_option maxRecDepth 100000 in
set_option maxHeartbeats 4000000 in
theorem sg_clean_0 {G : mG} {d : Nat} {x : gd} {P : Option gv → gd → Prop} (l1 : Int32)
    (h : vp_in l1 6 ∧ (((x.1 73 (l1 : Int32).toNatClampNeg) = (1 : Int32) → MT G d z_clean 20 [(0, vr 0), (1, vi l1)] [] x P) ∧ (¬ ((x.1 73 (l1 : Int32).toNatClampNeg) = (1 : Int32)) → vp_in l1 6 ∧ ((¬ ((x.1 73 (l1 : Int32).toNatClampNeg) = (3 : Int32)) → MT G d z_clean 38 [(0, vr 0), (1, vi l1), (2, vi 0), (3, vi 0)] [] x P) ∧ ((x.1 73 (l1 : Int32).toNatClampNeg) = (3 : Int32) → MT G d z_clean 20 [(0, vr 0), (1, vi l1)] [] x P))))) :
    MT G d z_clean 0 [(0, vr 0), (1, vi l1)] [] x P := by
  refine T_aload_n 0 (dk dt_clean 0 rfl) rfl rfl ?_
  refine T_getR 0 72 73 (dk dt_clean 1 rfl) fl_151 mk_0 ml_0 (by decide) rfl rfl ?_
  refine T_iload_n 1 (dk dt_clean 2 rfl) rfl rfl ?_
  obtain ⟨h1, h⟩ := h
  refine T_iald 73 6 (dk dt_clean 3 rfl) mk_73 ml_73 h1 ?_
  refine T_iconst (v := 1) (dk dt_clean 4 rfl) (by decide +kernel) ?_
  refine T_icmp_eq 20 (dk dt_clean 5 rfl) (by decide) (fun c2 => ?_) (fun c2 => ?_)
  · have h := h.1 c2
    exact h
  · have h := h.2 c2
    refine T_aload_n 0 (dk dt_clean 6 rfl) rfl rfl ?_
    refine T_getR 0 72 73 (dk dt_clean 7 rfl) fl_151 mk_0 ml_0 (by decide) rfl rfl ?_
    refine T_iload_n 1 (dk dt_clean 8 rfl) rfl rfl ?_
    obtain ⟨h3, h⟩ := h
    refine T_iald 73 6 (dk dt_clean 9 rfl) mk_73 ml_73 h3 ?_
    refine T_iconst (v := 3) (dk dt_clean 10 rfl) (by decide +kernel) ?_
    refine T_icmp_ne 34 (dk dt_clean 11 rfl) (by decide) (fun c4 => ?_) (fun c4 => ?_)
    · have h := h.1 c4
      refine T_iconst (v := 0) (dk dt_clean 20 rfl) (by decide +kernel) ?_
      refine T_istore_n (lv2 := [(2, vi 0), (0, vr 0), (1, vi l1)]) (dk dt_clean 21 rfl) rfl (by decide) rfl ?_
      refine T_iconst (v := 0) (dk dt_clean 22 rfl) (by decide +kernel) ?_
      refine T_istore_n (lv2 := [(3, vi 0), (2, vi 0), (0, vr 0), (1, vi l1)]) (dk dt_clean 23 rfl) rfl (by decide) rfl ?_
      exact T_sub [2, 3, 1, 0] rfl h
    · have h := h.2 c4
      exact h
set_option maxRecDepth 100000 in
set_option maxHeartbeats 4000000 in
theorem sg_clean_20 {G : mG} {d : Nat} {x : gd} {P : Option gv → gd → Prop} (l1 : Int32)
    (h : vp_in l1 6 ∧ vp_in (x.1 74 (l1 : Int32).toNatClampNeg) 1500 ∧ MT G d z_clean 38 [(0, vr 0), (1, vi l1), (2, vi (x.1 62 (x.1 74 (l1 : Int32).toNatClampNeg : Int32).toNatClampNeg)), (3, vi 0)] [] x P) :
    MT G d z_clean 20 [(0, vr 0), (1, vi l1)] [] x P := by
  refine T_aload_n 0 (dk dt_clean 12 rfl) rfl rfl ?_
  refine T_getR 0 61 62 (dk dt_clean 13 rfl) fl_127 mk_0 ml_0 (by decide) rfl rfl ?_
  refine T_aload_n 0 (dk dt_clean 14 rfl) rfl rfl ?_
  refine T_getR 0 73 74 (dk dt_clean 15 rfl) fl_154 mk_0 ml_0 (by decide) rfl rfl ?_
  refine T_iload_n 1 (dk dt_clean 16 rfl) rfl rfl ?_
  obtain ⟨h1, h⟩ := h
  refine T_iald 74 6 (dk dt_clean 17 rfl) mk_74 ml_74 h1 ?_
  obtain ⟨h2, h⟩ := h
  refine T_iald 62 1500 (dk dt_clean 18 rfl) mk_62 ml_62 h2 ?_
  refine T_goto 35 (dk dt_clean 19 rfl) (by decide) ?_
  refine T_istore_n (lv2 := [(2, vi (x.1 62 (x.1 74 (l1 : Int32).toNatClampNeg : Int32).toNatClampNeg)), (0, vr 0), (1, vi l1)]) (dk dt_clean 21 rfl) rfl (by decide) rfl ?_
  refine T_iconst (v := 0) (dk dt_clean 22 rfl) (by decide +kernel) ?_
  refine T_istore_n (lv2 := [(3, vi 0), (2, vi (x.1 62 (x.1 74 (l1 : Int32).toNatClampNeg : Int32).toNatClampNeg)), (0, vr 0), (1, vi l1)]) (dk dt_clean 23 rfl) rfl (by decide) rfl ?_
  exact T_sub [2, 3, 1, 0] rfl h
set_option maxRecDepth 100000 in
set_option maxHeartbeats 4000000 in
theorem sg_clean_38 {G : mG} {d : Nat} {x : gd} {P : Option gv → gd → Prop} (l1 : Int32) (l2 : Int32) (l3 : Int32)
    (h : (((8 : Int32) ≤ l3 → vp_in l1 6 ∧ (((x.1 73 (l1 : Int32).toNatClampNeg) = (0 : Int32) → vp_in l1 6 ∧ (∀ x5 : gd, x5 = si x 74 (l1 : Int32).toNatClampNeg 0 → P none x5)) ∧ (¬ ((x.1 73 (l1 : Int32).toNatClampNeg) = (0 : Int32)) → vp_in l1 6 ∧ ((¬ ((x.1 73 (l1 : Int32).toNatClampNeg) = (2 : Int32)) → P none x) ∧ ((x.1 73 (l1 : Int32).toNatClampNeg) = (2 : Int32) → vp_in l1 6 ∧ (∀ x9 : gd, x9 = si x 74 (l1 : Int32).toNatClampNeg 0 → P none x9)))))) ∧ (¬ ((8 : Int32) ≤ l3) → ((¬ (((l2 >>> (l3 &&& 31 : Int32)) &&& 1) = (0 : Int32)) → MT G d z_clean 38 [(0, vr 0), (1, vi l1), (2, vi l2), (3, vi (l3 + 1))] [] x P) ∧ (((l2 >>> (l3 &&& 31 : Int32)) &&& 1) = (0 : Int32) → vp_in ((8 * l1) + l3) 48 ∧ (∀ x12 : gd, x12 = si x 76 ((8 * l1) + l3 : Int32).toNatClampNeg 0 → MT G d z_clean 38 [(0, vr 0), (1, vi l1), (2, vi l2), (3, vi (l3 + 1))] [] x12 P)))))) :
    MT G d z_clean 38 [(0, vr 0), (1, vi l1), (2, vi l2), (3, vi l3)] [] x P := by
  refine T_iload_n 3 (dk dt_clean 24 rfl) rfl rfl ?_
  refine T_bipush (v := 8) (dk dt_clean 25 rfl) (by decide +kernel) ?_
  refine T_icmp_ge 70 (dk dt_clean 26 rfl) (by decide) (fun c1 => ?_) (fun c1 => ?_)
  · have h := h.1 c1
    refine T_aload_n 0 (dk dt_clean 44 rfl) rfl rfl ?_
    refine T_getR 0 72 73 (dk dt_clean 45 rfl) fl_151 mk_0 ml_0 (by decide) rfl rfl ?_
    refine T_iload_n 1 (dk dt_clean 46 rfl) rfl rfl ?_
    obtain ⟨h2, h⟩ := h
    refine T_iald 73 6 (dk dt_clean 47 rfl) mk_73 ml_73 h2 ?_
    refine T_if_eq 89 (dk dt_clean 48 rfl) (by decide) (fun c3 => ?_) (fun c3 => ?_)
    · have h := h.1 c3
      refine T_aload_n 0 (dk dt_clean 55 rfl) rfl rfl ?_
      refine T_getR 0 73 74 (dk dt_clean 56 rfl) fl_154 mk_0 ml_0 (by decide) rfl rfl ?_
      refine T_iload_n 1 (dk dt_clean 57 rfl) rfl rfl ?_
      refine T_iconst (v := 0) (dk dt_clean 58 rfl) (by decide +kernel) ?_
      obtain ⟨h4, h⟩ := h
      obtain ⟨x5, ex5⟩ : ∃ z, z = si x 74 (l1 : Int32).toNatClampNeg 0 := ⟨_, rfl⟩
      have h := h x5 ex5
      refine T_iast 74 6 (dk dt_clean 59 rfl) mk_74 ml_74 h4 ?_
      rw [← ex5]
      exact MT_vret (dk dt_clean 60 rfl) rfl h
    · have h := h.2 c3
      refine T_aload_n 0 (dk dt_clean 49 rfl) rfl rfl ?_
      refine T_getR 0 72 73 (dk dt_clean 50 rfl) fl_151 mk_0 ml_0 (by decide) rfl rfl ?_
      refine T_iload_n 1 (dk dt_clean 51 rfl) rfl rfl ?_
      obtain ⟨h6, h⟩ := h
      refine T_iald 73 6 (dk dt_clean 52 rfl) mk_73 ml_73 h6 ?_
      refine T_iconst (v := 2) (dk dt_clean 53 rfl) (by decide +kernel) ?_
      refine T_icmp_ne 96 (dk dt_clean 54 rfl) (by decide) (fun c7 => ?_) (fun c7 => ?_)
      · have h := h.1 c7
        exact MT_vret (dk dt_clean 60 rfl) rfl h
      · have h := h.2 c7
        refine T_aload_n 0 (dk dt_clean 55 rfl) rfl rfl ?_
        refine T_getR 0 73 74 (dk dt_clean 56 rfl) fl_154 mk_0 ml_0 (by decide) rfl rfl ?_
        refine T_iload_n 1 (dk dt_clean 57 rfl) rfl rfl ?_
        refine T_iconst (v := 0) (dk dt_clean 58 rfl) (by decide +kernel) ?_
        obtain ⟨h8, h⟩ := h
        obtain ⟨x9, ex9⟩ : ∃ z, z = si x 74 (l1 : Int32).toNatClampNeg 0 := ⟨_, rfl⟩
        have h := h x9 ex9
        refine T_iast 74 6 (dk dt_clean 59 rfl) mk_74 ml_74 h8 ?_
        rw [← ex9]
        exact MT_vret (dk dt_clean 60 rfl) rfl h
  · have h := h.2 c1
    refine T_iload_n 2 (dk dt_clean 27 rfl) rfl rfl ?_
    refine T_iload_n 3 (dk dt_clean 28 rfl) rfl rfl ?_
    refine T_ishr (dk dt_clean 29 rfl) ?_
    refine T_iconst (v := 1) (dk dt_clean 30 rfl) (by decide +kernel) ?_
    refine T_iand (dk dt_clean 31 rfl) ?_
    refine T_if_ne 64 (dk dt_clean 32 rfl) (by decide) (fun c10 => ?_) (fun c10 => ?_)
    · have h := h.1 c10
      refine T_iinc (v := l3 + 1) (lv2 := [(3, vi (l3 + 1)), (0, vr 0), (1, vi l1), (2, vi l2)]) 3 (dk dt_clean 42 rfl) rfl rfl (by decide) rfl ?_
      refine T_goto 38 (dk dt_clean 43 rfl) (by decide) ?_
      exact T_sub [1, 2, 3, 0] rfl h
    · have h := h.2 c10
      refine T_aload_n 0 (dk dt_clean 33 rfl) rfl rfl ?_
      refine T_getR 0 75 76 (dk dt_clean 34 rfl) fl_160 mk_0 ml_0 (by decide) rfl rfl ?_
      refine T_bipush (v := 8) (dk dt_clean 35 rfl) (by decide +kernel) ?_
      refine T_iload_n 1 (dk dt_clean 36 rfl) rfl rfl ?_
      refine T_imul (dk dt_clean 37 rfl) ?_
      refine T_iload_n 3 (dk dt_clean 38 rfl) rfl rfl ?_
      refine T_iadd (dk dt_clean 39 rfl) ?_
      refine T_iconst (v := 0) (dk dt_clean 40 rfl) (by decide +kernel) ?_
      obtain ⟨h11, h⟩ := h
      obtain ⟨x12, ex12⟩ : ∃ z, z = si x 76 ((8 * l1) + l3 : Int32).toNatClampNeg 0 := ⟨_, rfl⟩
      have h := h x12 ex12
      refine T_iast 76 48 (dk dt_clean 41 rfl) mk_76 ml_76 h11 ?_
      rw [← ex12]
      refine T_iinc (v := l3 + 1) (lv2 := [(3, vi (l3 + 1)), (0, vr 0), (1, vi l1), (2, vi l2)]) 3 (dk dt_clean 42 rfl) rfl rfl (by decide) rfl ?_
      refine T_goto 38 (dk dt_clean 43 rfl) (by decide) ?_
      exact T_sub [1, 2, 3, 0] rfl h
set_option maxRecDepth 100000 in
theorem dt_own : dck cX12_own [(0, .iconst 0, 1), (1, .istore_n 2, 1), (2, .aload_n 0, 1), (3, .getfield 151, 3), (6, .iload_n 1, 1), (7, .iaload, 1), (8, .iconst 1, 1), (9, .if_icmp .ne 255, 3), (12, .aload_n 0, 1), (13, .getfield 103, 3), (16, .aload_n 0, 1), (17, .getfield 154, 3), (20, .iload_n 1, 1), (21, .iaload, 1), (22, .iaload, 1), (23, .bipush 6, 2), (25, .if_icmp .eq 239, 3), (28, .aload_n 0, 1), (29, .getfield 154, 3), (32, .iload_n 1, 1), (33, .iaload, 1), (34, .istore_n 3, 1), (35, .aload_n 0, 1), (36, .getfield 103, 3), (39, .iload_n 3, 1), (40, .iaload, 1), (41, .istore 4, 2), (43, .iload 4, 2), (45, .iconst 3, 1), (46, .if_icmp .ne 18, 3), (49, .aload_n 0, 1), (50, .getfield 154, 3), (53, .iload_n 1, 1), (54, .aload_n 0, 1), (55, .getfield 124, 3), (58, .iload_n 3, 1), (59, .iaload, 1), (60, .iastore, 1), (61, .goto (-59), 3), (64, .iload 4, 2), (66, .iconst 5, 1), (67, .if_icmp .ne 13, 3), (70, .aload_n 0, 1), (71, .getfield 151, 3), (74, .iload_n 1, 1), (75, .iconst 2, 1), (76, .iastore, 1), (77, .goto (-75), 3), (80, .iinc 2 1, 3), (83, .iload_n 2, 1), (84, .sipush 300, 3), (87, .if_icmp .le 13, 3), (90, .aload_n 0, 1), (91, .iload_n 1, 1), (92, .bipush 6, 2), (94, .invokevirtual 590, 3), (97, .goto (-95), 3), (100, .aload_n 0, 1), (101, .getfield 118, 3), (104, .iload_n 3, 1), (105, .iaload, 1), (106, .iconst (-1), 1), (107, .if_icmp .ne 7, 3), (110, .iconst 0, 1), (111, .goto 14, 3), (114, .aload_n 0, 1), (115, .aload_n 0, 1), (116, .getfield 118, 3), (119, .iload_n 3, 1), (120, .iaload, 1), (121, .iload_n 1, 1), (122, .invokevirtual 593, 3), (125, .istore 5, 2), (127, .aload_n 0, 1), (128, .getfield 118, 3), (131, .iload_n 3, 1), (132, .iaload, 1), (133, .iconst (-1), 1), (134, .if_icmp .eq 19, 3), (137, .aload_n 0, 1), (138, .getfield 581, 3), (141, .ifCond .le 12, 3), (144, .aload_n 0, 1), (145, .iload_n 1, 1), (146, .iconst 1, 1), (147, .invokevirtual 590, 3), (150, .goto (-148), 3), (153, .iload 4, 2), (155, .ifCond .ne 34, 3), (158, .aload_n 0, 1), (159, .getfield 160, 3), (162, .bipush 8, 2), (164, .iload_n 1, 1), (165, .imul, 1), (166, .aload_n 0, 1), (167, .getfield 124, 3), (170, .iload_n 3, 1), (171, .iaload, 1), (172, .iadd, 1), (173, .iload 5, 2), (175, .iastore, 1), (176, .aload_n 0, 1), (177, .getfield 154, 3), (180, .iload_n 1, 1), (181, .dup2, 1), (182, .iaload, 1), (183, .iconst 1, 1), (184, .iadd, 1), (185, .iastore, 1), (186, .goto 75, 3), (189, .iload 4, 2), (191, .iconst 2, 1), (192, .if_icmp .ne 29, 3), (195, .aload_n 0, 1), (196, .getfield 154, 3), (199, .iload_n 1, 1), (200, .iload 5, 2), (202, .ifCond .eq 9, 3), (205, .iload_n 3, 1), (206, .iconst 1, 1), (207, .iadd, 1), (208, .goto 9, 3), (211, .aload_n 0, 1), (212, .getfield 124, 3), (215, .iload_n 3, 1), (216, .iaload, 1), (217, .iastore, 1), (218, .goto 43, 3), (221, .iload 4, 2), (223, .iconst 1, 1), (224, .if_icmp .ne 30, 3), (227, .iload 5, 2), (229, .ifCond .ne 12, 3), (232, .aload_n 0, 1), (233, .iload_n 1, 1), (234, .iconst 5, 1), (235, .invokevirtual 590, 3), (238, .goto 23, 3), (241, .aload_n 0, 1), (242, .getfield 154, 3), (245, .iload_n 1, 1), (246, .dup2, 1), (247, .iaload, 1), (248, .iconst 1, 1), (249, .iadd, 1), (250, .iastore, 1), (251, .goto 10, 3), (254, .aload_n 0, 1), (255, .getfield 151, 3), (258, .iload_n 1, 1), (259, .iconst 2, 1), (260, .iastore, 1), (261, .goto (-259), 3), (264, .aload_n 0, 1), (265, .iload_n 1, 1), (266, .invokevirtual 596, 3), (269, .return_, 1)] = true := by decide +kernel
set_option maxRecDepth 100000 in
set_option maxHeartbeats 4000000 in
theorem sg_own_0 {G : mG} {d : Nat} {x : gd} {P : Option gv → gd → Prop} (l1 : Int32)
    (h : MT G (d + 1) z_own 2 [(0, vr 0), (1, vi l1), (2, vi 0)] [] x P) :
    MT G (d + 1) z_own 0 [(0, vr 0), (1, vi l1)] [] x P := by
  refine T_iconst (v := 0) (dk dt_own 0 rfl) (by decide +kernel) ?_
  refine T_istore_n (lv2 := [(2, vi 0), (0, vr 0), (1, vi l1)]) (dk dt_own 1 rfl) rfl (by decide) rfl ?_
  exact T_sub [1, 2, 0] rfl h
set_option maxRecDepth 100000 in
set_option maxHeartbeats 4000000 in
theorem sg_own_2 {G : mG} {d : Nat} {x : gd} {P : Option gv → gd → Prop} (l1 : Int32) (l2 : Int32)
    (h : vp_in l1 6 ∧ ((¬ ((x.1 73 (l1 : Int32).toNatClampNeg) = (1 : Int32)) → MT G (d + 1) z_own 264 [(0, vr 0), (1, vi l1)] [] x P) ∧ ((x.1 73 (l1 : Int32).toNatClampNeg) = (1 : Int32) → vp_in l1 6 ∧ vp_in (x.1 74 (l1 : Int32).toNatClampNeg) 1500 ∧ (((x.1 54 (x.1 74 (l1 : Int32).toNatClampNeg : Int32).toNatClampNeg) = (6 : Int32) → MT G (d + 1) z_own 264 [(0, vr 0), (1, vi l1)] [] x P) ∧ (¬ ((x.1 54 (x.1 74 (l1 : Int32).toNatClampNeg : Int32).toNatClampNeg) = (6 : Int32)) → vp_in l1 6 ∧ vp_in (x.1 74 (l1 : Int32).toNatClampNeg) 1500 ∧ ((¬ ((x.1 54 (x.1 74 (l1 : Int32).toNatClampNeg : Int32).toNatClampNeg) = (3 : Int32)) → ((¬ ((x.1 54 (x.1 74 (l1 : Int32).toNatClampNeg : Int32).toNatClampNeg) = (5 : Int32)) → (((l2 + 1) ≤ (300 : Int32) → vp_in (x.1 74 (l1 : Int32).toNatClampNeg) 1500 ∧ ((¬ ((x.1 59 (x.1 74 (l1 : Int32).toNatClampNeg : Int32).toNatClampNeg) = (-1 : Int32)) → vp_in (x.1 74 (l1 : Int32).toNatClampNeg) 1500 ∧ MT G d z_worked 0 [(0, vr 0), (1, vi (x.1 59 (x.1 74 (l1 : Int32).toNatClampNeg : Int32).toNatClampNeg)), (2, vi l1)] [] x (ri (fun r15 x14 => MT G (d + 1) z_own 125 [(0, vr 0), (1, vi l1), (2, vi (l2 + 1)), (3, vi (x.1 74 (l1 : Int32).toNatClampNeg)), (4, vi (x.1 54 (x.1 74 (l1 : Int32).toNatClampNeg : Int32).toNatClampNeg))] [vi r15] x14 P))) ∧ ((x.1 59 (x.1 74 (l1 : Int32).toNatClampNeg : Int32).toNatClampNeg) = (-1 : Int32) → MT G (d + 1) z_own 125 [(0, vr 0), (1, vi l1), (2, vi (l2 + 1)), (3, vi (x.1 74 (l1 : Int32).toNatClampNeg)), (4, vi (x.1 54 (x.1 74 (l1 : Int32).toNatClampNeg : Int32).toNatClampNeg))] [vi 0] x P))) ∧ (¬ ((l2 + 1) ≤ (300 : Int32)) → MT G d z_failThread 0 [(0, vr 0), (1, vi l1), (2, vi 6)] [] x (rv (fun x16 => MT G (d + 1) z_own 2 [(0, vr 0), (1, vi l1), (2, vi (l2 + 1))] [] x16 P))))) ∧ ((x.1 54 (x.1 74 (l1 : Int32).toNatClampNeg : Int32).toNatClampNeg) = (5 : Int32) → vp_in l1 6 ∧ (∀ x18 : gd, x18 = si x 73 (l1 : Int32).toNatClampNeg 2 → MT G (d + 1) z_own 2 [(0, vr 0), (1, vi l1), (2, vi l2)] [] x18 P)))) ∧ ((x.1 54 (x.1 74 (l1 : Int32).toNatClampNeg : Int32).toNatClampNeg) = (3 : Int32) → vp_in (x.1 74 (l1 : Int32).toNatClampNeg) 1500 ∧ vp_in l1 6 ∧ (∀ x21 : gd, x21 = si x 74 (l1 : Int32).toNatClampNeg (x.1 61 (x.1 74 (l1 : Int32).toNatClampNeg : Int32).toNatClampNeg) → MT G (d + 1) z_own 2 [(0, vr 0), (1, vi l1), (2, vi l2)] [] x21 P)))))))) :
    MT G (d + 1) z_own 2 [(0, vr 0), (1, vi l1), (2, vi l2)] [] x P := by
  refine T_aload_n 0 (dk dt_own 2 rfl) rfl rfl ?_
  refine T_getR 0 72 73 (dk dt_own 3 rfl) fl_151 mk_0 ml_0 (by decide) rfl rfl ?_
  refine T_iload_n 1 (dk dt_own 4 rfl) rfl rfl ?_
  obtain ⟨h1, h⟩ := h
  refine T_iald 73 6 (dk dt_own 5 rfl) mk_73 ml_73 h1 ?_
  refine T_iconst (v := 1) (dk dt_own 6 rfl) (by decide +kernel) ?_
  refine T_icmp_ne 264 (dk dt_own 7 rfl) (by decide) (fun c2 => ?_) (fun c2 => ?_)
  · have h := h.1 c2
    exact T_sub [0, 1] rfl h
  · have h := h.2 c2
    refine T_aload_n 0 (dk dt_own 8 rfl) rfl rfl ?_
    refine T_getR 0 53 54 (dk dt_own 9 rfl) fl_103 mk_0 ml_0 (by decide) rfl rfl ?_
    refine T_aload_n 0 (dk dt_own 10 rfl) rfl rfl ?_
    refine T_getR 0 73 74 (dk dt_own 11 rfl) fl_154 mk_0 ml_0 (by decide) rfl rfl ?_
    refine T_iload_n 1 (dk dt_own 12 rfl) rfl rfl ?_
    obtain ⟨h3, h⟩ := h
    refine T_iald 74 6 (dk dt_own 13 rfl) mk_74 ml_74 h3 ?_
    obtain ⟨h4, h⟩ := h
    refine T_iald 54 1500 (dk dt_own 14 rfl) mk_54 ml_54 h4 ?_
    refine T_bipush (v := 6) (dk dt_own 15 rfl) (by decide +kernel) ?_
    refine T_icmp_eq 264 (dk dt_own 16 rfl) (by decide) (fun c5 => ?_) (fun c5 => ?_)
    · have h := h.1 c5
      exact T_sub [0, 1] rfl h
    · have h := h.2 c5
      refine T_aload_n 0 (dk dt_own 17 rfl) rfl rfl ?_
      refine T_getR 0 73 74 (dk dt_own 18 rfl) fl_154 mk_0 ml_0 (by decide) rfl rfl ?_
      refine T_iload_n 1 (dk dt_own 19 rfl) rfl rfl ?_
      obtain ⟨h6, h⟩ := h
      refine T_iald 74 6 (dk dt_own 20 rfl) mk_74 ml_74 h6 ?_
      refine T_istore_n (lv2 := [(3, vi (x.1 74 (l1 : Int32).toNatClampNeg)), (0, vr 0), (1, vi l1), (2, vi l2)]) (dk dt_own 21 rfl) rfl (by decide) rfl ?_
      refine T_aload_n 1 (dk dt_own 22 rfl) rfl rfl ?_
      refine T_getR 0 53 54 (dk dt_own 23 rfl) fl_103 mk_0 ml_0 (by decide) rfl rfl ?_
      refine T_iload_n 0 (dk dt_own 24 rfl) rfl rfl ?_
      obtain ⟨h7, h⟩ := h
      refine T_iald 54 1500 (dk dt_own 25 rfl) mk_54 ml_54 h7 ?_
      refine T_istore (lv2 := [(4, vi (x.1 54 (x.1 74 (l1 : Int32).toNatClampNeg : Int32).toNatClampNeg)), (3, vi (x.1 74 (l1 : Int32).toNatClampNeg)), (0, vr 0), (1, vi l1), (2, vi l2)]) (dk dt_own 26 rfl) (by decide) rfl ?_
      refine T_iload 0 (dk dt_own 27 rfl) rfl ?_
      refine T_iconst (v := 3) (dk dt_own 28 rfl) (by decide +kernel) ?_
      refine T_icmp_ne 64 (dk dt_own 29 rfl) (by decide) (fun c8 => ?_) (fun c8 => ?_)
      · have h := h.1 c8
        refine T_iload 0 (dk dt_own 39 rfl) rfl ?_
        refine T_iconst (v := 5) (dk dt_own 40 rfl) (by decide +kernel) ?_
        refine T_icmp_ne 80 (dk dt_own 41 rfl) (by decide) (fun c9 => ?_) (fun c9 => ?_)
        · have h := h.1 c9
          refine T_iinc (v := l2 + 1) (lv2 := [(2, vi (l2 + 1)), (4, vi (x.1 54 (x.1 74 (l1 : Int32).toNatClampNeg : Int32).toNatClampNeg)), (3, vi (x.1 74 (l1 : Int32).toNatClampNeg)), (0, vr 0), (1, vi l1)]) 4 (dk dt_own 48 rfl) rfl rfl (by decide) rfl ?_
          refine T_iload_n 0 (dk dt_own 49 rfl) rfl rfl ?_
          refine T_sipush (v := 300) (dk dt_own 50 rfl) (by decide +kernel) ?_
          refine T_icmp_le 100 (dk dt_own 51 rfl) (by decide) (fun c10 => ?_) (fun c10 => ?_)
          · have h := h.1 c10
            refine T_aload_n 3 (dk dt_own 57 rfl) rfl rfl ?_
            refine T_getR 0 58 59 (dk dt_own 58 rfl) fl_118 mk_0 ml_0 (by decide) rfl rfl ?_
            refine T_iload_n 2 (dk dt_own 59 rfl) rfl rfl ?_
            obtain ⟨h11, h⟩ := h
            refine T_iald 59 1500 (dk dt_own 60 rfl) mk_59 ml_59 h11 ?_
            refine T_iconst (v := (-1)) (dk dt_own 61 rfl) (by decide +kernel) ?_
            refine T_icmp_ne 114 (dk dt_own 62 rfl) (by decide) (fun c12 => ?_) (fun c12 => ?_)
            · have h := h.1 c12
              refine T_aload_n 3 (dk dt_own 65 rfl) rfl rfl ?_
              refine T_aload_n 3 (dk dt_own 66 rfl) rfl rfl ?_
              refine T_getR 0 58 59 (dk dt_own 67 rfl) fl_118 mk_0 ml_0 (by decide) rfl rfl ?_
              refine T_iload_n 2 (dk dt_own 68 rfl) rfl rfl ?_
              obtain ⟨h13, h⟩ := h
              refine T_iald 59 1500 (dk dt_own 69 rfl) mk_59 ml_59 h13 ?_
              refine T_iload_n 4 (dk dt_own 70 rfl) rfl rfl ?_
              refine MT_callVi [vi (x.1 59 (x.1 74 (l1 : Int32).toNatClampNeg : Int32).toNatClampNeg), vi l1] [] rfl (dk dt_own 71 rfl) cv_593 rfl rfl (Nat.le_of_ble_eq_true rfl) (Nat.le_of_ble_eq_true rfl) rfl rfl h (fun r15 x14 h => ?_)
              exact T_sub [3, 4, 0, 2, 1] rfl h
            · have h := h.2 c12
              refine T_iconst (v := 0) (dk dt_own 63 rfl) (by decide +kernel) ?_
              refine T_goto 125 (dk dt_own 64 rfl) (by decide) ?_
              exact T_sub [3, 4, 0, 2, 1] rfl h
          · have h := h.2 c10
            refine T_aload_n 3 (dk dt_own 52 rfl) rfl rfl ?_
            refine T_iload_n 4 (dk dt_own 53 rfl) rfl rfl ?_
            refine T_bipush (v := 6) (dk dt_own 54 rfl) (by decide +kernel) ?_
            refine MT_callVv [vi l1, vi 6] [] rfl (dk dt_own 55 rfl) cv_590 rfl rfl (Nat.le_of_ble_eq_true rfl) (Nat.le_of_ble_eq_true rfl) rfl rfl h (fun x16 h => ?_)
            refine T_goto 2 (dk dt_own 56 rfl) (by decide) ?_
            exact T_sub [3, 4, 0] rfl h
        · have h := h.2 c9
          refine T_aload_n 2 (dk dt_own 42 rfl) rfl rfl ?_
          refine T_getR 0 72 73 (dk dt_own 43 rfl) fl_151 mk_0 ml_0 (by decide) rfl rfl ?_
          refine T_iload_n 3 (dk dt_own 44 rfl) rfl rfl ?_
          refine T_iconst (v := 2) (dk dt_own 45 rfl) (by decide +kernel) ?_
          obtain ⟨h17, h⟩ := h
          obtain ⟨x18, ex18⟩ : ∃ z, z = si x 73 (l1 : Int32).toNatClampNeg 2 := ⟨_, rfl⟩
          have h := h x18 ex18
          refine T_iast 73 6 (dk dt_own 46 rfl) mk_73 ml_73 h17 ?_
          rw [← ex18]
          refine T_goto 2 (dk dt_own 47 rfl) (by decide) ?_
          exact T_sub [2, 3, 4] rfl h
      · have h := h.2 c8
        refine T_aload_n 2 (dk dt_own 30 rfl) rfl rfl ?_
        refine T_getR 0 73 74 (dk dt_own 31 rfl) fl_154 mk_0 ml_0 (by decide) rfl rfl ?_
        refine T_iload_n 3 (dk dt_own 32 rfl) rfl rfl ?_
        refine T_aload_n 2 (dk dt_own 33 rfl) rfl rfl ?_
        refine T_getR 0 60 61 (dk dt_own 34 rfl) fl_124 mk_0 ml_0 (by decide) rfl rfl ?_
        refine T_iload_n 1 (dk dt_own 35 rfl) rfl rfl ?_
        obtain ⟨h19, h⟩ := h
        refine T_iald 61 1500 (dk dt_own 36 rfl) mk_61 ml_61 h19 ?_
        obtain ⟨h20, h⟩ := h
        obtain ⟨x21, ex21⟩ : ∃ z, z = si x 74 (l1 : Int32).toNatClampNeg (x.1 61 (x.1 74 (l1 : Int32).toNatClampNeg : Int32).toNatClampNeg) := ⟨_, rfl⟩
        have h := h x21 ex21
        refine T_iast 74 6 (dk dt_own 37 rfl) mk_74 ml_74 h20 ?_
        rw [← ex21]
        refine T_goto 2 (dk dt_own 38 rfl) (by decide) ?_
        exact T_sub [2, 3, 4] rfl h
set_option maxRecDepth 100000 in
set_option maxHeartbeats 4000000 in
theorem sg_own_125 {G : mG} {d : Nat} {x : gd} {P : Option gv → gd → Prop} (l1 : Int32) (l2 : Int32) (l3 : Int32) (l4 : Int32) (s0 : Int32)
    (h : vp_in l3 1500 ∧ (((x.1 59 (l3 : Int32).toNatClampNeg) = (-1 : Int32) → MT G (d + 1) z_own 153 [(0, vr 0), (1, vi l1), (2, vi l2), (3, vi l3), (4, vi l4), (5, vi s0)] [] x P) ∧ (¬ ((x.1 59 (l3 : Int32).toNatClampNeg) = (-1 : Int32)) → (((x.1 0 82) ≤ (0 : Int32) → MT G (d + 1) z_own 153 [(0, vr 0), (1, vi l1), (2, vi l2), (3, vi l3), (4, vi l4), (5, vi s0)] [] x P) ∧ (¬ ((x.1 0 82) ≤ (0 : Int32)) → MT G d z_failThread 0 [(0, vr 0), (1, vi l1), (2, vi 1)] [] x (rv (fun x4 => MT G (d + 1) z_own 2 [(0, vr 0), (1, vi l1), (2, vi l2)] [] x4 P))))))) :
    MT G (d + 1) z_own 125 [(0, vr 0), (1, vi l1), (2, vi l2), (3, vi l3), (4, vi l4)] [vi s0] x P := by
  refine T_istore (lv2 := [(5, vi s0), (0, vr 0), (1, vi l1), (2, vi l2), (3, vi l3), (4, vi l4)]) (dk dt_own 72 rfl) (by decide) rfl ?_
  refine T_aload_n 1 (dk dt_own 73 rfl) rfl rfl ?_
  refine T_getR 0 58 59 (dk dt_own 74 rfl) fl_118 mk_0 ml_0 (by decide) rfl rfl ?_
  refine T_iload_n 4 (dk dt_own 75 rfl) rfl rfl ?_
  obtain ⟨h1, h⟩ := h
  refine T_iald 59 1500 (dk dt_own 76 rfl) mk_59 ml_59 h1 ?_
  refine T_iconst (v := (-1)) (dk dt_own 77 rfl) (by decide +kernel) ?_
  refine T_icmp_eq 153 (dk dt_own 78 rfl) (by decide) (fun c2 => ?_) (fun c2 => ?_)
  · have h := h.1 c2
    exact T_sub [1, 2, 3, 4, 5, 0] rfl h
  · have h := h.2 c2
    refine T_aload_n 1 (dk dt_own 79 rfl) rfl rfl ?_
    refine T_getI 0 82 (dk dt_own 80 rfl) fl_581 mk_0 ml_0 (by decide) rfl ?_
    refine T_if_le 153 (dk dt_own 81 rfl) (by decide) (fun c3 => ?_) (fun c3 => ?_)
    · have h := h.1 c3
      exact T_sub [1, 2, 3, 4, 5, 0] rfl h
    · have h := h.2 c3
      refine T_aload_n 1 (dk dt_own 82 rfl) rfl rfl ?_
      refine T_iload_n 2 (dk dt_own 83 rfl) rfl rfl ?_
      refine T_iconst (v := 1) (dk dt_own 84 rfl) (by decide +kernel) ?_
      refine MT_callVv [vi l1, vi 1] [] rfl (dk dt_own 85 rfl) cv_590 rfl rfl (Nat.le_of_ble_eq_true rfl) (Nat.le_of_ble_eq_true rfl) rfl rfl h (fun x4 h => ?_)
      refine T_goto 2 (dk dt_own 86 rfl) (by decide) ?_
      exact T_sub [1, 2, 3] rfl h
set_option maxRecDepth 100000 in
set_option maxHeartbeats 4000000 in
theorem sg_own_153 {G : mG} {d : Nat} {x : gd} {P : Option gv → gd → Prop} (l1 : Int32) (l2 : Int32) (l3 : Int32) (l4 : Int32) (l5 : Int32)
    (h : ((¬ (l4 = (0 : Int32)) → ((¬ (l4 = (2 : Int32)) → ((¬ (l4 = (1 : Int32)) → vp_in l1 6 ∧ (∀ x5 : gd, x5 = si x 73 (l1 : Int32).toNatClampNeg 2 → MT G (d + 1) z_own 2 [(0, vr 0), (1, vi l1), (2, vi l2)] [] x5 P)) ∧ (l4 = (1 : Int32) → ((¬ (l5 = (0 : Int32)) → vp_in l1 6 ∧ vp_in l1 6 ∧ (∀ x9 : gd, x9 = si x 74 (l1 : Int32).toNatClampNeg ((x.1 74 (l1 : Int32).toNatClampNeg) + 1) → MT G (d + 1) z_own 2 [(0, vr 0), (1, vi l1), (2, vi l2)] [] x9 P)) ∧ (l5 = (0 : Int32) → MT G d z_failThread 0 [(0, vr 0), (1, vi l1), (2, vi 5)] [] x (rv (fun x10 => MT G (d + 1) z_own 2 [(0, vr 0), (1, vi l1), (2, vi l2)] [] x10 P))))))) ∧ (l4 = (2 : Int32) → ((l5 = (0 : Int32) → vp_in l3 1500 ∧ vp_in l1 6 ∧ (∀ x14 : gd, x14 = si x 74 (l1 : Int32).toNatClampNeg (x.1 61 (l3 : Int32).toNatClampNeg) → MT G (d + 1) z_own 2 [(0, vr 0), (1, vi l1), (2, vi l2)] [] x14 P)) ∧ (¬ (l5 = (0 : Int32)) → vp_in l1 6 ∧ (∀ x16 : gd, x16 = si x 74 (l1 : Int32).toNatClampNeg (l3 + 1) → MT G (d + 1) z_own 2 [(0, vr 0), (1, vi l1), (2, vi l2)] [] x16 P)))))) ∧ (l4 = (0 : Int32) → vp_in l3 1500 ∧ vp_in ((8 * l1) + (x.1 61 (l3 : Int32).toNatClampNeg)) 48 ∧ (∀ x19 : gd, x19 = si x 76 ((8 * l1) + (x.1 61 (l3 : Int32).toNatClampNeg) : Int32).toNatClampNeg l5 → vp_in l1 6 ∧ vp_in l1 6 ∧ (∀ x22 : gd, x22 = si x19 74 (l1 : Int32).toNatClampNeg ((x19.1 74 (l1 : Int32).toNatClampNeg) + 1) → MT G (d + 1) z_own 2 [(0, vr 0), (1, vi l1), (2, vi l2)] [] x22 P))))) :
    MT G (d + 1) z_own 153 [(0, vr 0), (1, vi l1), (2, vi l2), (3, vi l3), (4, vi l4), (5, vi l5)] [] x P := by
  refine T_iload 4 (dk dt_own 87 rfl) rfl ?_
  refine T_if_ne 189 (dk dt_own 88 rfl) (by decide) (fun c1 => ?_) (fun c1 => ?_)
  · have h := h.1 c1
    refine T_iload 4 (dk dt_own 110 rfl) rfl ?_
    refine T_iconst (v := 2) (dk dt_own 111 rfl) (by decide +kernel) ?_
    refine T_icmp_ne 221 (dk dt_own 112 rfl) (by decide) (fun c2 => ?_) (fun c2 => ?_)
    · have h := h.1 c2
      refine T_iload 4 (dk dt_own 128 rfl) rfl ?_
      refine T_iconst (v := 1) (dk dt_own 129 rfl) (by decide +kernel) ?_
      refine T_icmp_ne 254 (dk dt_own 130 rfl) (by decide) (fun c3 => ?_) (fun c3 => ?_)
      · have h := h.1 c3
        refine T_aload_n 0 (dk dt_own 147 rfl) rfl rfl ?_
        refine T_getR 0 72 73 (dk dt_own 148 rfl) fl_151 mk_0 ml_0 (by decide) rfl rfl ?_
        refine T_iload_n 1 (dk dt_own 149 rfl) rfl rfl ?_
        refine T_iconst (v := 2) (dk dt_own 150 rfl) (by decide +kernel) ?_
        obtain ⟨h4, h⟩ := h
        obtain ⟨x5, ex5⟩ : ∃ z, z = si x 73 (l1 : Int32).toNatClampNeg 2 := ⟨_, rfl⟩
        have h := h x5 ex5
        refine T_iast 73 6 (dk dt_own 151 rfl) mk_73 ml_73 h4 ?_
        rw [← ex5]
        refine T_goto 2 (dk dt_own 152 rfl) (by decide) ?_
        exact T_sub [0, 1, 2] rfl h
      · have h := h.2 c3
        refine T_iload 5 (dk dt_own 131 rfl) rfl ?_
        refine T_if_ne 241 (dk dt_own 132 rfl) (by decide) (fun c6 => ?_) (fun c6 => ?_)
        · have h := h.1 c6
          refine T_aload_n 0 (dk dt_own 138 rfl) rfl rfl ?_
          refine T_getR 0 73 74 (dk dt_own 139 rfl) fl_154 mk_0 ml_0 (by decide) rfl rfl ?_
          refine T_iload_n 1 (dk dt_own 140 rfl) rfl rfl ?_
          refine T_dup2 (dk dt_own 141 rfl) rfl rfl ?_
          obtain ⟨h7, h⟩ := h
          refine T_iald 74 6 (dk dt_own 142 rfl) mk_74 ml_74 h7 ?_
          refine T_iconst (v := 1) (dk dt_own 143 rfl) (by decide +kernel) ?_
          refine T_iadd (dk dt_own 144 rfl) ?_
          obtain ⟨h8, h⟩ := h
          obtain ⟨x9, ex9⟩ : ∃ z, z = si x 74 (l1 : Int32).toNatClampNeg ((x.1 74 (l1 : Int32).toNatClampNeg) + 1) := ⟨_, rfl⟩
          have h := h x9 ex9
          refine T_iast 74 6 (dk dt_own 145 rfl) mk_74 ml_74 h8 ?_
          rw [← ex9]
          refine T_goto 261 (dk dt_own 146 rfl) (by decide) ?_
          refine T_goto 2 (dk dt_own 152 rfl) (by decide) ?_
          exact T_sub [0, 1, 2] rfl h
        · have h := h.2 c6
          refine T_aload_n 0 (dk dt_own 133 rfl) rfl rfl ?_
          refine T_iload_n 1 (dk dt_own 134 rfl) rfl rfl ?_
          refine T_iconst (v := 5) (dk dt_own 135 rfl) (by decide +kernel) ?_
          refine MT_callVv [vi l1, vi 5] [] rfl (dk dt_own 136 rfl) cv_590 rfl rfl (Nat.le_of_ble_eq_true rfl) (Nat.le_of_ble_eq_true rfl) rfl rfl h (fun x10 h => ?_)
          refine T_goto 261 (dk dt_own 137 rfl) (by decide) ?_
          refine T_goto 2 (dk dt_own 152 rfl) (by decide) ?_
          exact T_sub [0, 1, 2] rfl h
    · have h := h.2 c2
      refine T_aload_n 0 (dk dt_own 113 rfl) rfl rfl ?_
      refine T_getR 0 73 74 (dk dt_own 114 rfl) fl_154 mk_0 ml_0 (by decide) rfl rfl ?_
      refine T_iload_n 1 (dk dt_own 115 rfl) rfl rfl ?_
      refine T_iload 5 (dk dt_own 116 rfl) rfl ?_
      refine T_if_eq 211 (dk dt_own 117 rfl) (by decide) (fun c11 => ?_) (fun c11 => ?_)
      · have h := h.1 c11
        refine T_aload_n 0 (dk dt_own 122 rfl) rfl rfl ?_
        refine T_getR 0 60 61 (dk dt_own 123 rfl) fl_124 mk_0 ml_0 (by decide) rfl rfl ?_
        refine T_iload_n 3 (dk dt_own 124 rfl) rfl rfl ?_
        obtain ⟨h12, h⟩ := h
        refine T_iald 61 1500 (dk dt_own 125 rfl) mk_61 ml_61 h12 ?_
        obtain ⟨h13, h⟩ := h
        obtain ⟨x14, ex14⟩ : ∃ z, z = si x 74 (l1 : Int32).toNatClampNeg (x.1 61 (l3 : Int32).toNatClampNeg) := ⟨_, rfl⟩
        have h := h x14 ex14
        refine T_iast 74 6 (dk dt_own 126 rfl) mk_74 ml_74 h13 ?_
        rw [← ex14]
        refine T_goto 261 (dk dt_own 127 rfl) (by decide) ?_
        refine T_goto 2 (dk dt_own 152 rfl) (by decide) ?_
        exact T_sub [0, 1, 2] rfl h
      · have h := h.2 c11
        refine T_iload_n 3 (dk dt_own 118 rfl) rfl rfl ?_
        refine T_iconst (v := 1) (dk dt_own 119 rfl) (by decide +kernel) ?_
        refine T_iadd (dk dt_own 120 rfl) ?_
        refine T_goto 217 (dk dt_own 121 rfl) (by decide) ?_
        obtain ⟨h15, h⟩ := h
        obtain ⟨x16, ex16⟩ : ∃ z, z = si x 74 (l1 : Int32).toNatClampNeg (l3 + 1) := ⟨_, rfl⟩
        have h := h x16 ex16
        refine T_iast 74 6 (dk dt_own 126 rfl) mk_74 ml_74 h15 ?_
        rw [← ex16]
        refine T_goto 261 (dk dt_own 127 rfl) (by decide) ?_
        refine T_goto 2 (dk dt_own 152 rfl) (by decide) ?_
        exact T_sub [0, 1, 2] rfl h
  · have h := h.2 c1
    refine T_aload_n 0 (dk dt_own 89 rfl) rfl rfl ?_
    refine T_getR 0 75 76 (dk dt_own 90 rfl) fl_160 mk_0 ml_0 (by decide) rfl rfl ?_
    refine T_bipush (v := 8) (dk dt_own 91 rfl) (by decide +kernel) ?_
    refine T_iload_n 1 (dk dt_own 92 rfl) rfl rfl ?_
    refine T_imul (dk dt_own 93 rfl) ?_
    refine T_aload_n 0 (dk dt_own 94 rfl) rfl rfl ?_
    refine T_getR 0 60 61 (dk dt_own 95 rfl) fl_124 mk_0 ml_0 (by decide) rfl rfl ?_
    refine T_iload_n 3 (dk dt_own 96 rfl) rfl rfl ?_
    obtain ⟨h17, h⟩ := h
    refine T_iald 61 1500 (dk dt_own 97 rfl) mk_61 ml_61 h17 ?_
    refine T_iadd (dk dt_own 98 rfl) ?_
    refine T_iload 5 (dk dt_own 99 rfl) rfl ?_
    obtain ⟨h18, h⟩ := h
    obtain ⟨x19, ex19⟩ : ∃ z, z = si x 76 ((8 * l1) + (x.1 61 (l3 : Int32).toNatClampNeg) : Int32).toNatClampNeg l5 := ⟨_, rfl⟩
    have h := h x19 ex19
    refine T_iast 76 48 (dk dt_own 100 rfl) mk_76 ml_76 h18 ?_
    rw [← ex19]
    refine T_aload_n 0 (dk dt_own 101 rfl) rfl rfl ?_
    refine T_getR 0 73 74 (dk dt_own 102 rfl) fl_154 mk_0 ml_0 (by decide) rfl rfl ?_
    refine T_iload_n 1 (dk dt_own 103 rfl) rfl rfl ?_
    refine T_dup2 (dk dt_own 104 rfl) rfl rfl ?_
    obtain ⟨h20, h⟩ := h
    refine T_iald 74 6 (dk dt_own 105 rfl) mk_74 ml_74 h20 ?_
    refine T_iconst (v := 1) (dk dt_own 106 rfl) (by decide +kernel) ?_
    refine T_iadd (dk dt_own 107 rfl) ?_
    obtain ⟨h21, h⟩ := h
    obtain ⟨x22, ex22⟩ : ∃ z, z = si x19 74 (l1 : Int32).toNatClampNeg ((x19.1 74 (l1 : Int32).toNatClampNeg) + 1) := ⟨_, rfl⟩
    have h := h x22 ex22
    refine T_iast 74 6 (dk dt_own 108 rfl) mk_74 ml_74 h21 ?_
    rw [← ex22]
    refine T_goto 261 (dk dt_own 109 rfl) (by decide) ?_
    refine T_goto 2 (dk dt_own 152 rfl) (by decide) ?_
    exact T_sub [0, 1, 2] rfl h
set_option maxRecDepth 100000 in
set_option maxHeartbeats 4000000 in
theorem sg_own_264 {G : mG} {d : Nat} {x : gd} {P : Option gv → gd → Prop} (l1 : Int32)
    (h : MT G d z_clean 0 [(0, vr 0), (1, vi l1)] [] x (rv (fun x1 => P none x1))) :
    MT G (d + 1) z_own 264 [(0, vr 0), (1, vi l1)] [] x P := by
  refine T_aload_n 0 (dk dt_own 153 rfl) rfl rfl ?_
  refine T_iload_n 1 (dk dt_own 154 rfl) rfl rfl ?_
  refine MT_callVv [vi l1] [] rfl (dk dt_own 155 rfl) cv_596 rfl rfl (Nat.le_of_ble_eq_true rfl) (Nat.le_of_ble_eq_true rfl) rfl rfl h (fun x1 h => ?_)
  exact MT_vret (dk dt_own 156 rfl) rfl h
