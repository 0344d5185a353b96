section
set_option maxRecDepth 100000 in
theorem dt_laySet : dck cX12_laySet [(0, .aload_n 0, 1), (1, .aload_n 0, 1), (2, .getfield 36, 3), (5, .iload_n 1, 1), (6, .iaload, 1), (7, .invokevirtual 492, 3), (10, .istore_n 2, 1), (11, .aload_n 0, 1), (12, .getfield 39, 3), (15, .iload_n 1, 1), (16, .iaload, 1), (17, .istore_n 3, 1), (18, .iload_n 2, 1), (19, .iconst (-1), 1), (20, .if_icmp .eq 11, 3), (23, .aload_n 0, 1), (24, .iload_n 3, 1), (25, .iload_n 2, 1), (26, .iload_n 1, 1), (27, .invokevirtual 536, 3), (30, .return_, 1), (31, .aload_n 0, 1), (32, .aload_n 0, 1), (33, .getfield 36, 3), (36, .iload_n 1, 1), (37, .iaload, 1), (38, .iconst 0, 1), (39, .invokevirtual 520, 3), (42, .istore 4, 2), (44, .iload 4, 2), (46, .iconst (-1), 1), (47, .if_icmp .eq 60, 3), (50, .aload_n 0, 1), (51, .getfield 33, 3), (54, .iload_n 3, 1), (55, .iaload, 1), (56, .bipush 10, 2), (58, .if_icmp .ne 29, 3), (61, .aload_n 0, 1), (62, .iload_n 3, 1), (63, .invokevirtual 514, 3), (66, .ifCond .eq 41, 3), (69, .aload_n 0, 1), (70, .aload_n 0, 1), (71, .getfield 45, 3), (74, .aload_n 0, 1), (75, .getfield 36, 3), (78, .iload_n 3, 1), (79, .iaload, 1), (80, .iaload, 1), (81, .invokevirtual 552, 3), (84, .ifCond .eq 23, 3), (87, .aload_n 0, 1), (88, .bipush 7, 2), (90, .aload_n 0, 1), (91, .getfield 45, 3), (94, .iload_n 3, 1), (95, .iaload, 1), (96, .invokevirtual 495, 3), (99, .aload_n 0, 1), (100, .iload_n 3, 1), (101, .iconst 0, 1), (102, .iload_n 1, 1), (103, .invokevirtual 536, 3), (106, .return_, 1), (107, .aload_n 0, 1), (108, .getfield 33, 3), (111, .iload_n 3, 1), (112, .iaload, 1), (113, .bipush 10, 2), (115, .if_icmp .eq 11, 3), (118, .aload_n 0, 1), (119, .iload_n 3, 1), (120, .iconst 0, 1), (121, .iload_n 1, 1), (122, .invokevirtual 536, 3), (125, .return_, 1), (126, .aload_n 0, 1), (127, .aload_n 0, 1), (128, .getfield 36, 3), (131, .iload_n 3, 1), (132, .iaload, 1), (133, .iconst 0, 1), (134, .invokevirtual 517, 3), (137, .istore 5, 2), (139, .aload_n 0, 1), (140, .iconst 1, 1), (141, .iload 4, 2), (143, .iconst (-1), 1), (144, .if_icmp .ne 7, 3), (147, .iconst 0, 1), (148, .goto 10, 3), (151, .aload_n 0, 1), (152, .getfield 57, 3), (155, .iload 4, 2), (157, .iaload, 1), (158, .iload_n 1, 1), (159, .invokevirtual 523, 3), (162, .istore 6, 2), (164, .aload_n 0, 1), (165, .getfield 118, 3), (168, .iload 6, 2), (170, .iload 5, 2), (172, .iastore, 1), (173, .return_, 1)] = true := by decide +kernel
set_option maxRecDepth 100000 in
set_option maxHeartbeats 4000000 in
theorem sg_laySet_0 {G : mG} {d : Nat} {x : gd} {P : Option gv → gd → Prop} (l1 : Int32)
    (h : vp_in l1 3000 ∧ MT G d z_slotOf 0 [(0, vr 0), (1, vi (x.1 16 (l1 : Int32).toNatClampNeg))] [] x (ri (fun r3 x2 => vp_in l1 3000 ∧ ((r3 = (-1 : Int32) → vp_in l1 3000 ∧ MT G d z_cellOf 0 [(0, vr 0), (1, vi (x2.1 16 (l1 : Int32).toNatClampNeg)), (2, vi 0)] [] x2 (ri (fun r8 x7 => ((r8 = (-1 : Int32) → MT G (d + 1) z_laySet 107 [(0, vr 0), (1, vi l1), (3, vi (x2.1 17 (l1 : Int32).toNatClampNeg)), (4, vi r8)] [] x7 P) ∧ (¬ (r8 = (-1 : Int32)) → vp_in (x2.1 17 (l1 : Int32).toNatClampNeg) 3000 ∧ ((¬ ((x7.1 15 (x2.1 17 (l1 : Int32).toNatClampNeg : Int32).toNatClampNeg) = (10 : Int32)) → MT G (d + 1) z_laySet 87 [(0, vr 0), (1, vi l1), (3, vi (x2.1 17 (l1 : Int32).toNatClampNeg))] [] x7 P) ∧ ((x7.1 15 (x2.1 17 (l1 : Int32).toNatClampNeg : Int32).toNatClampNeg) = (10 : Int32) → MT G d z_isCellAlone 0 [(0, vr 0), (1, vi (x2.1 17 (l1 : Int32).toNatClampNeg))] [] x7 (ri (fun r13 x12 => ((r13 = (0 : Int32) → MT G (d + 1) z_laySet 107 [(0, vr 0), (1, vi l1), (3, vi (x2.1 17 (l1 : Int32).toNatClampNeg)), (4, vi r8)] [] x12 P) ∧ (¬ (r13 = (0 : Int32)) → vp_in (x2.1 17 (l1 : Int32).toNatClampNeg) 3000 ∧ vp_in (x12.1 16 (x2.1 17 (l1 : Int32).toNatClampNeg : Int32).toNatClampNeg) 3000 ∧ MT G d z_isCellName 0 [(0, vr 0), (1, vi (x12.1 19 (x12.1 16 (x2.1 17 (l1 : Int32).toNatClampNeg : Int32).toNatClampNeg : Int32).toNatClampNeg))] [] x12 (ri (fun r18 x17 => ((r18 = (0 : Int32) → MT G (d + 1) z_laySet 107 [(0, vr 0), (1, vi l1), (3, vi (x2.1 17 (l1 : Int32).toNatClampNeg)), (4, vi r8)] [] x17 P) ∧ (¬ (r18 = (0 : Int32)) → MT G (d + 1) z_laySet 87 [(0, vr 0), (1, vi l1), (3, vi (x2.1 17 (l1 : Int32).toNatClampNeg))] [] x17 P))))))))))))))) ∧ (¬ (r3 = (-1 : Int32)) → MT G d z_layR 0 [(0, vr 0), (1, vi (x2.1 17 (l1 : Int32).toNatClampNeg)), (2, vi r3), (3, vi l1)] [] x2 (rv (fun x20 => P none x20))))))) :
    MT G (d + 1) z_laySet 0 [(0, vr 0), (1, vi l1)] [] x P := by
  refine T_aload_n 0 (dk dt_laySet 0 rfl) rfl rfl ?_
  refine T_aload_n 0 (dk dt_laySet 1 rfl) rfl rfl ?_
  refine T_getR 0 15 16 (dk dt_laySet 2 rfl) fl_36 mk_0 ml_0 (by decide) rfl rfl ?_
  refine T_iload_n 1 (dk dt_laySet 3 rfl) rfl rfl ?_
  obtain ⟨h1, h⟩ := h
  refine T_iald 16 3000 (dk dt_laySet 4 rfl) mk_16 ml_16 h1 ?_
  refine MT_callVi [vi (x.1 16 (l1 : Int32).toNatClampNeg)] [] rfl (dk dt_laySet 5 rfl) cv_492 rfl rfl (Nat.le_of_ble_eq_true rfl) (Nat.le_of_ble_eq_true rfl) rfl rfl h (fun r3 x2 h => ?_)
  refine T_istore_n (lv2 := [(2, vi r3), (0, vr 0), (1, vi l1)]) (dk dt_laySet 6 rfl) rfl (by decide) rfl ?_
  refine T_aload_n 1 (dk dt_laySet 7 rfl) rfl rfl ?_
  refine T_getR 0 16 17 (dk dt_laySet 8 rfl) fl_39 mk_0 ml_0 (by decide) rfl rfl ?_
  refine T_iload_n 2 (dk dt_laySet 9 rfl) rfl rfl ?_
  obtain ⟨h4, h⟩ := h
  refine T_iald 17 3000 (dk dt_laySet 10 rfl) mk_17 ml_17 h4 ?_
  refine T_istore_n (lv2 := [(3, vi (x2.1 17 (l1 : Int32).toNatClampNeg)), (2, vi r3), (0, vr 0), (1, vi l1)]) (dk dt_laySet 11 rfl) rfl (by decide) rfl ?_
  refine T_iload_n 1 (dk dt_laySet 12 rfl) rfl rfl ?_
  refine T_iconst (v := (-1)) (dk dt_laySet 13 rfl) (by decide +kernel) ?_
  refine T_icmp_eq 31 (dk dt_laySet 14 rfl) (by decide) (fun c5 => ?_) (fun c5 => ?_)
  · have h := h.1 c5
    refine T_aload_n 2 (dk dt_laySet 21 rfl) rfl rfl ?_
    refine T_aload_n 2 (dk dt_laySet 22 rfl) rfl rfl ?_
    refine T_getR 0 15 16 (dk dt_laySet 23 rfl) fl_36 mk_0 ml_0 (by decide) rfl rfl ?_
    refine T_iload_n 3 (dk dt_laySet 24 rfl) rfl rfl ?_
    obtain ⟨h6, h⟩ := h
    refine T_iald 16 3000 (dk dt_laySet 25 rfl) mk_16 ml_16 h6 ?_
    refine T_iconst (v := 0) (dk dt_laySet 26 rfl) (by decide +kernel) ?_
    refine MT_callVi [vi (x2.1 16 (l1 : Int32).toNatClampNeg), vi 0] [] rfl (dk dt_laySet 27 rfl) cv_520 rfl rfl (Nat.le_of_ble_eq_true rfl) (Nat.le_of_ble_eq_true rfl) rfl rfl h (fun r8 x7 h => ?_)
    refine T_istore (lv2 := [(4, vi r8), (3, vi (x2.1 17 (l1 : Int32).toNatClampNeg)), (2, vi r3), (0, vr 0), (1, vi l1)]) (dk dt_laySet 28 rfl) (by decide) rfl ?_
    refine T_iload 0 (dk dt_laySet 29 rfl) rfl ?_
    refine T_iconst (v := (-1)) (dk dt_laySet 30 rfl) (by decide +kernel) ?_
    refine T_icmp_eq 107 (dk dt_laySet 31 rfl) (by decide) (fun c9 => ?_) (fun c9 => ?_)
    · have h := h.1 c9
      exact T_sub [3, 4, 1, 0] rfl h
    · have h := h.2 c9
      refine T_aload_n 3 (dk dt_laySet 32 rfl) rfl rfl ?_
      refine T_getR 0 14 15 (dk dt_laySet 33 rfl) fl_33 mk_0 ml_0 (by decide) rfl rfl ?_
      refine T_iload_n 1 (dk dt_laySet 34 rfl) rfl rfl ?_
      obtain ⟨h10, h⟩ := h
      refine T_iald 15 3000 (dk dt_laySet 35 rfl) mk_15 ml_15 h10 ?_
      refine T_bipush (v := 10) (dk dt_laySet 36 rfl) (by decide +kernel) ?_
      refine T_icmp_ne 87 (dk dt_laySet 37 rfl) (by decide) (fun c11 => ?_) (fun c11 => ?_)
      · have h := h.1 c11
        exact T_sub [3, 4, 1] rfl h
      · have h := h.2 c11
        refine T_aload_n 3 (dk dt_laySet 38 rfl) rfl rfl ?_
        refine T_iload_n 1 (dk dt_laySet 39 rfl) rfl rfl ?_
        refine MT_callVi [vi (x2.1 17 (l1 : Int32).toNatClampNeg)] [] rfl (dk dt_laySet 40 rfl) cv_514 rfl rfl (Nat.le_of_ble_eq_true rfl) (Nat.le_of_ble_eq_true rfl) rfl rfl h (fun r13 x12 h => ?_)
        refine T_if_eq 107 (dk dt_laySet 41 rfl) (by decide) (fun c14 => ?_) (fun c14 => ?_)
        · have h := h.1 c14
          exact T_sub [3, 4, 1, 0] rfl h
        · have h := h.2 c14
          refine T_aload_n 3 (dk dt_laySet 42 rfl) rfl rfl ?_
          refine T_aload_n 3 (dk dt_laySet 43 rfl) rfl rfl ?_
          refine T_getR 0 18 19 (dk dt_laySet 44 rfl) fl_45 mk_0 ml_0 (by decide) rfl rfl ?_
          refine T_aload_n 3 (dk dt_laySet 45 rfl) rfl rfl ?_
          refine T_getR 0 15 16 (dk dt_laySet 46 rfl) fl_36 mk_0 ml_0 (by decide) rfl rfl ?_
          refine T_iload_n 1 (dk dt_laySet 47 rfl) rfl rfl ?_
          obtain ⟨h15, h⟩ := h
          refine T_iald 16 3000 (dk dt_laySet 48 rfl) mk_16 ml_16 h15 ?_
          obtain ⟨h16, h⟩ := h
          refine T_iald 19 3000 (dk dt_laySet 49 rfl) mk_19 ml_19 h16 ?_
          refine MT_callVi [vi (x12.1 19 (x12.1 16 (x2.1 17 (l1 : Int32).toNatClampNeg : Int32).toNatClampNeg : Int32).toNatClampNeg)] [] rfl (dk dt_laySet 50 rfl) cv_552 rfl rfl (Nat.le_of_ble_eq_true rfl) (Nat.le_of_ble_eq_true rfl) rfl rfl h (fun r18 x17 h => ?_)
          refine T_if_eq 107 (dk dt_laySet 51 rfl) (by decide) (fun c19 => ?_) (fun c19 => ?_)
          · have h := h.1 c19
            exact T_sub [3, 4, 1, 0] rfl h
          · have h := h.2 c19
            exact T_sub [3, 4, 1] rfl h
  · have h := h.2 c5
    refine T_aload_n 2 (dk dt_laySet 15 rfl) rfl rfl ?_
    refine T_iload_n 0 (dk dt_laySet 16 rfl) rfl rfl ?_
    refine T_iload_n 1 (dk dt_laySet 17 rfl) rfl rfl ?_
    refine T_iload_n 3 (dk dt_laySet 18 rfl) rfl rfl ?_
    refine MT_callVv [vi (x2.1 17 (l1 : Int32).toNatClampNeg), vi r3, vi l1] [] rfl (dk dt_laySet 19 rfl) cv_536 rfl rfl (Nat.le_of_ble_eq_true rfl) (Nat.le_of_ble_eq_true rfl) rfl rfl h (fun x20 h => ?_)
    exact MT_vret (dk dt_laySet 20 rfl) rfl h
set_option maxRecDepth 100000 in
set_option maxHeartbeats 4000000 in
theorem sg_laySet_87 {G : mG} {d : Nat} {x : gd} {P : Option gv → gd → Prop} (l1 : Int32) (l3 : Int32)
    (h : vp_in l3 3000 ∧ MT G d z_wrongAt 0 [(0, vr 0), (1, vi 7), (2, vi (x.1 19 (l3 : Int32).toNatClampNeg))] [] x (rv (fun x2 => MT G d z_layR 0 [(0, vr 0), (1, vi l3), (2, vi 0), (3, vi l1)] [] x2 (rv (fun x3 => P none x3))))) :
    MT G (d + 1) z_laySet 87 [(0, vr 0), (1, vi l1), (3, vi l3)] [] x P := by
  refine T_aload_n 0 (dk dt_laySet 52 rfl) rfl rfl ?_
  refine T_bipush (v := 7) (dk dt_laySet 53 rfl) (by decide +kernel) ?_
  refine T_aload_n 0 (dk dt_laySet 54 rfl) rfl rfl ?_
  refine T_getR 0 18 19 (dk dt_laySet 55 rfl) fl_45 mk_0 ml_0 (by decide) rfl rfl ?_
  refine T_iload_n 2 (dk dt_laySet 56 rfl) rfl rfl ?_
  obtain ⟨h1, h⟩ := h
  refine T_iald 19 3000 (dk dt_laySet 57 rfl) mk_19 ml_19 h1 ?_
  refine MT_callVv [vi 7, vi (x.1 19 (l3 : Int32).toNatClampNeg)] [] rfl (dk dt_laySet 58 rfl) cv_495 rfl rfl (Nat.le_of_ble_eq_true rfl) (Nat.le_of_ble_eq_true rfl) rfl rfl h (fun x2 h => ?_)
  refine T_aload_n 0 (dk dt_laySet 59 rfl) rfl rfl ?_
  refine T_iload_n 2 (dk dt_laySet 60 rfl) rfl rfl ?_
  refine T_iconst (v := 0) (dk dt_laySet 61 rfl) (by decide +kernel) ?_
  refine T_iload_n 1 (dk dt_laySet 62 rfl) rfl rfl ?_
  refine MT_callVv [vi l3, vi 0, vi l1] [] rfl (dk dt_laySet 63 rfl) cv_536 rfl rfl (Nat.le_of_ble_eq_true rfl) (Nat.le_of_ble_eq_true rfl) rfl rfl h (fun x3 h => ?_)
  exact MT_vret (dk dt_laySet 64 rfl) rfl h
set_option maxRecDepth 100000 in
set_option maxHeartbeats 4000000 in
theorem sg_laySet_107 {G : mG} {d : Nat} {x : gd} {P : Option gv → gd → Prop} (l1 : Int32) (l3 : Int32) (l4 : Int32)
    (h : vp_in l3 3000 ∧ (((x.1 15 (l3 : Int32).toNatClampNeg) = (10 : Int32) → vp_in l3 3000 ∧ MT G d z_workOf 0 [(0, vr 0), (1, vi (x.1 16 (l3 : Int32).toNatClampNeg)), (2, vi 0)] [] x (ri (fun r5 x4 => ((¬ (l4 = (-1 : Int32)) → vp_in l4 40 ∧ MT G (d + 1) z_laySet 158 [(0, vr 0), (1, vi l1), (5, vi r5)] [vi (x4.1 32 (l4 : Int32).toNatClampNeg), vi 1, vr 0] x4 P) ∧ (l4 = (-1 : Int32) → MT G (d + 1) z_laySet 158 [(0, vr 0), (1, vi l1), (5, vi r5)] [vi 0, vi 1, vr 0] x4 P))))) ∧ (¬ ((x.1 15 (l3 : Int32).toNatClampNeg) = (10 : Int32)) → MT G d z_layR 0 [(0, vr 0), (1, vi l3), (2, vi 0), (3, vi l1)] [] x (rv (fun x8 => P none x8))))) :
    MT G (d + 1) z_laySet 107 [(0, vr 0), (1, vi l1), (3, vi l3), (4, vi l4)] [] x P := by
  refine T_aload_n 0 (dk dt_laySet 65 rfl) rfl rfl ?_
  refine T_getR 0 14 15 (dk dt_laySet 66 rfl) fl_33 mk_0 ml_0 (by decide) rfl rfl ?_
  refine T_iload_n 2 (dk dt_laySet 67 rfl) rfl rfl ?_
  obtain ⟨h1, h⟩ := h
  refine T_iald 15 3000 (dk dt_laySet 68 rfl) mk_15 ml_15 h1 ?_
  refine T_bipush (v := 10) (dk dt_laySet 69 rfl) (by decide +kernel) ?_
  refine T_icmp_eq 126 (dk dt_laySet 70 rfl) (by decide) (fun c2 => ?_) (fun c2 => ?_)
  · have h := h.1 c2
    refine T_aload_n 0 (dk dt_laySet 77 rfl) rfl rfl ?_
    refine T_aload_n 0 (dk dt_laySet 78 rfl) rfl rfl ?_
    refine T_getR 0 15 16 (dk dt_laySet 79 rfl) fl_36 mk_0 ml_0 (by decide) rfl rfl ?_
    refine T_iload_n 2 (dk dt_laySet 80 rfl) rfl rfl ?_
    obtain ⟨h3, h⟩ := h
    refine T_iald 16 3000 (dk dt_laySet 81 rfl) mk_16 ml_16 h3 ?_
    refine T_iconst (v := 0) (dk dt_laySet 82 rfl) (by decide +kernel) ?_
    refine MT_callVi [vi (x.1 16 (l3 : Int32).toNatClampNeg), vi 0] [] rfl (dk dt_laySet 83 rfl) cv_517 rfl rfl (Nat.le_of_ble_eq_true rfl) (Nat.le_of_ble_eq_true rfl) rfl rfl h (fun r5 x4 h => ?_)
    refine T_istore (lv2 := [(5, vi r5), (0, vr 0), (1, vi l1), (3, vi l3), (4, vi l4)]) (dk dt_laySet 84 rfl) (by decide) rfl ?_
    refine T_aload_n 1 (dk dt_laySet 85 rfl) rfl rfl ?_
    refine T_iconst (v := 1) (dk dt_laySet 86 rfl) (by decide +kernel) ?_
    refine T_iload 4 (dk dt_laySet 87 rfl) rfl ?_
    refine T_iconst (v := (-1)) (dk dt_laySet 88 rfl) (by decide +kernel) ?_
    refine T_icmp_ne 151 (dk dt_laySet 89 rfl) (by decide) (fun c6 => ?_) (fun c6 => ?_)
    · have h := h.1 c6
      refine T_aload_n 1 (dk dt_laySet 92 rfl) rfl rfl ?_
      refine T_getR 0 31 32 (dk dt_laySet 93 rfl) fl_57 mk_0 ml_0 (by decide) rfl rfl ?_
      refine T_iload 4 (dk dt_laySet 94 rfl) rfl ?_
      obtain ⟨h7, h⟩ := h
      refine T_iald 32 40 (dk dt_laySet 95 rfl) mk_32 ml_32 h7 ?_
      exact T_sub [1, 2, 0] rfl h
    · have h := h.2 c6
      refine T_iconst (v := 0) (dk dt_laySet 90 rfl) (by decide +kernel) ?_
      refine T_goto 158 (dk dt_laySet 91 rfl) (by decide) ?_
      exact T_sub [1, 2, 0] rfl h
  · have h := h.2 c2
    refine T_aload_n 0 (dk dt_laySet 71 rfl) rfl rfl ?_
    refine T_iload_n 2 (dk dt_laySet 72 rfl) rfl rfl ?_
    refine T_iconst (v := 0) (dk dt_laySet 73 rfl) (by decide +kernel) ?_
    refine T_iload_n 1 (dk dt_laySet 74 rfl) rfl rfl ?_
    refine MT_callVv [vi l3, vi 0, vi l1] [] rfl (dk dt_laySet 75 rfl) cv_536 rfl rfl (Nat.le_of_ble_eq_true rfl) (Nat.le_of_ble_eq_true rfl) rfl rfl h (fun x8 h => ?_)
    exact MT_vret (dk dt_laySet 76 rfl) rfl h
set_option maxRecDepth 100000 in
set_option maxHeartbeats 4000000 in
theorem sg_laySet_158 {G : mG} {d : Nat} {x : gd} {P : Option gv → gd → Prop} (l1 : Int32) (l5 : Int32) (s0 : Int32) (s1 : Int32)
    (h : MT G d z_layAct 0 [(0, vr 0), (1, vi s1), (2, vi s0), (3, vi l1)] [] x (ri (fun r2 x1 => vp_in r2 1500 ∧ (∀ x4 : gd, x4 = si x1 59 (r2 : Int32).toNatClampNeg l5 → P none x4)))) :
    MT G (d + 1) z_laySet 158 [(0, vr 0), (1, vi l1), (5, vi l5)] [vi s0, vi s1, vr 0] x P := by
  refine T_iload_n 1 (dk dt_laySet 96 rfl) rfl rfl ?_
  refine MT_callVi [vi s1, vi s0, vi l1] [] rfl (dk dt_laySet 97 rfl) cv_523 rfl rfl (Nat.le_of_ble_eq_true rfl) (Nat.le_of_ble_eq_true rfl) rfl rfl h (fun r2 x1 h => ?_)
  refine T_istore (lv2 := [(6, vi r2), (0, vr 0), (1, vi l1), (5, vi l5)]) (dk dt_laySet 98 rfl) (by decide) rfl ?_
  refine T_aload_n 1 (dk dt_laySet 99 rfl) rfl rfl ?_
  refine T_getR 0 58 59 (dk dt_laySet 100 rfl) fl_118 mk_0 ml_0 (by decide) rfl rfl ?_
  refine T_iload 0 (dk dt_laySet 101 rfl) rfl ?_
  refine T_iload 3 (dk dt_laySet 102 rfl) rfl ?_
  obtain ⟨h3, h⟩ := h
  obtain ⟨x4, ex4⟩ : ∃ z, z = si x1 59 (r2 : Int32).toNatClampNeg l5 := ⟨_, rfl⟩
  have h := h x4 ex4
  refine T_iast 59 1500 (dk dt_laySet 103 rfl) mk_59 ml_59 h3 ?_
  rw [← ex4]
  exact MT_vret (dk dt_laySet 104 rfl) rfl h
set_option maxRecDepth 100000 in
theorem dt_isCellName : dck cX12_isCellName [(0, .aload_n 0, 1), (1, .iload_n 1, 1), (2, .iconst 0, 1), (3, .invokevirtual 489, 3), (6, .istore_n 2, 1), (7, .iload_n 2, 1), (8, .iconst (-1), 1), (9, .if_icmp .eq 16, 3), (12, .aload_n 0, 1), (13, .getfield 63, 3), (16, .iload_n 2, 1), (17, .baload, 1), (18, .ifCond .ne 7, 3), (21, .iconst 1, 1), (22, .goto 4, 3), (25, .iconst 0, 1), (26, .ireturn, 1)] = true := by decide +kernel
set_option maxRecDepth 100000 in
set_option maxHeartbeats 4000000 in
theorem sg_isCellName_0 {G : mG} {d : Nat} {x : gd} {P : Option gv → gd → Prop} (l1 : Int32)
    (h : MT G d z_meant 0 [(0, vr 0), (1, vi l1), (2, vi 0)] [] x (ri (fun r2 x1 => ((r2 = (-1 : Int32) → P (some (vi 0)) x1) ∧ (¬ (r2 = (-1 : Int32)) → vp_in r2 40 ∧ ((¬ ((x1.1 34 (r2 : Int32).toNatClampNeg) = (0 : Int32)) → P (some (vi 0)) x1) ∧ ((x1.1 34 (r2 : Int32).toNatClampNeg) = (0 : Int32) → P (some (vi 1)) x1))))))) :
    MT G (d + 1) z_isCellName 0 [(0, vr 0), (1, vi l1)] [] x P := by
  refine T_aload_n 0 (dk dt_isCellName 0 rfl) rfl rfl ?_
  refine T_iload_n 1 (dk dt_isCellName 1 rfl) rfl rfl ?_
  refine T_iconst (v := 0) (dk dt_isCellName 2 rfl) (by decide +kernel) ?_
  refine MT_callVi [vi l1, vi 0] [] rfl (dk dt_isCellName 3 rfl) cv_489 rfl rfl (Nat.le_of_ble_eq_true rfl) (Nat.le_of_ble_eq_true rfl) rfl rfl h (fun r2 x1 h => ?_)
  refine T_istore_n (lv2 := [(2, vi r2), (0, vr 0), (1, vi l1)]) (dk dt_isCellName 4 rfl) rfl (by decide) rfl ?_
  refine T_iload_n 0 (dk dt_isCellName 5 rfl) rfl rfl ?_
  refine T_iconst (v := (-1)) (dk dt_isCellName 6 rfl) (by decide +kernel) ?_
  refine T_icmp_eq 25 (dk dt_isCellName 7 rfl) (by decide) (fun c3 => ?_) (fun c3 => ?_)
  · have h := h.1 c3
    refine T_iconst (v := 0) (dk dt_isCellName 15 rfl) (by decide +kernel) ?_
    exact MT_iret (dk dt_isCellName 16 rfl) rfl rfl h
  · have h := h.2 c3
    refine T_aload_n 1 (dk dt_isCellName 8 rfl) rfl rfl ?_
    refine T_getR 0 33 34 (dk dt_isCellName 9 rfl) fl_63 mk_0 ml_0 (by decide) rfl rfl ?_
    refine T_iload_n 0 (dk dt_isCellName 10 rfl) rfl rfl ?_
    obtain ⟨h4, h⟩ := h
    refine T_zald 34 40 (dk dt_isCellName 11 rfl) mk_34 ml_34 h4 ?_
    refine T_if_ne 25 (dk dt_isCellName 12 rfl) (by decide) (fun c5 => ?_) (fun c5 => ?_)
    · have h := h.1 c5
      refine T_iconst (v := 0) (dk dt_isCellName 15 rfl) (by decide +kernel) ?_
      exact MT_iret (dk dt_isCellName 16 rfl) rfl rfl h
    · have h := h.2 c5
      refine T_iconst (v := 1) (dk dt_isCellName 13 rfl) (by decide +kernel) ?_
      refine T_goto 26 (dk dt_isCellName 14 rfl) (by decide) ?_
      exact MT_iret (dk dt_isCellName 16 rfl) rfl rfl h
set_option maxRecDepth 100000 in
theorem dt_judge : dck cX12_judge [(0, .aload_n 0, 1), (1, .iconst 0, 1), (2, .putfield 470, 3), (5, .aload_n 0, 1), (6, .iconst 0, 1), (7, .putfield 483, 3), (10, .aload_n 0, 1), (11, .iconst 0, 1), (12, .putfield 502, 3), (15, .iconst 0, 1), (16, .istore_n 1, 1), (17, .iload_n 1, 1), (18, .aload_n 0, 1), (19, .getfield 445, 3), (22, .if_icmp .ge 75, 3), (25, .aload_n 0, 1), (26, .aload_n 0, 1), (27, .getfield 51, 3), (30, .iload_n 1, 1), (31, .iaload, 1), (32, .invokevirtual 555, 3), (35, .iload_n 1, 1), (36, .if_icmp .eq 14, 3), (39, .aload_n 0, 1), (40, .iconst 4, 1), (41, .aload_n 0, 1), (42, .getfield 51, 3), (45, .iload_n 1, 1), (46, .iaload, 1), (47, .invokevirtual 495, 3), (50, .aload_n 0, 1), (51, .getfield 63, 3), (54, .iload_n 1, 1), (55, .baload, 1), (56, .ifCond .eq 35, 3), (59, .aload_n 0, 1), (60, .getfield 20, 3), (63, .aload_n 0, 1), (64, .getfield 67, 3), (67, .iload_n 1, 1), (68, .iaload, 1), (69, .iaload, 1), (70, .iconst 1, 1), (71, .bipush 8, 2), (73, .invokestatic 322, 3), (76, .ifCond .ne 15, 3), (79, .aload_n 0, 1), (80, .bipush 6, 2), (82, .aload_n 0, 1), (83, .getfield 67, 3), (86, .iload_n 1, 1), (87, .iaload, 1), (88, .invokevirtual 495, 3), (91, .iinc 1 1, 3), (94, .goto (-77), 3), (97, .iconst 0, 1), (98, .istore_n 1, 1), (99, .iload_n 1, 1), (100, .aload_n 0, 1), (101, .getfield 461, 3), (104, .if_icmp .ge 46, 3), (107, .aload_n 0, 1), (108, .iconst 0, 1), (109, .putfield 480, 3), (112, .aload_n 0, 1), (113, .iconst 0, 1), (114, .putfield 533, 3), (117, .aload_n 0, 1), (118, .getfield 133, 3), (121, .iload_n 1, 1), (122, .aload_n 0, 1), (123, .getfield 502, 3), (126, .iastore, 1), (127, .aload_n 0, 1), (128, .aload_n 0, 1), (129, .getfield 79, 3), (132, .iload_n 1, 1), (133, .iaload, 1), (134, .invokevirtual 543, 3), (137, .aload_n 0, 1), (138, .iconst 5, 1), (139, .iconst (-1), 1), (140, .invokevirtual 511, 3), (143, .istore_n 2, 1), (144, .iinc 1 1, 3), (147, .goto (-48), 3), (150, .iconst 0, 1), (151, .istore_n 1, 1), (152, .iload_n 1, 1), (153, .aload_n 0, 1), (154, .getfield 464, 3), (157, .if_icmp .ge 26, 3), (160, .aload_n 0, 1), (161, .getfield 136, 3), (164, .iload_n 1, 1), (165, .aload_n 0, 1), (166, .aload_n 0, 1), (167, .getfield 82, 3), (170, .iload_n 1, 1), (171, .iaload, 1), (172, .iconst 1, 1), (173, .invokevirtual 517, 3), (176, .iastore, 1), (177, .iinc 1 1, 3), (180, .goto (-28), 3), (183, .iconst 0, 1), (184, .istore_n 1, 1), (185, .iload_n 1, 1), (186, .aload_n 0, 1), (187, .getfield 467, 3), (190, .if_icmp .ge 26, 3), (193, .aload_n 0, 1), (194, .getfield 139, 3), (197, .iload_n 1, 1), (198, .aload_n 0, 1), (199, .aload_n 0, 1), (200, .getfield 85, 3), (203, .iload_n 1, 1), (204, .iaload, 1), (205, .iconst 1, 1), (206, .invokevirtual 517, 3), (209, .iastore, 1), (210, .iinc 1 1, 3), (213, .goto (-28), 3), (216, .return_, 1)] = true := by decide +kernel
set_option maxRecDepth 100000 in
set_option maxHeartbeats 4000000 in
theorem sg_judge_0 {G : mG} {d : Nat} {x : gd} {P : Option gv → gd → Prop} 
    (h : (∀ x1 : gd, x1 = si x 0 41 0 → (∀ x2 : gd, x2 = si x1 0 49 0 → (∀ x3 : gd, x3 = si x2 0 52 0 → MT G (d + 1) z_judge 17 [(0, vr 0), (1, vi 0)] [] x3 P)))) :
    MT G (d + 1) z_judge 0 [(0, vr 0)] [] x P := by
  refine T_aload_n 0 (dk dt_judge 0 rfl) rfl rfl ?_
  refine T_iconst (v := 0) (dk dt_judge 1 rfl) (by decide +kernel) ?_
  obtain ⟨x1, ex1⟩ : ∃ z, z = si x 0 41 0 := ⟨_, rfl⟩
  have h := h x1 ex1
  refine T_putI 0 41 (dk dt_judge 2 rfl) fl_470 mk_0 ml_0 (by decide) rfl ⟨rfl, rfl⟩ ?_
  rw [← ex1]
  refine T_aload_n 0 (dk dt_judge 3 rfl) rfl rfl ?_
  refine T_iconst (v := 0) (dk dt_judge 4 rfl) (by decide +kernel) ?_
  obtain ⟨x2, ex2⟩ : ∃ z, z = si x1 0 49 0 := ⟨_, rfl⟩
  have h := h x2 ex2
  refine T_putI 0 49 (dk dt_judge 5 rfl) fl_483 mk_0 ml_0 (by decide) rfl ⟨rfl, rfl⟩ ?_
  rw [← ex2]
  refine T_aload_n 0 (dk dt_judge 6 rfl) rfl rfl ?_
  refine T_iconst (v := 0) (dk dt_judge 7 rfl) (by decide +kernel) ?_
  obtain ⟨x3, ex3⟩ : ∃ z, z = si x2 0 52 0 := ⟨_, rfl⟩
  have h := h x3 ex3
  refine T_putI 0 52 (dk dt_judge 8 rfl) fl_502 mk_0 ml_0 (by decide) rfl ⟨rfl, rfl⟩ ?_
  rw [← ex3]
  refine T_iconst (v := 0) (dk dt_judge 9 rfl) (by decide +kernel) ?_
  refine T_istore_n (lv2 := [(1, vi 0), (0, vr 0)]) (dk dt_judge 10 rfl) rfl (by decide) rfl ?_
  exact T_sub [1, 0] rfl h
set_option maxRecDepth 100000 in
set_option maxHeartbeats 4000000 in
theorem sg_judge_17 {G : mG} {d : Nat} {x : gd} {P : Option gv → gd → Prop} (l1 : Int32)
    (h : (((x.1 0 28) ≤ l1 → MT G (d + 1) z_judge 99 [(0, vr 0), (1, vi 0)] [] x P) ∧ (¬ ((x.1 0 28) ≤ l1) → vp_in l1 40 ∧ MT G d z_toldOf 0 [(0, vr 0), (1, vi (x.1 30 (l1 : Int32).toNatClampNeg))] [] x (ri (fun r4 x3 => ((r4 = l1 → MT G (d + 1) z_judge 50 [(0, vr 0), (1, vi l1)] [] x3 P) ∧ (¬ (r4 = l1) → vp_in l1 40 ∧ MT G d z_wrongAt 0 [(0, vr 0), (1, vi 4), (2, vi (x3.1 30 (l1 : Int32).toNatClampNeg))] [] x3 (rv (fun x7 => MT G (d + 1) z_judge 50 [(0, vr 0), (1, vi l1)] [] x7 P))))))))) :
    MT G (d + 1) z_judge 17 [(0, vr 0), (1, vi l1)] [] x P := by
  refine T_iload_n 1 (dk dt_judge 11 rfl) rfl rfl ?_
  refine T_aload_n 0 (dk dt_judge 12 rfl) rfl rfl ?_
  refine T_getI 0 28 (dk dt_judge 13 rfl) fl_445 mk_0 ml_0 (by decide) rfl ?_
  refine T_icmp_ge 97 (dk dt_judge 14 rfl) (by decide) (fun c1 => ?_) (fun c1 => ?_)
  · have h := h.1 c1
    refine T_iconst (v := 0) (dk dt_judge 55 rfl) (by decide +kernel) ?_
    refine T_istore_n (lv2 := [(1, vi 0), (0, vr 0)]) (dk dt_judge 56 rfl) rfl (by decide) rfl ?_
    exact T_sub [1, 0] rfl h
  · have h := h.2 c1
    refine T_aload_n 0 (dk dt_judge 15 rfl) rfl rfl ?_
    refine T_aload_n 0 (dk dt_judge 16 rfl) rfl rfl ?_
    refine T_getR 0 29 30 (dk dt_judge 17 rfl) fl_51 mk_0 ml_0 (by decide) rfl rfl ?_
    refine T_iload_n 1 (dk dt_judge 18 rfl) rfl rfl ?_
    obtain ⟨h2, h⟩ := h
    refine T_iald 30 40 (dk dt_judge 19 rfl) mk_30 ml_30 h2 ?_
    refine MT_callVi [vi (x.1 30 (l1 : Int32).toNatClampNeg)] [] rfl (dk dt_judge 20 rfl) cv_555 rfl rfl (Nat.le_of_ble_eq_true rfl) (Nat.le_of_ble_eq_true rfl) rfl rfl h (fun r4 x3 h => ?_)
    refine T_iload_n 1 (dk dt_judge 21 rfl) rfl rfl ?_
    refine T_icmp_eq 50 (dk dt_judge 22 rfl) (by decide) (fun c5 => ?_) (fun c5 => ?_)
    · have h := h.1 c5
      exact h
    · have h := h.2 c5
      refine T_aload_n 0 (dk dt_judge 23 rfl) rfl rfl ?_
      refine T_iconst (v := 4) (dk dt_judge 24 rfl) (by decide +kernel) ?_
      refine T_aload_n 0 (dk dt_judge 25 rfl) rfl rfl ?_
      refine T_getR 0 29 30 (dk dt_judge 26 rfl) fl_51 mk_0 ml_0 (by decide) rfl rfl ?_
      refine T_iload_n 1 (dk dt_judge 27 rfl) rfl rfl ?_
      obtain ⟨h6, h⟩ := h
      refine T_iald 30 40 (dk dt_judge 28 rfl) mk_30 ml_30 h6 ?_
      refine MT_callVv [vi 4, vi (x3.1 30 (l1 : Int32).toNatClampNeg)] [] rfl (dk dt_judge 29 rfl) cv_495 rfl rfl (Nat.le_of_ble_eq_true rfl) (Nat.le_of_ble_eq_true rfl) rfl rfl h (fun x7 h => ?_)
      exact h
set_option maxRecDepth 100000 in
set_option maxHeartbeats 4000000 in
theorem sg_judge_50 {G : mG} {d : Nat} {x : gd} {P : Option gv → gd → Prop} (l1 : Int32)
    (h : vp_in l1 40 ∧ (((x.1 34 (l1 : Int32).toNatClampNeg) = (0 : Int32) → MT G (d + 1) z_judge 17 [(0, vr 0), (1, vi (l1 + 1))] [] x P) ∧ (¬ ((x.1 34 (l1 : Int32).toNatClampNeg) = (0 : Int32)) → vp_in l1 40 ∧ vp_in (x.1 35 (l1 : Int32).toNatClampNeg) 710 ∧ MT G d z_in 0 [(0, vi (x.1 7 (x.1 35 (l1 : Int32).toNatClampNeg : Int32).toNatClampNeg)), (1, vi 1), (2, vi 8)] [] x (ri (fun r6 x5 => ((¬ (r6 = (0 : Int32)) → MT G (d + 1) z_judge 17 [(0, vr 0), (1, vi (l1 + 1))] [] x5 P) ∧ (r6 = (0 : Int32) → vp_in l1 40 ∧ MT G d z_wrongAt 0 [(0, vr 0), (1, vi 6), (2, vi (x5.1 35 (l1 : Int32).toNatClampNeg))] [] x5 (rv (fun x9 => MT G (d + 1) z_judge 17 [(0, vr 0), (1, vi (l1 + 1))] [] x9 P))))))))) :
    MT G (d + 1) z_judge 50 [(0, vr 0), (1, vi l1)] [] x P := by
  refine T_aload_n 0 (dk dt_judge 30 rfl) rfl rfl ?_
  refine T_getR 0 33 34 (dk dt_judge 31 rfl) fl_63 mk_0 ml_0 (by decide) rfl rfl ?_
  refine T_iload_n 1 (dk dt_judge 32 rfl) rfl rfl ?_
  obtain ⟨h1, h⟩ := h
  refine T_zald 34 40 (dk dt_judge 33 rfl) mk_34 ml_34 h1 ?_
  refine T_if_eq 91 (dk dt_judge 34 rfl) (by decide) (fun c2 => ?_) (fun c2 => ?_)
  · have h := h.1 c2
    refine T_iinc (v := l1 + 1) (lv2 := [(1, vi (l1 + 1)), (0, vr 0)]) 1 (dk dt_judge 53 rfl) rfl rfl (by decide) rfl ?_
    refine T_goto 17 (dk dt_judge 54 rfl) (by decide) ?_
    exact T_sub [1, 0] rfl h
  · have h := h.2 c2
    refine T_aload_n 0 (dk dt_judge 35 rfl) rfl rfl ?_
    refine T_getR 0 6 7 (dk dt_judge 36 rfl) fl_20 mk_0 ml_0 (by decide) rfl rfl ?_
    refine T_aload_n 0 (dk dt_judge 37 rfl) rfl rfl ?_
    refine T_getR 0 34 35 (dk dt_judge 38 rfl) fl_67 mk_0 ml_0 (by decide) rfl rfl ?_
    refine T_iload_n 1 (dk dt_judge 39 rfl) rfl rfl ?_
    obtain ⟨h3, h⟩ := h
    refine T_iald 35 40 (dk dt_judge 40 rfl) mk_35 ml_35 h3 ?_
    obtain ⟨h4, h⟩ := h
    refine T_iald 7 710 (dk dt_judge 41 rfl) mk_7 ml_7 h4 ?_
    refine T_iconst (v := 1) (dk dt_judge 42 rfl) (by decide +kernel) ?_
    refine T_bipush (v := 8) (dk dt_judge 43 rfl) (by decide +kernel) ?_
    refine MT_callSi [vi (x.1 7 (x.1 35 (l1 : Int32).toNatClampNeg : Int32).toNatClampNeg), vi 1, vi 8] [] rfl (dk dt_judge 44 rfl) cs_322 rfl (Nat.le_of_ble_eq_true rfl) (Nat.le_of_ble_eq_true rfl) rfl rfl h (fun r6 x5 h => ?_)
    refine T_if_ne 91 (dk dt_judge 45 rfl) (by decide) (fun c7 => ?_) (fun c7 => ?_)
    · have h := h.1 c7
      refine T_iinc (v := l1 + 1) (lv2 := [(1, vi (l1 + 1)), (0, vr 0)]) 1 (dk dt_judge 53 rfl) rfl rfl (by decide) rfl ?_
      refine T_goto 17 (dk dt_judge 54 rfl) (by decide) ?_
      exact T_sub [1, 0] rfl h
    · have h := h.2 c7
      refine T_aload_n 0 (dk dt_judge 46 rfl) rfl rfl ?_
      refine T_bipush (v := 6) (dk dt_judge 47 rfl) (by decide +kernel) ?_
      refine T_aload_n 0 (dk dt_judge 48 rfl) rfl rfl ?_
      refine T_getR 0 34 35 (dk dt_judge 49 rfl) fl_67 mk_0 ml_0 (by decide) rfl rfl ?_
      refine T_iload_n 1 (dk dt_judge 50 rfl) rfl rfl ?_
      obtain ⟨h8, h⟩ := h
      refine T_iald 35 40 (dk dt_judge 51 rfl) mk_35 ml_35 h8 ?_
      refine MT_callVv [vi 6, vi (x5.1 35 (l1 : Int32).toNatClampNeg)] [] rfl (dk dt_judge 52 rfl) cv_495 rfl rfl (Nat.le_of_ble_eq_true rfl) (Nat.le_of_ble_eq_true rfl) rfl rfl h (fun x9 h => ?_)
      refine T_iinc (v := l1 + 1) (lv2 := [(1, vi (l1 + 1)), (0, vr 0)]) 1 (dk dt_judge 53 rfl) rfl rfl (by decide) rfl ?_
      refine T_goto 17 (dk dt_judge 54 rfl) (by decide) ?_
      exact T_sub [1, 0] rfl h
set_option maxRecDepth 100000 in
set_option maxHeartbeats 4000000 in
theorem sg_judge_99 {G : mG} {d : Nat} {x : gd} {P : Option gv → gd → Prop} (l1 : Int32)
    (h : (((x.1 0 25) ≤ l1 → MT G (d + 1) z_judge 152 [(0, vr 0), (1, vi 0)] [] x P) ∧ (¬ ((x.1 0 25) ≤ l1) → (∀ x2 : gd, x2 = si x 0 43 0 → (∀ x3 : gd, x3 = si x2 0 48 0 → vp_in l1 6 ∧ (∀ x5 : gd, x5 = si x3 64 (l1 : Int32).toNatClampNeg (x3.1 0 52) → vp_in l1 6 ∧ MT G d z_layBlock 0 [(0, vr 0), (1, vi (x5.1 39 (l1 : Int32).toNatClampNeg))] [] x5 (rv (fun x7 => MT G d z_layStep 0 [(0, vr 0), (1, vi 5), (2, vi (-1))] [] x7 (ri (fun r9 x8 => MT G (d + 1) z_judge 99 [(0, vr 0), (1, vi (l1 + 1))] [] x8 P)))))))))) :
    MT G (d + 1) z_judge 99 [(0, vr 0), (1, vi l1)] [] x P := by
  refine T_iload_n 1 (dk dt_judge 57 rfl) rfl rfl ?_
  refine T_aload_n 0 (dk dt_judge 58 rfl) rfl rfl ?_
  refine T_getI 0 25 (dk dt_judge 59 rfl) fl_461 mk_0 ml_0 (by decide) rfl ?_
  refine T_icmp_ge 150 (dk dt_judge 60 rfl) (by decide) (fun c1 => ?_) (fun c1 => ?_)
  · have h := h.1 c1
    refine T_iconst (v := 0) (dk dt_judge 86 rfl) (by decide +kernel) ?_
    refine T_istore_n (lv2 := [(1, vi 0), (0, vr 0)]) (dk dt_judge 87 rfl) rfl (by decide) rfl ?_
    exact T_sub [1, 0] rfl h
  · have h := h.2 c1
    refine T_aload_n 0 (dk dt_judge 61 rfl) rfl rfl ?_
    refine T_iconst (v := 0) (dk dt_judge 62 rfl) (by decide +kernel) ?_
    obtain ⟨x2, ex2⟩ : ∃ z, z = si x 0 43 0 := ⟨_, rfl⟩
    have h := h x2 ex2
    refine T_putI 0 43 (dk dt_judge 63 rfl) fl_480 mk_0 ml_0 (by decide) rfl ⟨rfl, rfl⟩ ?_
    rw [← ex2]
    refine T_aload_n 0 (dk dt_judge 64 rfl) rfl rfl ?_
    refine T_iconst (v := 0) (dk dt_judge 65 rfl) (by decide +kernel) ?_
    obtain ⟨x3, ex3⟩ : ∃ z, z = si x2 0 48 0 := ⟨_, rfl⟩
    have h := h x3 ex3
    refine T_putI 0 48 (dk dt_judge 66 rfl) fl_533 mk_0 ml_0 (by decide) rfl ⟨rfl, rfl⟩ ?_
    rw [← ex3]
    refine T_aload_n 0 (dk dt_judge 67 rfl) rfl rfl ?_
    refine T_getR 0 63 64 (dk dt_judge 68 rfl) fl_133 mk_0 ml_0 (by decide) rfl rfl ?_
    refine T_iload_n 1 (dk dt_judge 69 rfl) rfl rfl ?_
    refine T_aload_n 0 (dk dt_judge 70 rfl) rfl rfl ?_
    refine T_getI 0 52 (dk dt_judge 71 rfl) fl_502 mk_0 ml_0 (by decide) rfl ?_
    obtain ⟨h4, h⟩ := h
    obtain ⟨x5, ex5⟩ : ∃ z, z = si x3 64 (l1 : Int32).toNatClampNeg (x3.1 0 52) := ⟨_, rfl⟩
    have h := h x5 ex5
    refine T_iast 64 6 (dk dt_judge 72 rfl) mk_64 ml_64 h4 ?_
    rw [← ex5]
    refine T_aload_n 0 (dk dt_judge 73 rfl) rfl rfl ?_
    refine T_aload_n 0 (dk dt_judge 74 rfl) rfl rfl ?_
    refine T_getR 0 38 39 (dk dt_judge 75 rfl) fl_79 mk_0 ml_0 (by decide) rfl rfl ?_
    refine T_iload_n 1 (dk dt_judge 76 rfl) rfl rfl ?_
    obtain ⟨h6, h⟩ := h
    refine T_iald 39 6 (dk dt_judge 77 rfl) mk_39 ml_39 h6 ?_
    refine MT_callVv [vi (x5.1 39 (l1 : Int32).toNatClampNeg)] [] rfl (dk dt_judge 78 rfl) cv_543 rfl rfl (Nat.le_of_ble_eq_true rfl) (Nat.le_of_ble_eq_true rfl) rfl rfl h (fun x7 h => ?_)
    refine T_aload_n 0 (dk dt_judge 79 rfl) rfl rfl ?_
    refine T_iconst (v := 5) (dk dt_judge 80 rfl) (by decide +kernel) ?_
    refine T_iconst (v := (-1)) (dk dt_judge 81 rfl) (by decide +kernel) ?_
    refine MT_callVi [vi 5, vi (-1)] [] rfl (dk dt_judge 82 rfl) cv_511 rfl rfl (Nat.le_of_ble_eq_true rfl) (Nat.le_of_ble_eq_true rfl) rfl rfl h (fun r9 x8 h => ?_)
    refine T_istore_n (lv2 := [(2, vi r9), (0, vr 0), (1, vi l1)]) (dk dt_judge 83 rfl) rfl (by decide) rfl ?_
    refine T_iinc (v := l1 + 1) (lv2 := [(1, vi (l1 + 1)), (2, vi r9), (0, vr 0)]) 2 (dk dt_judge 84 rfl) rfl rfl (by decide) rfl ?_
    refine T_goto 99 (dk dt_judge 85 rfl) (by decide) ?_
    exact T_sub [2, 0] rfl h
set_option maxRecDepth 100000 in
set_option maxHeartbeats 4000000 in
theorem sg_judge_152 {G : mG} {d : Nat} {x : gd} {P : Option gv → gd → Prop} (l1 : Int32)
    (h : (((x.1 0 26) ≤ l1 → MT G (d + 1) z_judge 185 [(0, vr 0), (1, vi 0)] [] x P) ∧ (¬ ((x.1 0 26) ≤ l1) → vp_in l1 4 ∧ MT G d z_workOf 0 [(0, vr 0), (1, vi (x.1 40 (l1 : Int32).toNatClampNeg)), (2, vi 1)] [] x (ri (fun r4 x3 => vp_in l1 4 ∧ (∀ x6 : gd, x6 = si x3 65 (l1 : Int32).toNatClampNeg r4 → MT G (d + 1) z_judge 152 [(0, vr 0), (1, vi (l1 + 1))] [] x6 P)))))) :
    MT G (d + 1) z_judge 152 [(0, vr 0), (1, vi l1)] [] x P := by
  refine T_iload_n 1 (dk dt_judge 88 rfl) rfl rfl ?_
  refine T_aload_n 0 (dk dt_judge 89 rfl) rfl rfl ?_
  refine T_getI 0 26 (dk dt_judge 90 rfl) fl_464 mk_0 ml_0 (by decide) rfl ?_
  refine T_icmp_ge 183 (dk dt_judge 91 rfl) (by decide) (fun c1 => ?_) (fun c1 => ?_)
  · have h := h.1 c1
    refine T_iconst (v := 0) (dk dt_judge 105 rfl) (by decide +kernel) ?_
    refine T_istore_n (lv2 := [(1, vi 0), (0, vr 0)]) (dk dt_judge 106 rfl) rfl (by decide) rfl ?_
    exact T_sub [1, 0] rfl h
  · have h := h.2 c1
    refine T_aload_n 0 (dk dt_judge 92 rfl) rfl rfl ?_
    refine T_getR 0 64 65 (dk dt_judge 93 rfl) fl_136 mk_0 ml_0 (by decide) rfl rfl ?_
    refine T_iload_n 1 (dk dt_judge 94 rfl) rfl rfl ?_
    refine T_aload_n 0 (dk dt_judge 95 rfl) rfl rfl ?_
    refine T_aload_n 0 (dk dt_judge 96 rfl) rfl rfl ?_
    refine T_getR 0 39 40 (dk dt_judge 97 rfl) fl_82 mk_0 ml_0 (by decide) rfl rfl ?_
    refine T_iload_n 1 (dk dt_judge 98 rfl) rfl rfl ?_
    obtain ⟨h2, h⟩ := h
    refine T_iald 40 4 (dk dt_judge 99 rfl) mk_40 ml_40 h2 ?_
    refine T_iconst (v := 1) (dk dt_judge 100 rfl) (by decide +kernel) ?_
    refine MT_callVi [vi (x.1 40 (l1 : Int32).toNatClampNeg), vi 1] [vi l1, vr 65] rfl (dk dt_judge 101 rfl) cv_517 rfl rfl (Nat.le_of_ble_eq_true rfl) (Nat.le_of_ble_eq_true rfl) rfl rfl h (fun r4 x3 h => ?_)
    obtain ⟨h5, h⟩ := h
    obtain ⟨x6, ex6⟩ : ∃ z, z = si x3 65 (l1 : Int32).toNatClampNeg r4 := ⟨_, rfl⟩
    have h := h x6 ex6
    refine T_iast 65 4 (dk dt_judge 102 rfl) mk_65 ml_65 h5 ?_
    rw [← ex6]
    refine T_iinc (v := l1 + 1) (lv2 := [(1, vi (l1 + 1)), (0, vr 0)]) 1 (dk dt_judge 103 rfl) rfl rfl (by decide) rfl ?_
    refine T_goto 152 (dk dt_judge 104 rfl) (by decide) ?_
    exact T_sub [1, 0] rfl h
set_option maxRecDepth 100000 in
set_option maxHeartbeats 4000000 in
theorem sg_judge_185 {G : mG} {d : Nat} {x : gd} {P : Option gv → gd → Prop} (l1 : Int32)
    (h : (((x.1 0 27) ≤ l1 → P none x) ∧ (¬ ((x.1 0 27) ≤ l1) → vp_in l1 4 ∧ MT G d z_workOf 0 [(0, vr 0), (1, vi (x.1 41 (l1 : Int32).toNatClampNeg)), (2, vi 1)] [] x (ri (fun r4 x3 => vp_in l1 4 ∧ (∀ x6 : gd, x6 = si x3 66 (l1 : Int32).toNatClampNeg r4 → MT G (d + 1) z_judge 185 [(0, vr 0), (1, vi (l1 + 1))] [] x6 P)))))) :
    MT G (d + 1) z_judge 185 [(0, vr 0), (1, vi l1)] [] x P := by
  refine T_iload_n 1 (dk dt_judge 107 rfl) rfl rfl ?_
  refine T_aload_n 0 (dk dt_judge 108 rfl) rfl rfl ?_
  refine T_getI 0 27 (dk dt_judge 109 rfl) fl_467 mk_0 ml_0 (by decide) rfl ?_
  refine T_icmp_ge 216 (dk dt_judge 110 rfl) (by decide) (fun c1 => ?_) (fun c1 => ?_)
  · have h := h.1 c1
    exact MT_vret (dk dt_judge 124 rfl) rfl h
  · have h := h.2 c1
    refine T_aload_n 0 (dk dt_judge 111 rfl) rfl rfl ?_
    refine T_getR 0 65 66 (dk dt_judge 112 rfl) fl_139 mk_0 ml_0 (by decide) rfl rfl ?_
    refine T_iload_n 1 (dk dt_judge 113 rfl) rfl rfl ?_
    refine T_aload_n 0 (dk dt_judge 114 rfl) rfl rfl ?_
    refine T_aload_n 0 (dk dt_judge 115 rfl) rfl rfl ?_
    refine T_getR 0 40 41 (dk dt_judge 116 rfl) fl_85 mk_0 ml_0 (by decide) rfl rfl ?_
    refine T_iload_n 1 (dk dt_judge 117 rfl) rfl rfl ?_
    obtain ⟨h2, h⟩ := h
    refine T_iald 41 4 (dk dt_judge 118 rfl) mk_41 ml_41 h2 ?_
    refine T_iconst (v := 1) (dk dt_judge 119 rfl) (by decide +kernel) ?_
    refine MT_callVi [vi (x.1 41 (l1 : Int32).toNatClampNeg), vi 1] [vi l1, vr 66] rfl (dk dt_judge 120 rfl) cv_517 rfl rfl (Nat.le_of_ble_eq_true rfl) (Nat.le_of_ble_eq_true rfl) rfl rfl h (fun r4 x3 h => ?_)
    obtain ⟨h5, h⟩ := h
    obtain ⟨x6, ex6⟩ : ∃ z, z = si x3 66 (l1 : Int32).toNatClampNeg r4 := ⟨_, rfl⟩
    have h := h x6 ex6
    refine T_iast 66 4 (dk dt_judge 121 rfl) mk_66 ml_66 h5 ?_
    rw [← ex6]
    refine T_iinc (v := l1 + 1) (lv2 := [(1, vi (l1 + 1)), (0, vr 0)]) 1 (dk dt_judge 122 rfl) rfl rfl (by decide) rfl ?_
    refine T_goto 185 (dk dt_judge 123 rfl) (by decide) ?_
    exact T_sub [1, 0] rfl h
set_option maxRecDepth 100000 in
theorem dt_feed : dck cX12_feed [(0, .aload_n 0, 1), (1, .iconst 0, 1), (2, .putfield 316, 3), (5, .aload_n 0, 1), (6, .iload_n 1, 1), (7, .iconst 1, 1), (8, .bipush 8, 2), (10, .invokestatic 322, 3), (13, .ifCond .eq 15, 3), (16, .aload_n 0, 1), (17, .getfield 319, 3), (20, .iload_n 1, 1), (21, .iadd, 1), (22, .sipush 3000, 3), (25, .if_icmp .le 7, 3), (28, .iconst 1, 1), (29, .goto 4, 3), (32, .iconst 0, 1), (33, .iconst 1, 1), (34, .invokevirtual 558, 3), (37, .ifCond .eq 5, 3), (40, .iconst 0, 1), (41, .ireturn, 1), (42, .iconst 0, 1), (43, .istore 4, 2), (45, .iload 4, 2), (47, .iload_n 1, 1), (48, .if_icmp .ge 37, 3), (51, .aload_n 0, 1), (52, .getfield 7, 3), (55, .aload_n 0, 1), (56, .getfield 319, 3), (59, .lload_n 2, 1), (60, .bipush 8, 2), (62, .iload 4, 2), (64, .imul, 1), (65, .lshr, 1), (66, .l2i, 1), (67, .i2b, 1), (68, .bastore, 1), (69, .aload_n 0, 1), (70, .dup, 1), (71, .getfield 319, 3), (74, .iconst 1, 1), (75, .iadd, 1), (76, .putfield 319, 3), (79, .iinc 4 1, 3), (82, .goto (-37), 3), (85, .aload_n 0, 1), (86, .invokevirtual 562, 3), (89, .aload_n 0, 1), (90, .getfield 319, 3), (93, .ireturn, 1)] = true := by decide +kernel
set_option maxRecDepth 100000 in
set_option maxHeartbeats 4000000 in
theorem sg_feed_0 {G : mG} {d : Nat} {x : gd} {P : Option gv → gd → Prop} (l1 : Int32) (l2 : Int64)
    (h : (∀ x1 : gd, x1 = si x 0 0 0 → MT G d z_in 0 [(0, vi l1), (1, vi 1), (2, vi 8)] [] x1 (ri (fun r3 x2 => ((r3 = (0 : Int32) → MT G (d + 1) z_feed 33 [(0, vr 0), (1, vi l1), (2, vl l2)] [vi 1, vr 0] x2 P) ∧ (¬ (r3 = (0 : Int32)) → ((((x2.1 0 2) + l1) ≤ (3000 : Int32) → MT G (d + 1) z_feed 33 [(0, vr 0), (1, vi l1), (2, vl l2)] [vi 0, vr 0] x2 P) ∧ (¬ (((x2.1 0 2) + l1) ≤ (3000 : Int32)) → MT G (d + 1) z_feed 33 [(0, vr 0), (1, vi l1), (2, vl l2)] [vi 1, vr 0] x2 P)))))))) :
    MT G (d + 1) z_feed 0 [(0, vr 0), (1, vi l1), (2, vl l2)] [] x P := by
  refine T_aload_n 0 (dk dt_feed 0 rfl) rfl rfl ?_
  refine T_iconst (v := 0) (dk dt_feed 1 rfl) (by decide +kernel) ?_
  obtain ⟨x1, ex1⟩ : ∃ z, z = si x 0 0 0 := ⟨_, rfl⟩
  have h := h x1 ex1
  refine T_putI 0 0 (dk dt_feed 2 rfl) fl_316 mk_0 ml_0 (by decide) rfl ⟨rfl, rfl⟩ ?_
  rw [← ex1]
  refine T_aload_n 0 (dk dt_feed 3 rfl) rfl rfl ?_
  refine T_iload_n 1 (dk dt_feed 4 rfl) rfl rfl ?_
  refine T_iconst (v := 1) (dk dt_feed 5 rfl) (by decide +kernel) ?_
  refine T_bipush (v := 8) (dk dt_feed 6 rfl) (by decide +kernel) ?_
  refine MT_callSi [vi l1, vi 1, vi 8] [vr 0] rfl (dk dt_feed 7 rfl) cs_322 rfl (Nat.le_of_ble_eq_true rfl) (Nat.le_of_ble_eq_true rfl) rfl rfl h (fun r3 x2 h => ?_)
  refine T_if_eq 28 (dk dt_feed 8 rfl) (by decide) (fun c4 => ?_) (fun c4 => ?_)
  · have h := h.1 c4
    refine T_iconst (v := 1) (dk dt_feed 15 rfl) (by decide +kernel) ?_
    refine T_goto 33 (dk dt_feed 16 rfl) (by decide) ?_
    exact h
  · have h := h.2 c4
    refine T_aload_n 0 (dk dt_feed 9 rfl) rfl rfl ?_
    refine T_getI 0 2 (dk dt_feed 10 rfl) fl_319 mk_0 ml_0 (by decide) rfl ?_
    refine T_iload_n 1 (dk dt_feed 11 rfl) rfl rfl ?_
    refine T_iadd (dk dt_feed 12 rfl) ?_
    refine T_sipush (v := 3000) (dk dt_feed 13 rfl) (by decide +kernel) ?_
    refine T_icmp_le 32 (dk dt_feed 14 rfl) (by decide) (fun c5 => ?_) (fun c5 => ?_)
    · have h := h.1 c5
      refine T_iconst (v := 0) (dk dt_feed 17 rfl) (by decide +kernel) ?_
      exact h
    · have h := h.2 c5
      refine T_iconst (v := 1) (dk dt_feed 15 rfl) (by decide +kernel) ?_
      refine T_goto 33 (dk dt_feed 16 rfl) (by decide) ?_
      exact h
set_option maxRecDepth 100000 in
set_option maxHeartbeats 4000000 in
theorem sg_feed_33 {G : mG} {d : Nat} {x : gd} {P : Option gv → gd → Prop} (l1 : Int32) (l2 : Int64) (s0 : Int32)
    (h : MT G d z_refuses 0 [(0, vr 0), (1, vi s0), (2, vi 1)] [] x (ri (fun r2 x1 => ((r2 = (0 : Int32) → MT G (d + 1) z_feed 45 [(0, vr 0), (1, vi l1), (2, vl l2), (4, vi 0)] [] x1 P) ∧ (¬ (r2 = (0 : Int32)) → P (some (vi 0)) x1))))) :
    MT G (d + 1) z_feed 33 [(0, vr 0), (1, vi l1), (2, vl l2)] [vi s0, vr 0] x P := by
  refine T_iconst (v := 1) (dk dt_feed 18 rfl) (by decide +kernel) ?_
  refine MT_callVi [vi s0, vi 1] [] rfl (dk dt_feed 19 rfl) cv_558 rfl rfl (Nat.le_of_ble_eq_true rfl) (Nat.le_of_ble_eq_true rfl) rfl rfl h (fun r2 x1 h => ?_)
  refine T_if_eq 42 (dk dt_feed 20 rfl) (by decide) (fun c3 => ?_) (fun c3 => ?_)
  · have h := h.1 c3
    refine T_iconst (v := 0) (dk dt_feed 23 rfl) (by decide +kernel) ?_
    refine T_istore (lv2 := [(4, vi 0), (0, vr 0), (1, vi l1), (2, vl l2)]) (dk dt_feed 24 rfl) (by decide) rfl ?_
    exact T_sub [1, 2, 3, 0] rfl h
  · have h := h.2 c3
    refine T_iconst (v := 0) (dk dt_feed 21 rfl) (by decide +kernel) ?_
    exact MT_iret (dk dt_feed 22 rfl) rfl rfl h
set_option maxRecDepth 100000 in
set_option maxHeartbeats 4000000 in
theorem sg_feed_45 {G : mG} {d : Nat} {x : gd} {P : Option gv → gd → Prop} (l1 : Int32) (l2 : Int64) (l4 : Int32)
    (h : ((l1 ≤ l4 → MT G d z_forget 0 [(0, vr 0)] [] x (rv (fun x2 => P (some (vi (x2.1 0 2))) x2))) ∧ (¬ (l1 ≤ l4) → vp_in (x.1 0 2) 3000 ∧ (∀ x4 : gd, x4 = si x 2 (x.1 0 2 : Int32).toNatClampNeg (vp_nar .byte (((l2 >>> ((8 * l4 : Int32).toInt64 &&& 63 : Int64) : Int64).toInt32 : Int32).toInt8.toInt32)) → (∀ x5 : gd, x5 = si x4 0 2 ((x4.1 0 2) + 1) → MT G (d + 1) z_feed 45 [(0, vr 0), (1, vi l1), (2, vl l2), (4, vi (l4 + 1))] [] x5 P))))) :
    MT G (d + 1) z_feed 45 [(0, vr 0), (1, vi l1), (2, vl l2), (4, vi l4)] [] x P := by
  refine T_iload 3 (dk dt_feed 25 rfl) rfl ?_
  refine T_iload_n 1 (dk dt_feed 26 rfl) rfl rfl ?_
  refine T_icmp_ge 85 (dk dt_feed 27 rfl) (by decide) (fun c1 => ?_) (fun c1 => ?_)
  · have h := h.1 c1
    refine T_aload_n 0 (dk dt_feed 48 rfl) rfl rfl ?_
    refine MT_callVv [] [] rfl (dk dt_feed 49 rfl) cv_562 rfl rfl (Nat.le_of_ble_eq_true rfl) (Nat.le_of_ble_eq_true rfl) rfl rfl h (fun x2 h => ?_)
    refine T_aload_n 0 (dk dt_feed 50 rfl) rfl rfl ?_
    refine T_getI 0 2 (dk dt_feed 51 rfl) fl_319 mk_0 ml_0 (by decide) rfl ?_
    exact MT_iret (dk dt_feed 52 rfl) rfl rfl h
  · have h := h.2 c1
    refine T_aload_n 0 (dk dt_feed 28 rfl) rfl rfl ?_
    refine T_getR 0 1 2 (dk dt_feed 29 rfl) fl_7 mk_0 ml_0 (by decide) rfl rfl ?_
    refine T_aload_n 0 (dk dt_feed 30 rfl) rfl rfl ?_
    refine T_getI 0 2 (dk dt_feed 31 rfl) fl_319 mk_0 ml_0 (by decide) rfl ?_
    refine T_lload_n 2 (dk dt_feed 32 rfl) rfl rfl ?_
    refine T_bipush (v := 8) (dk dt_feed 33 rfl) (by decide +kernel) ?_
    refine T_iload 3 (dk dt_feed 34 rfl) rfl ?_
    refine T_imul (dk dt_feed 35 rfl) ?_
    refine T_lshr (dk dt_feed 36 rfl) ?_
    refine T_l2i (dk dt_feed 37 rfl) ?_
    refine T_i2b (dk dt_feed 38 rfl) ?_
    obtain ⟨h3, h⟩ := h
    obtain ⟨x4, ex4⟩ : ∃ z, z = si x 2 (x.1 0 2 : Int32).toNatClampNeg (vp_nar .byte (((l2 >>> ((8 * l4 : Int32).toInt64 &&& 63 : Int64) : Int64).toInt32 : Int32).toInt8.toInt32)) := ⟨_, rfl⟩
    have h := h x4 ex4
    refine T_bast 2 3000 (dk dt_feed 39 rfl) mk_2 ml_2 h3 ?_
    rw [← ex4]
    refine T_aload_n 0 (dk dt_feed 40 rfl) rfl rfl ?_
    refine T_dup (dk dt_feed 41 rfl) rfl ?_
    refine T_getI 0 2 (dk dt_feed 42 rfl) fl_319 mk_0 ml_0 (by decide) rfl ?_
    refine T_iconst (v := 1) (dk dt_feed 43 rfl) (by decide +kernel) ?_
    refine T_iadd (dk dt_feed 44 rfl) ?_
    obtain ⟨x5, ex5⟩ : ∃ z, z = si x4 0 2 ((x4.1 0 2) + 1) := ⟨_, rfl⟩
    have h := h x5 ex5
    refine T_putI 0 2 (dk dt_feed 45 rfl) fl_319 mk_0 ml_0 (by decide) rfl ⟨rfl, rfl⟩ ?_
    rw [← ex5]
    refine T_iinc (v := l4 + 1) (lv2 := [(4, vi (l4 + 1)), (0, vr 0), (1, vi l1), (2, vl l2)]) 3 (dk dt_feed 46 rfl) rfl rfl (by decide) rfl ?_
    refine T_goto 45 (dk dt_feed 47 rfl) (by decide) ?_
    exact T_sub [1, 2, 3, 0] rfl h
set_option maxRecDepth 100000 in
theorem dt_wipe : dck cX12_wipe [(0, .aload_n 0, 1), (1, .iconst 0, 1), (2, .putfield 316, 3), (5, .aload_n 0, 1), (6, .getfield 319, 3), (9, .istore_n 1, 1), (10, .aload_n 0, 1), (11, .iconst 0, 1), (12, .putfield 319, 3), (15, .aload_n 0, 1), (16, .invokevirtual 562, 3), (19, .iload_n 1, 1), (20, .ireturn, 1)] = true := by decide +kernel
set_option maxRecDepth 100000 in
set_option maxHeartbeats 4000000 in
theorem sg_wipe_0 {G : mG} {d : Nat} {x : gd} {P : Option gv → gd → Prop} 
    (h : (∀ x1 : gd, x1 = si x 0 0 0 → (∀ x2 : gd, x2 = si x1 0 2 0 → MT G d z_forget 0 [(0, vr 0)] [] x2 (rv (fun x3 => P (some (vi (x1.1 0 2))) x3))))) :
    MT G (d + 1) z_wipe 0 [(0, vr 0)] [] x P := by
  refine T_aload_n 0 (dk dt_wipe 0 rfl) rfl rfl ?_
  refine T_iconst (v := 0) (dk dt_wipe 1 rfl) (by decide +kernel) ?_
  obtain ⟨x1, ex1⟩ : ∃ z, z = si x 0 0 0 := ⟨_, rfl⟩
  have h := h x1 ex1
  refine T_putI 0 0 (dk dt_wipe 2 rfl) fl_316 mk_0 ml_0 (by decide) rfl ⟨rfl, rfl⟩ ?_
  rw [← ex1]
  refine T_aload_n 0 (dk dt_wipe 3 rfl) rfl rfl ?_
  refine T_getI 0 2 (dk dt_wipe 4 rfl) fl_319 mk_0 ml_0 (by decide) rfl ?_
  refine T_istore_n (lv2 := [(1, vi (x1.1 0 2)), (0, vr 0)]) (dk dt_wipe 5 rfl) rfl (by decide) rfl ?_
  refine T_aload_n 1 (dk dt_wipe 6 rfl) rfl rfl ?_
  refine T_iconst (v := 0) (dk dt_wipe 7 rfl) (by decide +kernel) ?_
  obtain ⟨x2, ex2⟩ : ∃ z, z = si x1 0 2 0 := ⟨_, rfl⟩
  have h := h x2 ex2
  refine T_putI 0 2 (dk dt_wipe 8 rfl) fl_319 mk_0 ml_0 (by decide) rfl ⟨rfl, rfl⟩ ?_
  rw [← ex2]
  refine T_aload_n 1 (dk dt_wipe 9 rfl) rfl rfl ?_
  refine MT_callVv [] [] rfl (dk dt_wipe 10 rfl) cv_562 rfl rfl (Nat.le_of_ble_eq_true rfl) (Nat.le_of_ble_eq_true rfl) rfl rfl h (fun x3 h => ?_)
  refine T_iload_n 0 (dk dt_wipe 11 rfl) rfl rfl ?_
  exact MT_iret (dk dt_wipe 12 rfl) rfl rfl h
set_option maxRecDepth 100000 in
theorem dt_forget : dck cX12_forget [(0, .aload_n 0, 1), (1, .iconst 0, 1), (2, .putfield 565, 3), (5, .aload_n 0, 1), (6, .iconst 0, 1), (7, .putfield 569, 3), (10, .aload_n 0, 1), (11, .iconst 0, 1), (12, .putfield 448, 3), (15, .aload_n 0, 1), (16, .iconst 0, 1), (17, .putfield 458, 3), (20, .aload_n 0, 1), (21, .iconst 0, 1), (22, .putfield 461, 3), (25, .aload_n 0, 1), (26, .iconst 0, 1), (27, .putfield 464, 3), (30, .aload_n 0, 1), (31, .iconst 0, 1), (32, .putfield 467, 3), (35, .aload_n 0, 1), (36, .getfield 254, 3), (39, .iconst 0, 1), (40, .iconst 0, 1), (41, .bastore, 1), (42, .aload_n 0, 1), (43, .getfield 254, 3), (46, .iconst 1, 1), (47, .iconst 0, 1), (48, .bastore, 1), (49, .return_, 1)] = true := by decide +kernel
set_option maxRecDepth 100000 in
set_option maxHeartbeats 4000000 in
theorem sg_forget_0 {G : mG} {d : Nat} {x : gd} {P : Option gv → gd → Prop} 
    (h : (∀ x1 : gd, x1 = si x 0 66 0 → (∀ x2 : gd, x2 = si x1 0 67 0 → (∀ x3 : gd, x3 = si x2 0 23 0 → (∀ x4 : gd, x4 = si x3 0 24 0 → (∀ x5 : gd, x5 = si x4 0 25 0 → (∀ x6 : gd, x6 = si x5 0 26 0 → (∀ x7 : gd, x7 = si x6 0 27 0 → vp_in 0 2 ∧ (∀ x9 : gd, x9 = si x7 119 (0 : Int32).toNatClampNeg (vp_nar .boolean 0) → vp_in 1 2 ∧ (∀ x11 : gd, x11 = si x9 119 (1 : Int32).toNatClampNeg (vp_nar .boolean 0) → P none x11)))))))))) :
    MT G d z_forget 0 [(0, vr 0)] [] x P := by
  refine T_aload_n 0 (dk dt_forget 0 rfl) rfl rfl ?_
  refine T_iconst (v := 0) (dk dt_forget 1 rfl) (by decide +kernel) ?_
  obtain ⟨x1, ex1⟩ : ∃ z, z = si x 0 66 0 := ⟨_, rfl⟩
  have h := h x1 ex1
  refine T_putI 0 66 (dk dt_forget 2 rfl) fl_565 mk_0 ml_0 (by decide) rfl ⟨rfl, rfl⟩ ?_
  rw [← ex1]
  refine T_aload_n 0 (dk dt_forget 3 rfl) rfl rfl ?_
  refine T_iconst (v := 0) (dk dt_forget 4 rfl) (by decide +kernel) ?_
  obtain ⟨x2, ex2⟩ : ∃ z, z = si x1 0 67 0 := ⟨_, rfl⟩
  have h := h x2 ex2
  refine T_putI 0 67 (dk dt_forget 5 rfl) fl_569 mk_0 ml_0 (by decide) rfl ⟨rfl, rfl⟩ ?_
  rw [← ex2]
  refine T_aload_n 0 (dk dt_forget 6 rfl) rfl rfl ?_
  refine T_iconst (v := 0) (dk dt_forget 7 rfl) (by decide +kernel) ?_
  obtain ⟨x3, ex3⟩ : ∃ z, z = si x2 0 23 0 := ⟨_, rfl⟩
  have h := h x3 ex3
  refine T_putI 0 23 (dk dt_forget 8 rfl) fl_448 mk_0 ml_0 (by decide) rfl ⟨rfl, rfl⟩ ?_
  rw [← ex3]
  refine T_aload_n 0 (dk dt_forget 9 rfl) rfl rfl ?_
  refine T_iconst (v := 0) (dk dt_forget 10 rfl) (by decide +kernel) ?_
  obtain ⟨x4, ex4⟩ : ∃ z, z = si x3 0 24 0 := ⟨_, rfl⟩
  have h := h x4 ex4
  refine T_putI 0 24 (dk dt_forget 11 rfl) fl_458 mk_0 ml_0 (by decide) rfl ⟨rfl, rfl⟩ ?_
  rw [← ex4]
  refine T_aload_n 0 (dk dt_forget 12 rfl) rfl rfl ?_
  refine T_iconst (v := 0) (dk dt_forget 13 rfl) (by decide +kernel) ?_
  obtain ⟨x5, ex5⟩ : ∃ z, z = si x4 0 25 0 := ⟨_, rfl⟩
  have h := h x5 ex5
  refine T_putI 0 25 (dk dt_forget 14 rfl) fl_461 mk_0 ml_0 (by decide) rfl ⟨rfl, rfl⟩ ?_
  rw [← ex5]
  refine T_aload_n 0 (dk dt_forget 15 rfl) rfl rfl ?_
  refine T_iconst (v := 0) (dk dt_forget 16 rfl) (by decide +kernel) ?_
  obtain ⟨x6, ex6⟩ : ∃ z, z = si x5 0 26 0 := ⟨_, rfl⟩
  have h := h x6 ex6
  refine T_putI 0 26 (dk dt_forget 17 rfl) fl_464 mk_0 ml_0 (by decide) rfl ⟨rfl, rfl⟩ ?_
  rw [← ex6]
  refine T_aload_n 0 (dk dt_forget 18 rfl) rfl rfl ?_
  refine T_iconst (v := 0) (dk dt_forget 19 rfl) (by decide +kernel) ?_
  obtain ⟨x7, ex7⟩ : ∃ z, z = si x6 0 27 0 := ⟨_, rfl⟩
  have h := h x7 ex7
  refine T_putI 0 27 (dk dt_forget 20 rfl) fl_467 mk_0 ml_0 (by decide) rfl ⟨rfl, rfl⟩ ?_
  rw [← ex7]
  refine T_aload_n 0 (dk dt_forget 21 rfl) rfl rfl ?_
  refine T_getR 0 118 119 (dk dt_forget 22 rfl) fl_254 mk_0 ml_0 (by decide) rfl rfl ?_
  refine T_iconst (v := 0) (dk dt_forget 23 rfl) (by decide +kernel) ?_
  refine T_iconst (v := 0) (dk dt_forget 24 rfl) (by decide +kernel) ?_
  obtain ⟨h8, h⟩ := h
  obtain ⟨x9, ex9⟩ : ∃ z, z = si x7 119 (0 : Int32).toNatClampNeg (vp_nar .boolean 0) := ⟨_, rfl⟩
  have h := h x9 ex9
  refine T_zast 119 2 (dk dt_forget 25 rfl) mk_119 ml_119 h8 ?_
  rw [← ex9]
  refine T_aload_n 0 (dk dt_forget 26 rfl) rfl rfl ?_
  refine T_getR 0 118 119 (dk dt_forget 27 rfl) fl_254 mk_0 ml_0 (by decide) rfl rfl ?_
  refine T_iconst (v := 1) (dk dt_forget 28 rfl) (by decide +kernel) ?_
  refine T_iconst (v := 0) (dk dt_forget 29 rfl) (by decide +kernel) ?_
  obtain ⟨h10, h⟩ := h
  obtain ⟨x11, ex11⟩ : ∃ z, z = si x9 119 (1 : Int32).toNatClampNeg (vp_nar .boolean 0) := ⟨_, rfl⟩
  have h := h x11 ex11
  refine T_zast 119 2 (dk dt_forget 30 rfl) mk_119 ml_119 h10 ?_
  rw [← ex11]
  exact MT_vret (dk dt_forget 31 rfl) rfl h
set_option maxRecDepth 100000 in
theorem dt_compile : dck cX12_compile [(0, .aload_n 0, 1), (1, .iconst 0, 1), (2, .putfield 316, 3), (5, .aload_n 0, 1), (6, .invokevirtual 562, 3), (9, .aload_n 0, 1), (10, .iconst (-1), 1), (11, .putfield 26, 3), (14, .aload_n 0, 1), (15, .iconst (-1), 1), (16, .putfield 30, 3), (19, .aload_n 0, 1), (20, .invokevirtual 572, 3), (23, .aload_n 0, 1), (24, .iconst 0, 1), (25, .putfield 372, 3), (28, .aload_n 0, 1), (29, .iconst 0, 1), (30, .putfield 366, 3), (33, .aload_n 0, 1), (34, .iconst 0, 1), (35, .putfield 445, 3), (38, .aload_n 0, 1), (39, .iconst 0, 1), (40, .putfield 363, 3), (43, .aload_n 0, 1), (44, .iconst 0, 1), (45, .putfield 527, 3), (48, .aload_n 0, 1), (49, .getfield 366, 3), (52, .ifCond .ne 17, 3), (55, .aload_n 0, 1), (56, .invokevirtual 389, 3), (59, .ifCond .eq 10, 3), (62, .aload_n 0, 1), (63, .invokevirtual 575, 3), (66, .goto (-18), 3), (69, .aload_n 0, 1), (70, .getfield 366, 3), (73, .ifCond .ne 23, 3), (76, .aload_n 0, 1), (77, .invokevirtual 578, 3), (80, .aload_n 0, 1), (81, .aload_n 0, 1), (82, .getfield 470, 3), (85, .putfield 366, 3), (88, .aload_n 0, 1), (89, .aload_n 0, 1), (90, .getfield 473, 3), (93, .putfield 369, 3), (96, .aload_n 0, 1), (97, .getfield 366, 3), (100, .ifCond .le 33, 3), (103, .aload_n 0, 1), (104, .aload_n 0, 1), (105, .getfield 369, 3), (108, .putfield 26, 3), (111, .aload_n 0, 1), (112, .aload_n 0, 1), (113, .aload_n 0, 1), (114, .getfield 369, 3), (117, .invokevirtual 508, 3), (120, .putfield 30, 3), (123, .aload_n 0, 1), (124, .invokevirtual 562, 3), (127, .aload_n 0, 1), (128, .getfield 366, 3), (131, .ineg, 1), (132, .ireturn, 1), (133, .aload_n 0, 1), (134, .iconst 1, 1), (135, .putfield 565, 3), (138, .aload_n 0, 1), (139, .getfield 461, 3), (142, .ireturn, 1)] = true := by decide +kernel
set_option maxRecDepth 100000 in
set_option maxHeartbeats 4000000 in
theorem sg_compile_0 {G : mG} {d : Nat} {x : gd} {P : Option gv → gd → Prop} 
    (h : (∀ x1 : gd, x1 = si x 0 0 0 → MT G d z_forget 0 [(0, vr 0)] [] x1 (rv (fun x2 => (∀ x3 : gd, x3 = si x2 0 11 (-1) → (∀ x4 : gd, x4 = si x3 0 12 (-1) → MT G d z_readTokens 0 [(0, vr 0)] [] x4 (rv (fun x5 => (∀ x6 : gd, x6 = si x5 0 8 0 → (∀ x7 : gd, x7 = si x6 0 9 0 → (∀ x8 : gd, x8 = si x7 0 28 0 → (∀ x9 : gd, x9 = si x8 0 13 0 → (∀ x10 : gd, x10 = si x9 0 47 0 → MT G (d + 1) z_compile 48 [(0, vr 0)] [] x10 P))))))))))))) :
    MT G (d + 1) z_compile 0 [(0, vr 0)] [] x P := by
  refine T_aload_n 0 (dk dt_compile 0 rfl) rfl rfl ?_
  refine T_iconst (v := 0) (dk dt_compile 1 rfl) (by decide +kernel) ?_
  obtain ⟨x1, ex1⟩ : ∃ z, z = si x 0 0 0 := ⟨_, rfl⟩
  have h := h x1 ex1
  refine T_putI 0 0 (dk dt_compile 2 rfl) fl_316 mk_0 ml_0 (by decide) rfl ⟨rfl, rfl⟩ ?_
  rw [← ex1]
  refine T_aload_n 0 (dk dt_compile 3 rfl) rfl rfl ?_
  refine MT_callVv [] [] rfl (dk dt_compile 4 rfl) cv_562 rfl rfl (Nat.le_of_ble_eq_true rfl) (Nat.le_of_ble_eq_true rfl) rfl rfl h (fun x2 h => ?_)
  refine T_aload_n 0 (dk dt_compile 5 rfl) rfl rfl ?_
  refine T_iconst (v := (-1)) (dk dt_compile 6 rfl) (by decide +kernel) ?_
  obtain ⟨x3, ex3⟩ : ∃ z, z = si x2 0 11 (-1) := ⟨_, rfl⟩
  have h := h x3 ex3
  refine T_putI 0 11 (dk dt_compile 7 rfl) fl_26 mk_0 ml_0 (by decide) rfl ⟨rfl, rfl⟩ ?_
  rw [← ex3]
  refine T_aload_n 0 (dk dt_compile 8 rfl) rfl rfl ?_
  refine T_iconst (v := (-1)) (dk dt_compile 9 rfl) (by decide +kernel) ?_
  obtain ⟨x4, ex4⟩ : ∃ z, z = si x3 0 12 (-1) := ⟨_, rfl⟩
  have h := h x4 ex4
  refine T_putI 0 12 (dk dt_compile 10 rfl) fl_30 mk_0 ml_0 (by decide) rfl ⟨rfl, rfl⟩ ?_
  rw [← ex4]
  refine T_aload_n 0 (dk dt_compile 11 rfl) rfl rfl ?_
  refine MT_callVv [] [] rfl (dk dt_compile 12 rfl) cv_572 rfl rfl (Nat.le_of_ble_eq_true rfl) (Nat.le_of_ble_eq_true rfl) rfl rfl h (fun x5 h => ?_)
  refine T_aload_n 0 (dk dt_compile 13 rfl) rfl rfl ?_
  refine T_iconst (v := 0) (dk dt_compile 14 rfl) (by decide +kernel) ?_
  obtain ⟨x6, ex6⟩ : ∃ z, z = si x5 0 8 0 := ⟨_, rfl⟩
  have h := h x6 ex6
  refine T_putI 0 8 (dk dt_compile 15 rfl) fl_372 mk_0 ml_0 (by decide) rfl ⟨rfl, rfl⟩ ?_
  rw [← ex6]
  refine T_aload_n 0 (dk dt_compile 16 rfl) rfl rfl ?_
  refine T_iconst (v := 0) (dk dt_compile 17 rfl) (by decide +kernel) ?_
  obtain ⟨x7, ex7⟩ : ∃ z, z = si x6 0 9 0 := ⟨_, rfl⟩
  have h := h x7 ex7
  refine T_putI 0 9 (dk dt_compile 18 rfl) fl_366 mk_0 ml_0 (by decide) rfl ⟨rfl, rfl⟩ ?_
  rw [← ex7]
  refine T_aload_n 0 (dk dt_compile 19 rfl) rfl rfl ?_
  refine T_iconst (v := 0) (dk dt_compile 20 rfl) (by decide +kernel) ?_
  obtain ⟨x8, ex8⟩ : ∃ z, z = si x7 0 28 0 := ⟨_, rfl⟩
  have h := h x8 ex8
  refine T_putI 0 28 (dk dt_compile 21 rfl) fl_445 mk_0 ml_0 (by decide) rfl ⟨rfl, rfl⟩ ?_
  rw [← ex8]
  refine T_aload_n 0 (dk dt_compile 22 rfl) rfl rfl ?_
  refine T_iconst (v := 0) (dk dt_compile 23 rfl) (by decide +kernel) ?_
  obtain ⟨x9, ex9⟩ : ∃ z, z = si x8 0 13 0 := ⟨_, rfl⟩
  have h := h x9 ex9
  refine T_putI 0 13 (dk dt_compile 24 rfl) fl_363 mk_0 ml_0 (by decide) rfl ⟨rfl, rfl⟩ ?_
  rw [← ex9]
  refine T_aload_n 0 (dk dt_compile 25 rfl) rfl rfl ?_
  refine T_iconst (v := 0) (dk dt_compile 26 rfl) (by decide +kernel) ?_
  obtain ⟨x10, ex10⟩ : ∃ z, z = si x9 0 47 0 := ⟨_, rfl⟩
  have h := h x10 ex10
  refine T_putI 0 47 (dk dt_compile 27 rfl) fl_527 mk_0 ml_0 (by decide) rfl ⟨rfl, rfl⟩ ?_
  rw [← ex10]
  exact h
set_option maxRecDepth 100000 in
set_option maxHeartbeats 4000000 in
theorem sg_compile_48 {G : mG} {d : Nat} {x : gd} {P : Option gv → gd → Prop} 
    (h : ((¬ ((x.1 0 9) = (0 : Int32)) → MT G (d + 1) z_compile 69 [(0, vr 0)] [] x P) ∧ ((x.1 0 9) = (0 : Int32) → MT G d z_here 0 [(0, vr 0)] [] x (ri (fun r3 x2 => ((r3 = (0 : Int32) → MT G (d + 1) z_compile 69 [(0, vr 0)] [] x2 P) ∧ (¬ (r3 = (0 : Int32)) → MT G d z_readDef 0 [(0, vr 0)] [] x2 (rv (fun x5 => MT G (d + 1) z_compile 48 [(0, vr 0)] [] x5 P))))))))) :
    MT G (d + 1) z_compile 48 [(0, vr 0)] [] x P := by
  refine T_aload_n 0 (dk dt_compile 28 rfl) rfl rfl ?_
  refine T_getI 0 9 (dk dt_compile 29 rfl) fl_366 mk_0 ml_0 (by decide) rfl ?_
  refine T_if_ne 69 (dk dt_compile 30 rfl) (by decide) (fun c1 => ?_) (fun c1 => ?_)
  · have h := h.1 c1
    exact h
  · have h := h.2 c1
    refine T_aload_n 0 (dk dt_compile 31 rfl) rfl rfl ?_
    refine MT_callVi [] [] rfl (dk dt_compile 32 rfl) cv_389 rfl rfl (Nat.le_of_ble_eq_true rfl) (Nat.le_of_ble_eq_true rfl) rfl rfl h (fun r3 x2 h => ?_)
    refine T_if_eq 69 (dk dt_compile 33 rfl) (by decide) (fun c4 => ?_) (fun c4 => ?_)
    · have h := h.1 c4
      exact h
    · have h := h.2 c4
      refine T_aload_n 0 (dk dt_compile 34 rfl) rfl rfl ?_
      refine MT_callVv [] [] rfl (dk dt_compile 35 rfl) cv_575 rfl rfl (Nat.le_of_ble_eq_true rfl) (Nat.le_of_ble_eq_true rfl) rfl rfl h (fun x5 h => ?_)
      refine T_goto 48 (dk dt_compile 36 rfl) (by decide) ?_
      exact h
set_option maxRecDepth 100000 in
set_option maxHeartbeats 4000000 in
theorem sg_compile_69 {G : mG} {d : Nat} {x : gd} {P : Option gv → gd → Prop} 
    (h : ((¬ ((x.1 0 9) = (0 : Int32)) → MT G (d + 1) z_compile 96 [(0, vr 0)] [] x P) ∧ ((x.1 0 9) = (0 : Int32) → MT G d z_judge 0 [(0, vr 0)] [] x (rv (fun x2 => (∀ x3 : gd, x3 = si x2 0 9 (x2.1 0 41) → (∀ x4 : gd, x4 = si x3 0 10 (x3.1 0 42) → MT G (d + 1) z_compile 96 [(0, vr 0)] [] x4 P))))))) :
    MT G (d + 1) z_compile 69 [(0, vr 0)] [] x P := by
  refine T_aload_n 0 (dk dt_compile 37 rfl) rfl rfl ?_
  refine T_getI 0 9 (dk dt_compile 38 rfl) fl_366 mk_0 ml_0 (by decide) rfl ?_
  refine T_if_ne 96 (dk dt_compile 39 rfl) (by decide) (fun c1 => ?_) (fun c1 => ?_)
  · have h := h.1 c1
    exact h
  · have h := h.2 c1
    refine T_aload_n 0 (dk dt_compile 40 rfl) rfl rfl ?_
    refine MT_callVv [] [] rfl (dk dt_compile 41 rfl) cv_578 rfl rfl (Nat.le_of_ble_eq_true rfl) (Nat.le_of_ble_eq_true rfl) rfl rfl h (fun x2 h => ?_)
    refine T_aload_n 0 (dk dt_compile 42 rfl) rfl rfl ?_
    refine T_aload_n 0 (dk dt_compile 43 rfl) rfl rfl ?_
    refine T_getI 0 41 (dk dt_compile 44 rfl) fl_470 mk_0 ml_0 (by decide) rfl ?_
    obtain ⟨x3, ex3⟩ : ∃ z, z = si x2 0 9 (x2.1 0 41) := ⟨_, rfl⟩
    have h := h x3 ex3
    refine T_putI 0 9 (dk dt_compile 45 rfl) fl_366 mk_0 ml_0 (by decide) rfl ⟨rfl, rfl⟩ ?_
    rw [← ex3]
    refine T_aload_n 0 (dk dt_compile 46 rfl) rfl rfl ?_
    refine T_aload_n 0 (dk dt_compile 47 rfl) rfl rfl ?_
    refine T_getI 0 42 (dk dt_compile 48 rfl) fl_473 mk_0 ml_0 (by decide) rfl ?_
    obtain ⟨x4, ex4⟩ : ∃ z, z = si x3 0 10 (x3.1 0 42) := ⟨_, rfl⟩
    have h := h x4 ex4
    refine T_putI 0 10 (dk dt_compile 49 rfl) fl_369 mk_0 ml_0 (by decide) rfl ⟨rfl, rfl⟩ ?_
    rw [← ex4]
    exact h
set_option maxRecDepth 100000 in
set_option maxHeartbeats 4000000 in
theorem sg_compile_96 {G : mG} {d : Nat} {x : gd} {P : Option gv → gd → Prop} 
    (h : (((x.1 0 9) ≤ (0 : Int32) → (∀ x2 : gd, x2 = si x 0 66 1 → P (some (vi (x2.1 0 25))) x2)) ∧ (¬ ((x.1 0 9) ≤ (0 : Int32)) → (∀ x3 : gd, x3 = si x 0 11 (x.1 0 10) → MT G d z_lineOf 0 [(0, vr 0), (1, vi (x3.1 0 10))] [] x3 (ri (fun r5 x4 => (∀ x6 : gd, x6 = si x4 0 12 r5 → MT G d z_forget 0 [(0, vr 0)] [] x6 (rv (fun x7 => P (some (vi (-(x7.1 0 9)))) x7))))))))) :
    MT G (d + 1) z_compile 96 [(0, vr 0)] [] x P := by
  refine T_aload_n 0 (dk dt_compile 50 rfl) rfl rfl ?_
  refine T_getI 0 9 (dk dt_compile 51 rfl) fl_366 mk_0 ml_0 (by decide) rfl ?_
  refine T_if_le 133 (dk dt_compile 52 rfl) (by decide) (fun c1 => ?_) (fun c1 => ?_)
  · have h := h.1 c1
    refine T_aload_n 0 (dk dt_compile 69 rfl) rfl rfl ?_
    refine T_iconst (v := 1) (dk dt_compile 70 rfl) (by decide +kernel) ?_
    obtain ⟨x2, ex2⟩ : ∃ z, z = si x 0 66 1 := ⟨_, rfl⟩
    have h := h x2 ex2
    refine T_putI 0 66 (dk dt_compile 71 rfl) fl_565 mk_0 ml_0 (by decide) rfl ⟨rfl, rfl⟩ ?_
    rw [← ex2]
    refine T_aload_n 0 (dk dt_compile 72 rfl) rfl rfl ?_
    refine T_getI 0 25 (dk dt_compile 73 rfl) fl_461 mk_0 ml_0 (by decide) rfl ?_
    exact MT_iret (dk dt_compile 74 rfl) rfl rfl h
  · have h := h.2 c1
    refine T_aload_n 0 (dk dt_compile 53 rfl) rfl rfl ?_
    refine T_aload_n 0 (dk dt_compile 54 rfl) rfl rfl ?_
    refine T_getI 0 10 (dk dt_compile 55 rfl) fl_369 mk_0 ml_0 (by decide) rfl ?_
    obtain ⟨x3, ex3⟩ : ∃ z, z = si x 0 11 (x.1 0 10) := ⟨_, rfl⟩
    have h := h x3 ex3
    refine T_putI 0 11 (dk dt_compile 56 rfl) fl_26 mk_0 ml_0 (by decide) rfl ⟨rfl, rfl⟩ ?_
    rw [← ex3]
    refine T_aload_n 0 (dk dt_compile 57 rfl) rfl rfl ?_
    refine T_aload_n 0 (dk dt_compile 58 rfl) rfl rfl ?_
    refine T_aload_n 0 (dk dt_compile 59 rfl) rfl rfl ?_
    refine T_getI 0 10 (dk dt_compile 60 rfl) fl_369 mk_0 ml_0 (by decide) rfl ?_
    refine MT_callVi [vi (x3.1 0 10)] [vr 0] rfl (dk dt_compile 61 rfl) cv_508 rfl rfl (Nat.le_of_ble_eq_true rfl) (Nat.le_of_ble_eq_true rfl) rfl rfl h (fun r5 x4 h => ?_)
    obtain ⟨x6, ex6⟩ : ∃ z, z = si x4 0 12 r5 := ⟨_, rfl⟩
    have h := h x6 ex6
    refine T_putI 0 12 (dk dt_compile 62 rfl) fl_30 mk_0 ml_0 (by decide) rfl ⟨rfl, rfl⟩ ?_
    rw [← ex6]
    refine T_aload_n 0 (dk dt_compile 63 rfl) rfl rfl ?_
    refine MT_callVv [] [] rfl (dk dt_compile 64 rfl) cv_562 rfl rfl (Nat.le_of_ble_eq_true rfl) (Nat.le_of_ble_eq_true rfl) rfl rfl h (fun x7 h => ?_)
    refine T_aload_n 0 (dk dt_compile 65 rfl) rfl rfl ?_
    refine T_getI 0 9 (dk dt_compile 66 rfl) fl_366 mk_0 ml_0 (by decide) rfl ?_
    refine T_ineg (dk dt_compile 67 rfl) ?_
    exact MT_iret (dk dt_compile 68 rfl) rfl rfl h
set_option maxRecDepth 100000 in
theorem dt_fault_ : dck cX12_fault_ [(0, .aload_n 0, 1), (1, .iconst 0, 1), (2, .putfield 316, 3), (5, .aload_n 0, 1), (6, .iload_n 1, 1), (7, .iconst 0, 1), (8, .iconst 1, 1), (9, .invokestatic 322, 3), (12, .ifCond .ne 7, 3), (15, .iconst 1, 1), (16, .goto 4, 3), (19, .iconst 0, 1), (20, .iconst 1, 1), (21, .invokevirtual 558, 3), (24, .ifCond .eq 5, 3), (27, .iconst 0, 1), (28, .ireturn, 1), (29, .iload_n 1, 1), (30, .ifCond .ne 10, 3), (33, .aload_n 0, 1), (34, .getfield 26, 3), (37, .goto 7, 3), (40, .aload_n 0, 1), (41, .getfield 30, 3), (44, .ireturn, 1)] = true := by decide +kernel
set_option maxRecDepth 100000 in
set_option maxHeartbeats 4000000 in
theorem sg_fault__0 {G : mG} {d : Nat} {x : gd} {P : Option gv → gd → Prop} (l1 : Int32)
    (h : (∀ x1 : gd, x1 = si x 0 0 0 → MT G d z_in 0 [(0, vi l1), (1, vi 0), (2, vi 1)] [] x1 (ri (fun r3 x2 => ((¬ (r3 = (0 : Int32)) → MT G (d + 1) z_fault_ 20 [(0, vr 0), (1, vi l1)] [vi 0, vr 0] x2 P) ∧ (r3 = (0 : Int32) → MT G (d + 1) z_fault_ 20 [(0, vr 0), (1, vi l1)] [vi 1, vr 0] x2 P)))))) :
    MT G (d + 1) z_fault_ 0 [(0, vr 0), (1, vi l1)] [] x P := by
  refine T_aload_n 0 (dk dt_fault_ 0 rfl) rfl rfl ?_
  refine T_iconst (v := 0) (dk dt_fault_ 1 rfl) (by decide +kernel) ?_
  obtain ⟨x1, ex1⟩ : ∃ z, z = si x 0 0 0 := ⟨_, rfl⟩
  have h := h x1 ex1
  refine T_putI 0 0 (dk dt_fault_ 2 rfl) fl_316 mk_0 ml_0 (by decide) rfl ⟨rfl, rfl⟩ ?_
  rw [← ex1]
  refine T_aload_n 0 (dk dt_fault_ 3 rfl) rfl rfl ?_
  refine T_iload_n 1 (dk dt_fault_ 4 rfl) rfl rfl ?_
  refine T_iconst (v := 0) (dk dt_fault_ 5 rfl) (by decide +kernel) ?_
  refine T_iconst (v := 1) (dk dt_fault_ 6 rfl) (by decide +kernel) ?_
  refine MT_callSi [vi l1, vi 0, vi 1] [vr 0] rfl (dk dt_fault_ 7 rfl) cs_322 rfl (Nat.le_of_ble_eq_true rfl) (Nat.le_of_ble_eq_true rfl) rfl rfl h (fun r3 x2 h => ?_)
  refine T_if_ne 19 (dk dt_fault_ 8 rfl) (by decide) (fun c4 => ?_) (fun c4 => ?_)
  · have h := h.1 c4
    refine T_iconst (v := 0) (dk dt_fault_ 11 rfl) (by decide +kernel) ?_
    exact h
  · have h := h.2 c4
    refine T_iconst (v := 1) (dk dt_fault_ 9 rfl) (by decide +kernel) ?_
    refine T_goto 20 (dk dt_fault_ 10 rfl) (by decide) ?_
    exact h
set_option maxRecDepth 100000 in
set_option maxHeartbeats 4000000 in
theorem sg_fault__20 {G : mG} {d : Nat} {x : gd} {P : Option gv → gd → Prop} (l1 : Int32) (s0 : Int32)
    (h : MT G d z_refuses 0 [(0, vr 0), (1, vi s0), (2, vi 1)] [] x (ri (fun r2 x1 => ((r2 = (0 : Int32) → ((¬ (l1 = (0 : Int32)) → P (some (vi (x1.1 0 12))) x1) ∧ (l1 = (0 : Int32) → P (some (vi (x1.1 0 11))) x1))) ∧ (¬ (r2 = (0 : Int32)) → P (some (vi 0)) x1))))) :
    MT G (d + 1) z_fault_ 20 [(0, vr 0), (1, vi l1)] [vi s0, vr 0] x P := by
  refine T_iconst (v := 1) (dk dt_fault_ 12 rfl) (by decide +kernel) ?_
  refine MT_callVi [vi s0, vi 1] [] rfl (dk dt_fault_ 13 rfl) cv_558 rfl rfl (Nat.le_of_ble_eq_true rfl) (Nat.le_of_ble_eq_true rfl) rfl rfl h (fun r2 x1 h => ?_)
  refine T_if_eq 29 (dk dt_fault_ 14 rfl) (by decide) (fun c3 => ?_) (fun c3 => ?_)
  · have h := h.1 c3
    refine T_iload_n 1 (dk dt_fault_ 17 rfl) rfl rfl ?_
    refine T_if_ne 40 (dk dt_fault_ 18 rfl) (by decide) (fun c4 => ?_) (fun c4 => ?_)
    · have h := h.1 c4
      refine T_aload_n 0 (dk dt_fault_ 22 rfl) rfl rfl ?_
      refine T_getI 0 12 (dk dt_fault_ 23 rfl) fl_30 mk_0 ml_0 (by decide) rfl ?_
      exact MT_iret (dk dt_fault_ 24 rfl) rfl rfl h
    · have h := h.2 c4
      refine T_aload_n 0 (dk dt_fault_ 19 rfl) rfl rfl ?_
      refine T_getI 0 11 (dk dt_fault_ 20 rfl) fl_26 mk_0 ml_0 (by decide) rfl ?_
      refine T_goto 44 (dk dt_fault_ 21 rfl) (by decide) ?_
      exact MT_iret (dk dt_fault_ 24 rfl) rfl rfl h
  · have h := h.2 c3
    refine T_iconst (v := 0) (dk dt_fault_ 15 rfl) (by decide +kernel) ?_
    exact MT_iret (dk dt_fault_ 16 rfl) rfl rfl h
set_option maxRecDepth 100000 in
theorem dt_count : dck cX12_count [(0, .aload_n 0, 1), (1, .iconst 0, 1), (2, .putfield 316, 3), (5, .aload_n 0, 1), (6, .iload_n 1, 1), (7, .iconst 0, 1), (8, .iconst 4, 1), (9, .invokestatic 322, 3), (12, .ifCond .ne 7, 3), (15, .iconst 1, 1), (16, .goto 4, 3), (19, .iconst 0, 1), (20, .iconst 1, 1), (21, .invokevirtual 558, 3), (24, .ifCond .eq 5, 3), (27, .iconst 0, 1), (28, .ireturn, 1), (29, .iload_n 1, 1), (30, .ifCond .ne 10, 3), (33, .aload_n 0, 1), (34, .getfield 448, 3), (37, .goto 43, 3), (40, .iload_n 1, 1), (41, .iconst 1, 1), (42, .if_icmp .ne 10, 3), (45, .aload_n 0, 1), (46, .getfield 458, 3), (49, .goto 31, 3), (52, .iload_n 1, 1), (53, .iconst 2, 1), (54, .if_icmp .ne 10, 3), (57, .aload_n 0, 1), (58, .getfield 461, 3), (61, .goto 19, 3), (64, .iload_n 1, 1), (65, .iconst 3, 1), (66, .if_icmp .ne 10, 3), (69, .aload_n 0, 1), (70, .getfield 464, 3), (73, .goto 7, 3), (76, .aload_n 0, 1), (77, .getfield 467, 3), (80, .ireturn, 1)] = true := by decide +kernel
set_option maxRecDepth 100000 in
set_option maxHeartbeats 4000000 in
theorem sg_count_0 {G : mG} {d : Nat} {x : gd} {P : Option gv → gd → Prop} (l1 : Int32)
    (h : (∀ x1 : gd, x1 = si x 0 0 0 → MT G d z_in 0 [(0, vi l1), (1, vi 0), (2, vi 4)] [] x1 (ri (fun r3 x2 => ((¬ (r3 = (0 : Int32)) → MT G (d + 1) z_count 20 [(0, vr 0), (1, vi l1)] [vi 0, vr 0] x2 P) ∧ (r3 = (0 : Int32) → MT G (d + 1) z_count 20 [(0, vr 0), (1, vi l1)] [vi 1, vr 0] x2 P)))))) :
    MT G (d + 1) z_count 0 [(0, vr 0), (1, vi l1)] [] x P := by
  refine T_aload_n 0 (dk dt_count 0 rfl) rfl rfl ?_
  refine T_iconst (v := 0) (dk dt_count 1 rfl) (by decide +kernel) ?_
  obtain ⟨x1, ex1⟩ : ∃ z, z = si x 0 0 0 := ⟨_, rfl⟩
  have h := h x1 ex1
  refine T_putI 0 0 (dk dt_count 2 rfl) fl_316 mk_0 ml_0 (by decide) rfl ⟨rfl, rfl⟩ ?_
  rw [← ex1]
  refine T_aload_n 0 (dk dt_count 3 rfl) rfl rfl ?_
  refine T_iload_n 1 (dk dt_count 4 rfl) rfl rfl ?_
  refine T_iconst (v := 0) (dk dt_count 5 rfl) (by decide +kernel) ?_
  refine T_iconst (v := 4) (dk dt_count 6 rfl) (by decide +kernel) ?_
  refine MT_callSi [vi l1, vi 0, vi 4] [vr 0] rfl (dk dt_count 7 rfl) cs_322 rfl (Nat.le_of_ble_eq_true rfl) (Nat.le_of_ble_eq_true rfl) rfl rfl h (fun r3 x2 h => ?_)
  refine T_if_ne 19 (dk dt_count 8 rfl) (by decide) (fun c4 => ?_) (fun c4 => ?_)
  · have h := h.1 c4
    refine T_iconst (v := 0) (dk dt_count 11 rfl) (by decide +kernel) ?_
    exact h
  · have h := h.2 c4
    refine T_iconst (v := 1) (dk dt_count 9 rfl) (by decide +kernel) ?_
    refine T_goto 20 (dk dt_count 10 rfl) (by decide) ?_
    exact h
set_option maxRecDepth 100000 in
set_option maxHeartbeats 4000000 in
theorem sg_count_20 {G : mG} {d : Nat} {x : gd} {P : Option gv → gd → Prop} (l1 : Int32) (s0 : Int32)
    (h : MT G d z_refuses 0 [(0, vr 0), (1, vi s0), (2, vi 1)] [] x (ri (fun r2 x1 => ((r2 = (0 : Int32) → ((¬ (l1 = (0 : Int32)) → ((¬ (l1 = (1 : Int32)) → ((¬ (l1 = (2 : Int32)) → ((¬ (l1 = (3 : Int32)) → P (some (vi (x1.1 0 27))) x1) ∧ (l1 = (3 : Int32) → P (some (vi (x1.1 0 26))) x1))) ∧ (l1 = (2 : Int32) → P (some (vi (x1.1 0 25))) x1))) ∧ (l1 = (1 : Int32) → P (some (vi (x1.1 0 24))) x1))) ∧ (l1 = (0 : Int32) → P (some (vi (x1.1 0 23))) x1))) ∧ (¬ (r2 = (0 : Int32)) → P (some (vi 0)) x1))))) :
    MT G (d + 1) z_count 20 [(0, vr 0), (1, vi l1)] [vi s0, vr 0] x P := by
  refine T_iconst (v := 1) (dk dt_count 12 rfl) (by decide +kernel) ?_
  refine MT_callVi [vi s0, vi 1] [] rfl (dk dt_count 13 rfl) cv_558 rfl rfl (Nat.le_of_ble_eq_true rfl) (Nat.le_of_ble_eq_true rfl) rfl rfl h (fun r2 x1 h => ?_)
  refine T_if_eq 29 (dk dt_count 14 rfl) (by decide) (fun c3 => ?_) (fun c3 => ?_)
  · have h := h.1 c3
    refine T_iload_n 1 (dk dt_count 17 rfl) rfl rfl ?_
    refine T_if_ne 40 (dk dt_count 18 rfl) (by decide) (fun c4 => ?_) (fun c4 => ?_)
    · have h := h.1 c4
      refine T_iload_n 1 (dk dt_count 22 rfl) rfl rfl ?_
      refine T_iconst (v := 1) (dk dt_count 23 rfl) (by decide +kernel) ?_
      refine T_icmp_ne 52 (dk dt_count 24 rfl) (by decide) (fun c5 => ?_) (fun c5 => ?_)
      · have h := h.1 c5
        refine T_iload_n 1 (dk dt_count 28 rfl) rfl rfl ?_
        refine T_iconst (v := 2) (dk dt_count 29 rfl) (by decide +kernel) ?_
        refine T_icmp_ne 64 (dk dt_count 30 rfl) (by decide) (fun c6 => ?_) (fun c6 => ?_)
        · have h := h.1 c6
          refine T_iload_n 1 (dk dt_count 34 rfl) rfl rfl ?_
          refine T_iconst (v := 3) (dk dt_count 35 rfl) (by decide +kernel) ?_
          refine T_icmp_ne 76 (dk dt_count 36 rfl) (by decide) (fun c7 => ?_) (fun c7 => ?_)
          · have h := h.1 c7
            refine T_aload_n 0 (dk dt_count 40 rfl) rfl rfl ?_
            refine T_getI 0 27 (dk dt_count 41 rfl) fl_467 mk_0 ml_0 (by decide) rfl ?_
            exact MT_iret (dk dt_count 42 rfl) rfl rfl h
          · have h := h.2 c7
            refine T_aload_n 0 (dk dt_count 37 rfl) rfl rfl ?_
            refine T_getI 0 26 (dk dt_count 38 rfl) fl_464 mk_0 ml_0 (by decide) rfl ?_
            refine T_goto 80 (dk dt_count 39 rfl) (by decide) ?_
            exact MT_iret (dk dt_count 42 rfl) rfl rfl h
        · have h := h.2 c6
          refine T_aload_n 0 (dk dt_count 31 rfl) rfl rfl ?_
          refine T_getI 0 25 (dk dt_count 32 rfl) fl_461 mk_0 ml_0 (by decide) rfl ?_
          refine T_goto 80 (dk dt_count 33 rfl) (by decide) ?_
          exact MT_iret (dk dt_count 42 rfl) rfl rfl h
      · have h := h.2 c5
        refine T_aload_n 0 (dk dt_count 25 rfl) rfl rfl ?_
        refine T_getI 0 24 (dk dt_count 26 rfl) fl_458 mk_0 ml_0 (by decide) rfl ?_
        refine T_goto 80 (dk dt_count 27 rfl) (by decide) ?_
        exact MT_iret (dk dt_count 42 rfl) rfl rfl h
    · have h := h.2 c4
      refine T_aload_n 0 (dk dt_count 19 rfl) rfl rfl ?_
      refine T_getI 0 23 (dk dt_count 20 rfl) fl_448 mk_0 ml_0 (by decide) rfl ?_
      refine T_goto 80 (dk dt_count 21 rfl) (by decide) ?_
      exact MT_iret (dk dt_count 42 rfl) rfl rfl h
  · have h := h.2 c3
    refine T_iconst (v := 0) (dk dt_count 15 rfl) (by decide +kernel) ?_
    exact MT_iret (dk dt_count 16 rfl) rfl rfl h
end
section
set_option maxRecDepth 100000 in
theorem dt_worked : dck cX12_worked [(0, .iconst 0, 1), (1, .istore_n 3, 1), (2, .aload_n 0, 1), (3, .iconst 0, 1), (4, .putfield 581, 3), (7, .iload_n 1, 1), (8, .istore 4, 2), (10, .aload_n 0, 1), (11, .getfield 97, 3), (14, .iload 4, 2), (16, .iaload, 1), (17, .ifCond .eq 217, 3), (20, .aload_n 0, 1), (21, .getfield 100, 3), (24, .iload 4, 2), (26, .iaload, 1), (27, .istore 5, 2), (29, .aload_n 0, 1), (30, .getfield 97, 3), (33, .iload 4, 2), (35, .iaload, 1), (36, .tableswitch 152 1 5 #[36, 50, 74, 87, 106], 36), (72, .aload_n 0, 1), (73, .getfield 181, 3), (76, .iload_n 3, 1), (77, .iload 5, 2), (79, .iastore, 1), (80, .iinc 3 1, 3), (83, .goto 145, 3), (86, .aload_n 0, 1), (87, .getfield 181, 3), (90, .iload_n 3, 1), (91, .aload_n 0, 1), (92, .getfield 160, 3), (95, .bipush 8, 2), (97, .iload_n 2, 1), (98, .imul, 1), (99, .iload 5, 2), (101, .iadd, 1), (102, .iaload, 1), (103, .iastore, 1), (104, .iinc 3 1, 3), (107, .goto 121, 3), (110, .aload_n 0, 1), (111, .getfield 181, 3), (114, .iload_n 3, 1), (115, .iload_n 2, 1), (116, .iastore, 1), (117, .iinc 3 1, 3), (120, .goto 108, 3), (123, .aload_n 0, 1), (124, .getfield 181, 3), (127, .iload_n 3, 1), (128, .aload_n 0, 1), (129, .getfield 142, 3), (132, .iload 5, 2), (134, .iaload, 1), (135, .iastore, 1), (136, .iinc 3 1, 3), (139, .goto 89, 3), (142, .aload_n 0, 1), (143, .getfield 181, 3), (146, .iload_n 3, 1), (147, .iconst 1, 1), (148, .isub, 1), (149, .iload 5, 2), (151, .bipush 29, 2), (153, .if_icmp .ne 22, 3), (156, .aload_n 0, 1), (157, .getfield 181, 3), (160, .iload_n 3, 1), (161, .iconst 1, 1), (162, .isub, 1), (163, .iaload, 1), (164, .ifCond .ne 7, 3), (167, .iconst 1, 1), (168, .goto 16, 3), (171, .iconst 0, 1), (172, .goto 12, 3), (175, .aload_n 0, 1), (176, .getfield 181, 3), (179, .iload_n 3, 1), (180, .iconst 1, 1), (181, .isub, 1), (182, .iaload, 1), (183, .ineg, 1), (184, .iastore, 1), (185, .goto 43, 3), (188, .iinc 3 (-1), 3), (191, .aload_n 0, 1), (192, .getfield 181, 3), (195, .iload_n 3, 1), (196, .iconst 1, 1), (197, .isub, 1), (198, .aload_n 0, 1), (199, .iload 5, 2), (201, .aload_n 0, 1), (202, .getfield 181, 3), (205, .iload_n 3, 1), (206, .iconst 1, 1), (207, .isub, 1), (208, .iaload, 1), (209, .aload_n 0, 1), (210, .getfield 181, 3), (213, .iload_n 3, 1), (214, .iaload, 1), (215, .invokevirtual 584, 3), (218, .iastore, 1), (219, .aload_n 0, 1), (220, .getfield 581, 3), (223, .ifCond .le 5, 3), (226, .iconst 0, 1), (227, .ireturn, 1), (228, .iinc 4 1, 3), (231, .goto (-221), 3), (234, .aload_n 0, 1), (235, .getfield 181, 3), (238, .iconst 0, 1), (239, .iaload, 1), (240, .ireturn, 1)] = true := by decide +kernel
set_option maxRecDepth 100000 in
theorem dt_one : dck cX12_one [(0, .iload_n 0, 1), (1, .ifCond .eq 7, 3), (4, .iconst 1, 1), (5, .goto 4, 3), (8, .iconst 0, 1), (9, .ireturn, 1)] = true := by decide +kernel
set_option maxRecDepth 100000 in
set_option maxHeartbeats 4000000 in
theorem sg_one_0 {G : mG} {d : Nat} {x : gd} {P : Option gv → gd → Prop} (l0 : Int32)
    (h : ((l0 = (0 : Int32) → P (some (vi 0)) x) ∧ (¬ (l0 = (0 : Int32)) → P (some (vi 1)) x))) :
    MT G d z_one 0 [(0, vi l0)] [] x P := by
  refine T_iload_n 0 (dk dt_one 0 rfl) rfl rfl ?_
  refine T_if_eq 8 (dk dt_one 1 rfl) (by decide) (fun c1 => ?_) (fun c1 => ?_)
  · have h := h.1 c1
    refine T_iconst (v := 0) (dk dt_one 4 rfl) (by decide +kernel) ?_
    exact MT_iret (dk dt_one 5 rfl) rfl rfl h
  · have h := h.2 c1
    refine T_iconst (v := 1) (dk dt_one 2 rfl) (by decide +kernel) ?_
    refine T_goto 9 (dk dt_one 3 rfl) (by decide) ?_
    exact MT_iret (dk dt_one 5 rfl) rfl rfl h
set_option maxRecDepth 100000 in
theorem dt_reckon : dck cX12_reckon [(0, .iload_n 1, 1), (1, .lookupswitch 229 #[(12, 116), (30, 99), (51, 133), (52, 147), (53, 161), (54, 175), (55, 189), (56, 203), (57, 217), (58, 221), (59, 225)], 99), (100, .iload_n 2, 1), (101, .ifCond .ne 7, 3), (104, .iload_n 3, 1), (105, .ifCond .eq 7, 3), (108, .iconst 1, 1), (109, .goto 4, 3), (112, .iconst 0, 1), (113, .invokestatic 587, 3), (116, .ireturn, 1), (117, .iload_n 2, 1), (118, .ifCond .eq 11, 3), (121, .iload_n 3, 1), (122, .ifCond .eq 7, 3), (125, .iconst 1, 1), (126, .goto 4, 3), (129, .iconst 0, 1), (130, .invokestatic 587, 3), (133, .ireturn, 1), (134, .iload_n 2, 1), (135, .iload_n 3, 1), (136, .if_icmp .ne 7, 3), (139, .iconst 1, 1), (140, .goto 4, 3), (143, .iconst 0, 1), (144, .invokestatic 587, 3), (147, .ireturn, 1), (148, .iload_n 2, 1), (149, .iload_n 3, 1), (150, .if_icmp .eq 7, 3), (153, .iconst 1, 1), (154, .goto 4, 3), (157, .iconst 0, 1), (158, .invokestatic 587, 3), (161, .ireturn, 1), (162, .iload_n 2, 1), (163, .iload_n 3, 1), (164, .if_icmp .ge 7, 3), (167, .iconst 1, 1), (168, .goto 4, 3), (171, .iconst 0, 1), (172, .invokestatic 587, 3), (175, .ireturn, 1), (176, .iload_n 2, 1), (177, .iload_n 3, 1), (178, .if_icmp .gt 7, 3), (181, .iconst 1, 1), (182, .goto 4, 3), (185, .iconst 0, 1), (186, .invokestatic 587, 3), (189, .ireturn, 1), (190, .iload_n 2, 1), (191, .iload_n 3, 1), (192, .if_icmp .le 7, 3), (195, .iconst 1, 1), (196, .goto 4, 3), (199, .iconst 0, 1), (200, .invokestatic 587, 3), (203, .ireturn, 1), (204, .iload_n 2, 1), (205, .iload_n 3, 1), (206, .if_icmp .lt 7, 3), (209, .iconst 1, 1), (210, .goto 4, 3), (213, .iconst 0, 1), (214, .invokestatic 587, 3), (217, .ireturn, 1), (218, .iload_n 2, 1), (219, .iload_n 3, 1), (220, .iadd, 1), (221, .ireturn, 1), (222, .iload_n 2, 1), (223, .iload_n 3, 1), (224, .isub, 1), (225, .ireturn, 1), (226, .iload_n 2, 1), (227, .iload_n 3, 1), (228, .imul, 1), (229, .ireturn, 1), (230, .iload_n 3, 1), (231, .ifCond .ne 10, 3), (234, .aload_n 0, 1), (235, .iconst 1, 1), (236, .putfield 581, 3), (239, .iconst 0, 1), (240, .ireturn, 1), (241, .iload_n 1, 1), (242, .bipush 60, 2), (244, .if_icmp .ne 19, 3), (247, .iload_n 3, 1), (248, .iconst (-1), 1), (249, .if_icmp .ne 8, 3), (252, .iload_n 2, 1), (253, .ineg, 1), (254, .goto 21, 3), (257, .iload_n 2, 1), (258, .iload_n 3, 1), (259, .idiv, 1), (260, .goto 15, 3), (263, .iload_n 3, 1), (264, .iconst (-1), 1), (265, .if_icmp .ne 7, 3), (268, .iconst 0, 1), (269, .goto 6, 3), (272, .iload_n 2, 1), (273, .iload_n 3, 1), (274, .irem, 1), (275, .ireturn, 1)] = true := by decide +kernel
set_option maxRecDepth 100000 in
theorem dt_failThread : dck cX12_failThread [(0, .aload_n 0, 1), (1, .getfield 151, 3), (4, .iload_n 1, 1), (5, .iconst 3, 1), (6, .iastore, 1), (7, .aload_n 0, 1), (8, .getfield 157, 3), (11, .iload_n 1, 1), (12, .iload_n 2, 1), (13, .iastore, 1), (14, .aload_n 0, 1), (15, .getfield 163, 3), (18, .iload_n 1, 1), (19, .iconst 0, 1), (20, .iastore, 1), (21, .aload_n 0, 1), (22, .getfield 166, 3), (25, .iload_n 1, 1), (26, .iconst 0, 1), (27, .iastore, 1), (28, .return_, 1)] = true := by decide +kernel
set_option maxRecDepth 100000 in
theorem dt_clean : dck cX12_clean [(0, .aload_n 0, 1), (1, .getfield 151, 3), (4, .iload_n 1, 1), (5, .iaload, 1), (6, .iconst 1, 1), (7, .if_icmp .eq 13, 3), (10, .aload_n 0, 1), (11, .getfield 151, 3), (14, .iload_n 1, 1), (15, .iaload, 1), (16, .iconst 3, 1), (17, .if_icmp .ne 17, 3), (20, .aload_n 0, 1), (21, .getfield 127, 3), (24, .aload_n 0, 1), (25, .getfield 154, 3), (28, .iload_n 1, 1), (29, .iaload, 1), (30, .iaload, 1), (31, .goto 4, 3), (34, .iconst 0, 1), (35, .istore_n 2, 1), (36, .iconst 0, 1), (37, .istore_n 3, 1), (38, .iload_n 3, 1), (39, .bipush 8, 2), (41, .if_icmp .ge 29, 3), (44, .iload_n 2, 1), (45, .iload_n 3, 1), (46, .ishr, 1), (47, .iconst 1, 1), (48, .iand, 1), (49, .ifCond .ne 15, 3), (52, .aload_n 0, 1), (53, .getfield 160, 3), (56, .bipush 8, 2), (58, .iload_n 1, 1), (59, .imul, 1), (60, .iload_n 3, 1), (61, .iadd, 1), (62, .iconst 0, 1), (63, .iastore, 1), (64, .iinc 3 1, 3), (67, .goto (-29), 3), (70, .aload_n 0, 1), (71, .getfield 151, 3), (74, .iload_n 1, 1), (75, .iaload, 1), (76, .ifCond .eq 13, 3), (79, .aload_n 0, 1), (80, .getfield 151, 3), (83, .iload_n 1, 1), (84, .iaload, 1), (85, .iconst 2, 1), (86, .if_icmp .ne 10, 3), (89, .aload_n 0, 1), (90, .getfield 154, 3), (93, .iload_n 1, 1), (94, .iconst 0, 1), (95, .iastore, 1), (96, .return_, 1)] = true := by decide +kernel
set_option maxRecDepth 100000 in
theorem dt_own : dck cX12_own [(0, .iconst 0, 1), (1, .istore_n 2, 1), (2, .aload_n 0, 1), (3, .getfield 151, 3), (6, .iload_n 1, 1), (7, .iaload, 1), (8, .iconst 1, 1), (9, .if_icmp .ne 255, 3), (12, .aload_n 0, 1), (13, .getfield 103, 3), (16, .aload_n 0, 1), (17, .getfield 154, 3), (20, .iload_n 1, 1), (21, .iaload, 1), (22, .iaload, 1), (23, .bipush 6, 2), (25, .if_icmp .eq 239, 3), (28, .aload_n 0, 1), (29, .getfield 154, 3), (32, .iload_n 1, 1), (33, .iaload, 1), (34, .istore_n 3, 1), (35, .aload_n 0, 1), (36, .getfield 103, 3), (39, .iload_n 3, 1), (40, .iaload, 1), (41, .istore 4, 2), (43, .iload 4, 2), (45, .iconst 3, 1), (46, .if_icmp .ne 18, 3), (49, .aload_n 0, 1), (50, .getfield 154, 3), (53, .iload_n 1, 1), (54, .aload_n 0, 1), (55, .getfield 124, 3), (58, .iload_n 3, 1), (59, .iaload, 1), (60, .iastore, 1), (61, .goto (-59), 3), (64, .iload 4, 2), (66, .iconst 5, 1), (67, .if_icmp .ne 13, 3), (70, .aload_n 0, 1), (71, .getfield 151, 3), (74, .iload_n 1, 1), (75, .iconst 2, 1), (76, .iastore, 1), (77, .goto (-75), 3), (80, .iinc 2 1, 3), (83, .iload_n 2, 1), (84, .sipush 300, 3), (87, .if_icmp .le 13, 3), (90, .aload_n 0, 1), (91, .iload_n 1, 1), (92, .bipush 6, 2), (94, .invokevirtual 590, 3), (97, .goto (-95), 3), (100, .aload_n 0, 1), (101, .getfield 118, 3), (104, .iload_n 3, 1), (105, .iaload, 1), (106, .iconst (-1), 1), (107, .if_icmp .ne 7, 3), (110, .iconst 0, 1), (111, .goto 14, 3), (114, .aload_n 0, 1), (115, .aload_n 0, 1), (116, .getfield 118, 3), (119, .iload_n 3, 1), (120, .iaload, 1), (121, .iload_n 1, 1), (122, .invokevirtual 593, 3), (125, .istore 5, 2), (127, .aload_n 0, 1), (128, .getfield 118, 3), (131, .iload_n 3, 1), (132, .iaload, 1), (133, .iconst (-1), 1), (134, .if_icmp .eq 19, 3), (137, .aload_n 0, 1), (138, .getfield 581, 3), (141, .ifCond .le 12, 3), (144, .aload_n 0, 1), (145, .iload_n 1, 1), (146, .iconst 1, 1), (147, .invokevirtual 590, 3), (150, .goto (-148), 3), (153, .iload 4, 2), (155, .ifCond .ne 34, 3), (158, .aload_n 0, 1), (159, .getfield 160, 3), (162, .bipush 8, 2), (164, .iload_n 1, 1), (165, .imul, 1), (166, .aload_n 0, 1), (167, .getfield 124, 3), (170, .iload_n 3, 1), (171, .iaload, 1), (172, .iadd, 1), (173, .iload 5, 2), (175, .iastore, 1), (176, .aload_n 0, 1), (177, .getfield 154, 3), (180, .iload_n 1, 1), (181, .dup2, 1), (182, .iaload, 1), (183, .iconst 1, 1), (184, .iadd, 1), (185, .iastore, 1), (186, .goto 75, 3), (189, .iload 4, 2), (191, .iconst 2, 1), (192, .if_icmp .ne 29, 3), (195, .aload_n 0, 1), (196, .getfield 154, 3), (199, .iload_n 1, 1), (200, .iload 5, 2), (202, .ifCond .eq 9, 3), (205, .iload_n 3, 1), (206, .iconst 1, 1), (207, .iadd, 1), (208, .goto 9, 3), (211, .aload_n 0, 1), (212, .getfield 124, 3), (215, .iload_n 3, 1), (216, .iaload, 1), (217, .iastore, 1), (218, .goto 43, 3), (221, .iload 4, 2), (223, .iconst 1, 1), (224, .if_icmp .ne 30, 3), (227, .iload 5, 2), (229, .ifCond .ne 12, 3), (232, .aload_n 0, 1), (233, .iload_n 1, 1), (234, .iconst 5, 1), (235, .invokevirtual 590, 3), (238, .goto 23, 3), (241, .aload_n 0, 1), (242, .getfield 154, 3), (245, .iload_n 1, 1), (246, .dup2, 1), (247, .iaload, 1), (248, .iconst 1, 1), (249, .iadd, 1), (250, .iastore, 1), (251, .goto 10, 3), (254, .aload_n 0, 1), (255, .getfield 151, 3), (258, .iload_n 1, 1), (259, .iconst 2, 1), (260, .iastore, 1), (261, .goto (-259), 3), (264, .aload_n 0, 1), (265, .iload_n 1, 1), (266, .invokevirtual 596, 3), (269, .return_, 1)] = true := by decide +kernel
end
