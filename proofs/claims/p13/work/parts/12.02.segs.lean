set_option maxRecDepth 100000 in
theorem dt_readBlock : dck cX12_readBlock [(0, .aload_n 0, 1), (1, .getfield 372, 3), (4, .istore_n 1, 1), (5, .aload_n 0, 1), (6, .bipush 63, 2), (8, .invokevirtual 382, 3), (11, .iconst (-1), 1), (12, .istore_n 2, 1), (13, .iconst (-1), 1), (14, .istore_n 3, 1), (15, .aload_n 0, 1), (16, .getfield 366, 3), (19, .ifCond .ne 62, 3), (22, .aload_n 0, 1), (23, .invokevirtual 389, 3), (26, .bipush 64, 2), (28, .if_icmp .eq 53, 3), (31, .aload_n 0, 1), (32, .invokevirtual 424, 3), (35, .ifCond .ne 15, 3), (38, .aload_n 0, 1), (39, .iconst 2, 1), (40, .aload_n 0, 1), (41, .getfield 372, 3), (44, .invokevirtual 375, 3), (47, .goto (-32), 3), (50, .aload_n 0, 1), (51, .invokevirtual 427, 3), (54, .istore 4, 2), (56, .iload_n 3, 1), (57, .iconst (-1), 1), (58, .if_icmp .ne 9, 3), (61, .iload 4, 2), (63, .istore_n 2, 1), (64, .goto 11, 3), (67, .aload_n 0, 1), (68, .getfield 48, 3), (71, .iload_n 3, 1), (72, .iload 4, 2), (74, .iastore, 1), (75, .iload 4, 2), (77, .istore_n 3, 1), (78, .goto (-63), 3), (81, .aload_n 0, 1), (82, .bipush 64, 2), (84, .invokevirtual 382, 3), (87, .aload_n 0, 1), (88, .bipush 32, 2), (90, .iload_n 2, 1), (91, .iconst 0, 1), (92, .iconst 0, 1), (93, .iload_n 1, 1), (94, .invokevirtual 404, 3), (97, .ireturn, 1)] = true := by decide +kernel
set_option maxRecDepth 100000 in
set_option maxHeartbeats 4000000 in
theorem sg_readBlock_0 {G : mG} {d : Nat} {x : gd} {P : Option gv → gd → Prop} 
    (h : MT G d z_pass 0 [(0, vr 0), (1, vi 63)] [] x (rv (fun x1 => MT G (d + 1) z_readBlock 15 [(0, vr 0), (1, vi (x.1 0 8)), (2, vi (-1)), (3, vi (-1))] [] x1 P))) :
    MT G (d + 1) z_readBlock 0 [(0, vr 0)] [] x P := by
  refine T_aload_n 0 (dk dt_readBlock 0 rfl) rfl rfl ?_
  refine T_getI 0 8 (dk dt_readBlock 1 rfl) fl_372 mk_0 ml_0 (by decide) rfl ?_
  refine T_istore_n (lv2 := [(1, vi (x.1 0 8)), (0, vr 0)]) (dk dt_readBlock 2 rfl) rfl (by decide) rfl ?_
  refine T_aload_n 1 (dk dt_readBlock 3 rfl) rfl rfl ?_
  refine T_bipush (v := 63) (dk dt_readBlock 4 rfl) (by decide +kernel) ?_
  refine MT_callVv [vi 63] [] rfl (dk dt_readBlock 5 rfl) cv_382 rfl rfl (Nat.le_of_ble_eq_true rfl) (Nat.le_of_ble_eq_true rfl) rfl rfl h (fun x1 h => ?_)
  refine T_iconst (v := (-1)) (dk dt_readBlock 6 rfl) (by decide +kernel) ?_
  refine T_istore_n (lv2 := [(2, vi (-1)), (1, vi (x.1 0 8)), (0, vr 0)]) (dk dt_readBlock 7 rfl) rfl (by decide) rfl ?_
  refine T_iconst (v := (-1)) (dk dt_readBlock 8 rfl) (by decide +kernel) ?_
  refine T_istore_n (lv2 := [(3, vi (-1)), (2, vi (-1)), (1, vi (x.1 0 8)), (0, vr 0)]) (dk dt_readBlock 9 rfl) rfl (by decide) rfl ?_
  exact T_sub [3, 2, 1, 0] rfl h
set_option maxRecDepth 100000 in
set_option maxHeartbeats 4000000 in
theorem sg_readBlock_15 {G : mG} {d : Nat} {x : gd} {P : Option gv → gd → Prop} (l1 : Int32) (l2 : Int32) (l3 : Int32)
    (h : ((¬ ((x.1 0 9) = (0 : Int32)) → MT G (d + 1) z_readBlock 81 [(0, vr 0), (1, vi l1), (2, vi l2)] [] x P) ∧ ((x.1 0 9) = (0 : Int32) → MT G d z_here 0 [(0, vr 0)] [] x (ri (fun r3 x2 => ((r3 = (64 : Int32) → MT G (d + 1) z_readBlock 81 [(0, vr 0), (1, vi l1), (2, vi l2)] [] x2 P) ∧ (¬ (r3 = (64 : Int32)) → MT G d z_beginsS 0 [(0, vr 0)] [] x2 (ri (fun r6 x5 => ((¬ (r6 = (0 : Int32)) → MT G d z_readS 0 [(0, vr 0)] [] x5 (ri (fun r9 x8 => ((¬ (l3 = (-1 : Int32)) → vp_in l3 3000 ∧ (∀ x12 : gd, x12 = si x8 20 (l3 : Int32).toNatClampNeg r9 → MT G (d + 1) z_readBlock 15 [(0, vr 0), (1, vi l1), (2, vi l2), (3, vi r9)] [] x12 P)) ∧ (l3 = (-1 : Int32) → MT G (d + 1) z_readBlock 15 [(0, vr 0), (1, vi l1), (2, vi r9), (3, vi r9)] [] x8 P))))) ∧ (r6 = (0 : Int32) → MT G d z_fault 0 [(0, vr 0), (1, vi 2), (2, vi (x5.1 0 8))] [] x5 (rv (fun x13 => MT G (d + 1) z_readBlock 15 [(0, vr 0), (1, vi l1), (2, vi l2), (3, vi l3)] [] x13 P))))))))))))) :
    MT G (d + 1) z_readBlock 15 [(0, vr 0), (1, vi l1), (2, vi l2), (3, vi l3)] [] x P := by
  refine T_aload_n 0 (dk dt_readBlock 10 rfl) rfl rfl ?_
  refine T_getI 0 9 (dk dt_readBlock 11 rfl) fl_366 mk_0 ml_0 (by decide) rfl ?_
  refine T_if_ne 81 (dk dt_readBlock 12 rfl) (by decide) (fun c1 => ?_) (fun c1 => ?_)
  · have h := h.1 c1
    exact T_sub [0, 1, 2] rfl h
  · have h := h.2 c1
    refine T_aload_n 0 (dk dt_readBlock 13 rfl) rfl rfl ?_
    refine MT_callVi [] [] rfl (dk dt_readBlock 14 rfl) cv_389 rfl rfl (Nat.le_of_ble_eq_true rfl) (Nat.le_of_ble_eq_true rfl) rfl rfl h (fun r3 x2 h => ?_)
    refine T_bipush (v := 64) (dk dt_readBlock 15 rfl) (by decide +kernel) ?_
    refine T_icmp_eq 81 (dk dt_readBlock 16 rfl) (by decide) (fun c4 => ?_) (fun c4 => ?_)
    · have h := h.1 c4
      exact T_sub [0, 1, 2] rfl h
    · have h := h.2 c4
      refine T_aload_n 0 (dk dt_readBlock 17 rfl) rfl rfl ?_
      refine MT_callVi [] [] rfl (dk dt_readBlock 18 rfl) cv_424 rfl rfl (Nat.le_of_ble_eq_true rfl) (Nat.le_of_ble_eq_true rfl) rfl rfl h (fun r6 x5 h => ?_)
      refine T_if_ne 50 (dk dt_readBlock 19 rfl) (by decide) (fun c7 => ?_) (fun c7 => ?_)
      · have h := h.1 c7
        refine T_aload_n 0 (dk dt_readBlock 26 rfl) rfl rfl ?_
        refine MT_callVi [] [] rfl (dk dt_readBlock 27 rfl) cv_427 rfl rfl (Nat.le_of_ble_eq_true rfl) (Nat.le_of_ble_eq_true rfl) rfl rfl h (fun r9 x8 h => ?_)
        refine T_istore (lv2 := [(4, vi r9), (0, vr 0), (1, vi l1), (2, vi l2), (3, vi l3)]) (dk dt_readBlock 28 rfl) (by decide) rfl ?_
        refine T_iload_n 4 (dk dt_readBlock 29 rfl) rfl rfl ?_
        refine T_iconst (v := (-1)) (dk dt_readBlock 30 rfl) (by decide +kernel) ?_
        refine T_icmp_ne 67 (dk dt_readBlock 31 rfl) (by decide) (fun c10 => ?_) (fun c10 => ?_)
        · have h := h.1 c10
          refine T_aload_n 1 (dk dt_readBlock 35 rfl) rfl rfl ?_
          refine T_getR 0 19 20 (dk dt_readBlock 36 rfl) fl_48 mk_0 ml_0 (by decide) rfl rfl ?_
          refine T_iload_n 4 (dk dt_readBlock 37 rfl) rfl rfl ?_
          refine T_iload 0 (dk dt_readBlock 38 rfl) rfl ?_
          obtain ⟨h11, h⟩ := h
          obtain ⟨x12, ex12⟩ : ∃ z, z = si x8 20 (l3 : Int32).toNatClampNeg r9 := ⟨_, rfl⟩
          have h := h x12 ex12
          refine T_iast 20 3000 (dk dt_readBlock 39 rfl) mk_20 ml_20 h11 ?_
          rw [← ex12]
          refine T_iload 0 (dk dt_readBlock 40 rfl) rfl ?_
          refine T_istore_n (lv2 := [(3, vi r9), (4, vi r9), (0, vr 0), (1, vi l1), (2, vi l2)]) (dk dt_readBlock 41 rfl) rfl (by decide) rfl ?_
          refine T_goto 15 (dk dt_readBlock 42 rfl) (by decide) ?_
          exact T_sub [2, 3, 4, 0] rfl h
        · have h := h.2 c10
          refine T_iload 0 (dk dt_readBlock 32 rfl) rfl ?_
          refine T_istore_n (lv2 := [(2, vi r9), (4, vi r9), (0, vr 0), (1, vi l1), (3, vi l3)]) (dk dt_readBlock 33 rfl) rfl (by decide) rfl ?_
          refine T_goto 75 (dk dt_readBlock 34 rfl) (by decide) ?_
          refine T_iload 1 (dk dt_readBlock 40 rfl) rfl ?_
          refine T_istore_n (lv2 := [(3, vi r9), (2, vi r9), (4, vi r9), (0, vr 0), (1, vi l1)]) (dk dt_readBlock 41 rfl) rfl (by decide) rfl ?_
          refine T_goto 15 (dk dt_readBlock 42 rfl) (by decide) ?_
          exact T_sub [3, 4, 1, 0] rfl h
      · have h := h.2 c7
        refine T_aload_n 0 (dk dt_readBlock 20 rfl) rfl rfl ?_
        refine T_iconst (v := 2) (dk dt_readBlock 21 rfl) (by decide +kernel) ?_
        refine T_aload_n 0 (dk dt_readBlock 22 rfl) rfl rfl ?_
        refine T_getI 0 8 (dk dt_readBlock 23 rfl) fl_372 mk_0 ml_0 (by decide) rfl ?_
        refine MT_callVv [vi 2, vi (x5.1 0 8)] [] rfl (dk dt_readBlock 24 rfl) cv_375 rfl rfl (Nat.le_of_ble_eq_true rfl) (Nat.le_of_ble_eq_true rfl) rfl rfl h (fun x13 h => ?_)
        refine T_goto 15 (dk dt_readBlock 25 rfl) (by decide) ?_
        exact h
set_option maxRecDepth 100000 in
set_option maxHeartbeats 4000000 in
theorem sg_readBlock_81 {G : mG} {d : Nat} {x : gd} {P : Option gv → gd → Prop} (l1 : Int32) (l2 : Int32)
    (h : MT G d z_pass 0 [(0, vr 0), (1, vi 64)] [] x (rv (fun x1 => MT G d z_node 0 [(0, vr 0), (1, vi 32), (2, vi l2), (3, vi 0), (4, vi 0), (5, vi l1)] [] x1 (ri (fun r3 x2 => P (some (vi r3)) x2))))) :
    MT G (d + 1) z_readBlock 81 [(0, vr 0), (1, vi l1), (2, vi l2)] [] x P := by
  refine T_aload_n 0 (dk dt_readBlock 43 rfl) rfl rfl ?_
  refine T_bipush (v := 64) (dk dt_readBlock 44 rfl) (by decide +kernel) ?_
  refine MT_callVv [vi 64] [] rfl (dk dt_readBlock 45 rfl) cv_382 rfl rfl (Nat.le_of_ble_eq_true rfl) (Nat.le_of_ble_eq_true rfl) rfl rfl h (fun x1 h => ?_)
  refine T_aload_n 0 (dk dt_readBlock 46 rfl) rfl rfl ?_
  refine T_bipush (v := 32) (dk dt_readBlock 47 rfl) (by decide +kernel) ?_
  refine T_iload_n 2 (dk dt_readBlock 48 rfl) rfl rfl ?_
  refine T_iconst (v := 0) (dk dt_readBlock 49 rfl) (by decide +kernel) ?_
  refine T_iconst (v := 0) (dk dt_readBlock 50 rfl) (by decide +kernel) ?_
  refine T_iload_n 1 (dk dt_readBlock 51 rfl) rfl rfl ?_
  refine MT_callVi [vi 32, vi l2, vi 0, vi 0, vi l1] [] rfl (dk dt_readBlock 52 rfl) cv_404 rfl rfl (Nat.le_of_ble_eq_true rfl) (Nat.le_of_ble_eq_true rfl) rfl rfl h (fun r3 x2 h => ?_)
  exact MT_iret (dk dt_readBlock 53 rfl) rfl rfl h
set_option maxRecDepth 100000 in
theorem dt_readS : dck cX12_readS [(0, .aload_n 0, 1), (1, .invokevirtual 396, 3), (4, .ifCond .ne 5, 3), (7, .iconst 0, 1), (8, .ireturn, 1), (9, .aload_n 0, 1), (10, .invokevirtual 430, 3), (13, .istore_n 1, 1), (14, .aload_n 0, 1), (15, .dup, 1), (16, .getfield 386, 3), (19, .iconst 1, 1), (20, .isub, 1), (21, .putfield 386, 3), (24, .iload_n 1, 1), (25, .ireturn, 1)] = true := by decide +kernel
set_option maxRecDepth 100000 in
set_option maxHeartbeats 4000000 in
theorem sg_readS_0 {G : mG} {d : Nat} {x : gd} {P : Option gv → gd → Prop} 
    (h : MT G d z_deeper 0 [(0, vr 0)] [] x (ri (fun r2 x1 => ((¬ (r2 = (0 : Int32)) → MT G d z_readOneS 0 [(0, vr 0)] [] x1 (ri (fun r5 x4 => (∀ x6 : gd, x6 = si x4 0 20 ((x4.1 0 20) - 1) → P (some (vi r5)) x6)))) ∧ (r2 = (0 : Int32) → P (some (vi 0)) x1))))) :
    MT G (d + 1) z_readS 0 [(0, vr 0)] [] x P := by
  refine T_aload_n 0 (dk dt_readS 0 rfl) rfl rfl ?_
  refine MT_callVi [] [] rfl (dk dt_readS 1 rfl) cv_396 rfl rfl (Nat.le_of_ble_eq_true rfl) (Nat.le_of_ble_eq_true rfl) rfl rfl h (fun r2 x1 h => ?_)
  refine T_if_ne 9 (dk dt_readS 2 rfl) (by decide) (fun c3 => ?_) (fun c3 => ?_)
  · have h := h.1 c3
    refine T_aload_n 0 (dk dt_readS 5 rfl) rfl rfl ?_
    refine MT_callVi [] [] rfl (dk dt_readS 6 rfl) cv_430 rfl rfl (Nat.le_of_ble_eq_true rfl) (Nat.le_of_ble_eq_true rfl) rfl rfl h (fun r5 x4 h => ?_)
    refine T_istore_n (lv2 := [(1, vi r5), (0, vr 0)]) (dk dt_readS 7 rfl) rfl (by decide) rfl ?_
    refine T_aload_n 1 (dk dt_readS 8 rfl) rfl rfl ?_
    refine T_dup (dk dt_readS 9 rfl) rfl ?_
    refine T_getI 0 20 (dk dt_readS 10 rfl) fl_386 mk_0 ml_0 (by decide) rfl ?_
    refine T_iconst (v := 1) (dk dt_readS 11 rfl) (by decide +kernel) ?_
    refine T_isub (dk dt_readS 12 rfl) ?_
    obtain ⟨x6, ex6⟩ : ∃ z, z = si x4 0 20 ((x4.1 0 20) - 1) := ⟨_, rfl⟩
    have h := h x6 ex6
    refine T_putI 0 20 (dk dt_readS 13 rfl) fl_386 mk_0 ml_0 (by decide) rfl ⟨rfl, rfl⟩ ?_
    rw [← ex6]
    refine T_iload_n 0 (dk dt_readS 14 rfl) rfl rfl ?_
    exact MT_iret (dk dt_readS 15 rfl) rfl rfl h
  · have h := h.2 c3
    refine T_iconst (v := 0) (dk dt_readS 3 rfl) (by decide +kernel) ?_
    exact MT_iret (dk dt_readS 4 rfl) rfl rfl h
set_option maxRecDepth 100000 in
theorem dt_readOneS : dck cX12_readOneS [(0, .aload_n 0, 1), (1, .getfield 372, 3), (4, .istore_n 1, 1), (5, .aload_n 0, 1), (6, .invokevirtual 389, 3), (9, .istore_n 2, 1), (10, .iconst 0, 1), (11, .istore_n 3, 1), (12, .iload_n 2, 1), (13, .tableswitch 532 1 41 #[251, 532, 532, 532, 532, 532, 532, 532, 532, 532, 532, 532, 443, 443, 484, 532, 532, 532, 422, 401, 532, 532, 532, 336, 532, 179, 372, 532, 532, 532, 401, 532, 532, 532, 532, 532, 532, 532, 532, 532, 341], 179), (192, .aload_n 0, 1), (193, .invokevirtual 379, 3), (196, .aload_n 0, 1), (197, .invokevirtual 418, 3), (200, .istore 4, 2), (202, .aload_n 0, 1), (203, .getfield 366, 3), (206, .ifCond .ne 19, 3), (209, .aload_n 0, 1), (210, .getfield 433, 3), (213, .bipush 8, 2), (215, .if_icmp .ne 10, 3), (218, .aload_n 0, 1), (219, .iconst 3, 1), (220, .iload 4, 2), (222, .invokevirtual 375, 3), (225, .aload_n 0, 1), (226, .dup, 1), (227, .getfield 433, 3), (230, .iconst 1, 1), (231, .iadd, 1), (232, .putfield 433, 3), (235, .aload_n 0, 1), (236, .bipush 50, 2), (238, .invokevirtual 382, 3), (241, .aload_n 0, 1), (242, .bipush 20, 2), (244, .iload 4, 2), (246, .aload_n 0, 1), (247, .invokevirtual 436, 3), (250, .iconst 0, 1), (251, .iload_n 1, 1), (252, .invokevirtual 404, 3), (255, .istore_n 3, 1), (256, .aload_n 0, 1), (257, .bipush 67, 2), (259, .invokevirtual 382, 3), (262, .iload_n 3, 1), (263, .ireturn, 1), (264, .aload_n 0, 1), (265, .invokevirtual 379, 3), (268, .aload_n 0, 1), (269, .bipush 65, 2), (271, .invokevirtual 415, 3), (274, .ifCond .eq 47, 3), (277, .aload_n 0, 1), (278, .iconst 0, 1), (279, .iconst 0, 1), (280, .invokevirtual 400, 3), (283, .istore 5, 2), (285, .aload_n 0, 1), (286, .bipush 66, 2), (288, .invokevirtual 382, 3), (291, .aload_n 0, 1), (292, .bipush 50, 2), (294, .invokevirtual 382, 3), (297, .aload_n 0, 1), (298, .iconst 0, 1), (299, .iconst 0, 1), (300, .invokevirtual 400, 3), (303, .istore 6, 2), (305, .aload_n 0, 1), (306, .bipush 22, 2), (308, .iload_n 1, 1), (309, .iload 5, 2), (311, .iload 6, 2), (313, .iload_n 1, 1), (314, .invokevirtual 404, 3), (317, .istore_n 3, 1), (318, .goto 23, 3), (321, .aload_n 0, 1), (322, .bipush 50, 2), (324, .invokevirtual 382, 3), (327, .aload_n 0, 1), (328, .bipush 21, 2), (330, .iload_n 1, 1), (331, .aload_n 0, 1), (332, .invokevirtual 436, 3), (335, .iconst 0, 1), (336, .iload_n 1, 1), (337, .invokevirtual 404, 3), (340, .istore_n 3, 1), (341, .aload_n 0, 1), (342, .bipush 67, 2), (344, .invokevirtual 382, 3), (347, .iload_n 3, 1), (348, .ireturn, 1), (349, .aload_n 0, 1), (350, .invokevirtual 439, 3), (353, .ireturn, 1), (354, .aload_n 0, 1), (355, .invokevirtual 379, 3), (358, .aload_n 0, 1), (359, .iconst 0, 1), (360, .iconst 0, 1), (361, .invokevirtual 400, 3), (364, .istore 5, 2), (366, .aload_n 0, 1), (367, .invokevirtual 442, 3), (370, .istore 6, 2), (372, .aload_n 0, 1), (373, .bipush 24, 2), (375, .iload 5, 2), (377, .iload 6, 2), (379, .iconst 0, 1), (380, .iload_n 1, 1), (381, .invokevirtual 404, 3), (384, .ireturn, 1), (385, .aload_n 0, 1), (386, .invokevirtual 379, 3), (389, .aload_n 0, 1), (390, .invokevirtual 418, 3), (393, .istore 7, 2), (395, .aload_n 0, 1), (396, .invokevirtual 442, 3), (399, .istore 8, 2), (401, .aload_n 0, 1), (402, .bipush 25, 2), (404, .iload 7, 2), (406, .iload 8, 2), (408, .iconst 0, 1), (409, .iload_n 1, 1), (410, .invokevirtual 404, 3), (413, .ireturn, 1), (414, .aload_n 0, 1), (415, .invokevirtual 379, 3), (418, .aload_n 0, 1), (419, .bipush 67, 2), (421, .invokevirtual 382, 3), (424, .aload_n 0, 1), (425, .bipush 27, 2), (427, .iload_n 2, 1), (428, .iconst 0, 1), (429, .iconst 0, 1), (430, .iload_n 1, 1), (431, .invokevirtual 404, 3), (434, .ireturn, 1), (435, .aload_n 0, 1), (436, .invokevirtual 379, 3), (439, .aload_n 0, 1), (440, .bipush 67, 2), (442, .invokevirtual 382, 3), (445, .aload_n 0, 1), (446, .bipush 31, 2), (448, .iconst 0, 1), (449, .iconst 0, 1), (450, .iconst 0, 1), (451, .iload_n 1, 1), (452, .invokevirtual 404, 3), (455, .ireturn, 1), (456, .aload_n 0, 1), (457, .invokevirtual 379, 3), (460, .aload_n 0, 1), (461, .iconst 0, 1), (462, .iconst 0, 1), (463, .invokevirtual 400, 3), (466, .istore 9, 2), (468, .aload_n 0, 1), (469, .bipush 67, 2), (471, .invokevirtual 382, 3), (474, .aload_n 0, 1), (475, .iload_n 2, 1), (476, .bipush 13, 2), (478, .if_icmp .ne 8, 3), (481, .bipush 28, 2), (483, .goto 5, 3), (486, .bipush 30, 2), (488, .iload 9, 2), (490, .iconst 0, 1), (491, .iconst 0, 1), (492, .iload_n 1, 1), (493, .invokevirtual 404, 3), (496, .ireturn, 1), (497, .aload_n 0, 1), (498, .invokevirtual 379, 3), (501, .aload_n 0, 1), (502, .getfield 372, 3), (505, .istore 10, 2), (507, .aload_n 0, 1), (508, .iconst 2, 1), (509, .invokevirtual 382, 3), (512, .aload_n 0, 1), (513, .bipush 68, 2), (515, .invokevirtual 382, 3), (518, .aload_n 0, 1), (519, .iconst 0, 1), (520, .iconst 0, 1), (521, .invokevirtual 400, 3), (524, .istore 11, 2), (526, .aload_n 0, 1), (527, .bipush 67, 2), (529, .invokevirtual 382, 3), (532, .aload_n 0, 1), (533, .bipush 29, 2), (535, .iload 10, 2), (537, .iload 11, 2), (539, .iconst 0, 1), (540, .iload_n 1, 1), (541, .invokevirtual 404, 3), (544, .ireturn, 1), (545, .aload_n 0, 1), (546, .invokevirtual 379, 3), (549, .aload_n 0, 1), (550, .invokevirtual 418, 3), (553, .istore 12, 2), (555, .aload_n 0, 1), (556, .bipush 67, 2), (558, .invokevirtual 382, 3), (561, .aload_n 0, 1), (562, .bipush 26, 2), (564, .iload_n 2, 1), (565, .iload 12, 2), (567, .iconst 0, 1), (568, .iload_n 1, 1), (569, .invokevirtual 404, 3), (572, .ireturn, 1)] = true := by decide +kernel
set_option maxRecDepth 100000 in
set_option maxHeartbeats 4000000 in
theorem sg_readOneS_0 {G : mG} {d : Nat} {x : gd} {P : Option gv → gd → Prop} 
    (h : MT G d z_here 0 [(0, vr 0)] [] x (ri (fun r2 x1 => (((r2 = 26) → MT G d z_step 0 [(0, vr 0)] [] x1 (rv (fun x4 => MT G d z_passName 0 [(0, vr 0)] [] x4 (ri (fun r6 x5 => ((¬ ((x5.1 0 9) = (0 : Int32)) → MT G (d + 1) z_readOneS 225 [(0, vr 0), (1, vi (x.1 0 8)), (4, vi r6)] [] x5 P) ∧ ((x5.1 0 9) = (0 : Int32) → ((¬ ((x5.1 0 21) = (8 : Int32)) → MT G (d + 1) z_readOneS 225 [(0, vr 0), (1, vi (x.1 0 8)), (4, vi r6)] [] x5 P) ∧ ((x5.1 0 21) = (8 : Int32) → MT G d z_fault 0 [(0, vr 0), (1, vi 3), (2, vi r6)] [] x5 (rv (fun x9 => MT G (d + 1) z_readOneS 225 [(0, vr 0), (1, vi (x.1 0 8)), (4, vi r6)] [] x9 P))))))))))) ∧ ((r2 = 1) → MT G d z_step 0 [(0, vr 0)] [] x1 (rv (fun x11 => MT G d z_take 0 [(0, vr 0), (1, vi 65)] [] x11 (ri (fun r13 x12 => ((r13 = (0 : Int32) → MT G d z_pass 0 [(0, vr 0), (1, vi 50)] [] x12 (rv (fun x15 => MT G d z_readR 0 [(0, vr 0)] [] x15 (ri (fun r17 x16 => MT G d z_node 0 [(0, vr 0), (1, vi 21), (2, vi (x.1 0 8)), (3, vi r17), (4, vi 0), (5, vi (x.1 0 8))] [] x16 (ri (fun r19 x18 => MT G (d + 1) z_readOneS 341 [(0, vr 0), (3, vi r19)] [] x18 P))))))) ∧ (¬ (r13 = (0 : Int32)) → MT G d z_readE 0 [(0, vr 0), (1, vi 0), (2, vi 0)] [] x12 (ri (fun r21 x20 => MT G d z_pass 0 [(0, vr 0), (1, vi 66)] [] x20 (rv (fun x22 => MT G d z_pass 0 [(0, vr 0), (1, vi 50)] [] x22 (rv (fun x23 => MT G d z_readE 0 [(0, vr 0), (1, vi 0), (2, vi 0)] [] x23 (ri (fun r25 x24 => MT G d z_node 0 [(0, vr 0), (1, vi 22), (2, vi (x.1 0 8)), (3, vi r21), (4, vi r25), (5, vi (x.1 0 8))] [] x24 (ri (fun r27 x26 => MT G (d + 1) z_readOneS 341 [(0, vr 0), (3, vi r27)] [] x26 P))))))))))))))))) ∧ ((r2 = 24) → MT G d z_readIf 0 [(0, vr 0)] [] x1 (ri (fun r30 x29 => P (some (vi r30)) x29))) ∧ ((r2 = 41) → MT G d z_step 0 [(0, vr 0)] [] x1 (rv (fun x32 => MT G d z_readE 0 [(0, vr 0), (1, vi 0), (2, vi 0)] [] x32 (ri (fun r34 x33 => MT G d z_readBlock 0 [(0, vr 0)] [] x33 (ri (fun r36 x35 => MT G d z_node 0 [(0, vr 0), (1, vi 24), (2, vi r34), (3, vi r36), (4, vi 0), (5, vi (x.1 0 8))] [] x35 (ri (fun r38 x37 => P (some (vi r38)) x37))))))))) ∧ ((r2 = 27) → MT G d z_step 0 [(0, vr 0)] [] x1 (rv (fun x40 => MT G d z_passName 0 [(0, vr 0)] [] x40 (ri (fun r42 x41 => MT G d z_readBlock 0 [(0, vr 0)] [] x41 (ri (fun r44 x43 => MT G d z_node 0 [(0, vr 0), (1, vi 25), (2, vi r42), (3, vi r44), (4, vi 0), (5, vi (x.1 0 8))] [] x43 (ri (fun r46 x45 => P (some (vi r46)) x45))))))))) ∧ ((r2 = 20 ∨ r2 = 31) → MT G d z_step 0 [(0, vr 0)] [] x1 (rv (fun x48 => MT G d z_pass 0 [(0, vr 0), (1, vi 67)] [] x48 (rv (fun x49 => MT G d z_node 0 [(0, vr 0), (1, vi 27), (2, vi r2), (3, vi 0), (4, vi 0), (5, vi (x.1 0 8))] [] x49 (ri (fun r51 x50 => P (some (vi r51)) x50))))))) ∧ ((r2 = 19) → MT G d z_step 0 [(0, vr 0)] [] x1 (rv (fun x53 => MT G d z_pass 0 [(0, vr 0), (1, vi 67)] [] x53 (rv (fun x54 => MT G d z_node 0 [(0, vr 0), (1, vi 31), (2, vi 0), (3, vi 0), (4, vi 0), (5, vi (x.1 0 8))] [] x54 (ri (fun r56 x55 => P (some (vi r56)) x55))))))) ∧ ((r2 = 13 ∨ r2 = 14) → MT G d z_step 0 [(0, vr 0)] [] x1 (rv (fun x58 => MT G d z_readE 0 [(0, vr 0), (1, vi 0), (2, vi 0)] [] x58 (ri (fun r60 x59 => MT G d z_pass 0 [(0, vr 0), (1, vi 67)] [] x59 (rv (fun x61 => ((¬ (r2 = (13 : Int32)) → MT G (d + 1) z_readOneS 488 [(0, vr 0), (1, vi (x.1 0 8)), (9, vi r60)] [vi 30, vr 0] x61 P) ∧ (r2 = (13 : Int32) → MT G (d + 1) z_readOneS 488 [(0, vr 0), (1, vi (x.1 0 8)), (9, vi r60)] [vi 28, vr 0] x61 P))))))))) ∧ ((r2 = 15) → MT G d z_step 0 [(0, vr 0)] [] x1 (rv (fun x64 => MT G d z_pass 0 [(0, vr 0), (1, vi 2)] [] x64 (rv (fun x65 => MT G d z_pass 0 [(0, vr 0), (1, vi 68)] [] x65 (rv (fun x66 => MT G d z_readE 0 [(0, vr 0), (1, vi 0), (2, vi 0)] [] x66 (ri (fun r68 x67 => MT G d z_pass 0 [(0, vr 0), (1, vi 67)] [] x67 (rv (fun x69 => MT G d z_node 0 [(0, vr 0), (1, vi 29), (2, vi (x64.1 0 8)), (3, vi r68), (4, vi 0), (5, vi (x.1 0 8))] [] x69 (ri (fun r71 x70 => P (some (vi r71)) x70))))))))))))) ∧ ((∀ k ∈ [(26 : Int32), (1 : Int32), (24 : Int32), (41 : Int32), (27 : Int32), (20 : Int32), (31 : Int32), (19 : Int32), (13 : Int32), (14 : Int32), (15 : Int32)], ¬ r2 = k) → MT G d z_step 0 [(0, vr 0)] [] x1 (rv (fun x73 => MT G d z_passName 0 [(0, vr 0)] [] x73 (ri (fun r75 x74 => MT G d z_pass 0 [(0, vr 0), (1, vi 67)] [] x74 (rv (fun x76 => MT G d z_node 0 [(0, vr 0), (1, vi 26), (2, vi r2), (3, vi r75), (4, vi 0), (5, vi (x.1 0 8))] [] x76 (ri (fun r78 x77 => P (some (vi r78)) x77))))))))))))) :
    MT G (d + 1) z_readOneS 0 [(0, vr 0)] [] x P := by
  refine T_aload_n 0 (dk dt_readOneS 0 rfl) rfl rfl ?_
  refine T_getI 0 8 (dk dt_readOneS 1 rfl) fl_372 mk_0 ml_0 (by decide) rfl ?_
  refine T_istore_n (lv2 := [(1, vi (x.1 0 8)), (0, vr 0)]) (dk dt_readOneS 2 rfl) rfl (by decide) rfl ?_
  refine T_aload_n 1 (dk dt_readOneS 3 rfl) rfl rfl ?_
  refine MT_callVi [] [] rfl (dk dt_readOneS 4 rfl) cv_389 rfl rfl (Nat.le_of_ble_eq_true rfl) (Nat.le_of_ble_eq_true rfl) rfl rfl h (fun r2 x1 h => ?_)
  refine T_istore_n (lv2 := [(2, vi r2), (1, vi (x.1 0 8)), (0, vr 0)]) (dk dt_readOneS 5 rfl) rfl (by decide) rfl ?_
  refine T_iconst (v := 0) (dk dt_readOneS 6 rfl) (by decide +kernel) ?_
  refine T_istore_n (lv2 := [(3, vi 0), (2, vi r2), (1, vi (x.1 0 8)), (0, vr 0)]) (dk dt_readOneS 7 rfl) rfl (by decide) rfl ?_
  refine T_iload_n 1 (dk dt_readOneS 8 rfl) rfl rfl ?_
  by_cases c3 : r2 = 26
  · have h := h.1 c3
    refine T_table 179 192 (dk dt_readOneS 9 rfl) (by decide) (by rw [c3]; decide +kernel) (by decide) ?_
    refine T_aload_n 3 (dk dt_readOneS 10 rfl) rfl rfl ?_
    refine MT_callVv [] [] rfl (dk dt_readOneS 11 rfl) cv_379 rfl rfl (Nat.le_of_ble_eq_true rfl) (Nat.le_of_ble_eq_true rfl) rfl rfl h (fun x4 h => ?_)
    refine T_aload_n 3 (dk dt_readOneS 12 rfl) rfl rfl ?_
    refine MT_callVi [] [] rfl (dk dt_readOneS 13 rfl) cv_418 rfl rfl (Nat.le_of_ble_eq_true rfl) (Nat.le_of_ble_eq_true rfl) rfl rfl h (fun r6 x5 h => ?_)
    refine T_istore (lv2 := [(4, vi r6), (3, vi 0), (2, vi r2), (1, vi (x.1 0 8)), (0, vr 0)]) (dk dt_readOneS 14 rfl) (by decide) rfl ?_
    refine T_aload_n 4 (dk dt_readOneS 15 rfl) rfl rfl ?_
    refine T_getI 0 9 (dk dt_readOneS 16 rfl) fl_366 mk_0 ml_0 (by decide) rfl ?_
    refine T_if_ne 225 (dk dt_readOneS 17 rfl) (by decide) (fun c7 => ?_) (fun c7 => ?_)
    · have h := h.1 c7
      exact T_sub [4, 3, 0] rfl h
    · have h := h.2 c7
      refine T_aload_n 4 (dk dt_readOneS 18 rfl) rfl rfl ?_
      refine T_getI 0 21 (dk dt_readOneS 19 rfl) fl_433 mk_0 ml_0 (by decide) rfl ?_
      refine T_bipush (v := 8) (dk dt_readOneS 20 rfl) (by decide +kernel) ?_
      refine T_icmp_ne 225 (dk dt_readOneS 21 rfl) (by decide) (fun c8 => ?_) (fun c8 => ?_)
      · have h := h.1 c8
        exact T_sub [4, 3, 0] rfl h
      · have h := h.2 c8
        refine T_aload_n 4 (dk dt_readOneS 22 rfl) rfl rfl ?_
        refine T_iconst (v := 3) (dk dt_readOneS 23 rfl) (by decide +kernel) ?_
        refine T_iload 0 (dk dt_readOneS 24 rfl) rfl ?_
        refine MT_callVv [vi 3, vi r6] [] rfl (dk dt_readOneS 25 rfl) cv_375 rfl rfl (Nat.le_of_ble_eq_true rfl) (Nat.le_of_ble_eq_true rfl) rfl rfl h (fun x9 h => ?_)
        exact T_sub [4, 3, 0] rfl h
  · have h := h.2
    by_cases c10 : r2 = 1
    · have h := h.1 c10
      refine T_table 251 264 (dk dt_readOneS 9 rfl) (by decide) (by rw [c10]; decide +kernel) (by decide) ?_
      refine T_aload_n 3 (dk dt_readOneS 49 rfl) rfl rfl ?_
      refine MT_callVv [] [] rfl (dk dt_readOneS 50 rfl) cv_379 rfl rfl (Nat.le_of_ble_eq_true rfl) (Nat.le_of_ble_eq_true rfl) rfl rfl h (fun x11 h => ?_)
      refine T_aload_n 3 (dk dt_readOneS 51 rfl) rfl rfl ?_
      refine T_bipush (v := 65) (dk dt_readOneS 52 rfl) (by decide +kernel) ?_
      refine MT_callVi [vi 65] [] rfl (dk dt_readOneS 53 rfl) cv_415 rfl rfl (Nat.le_of_ble_eq_true rfl) (Nat.le_of_ble_eq_true rfl) rfl rfl h (fun r13 x12 h => ?_)
      refine T_if_eq 321 (dk dt_readOneS 54 rfl) (by decide) (fun c14 => ?_) (fun c14 => ?_)
      · have h := h.1 c14
        refine T_aload_n 3 (dk dt_readOneS 80 rfl) rfl rfl ?_
        refine T_bipush (v := 50) (dk dt_readOneS 81 rfl) (by decide +kernel) ?_
        refine MT_callVv [vi 50] [] rfl (dk dt_readOneS 82 rfl) cv_382 rfl rfl (Nat.le_of_ble_eq_true rfl) (Nat.le_of_ble_eq_true rfl) rfl rfl h (fun x15 h => ?_)
        refine T_aload_n 3 (dk dt_readOneS 83 rfl) rfl rfl ?_
        refine T_bipush (v := 21) (dk dt_readOneS 84 rfl) (by decide +kernel) ?_
        refine T_iload_n 2 (dk dt_readOneS 85 rfl) rfl rfl ?_
        refine T_aload_n 3 (dk dt_readOneS 86 rfl) rfl rfl ?_
        refine MT_callVi [] [vi (x.1 0 8), vi 21, vr 0] rfl (dk dt_readOneS 87 rfl) cv_436 rfl rfl (Nat.le_of_ble_eq_true rfl) (Nat.le_of_ble_eq_true rfl) rfl rfl h (fun r17 x16 h => ?_)
        refine T_iconst (v := 0) (dk dt_readOneS 88 rfl) (by decide +kernel) ?_
        refine T_iload_n 2 (dk dt_readOneS 89 rfl) rfl rfl ?_
        refine MT_callVi [vi 21, vi (x.1 0 8), vi r17, vi 0, vi (x.1 0 8)] [] rfl (dk dt_readOneS 90 rfl) cv_404 rfl rfl (Nat.le_of_ble_eq_true rfl) (Nat.le_of_ble_eq_true rfl) rfl rfl h (fun r19 x18 h => ?_)
        refine T_istore_n (lv2 := [(3, vi r19), (2, vi r2), (1, vi (x.1 0 8)), (0, vr 0)]) (dk dt_readOneS 91 rfl) rfl (by decide) rfl ?_
        exact T_sub [3, 0] rfl h
      · have h := h.2 c14
        refine T_aload_n 3 (dk dt_readOneS 55 rfl) rfl rfl ?_
        refine T_iconst (v := 0) (dk dt_readOneS 56 rfl) (by decide +kernel) ?_
        refine T_iconst (v := 0) (dk dt_readOneS 57 rfl) (by decide +kernel) ?_
        refine MT_callVi [vi 0, vi 0] [] rfl (dk dt_readOneS 58 rfl) cv_400 rfl rfl (Nat.le_of_ble_eq_true rfl) (Nat.le_of_ble_eq_true rfl) rfl rfl h (fun r21 x20 h => ?_)
        refine T_istore (lv2 := [(5, vi r21), (3, vi 0), (2, vi r2), (1, vi (x.1 0 8)), (0, vr 0)]) (dk dt_readOneS 59 rfl) (by decide) rfl ?_
        refine T_aload_n 4 (dk dt_readOneS 60 rfl) rfl rfl ?_
        refine T_bipush (v := 66) (dk dt_readOneS 61 rfl) (by decide +kernel) ?_
        refine MT_callVv [vi 66] [] rfl (dk dt_readOneS 62 rfl) cv_382 rfl rfl (Nat.le_of_ble_eq_true rfl) (Nat.le_of_ble_eq_true rfl) rfl rfl h (fun x22 h => ?_)
        refine T_aload_n 4 (dk dt_readOneS 63 rfl) rfl rfl ?_
        refine T_bipush (v := 50) (dk dt_readOneS 64 rfl) (by decide +kernel) ?_
        refine MT_callVv [vi 50] [] rfl (dk dt_readOneS 65 rfl) cv_382 rfl rfl (Nat.le_of_ble_eq_true rfl) (Nat.le_of_ble_eq_true rfl) rfl rfl h (fun x23 h => ?_)
        refine T_aload_n 4 (dk dt_readOneS 66 rfl) rfl rfl ?_
        refine T_iconst (v := 0) (dk dt_readOneS 67 rfl) (by decide +kernel) ?_
        refine T_iconst (v := 0) (dk dt_readOneS 68 rfl) (by decide +kernel) ?_
        refine MT_callVi [vi 0, vi 0] [] rfl (dk dt_readOneS 69 rfl) cv_400 rfl rfl (Nat.le_of_ble_eq_true rfl) (Nat.le_of_ble_eq_true rfl) rfl rfl h (fun r25 x24 h => ?_)
        refine T_istore (lv2 := [(6, vi r25), (5, vi r21), (3, vi 0), (2, vi r2), (1, vi (x.1 0 8)), (0, vr 0)]) (dk dt_readOneS 70 rfl) (by decide) rfl ?_
        refine T_aload_n 5 (dk dt_readOneS 71 rfl) rfl rfl ?_
        refine T_bipush (v := 22) (dk dt_readOneS 72 rfl) (by decide +kernel) ?_
        refine T_iload_n 4 (dk dt_readOneS 73 rfl) rfl rfl ?_
        refine T_iload 1 (dk dt_readOneS 74 rfl) rfl ?_
        refine T_iload 0 (dk dt_readOneS 75 rfl) rfl ?_
        refine T_iload_n 4 (dk dt_readOneS 76 rfl) rfl rfl ?_
        refine MT_callVi [vi 22, vi (x.1 0 8), vi r21, vi r25, vi (x.1 0 8)] [] rfl (dk dt_readOneS 77 rfl) cv_404 rfl rfl (Nat.le_of_ble_eq_true rfl) (Nat.le_of_ble_eq_true rfl) rfl rfl h (fun r27 x26 h => ?_)
        refine T_istore_n (lv2 := [(3, vi r27), (6, vi r25), (5, vi r21), (2, vi r2), (1, vi (x.1 0 8)), (0, vr 0)]) (dk dt_readOneS 78 rfl) rfl (by decide) rfl ?_
        refine T_goto 341 (dk dt_readOneS 79 rfl) (by decide) ?_
        exact T_sub [5, 0] rfl h
    · have h := h.2
      by_cases c28 : r2 = 24
      · have h := h.1 c28
        refine T_table 336 349 (dk dt_readOneS 9 rfl) (by decide) (by rw [c28]; decide +kernel) (by decide) ?_
        refine T_aload_n 3 (dk dt_readOneS 97 rfl) rfl rfl ?_
        refine MT_callVi [] [] rfl (dk dt_readOneS 98 rfl) cv_439 rfl rfl (Nat.le_of_ble_eq_true rfl) (Nat.le_of_ble_eq_true rfl) rfl rfl h (fun r30 x29 h => ?_)
        exact MT_iret (dk dt_readOneS 99 rfl) rfl rfl h
      · have h := h.2
        by_cases c31 : r2 = 41
        · have h := h.1 c31
          refine T_table 341 354 (dk dt_readOneS 9 rfl) (by decide) (by rw [c31]; decide +kernel) (by decide) ?_
          refine T_aload_n 3 (dk dt_readOneS 100 rfl) rfl rfl ?_
          refine MT_callVv [] [] rfl (dk dt_readOneS 101 rfl) cv_379 rfl rfl (Nat.le_of_ble_eq_true rfl) (Nat.le_of_ble_eq_true rfl) rfl rfl h (fun x32 h => ?_)
          refine T_aload_n 3 (dk dt_readOneS 102 rfl) rfl rfl ?_
          refine T_iconst (v := 0) (dk dt_readOneS 103 rfl) (by decide +kernel) ?_
          refine T_iconst (v := 0) (dk dt_readOneS 104 rfl) (by decide +kernel) ?_
          refine MT_callVi [vi 0, vi 0] [] rfl (dk dt_readOneS 105 rfl) cv_400 rfl rfl (Nat.le_of_ble_eq_true rfl) (Nat.le_of_ble_eq_true rfl) rfl rfl h (fun r34 x33 h => ?_)
          refine T_istore (lv2 := [(5, vi r34), (3, vi 0), (2, vi r2), (1, vi (x.1 0 8)), (0, vr 0)]) (dk dt_readOneS 106 rfl) (by decide) rfl ?_
          refine T_aload_n 4 (dk dt_readOneS 107 rfl) rfl rfl ?_
          refine MT_callVi [] [] rfl (dk dt_readOneS 108 rfl) cv_442 rfl rfl (Nat.le_of_ble_eq_true rfl) (Nat.le_of_ble_eq_true rfl) rfl rfl h (fun r36 x35 h => ?_)
          refine T_istore (lv2 := [(6, vi r36), (5, vi r34), (3, vi 0), (2, vi r2), (1, vi (x.1 0 8)), (0, vr 0)]) (dk dt_readOneS 109 rfl) (by decide) rfl ?_
          refine T_aload_n 5 (dk dt_readOneS 110 rfl) rfl rfl ?_
          refine T_bipush (v := 24) (dk dt_readOneS 111 rfl) (by decide +kernel) ?_
          refine T_iload 1 (dk dt_readOneS 112 rfl) rfl ?_
          refine T_iload 0 (dk dt_readOneS 113 rfl) rfl ?_
          refine T_iconst (v := 0) (dk dt_readOneS 114 rfl) (by decide +kernel) ?_
          refine T_iload_n 4 (dk dt_readOneS 115 rfl) rfl rfl ?_
          refine MT_callVi [vi 24, vi r34, vi r36, vi 0, vi (x.1 0 8)] [] rfl (dk dt_readOneS 116 rfl) cv_404 rfl rfl (Nat.le_of_ble_eq_true rfl) (Nat.le_of_ble_eq_true rfl) rfl rfl h (fun r38 x37 h => ?_)
          exact MT_iret (dk dt_readOneS 117 rfl) rfl rfl h
        · have h := h.2
          by_cases c39 : r2 = 27
          · have h := h.1 c39
            refine T_table 372 385 (dk dt_readOneS 9 rfl) (by decide) (by rw [c39]; decide +kernel) (by decide) ?_
            refine T_aload_n 3 (dk dt_readOneS 118 rfl) rfl rfl ?_
            refine MT_callVv [] [] rfl (dk dt_readOneS 119 rfl) cv_379 rfl rfl (Nat.le_of_ble_eq_true rfl) (Nat.le_of_ble_eq_true rfl) rfl rfl h (fun x40 h => ?_)
            refine T_aload_n 3 (dk dt_readOneS 120 rfl) rfl rfl ?_
            refine MT_callVi [] [] rfl (dk dt_readOneS 121 rfl) cv_418 rfl rfl (Nat.le_of_ble_eq_true rfl) (Nat.le_of_ble_eq_true rfl) rfl rfl h (fun r42 x41 h => ?_)
            refine T_istore (lv2 := [(7, vi r42), (3, vi 0), (2, vi r2), (1, vi (x.1 0 8)), (0, vr 0)]) (dk dt_readOneS 122 rfl) (by decide) rfl ?_
            refine T_aload_n 4 (dk dt_readOneS 123 rfl) rfl rfl ?_
            refine MT_callVi [] [] rfl (dk dt_readOneS 124 rfl) cv_442 rfl rfl (Nat.le_of_ble_eq_true rfl) (Nat.le_of_ble_eq_true rfl) rfl rfl h (fun r44 x43 h => ?_)
            refine T_istore (lv2 := [(8, vi r44), (7, vi r42), (3, vi 0), (2, vi r2), (1, vi (x.1 0 8)), (0, vr 0)]) (dk dt_readOneS 125 rfl) (by decide) rfl ?_
            refine T_aload_n 5 (dk dt_readOneS 126 rfl) rfl rfl ?_
            refine T_bipush (v := 25) (dk dt_readOneS 127 rfl) (by decide +kernel) ?_
            refine T_iload 1 (dk dt_readOneS 128 rfl) rfl ?_
            refine T_iload 0 (dk dt_readOneS 129 rfl) rfl ?_
            refine T_iconst (v := 0) (dk dt_readOneS 130 rfl) (by decide +kernel) ?_
            refine T_iload_n 4 (dk dt_readOneS 131 rfl) rfl rfl ?_
            refine MT_callVi [vi 25, vi r42, vi r44, vi 0, vi (x.1 0 8)] [] rfl (dk dt_readOneS 132 rfl) cv_404 rfl rfl (Nat.le_of_ble_eq_true rfl) (Nat.le_of_ble_eq_true rfl) rfl rfl h (fun r46 x45 h => ?_)
            exact MT_iret (dk dt_readOneS 133 rfl) rfl rfl h
          · have h := h.2
            by_cases c47 : r2 = 20 ∨ r2 = 31
            · have h := h.1 c47
              refine T_table 401 414 (dk dt_readOneS 9 rfl) (by decide) (by rcases c47 with q9 | q9 <;> rw [q9] <;> decide +kernel) (by decide) ?_
              refine T_aload_n 3 (dk dt_readOneS 134 rfl) rfl rfl ?_
              refine MT_callVv [] [] rfl (dk dt_readOneS 135 rfl) cv_379 rfl rfl (Nat.le_of_ble_eq_true rfl) (Nat.le_of_ble_eq_true rfl) rfl rfl h (fun x48 h => ?_)
              refine T_aload_n 3 (dk dt_readOneS 136 rfl) rfl rfl ?_
              refine T_bipush (v := 67) (dk dt_readOneS 137 rfl) (by decide +kernel) ?_
              refine MT_callVv [vi 67] [] rfl (dk dt_readOneS 138 rfl) cv_382 rfl rfl (Nat.le_of_ble_eq_true rfl) (Nat.le_of_ble_eq_true rfl) rfl rfl h (fun x49 h => ?_)
              refine T_aload_n 3 (dk dt_readOneS 139 rfl) rfl rfl ?_
              refine T_bipush (v := 27) (dk dt_readOneS 140 rfl) (by decide +kernel) ?_
              refine T_iload_n 1 (dk dt_readOneS 141 rfl) rfl rfl ?_
              refine T_iconst (v := 0) (dk dt_readOneS 142 rfl) (by decide +kernel) ?_
              refine T_iconst (v := 0) (dk dt_readOneS 143 rfl) (by decide +kernel) ?_
              refine T_iload_n 2 (dk dt_readOneS 144 rfl) rfl rfl ?_
              refine MT_callVi [vi 27, vi r2, vi 0, vi 0, vi (x.1 0 8)] [] rfl (dk dt_readOneS 145 rfl) cv_404 rfl rfl (Nat.le_of_ble_eq_true rfl) (Nat.le_of_ble_eq_true rfl) rfl rfl h (fun r51 x50 h => ?_)
              exact MT_iret (dk dt_readOneS 146 rfl) rfl rfl h
            · have h := h.2
              by_cases c52 : r2 = 19
              · have h := h.1 c52
                refine T_table 422 435 (dk dt_readOneS 9 rfl) (by decide) (by rw [c52]; decide +kernel) (by decide) ?_
                refine T_aload_n 3 (dk dt_readOneS 147 rfl) rfl rfl ?_
                refine MT_callVv [] [] rfl (dk dt_readOneS 148 rfl) cv_379 rfl rfl (Nat.le_of_ble_eq_true rfl) (Nat.le_of_ble_eq_true rfl) rfl rfl h (fun x53 h => ?_)
                refine T_aload_n 3 (dk dt_readOneS 149 rfl) rfl rfl ?_
                refine T_bipush (v := 67) (dk dt_readOneS 150 rfl) (by decide +kernel) ?_
                refine MT_callVv [vi 67] [] rfl (dk dt_readOneS 151 rfl) cv_382 rfl rfl (Nat.le_of_ble_eq_true rfl) (Nat.le_of_ble_eq_true rfl) rfl rfl h (fun x54 h => ?_)
                refine T_aload_n 3 (dk dt_readOneS 152 rfl) rfl rfl ?_
                refine T_bipush (v := 31) (dk dt_readOneS 153 rfl) (by decide +kernel) ?_
                refine T_iconst (v := 0) (dk dt_readOneS 154 rfl) (by decide +kernel) ?_
                refine T_iconst (v := 0) (dk dt_readOneS 155 rfl) (by decide +kernel) ?_
                refine T_iconst (v := 0) (dk dt_readOneS 156 rfl) (by decide +kernel) ?_
                refine T_iload_n 2 (dk dt_readOneS 157 rfl) rfl rfl ?_
                refine MT_callVi [vi 31, vi 0, vi 0, vi 0, vi (x.1 0 8)] [] rfl (dk dt_readOneS 158 rfl) cv_404 rfl rfl (Nat.le_of_ble_eq_true rfl) (Nat.le_of_ble_eq_true rfl) rfl rfl h (fun r56 x55 h => ?_)
                exact MT_iret (dk dt_readOneS 159 rfl) rfl rfl h
              · have h := h.2
                by_cases c57 : r2 = 13 ∨ r2 = 14
                · have h := h.1 c57
                  refine T_table 443 456 (dk dt_readOneS 9 rfl) (by decide) (by rcases c57 with q9 | q9 <;> rw [q9] <;> decide +kernel) (by decide) ?_
                  refine T_aload_n 3 (dk dt_readOneS 160 rfl) rfl rfl ?_
                  refine MT_callVv [] [] rfl (dk dt_readOneS 161 rfl) cv_379 rfl rfl (Nat.le_of_ble_eq_true rfl) (Nat.le_of_ble_eq_true rfl) rfl rfl h (fun x58 h => ?_)
                  refine T_aload_n 3 (dk dt_readOneS 162 rfl) rfl rfl ?_
                  refine T_iconst (v := 0) (dk dt_readOneS 163 rfl) (by decide +kernel) ?_
                  refine T_iconst (v := 0) (dk dt_readOneS 164 rfl) (by decide +kernel) ?_
                  refine MT_callVi [vi 0, vi 0] [] rfl (dk dt_readOneS 165 rfl) cv_400 rfl rfl (Nat.le_of_ble_eq_true rfl) (Nat.le_of_ble_eq_true rfl) rfl rfl h (fun r60 x59 h => ?_)
                  refine T_istore (lv2 := [(9, vi r60), (3, vi 0), (2, vi r2), (1, vi (x.1 0 8)), (0, vr 0)]) (dk dt_readOneS 166 rfl) (by decide) rfl ?_
                  refine T_aload_n 4 (dk dt_readOneS 167 rfl) rfl rfl ?_
                  refine T_bipush (v := 67) (dk dt_readOneS 168 rfl) (by decide +kernel) ?_
                  refine MT_callVv [vi 67] [] rfl (dk dt_readOneS 169 rfl) cv_382 rfl rfl (Nat.le_of_ble_eq_true rfl) (Nat.le_of_ble_eq_true rfl) rfl rfl h (fun x61 h => ?_)
                  refine T_aload_n 4 (dk dt_readOneS 170 rfl) rfl rfl ?_
                  refine T_iload_n 2 (dk dt_readOneS 171 rfl) rfl rfl ?_
                  refine T_bipush (v := 13) (dk dt_readOneS 172 rfl) (by decide +kernel) ?_
                  refine T_icmp_ne 486 (dk dt_readOneS 173 rfl) (by decide) (fun c62 => ?_) (fun c62 => ?_)
                  · have h := h.1 c62
                    refine T_bipush (v := 30) (dk dt_readOneS 176 rfl) (by decide +kernel) ?_
                    exact T_sub [4, 3, 0] rfl h
                  · have h := h.2 c62
                    refine T_bipush (v := 28) (dk dt_readOneS 174 rfl) (by decide +kernel) ?_
                    refine T_goto 488 (dk dt_readOneS 175 rfl) (by decide) ?_
                    exact T_sub [4, 3, 0] rfl h
                · have h := h.2
                  by_cases c63 : r2 = 15
                  · have h := h.1 c63
                    refine T_table 484 497 (dk dt_readOneS 9 rfl) (by decide) (by rw [c63]; decide +kernel) (by decide) ?_
                    refine T_aload_n 3 (dk dt_readOneS 183 rfl) rfl rfl ?_
                    refine MT_callVv [] [] rfl (dk dt_readOneS 184 rfl) cv_379 rfl rfl (Nat.le_of_ble_eq_true rfl) (Nat.le_of_ble_eq_true rfl) rfl rfl h (fun x64 h => ?_)
                    refine T_aload_n 3 (dk dt_readOneS 185 rfl) rfl rfl ?_
                    refine T_getI 0 8 (dk dt_readOneS 186 rfl) fl_372 mk_0 ml_0 (by decide) rfl ?_
                    refine T_istore (lv2 := [(10, vi (x64.1 0 8)), (3, vi 0), (2, vi r2), (1, vi (x.1 0 8)), (0, vr 0)]) (dk dt_readOneS 187 rfl) (by decide) rfl ?_
                    refine T_aload_n 4 (dk dt_readOneS 188 rfl) rfl rfl ?_
                    refine T_iconst (v := 2) (dk dt_readOneS 189 rfl) (by decide +kernel) ?_
                    refine MT_callVv [vi 2] [] rfl (dk dt_readOneS 190 rfl) cv_382 rfl rfl (Nat.le_of_ble_eq_true rfl) (Nat.le_of_ble_eq_true rfl) rfl rfl h (fun x65 h => ?_)
                    refine T_aload_n 4 (dk dt_readOneS 191 rfl) rfl rfl ?_
                    refine T_bipush (v := 68) (dk dt_readOneS 192 rfl) (by decide +kernel) ?_
                    refine MT_callVv [vi 68] [] rfl (dk dt_readOneS 193 rfl) cv_382 rfl rfl (Nat.le_of_ble_eq_true rfl) (Nat.le_of_ble_eq_true rfl) rfl rfl h (fun x66 h => ?_)
                    refine T_aload_n 4 (dk dt_readOneS 194 rfl) rfl rfl ?_
                    refine T_iconst (v := 0) (dk dt_readOneS 195 rfl) (by decide +kernel) ?_
                    refine T_iconst (v := 0) (dk dt_readOneS 196 rfl) (by decide +kernel) ?_
                    refine MT_callVi [vi 0, vi 0] [] rfl (dk dt_readOneS 197 rfl) cv_400 rfl rfl (Nat.le_of_ble_eq_true rfl) (Nat.le_of_ble_eq_true rfl) rfl rfl h (fun r68 x67 h => ?_)
                    refine T_istore (lv2 := [(11, vi r68), (10, vi (x64.1 0 8)), (3, vi 0), (2, vi r2), (1, vi (x.1 0 8)), (0, vr 0)]) (dk dt_readOneS 198 rfl) (by decide) rfl ?_
                    refine T_aload_n 5 (dk dt_readOneS 199 rfl) rfl rfl ?_
                    refine T_bipush (v := 67) (dk dt_readOneS 200 rfl) (by decide +kernel) ?_
                    refine MT_callVv [vi 67] [] rfl (dk dt_readOneS 201 rfl) cv_382 rfl rfl (Nat.le_of_ble_eq_true rfl) (Nat.le_of_ble_eq_true rfl) rfl rfl h (fun x69 h => ?_)
                    refine T_aload_n 5 (dk dt_readOneS 202 rfl) rfl rfl ?_
                    refine T_bipush (v := 29) (dk dt_readOneS 203 rfl) (by decide +kernel) ?_
                    refine T_iload 1 (dk dt_readOneS 204 rfl) rfl ?_
                    refine T_iload 0 (dk dt_readOneS 205 rfl) rfl ?_
                    refine T_iconst (v := 0) (dk dt_readOneS 206 rfl) (by decide +kernel) ?_
                    refine T_iload_n 4 (dk dt_readOneS 207 rfl) rfl rfl ?_
                    refine MT_callVi [vi 29, vi (x64.1 0 8), vi r68, vi 0, vi (x.1 0 8)] [] rfl (dk dt_readOneS 208 rfl) cv_404 rfl rfl (Nat.le_of_ble_eq_true rfl) (Nat.le_of_ble_eq_true rfl) rfl rfl h (fun r71 x70 h => ?_)
                    exact MT_iret (dk dt_readOneS 209 rfl) rfl rfl h
                  · have h := h.2
                    have n72 : ∀ k ∈ [(26 : Int32), (1 : Int32), (24 : Int32), (41 : Int32), (27 : Int32), (20 : Int32), (31 : Int32), (19 : Int32), (13 : Int32), (14 : Int32), (15 : Int32)], ¬ r2 = k := (gno c3 (gno c10 (gno c28 (gno c31 (gno c39 (gno (fun q9 => c47 (Or.inl q9)) (gno (fun q9 => c47 (Or.inr (q9))) (gno c52 (gno (fun q9 => c57 (Or.inl q9)) (gno (fun q9 => c57 (Or.inr (q9))) (gno c63 gno0)))))))))))
                    have h := h n72
                    refine T_table 532 545 (dk dt_readOneS 9 rfl) (by decide) (gtab_d [(26 : Int32), (1 : Int32), (24 : Int32), (41 : Int32), (27 : Int32), (20 : Int32), (31 : Int32), (19 : Int32), (13 : Int32), (14 : Int32), (15 : Int32)] (by decide +kernel) n72) (by decide) ?_
                    refine T_aload_n 3 (dk dt_readOneS 210 rfl) rfl rfl ?_
                    refine MT_callVv [] [] rfl (dk dt_readOneS 211 rfl) cv_379 rfl rfl (Nat.le_of_ble_eq_true rfl) (Nat.le_of_ble_eq_true rfl) rfl rfl h (fun x73 h => ?_)
                    refine T_aload_n 3 (dk dt_readOneS 212 rfl) rfl rfl ?_
                    refine MT_callVi [] [] rfl (dk dt_readOneS 213 rfl) cv_418 rfl rfl (Nat.le_of_ble_eq_true rfl) (Nat.le_of_ble_eq_true rfl) rfl rfl h (fun r75 x74 h => ?_)
                    refine T_istore (lv2 := [(12, vi r75), (3, vi 0), (2, vi r2), (1, vi (x.1 0 8)), (0, vr 0)]) (dk dt_readOneS 214 rfl) (by decide) rfl ?_
                    refine T_aload_n 4 (dk dt_readOneS 215 rfl) rfl rfl ?_
                    refine T_bipush (v := 67) (dk dt_readOneS 216 rfl) (by decide +kernel) ?_
                    refine MT_callVv [vi 67] [] rfl (dk dt_readOneS 217 rfl) cv_382 rfl rfl (Nat.le_of_ble_eq_true rfl) (Nat.le_of_ble_eq_true rfl) rfl rfl h (fun x76 h => ?_)
                    refine T_aload_n 4 (dk dt_readOneS 218 rfl) rfl rfl ?_
                    refine T_bipush (v := 26) (dk dt_readOneS 219 rfl) (by decide +kernel) ?_
                    refine T_iload_n 2 (dk dt_readOneS 220 rfl) rfl rfl ?_
                    refine T_iload 0 (dk dt_readOneS 221 rfl) rfl ?_
                    refine T_iconst (v := 0) (dk dt_readOneS 222 rfl) (by decide +kernel) ?_
                    refine T_iload_n 3 (dk dt_readOneS 223 rfl) rfl rfl ?_
                    refine MT_callVi [vi 26, vi r2, vi r75, vi 0, vi (x.1 0 8)] [] rfl (dk dt_readOneS 224 rfl) cv_404 rfl rfl (Nat.le_of_ble_eq_true rfl) (Nat.le_of_ble_eq_true rfl) rfl rfl h (fun r78 x77 h => ?_)
                    exact MT_iret (dk dt_readOneS 225 rfl) rfl rfl h
set_option maxRecDepth 100000 in
set_option maxHeartbeats 4000000 in
theorem sg_readOneS_225 {G : mG} {d : Nat} {x : gd} {P : Option gv → gd → Prop} (l1 : Int32) (l4 : Int32)
    (h : (∀ x1 : gd, x1 = si x 0 21 ((x.1 0 21) + 1) → MT G d z_pass 0 [(0, vr 0), (1, vi 50)] [] x1 (rv (fun x2 => MT G d z_readR 0 [(0, vr 0)] [] x2 (ri (fun r4 x3 => MT G d z_node 0 [(0, vr 0), (1, vi 20), (2, vi l4), (3, vi r4), (4, vi 0), (5, vi l1)] [] x3 (ri (fun r6 x5 => MT G d z_pass 0 [(0, vr 0), (1, vi 67)] [] x5 (rv (fun x7 => P (some (vi r6)) x7)))))))))) :
    MT G (d + 1) z_readOneS 225 [(0, vr 0), (1, vi l1), (4, vi l4)] [] x P := by
  refine T_aload_n 0 (dk dt_readOneS 26 rfl) rfl rfl ?_
  refine T_dup (dk dt_readOneS 27 rfl) rfl ?_
  refine T_getI 0 21 (dk dt_readOneS 28 rfl) fl_433 mk_0 ml_0 (by decide) rfl ?_
  refine T_iconst (v := 1) (dk dt_readOneS 29 rfl) (by decide +kernel) ?_
  refine T_iadd (dk dt_readOneS 30 rfl) ?_
  obtain ⟨x1, ex1⟩ : ∃ z, z = si x 0 21 ((x.1 0 21) + 1) := ⟨_, rfl⟩
  have h := h x1 ex1
  refine T_putI 0 21 (dk dt_readOneS 31 rfl) fl_433 mk_0 ml_0 (by decide) rfl ⟨rfl, rfl⟩ ?_
  rw [← ex1]
  refine T_aload_n 0 (dk dt_readOneS 32 rfl) rfl rfl ?_
  refine T_bipush (v := 50) (dk dt_readOneS 33 rfl) (by decide +kernel) ?_
  refine MT_callVv [vi 50] [] rfl (dk dt_readOneS 34 rfl) cv_382 rfl rfl (Nat.le_of_ble_eq_true rfl) (Nat.le_of_ble_eq_true rfl) rfl rfl h (fun x2 h => ?_)
  refine T_aload_n 0 (dk dt_readOneS 35 rfl) rfl rfl ?_
  refine T_bipush (v := 20) (dk dt_readOneS 36 rfl) (by decide +kernel) ?_
  refine T_iload 2 (dk dt_readOneS 37 rfl) rfl ?_
  refine T_aload_n 0 (dk dt_readOneS 38 rfl) rfl rfl ?_
  refine MT_callVi [] [vi l4, vi 20, vr 0] rfl (dk dt_readOneS 39 rfl) cv_436 rfl rfl (Nat.le_of_ble_eq_true rfl) (Nat.le_of_ble_eq_true rfl) rfl rfl h (fun r4 x3 h => ?_)
  refine T_iconst (v := 0) (dk dt_readOneS 40 rfl) (by decide +kernel) ?_
  refine T_iload_n 1 (dk dt_readOneS 41 rfl) rfl rfl ?_
  refine MT_callVi [vi 20, vi l4, vi r4, vi 0, vi l1] [] rfl (dk dt_readOneS 42 rfl) cv_404 rfl rfl (Nat.le_of_ble_eq_true rfl) (Nat.le_of_ble_eq_true rfl) rfl rfl h (fun r6 x5 h => ?_)
  refine T_istore_n (lv2 := [(3, vi r6), (0, vr 0), (1, vi l1), (4, vi l4)]) (dk dt_readOneS 43 rfl) rfl (by decide) rfl ?_
  refine T_aload_n 1 (dk dt_readOneS 44 rfl) rfl rfl ?_
  refine T_bipush (v := 67) (dk dt_readOneS 45 rfl) (by decide +kernel) ?_
  refine MT_callVv [vi 67] [] rfl (dk dt_readOneS 46 rfl) cv_382 rfl rfl (Nat.le_of_ble_eq_true rfl) (Nat.le_of_ble_eq_true rfl) rfl rfl h (fun x7 h => ?_)
  refine T_iload_n 0 (dk dt_readOneS 47 rfl) rfl rfl ?_
  exact MT_iret (dk dt_readOneS 48 rfl) rfl rfl h
set_option maxRecDepth 100000 in
set_option maxHeartbeats 4000000 in
theorem sg_readOneS_341 {G : mG} {d : Nat} {x : gd} {P : Option gv → gd → Prop} (l3 : Int32)
    (h : MT G d z_pass 0 [(0, vr 0), (1, vi 67)] [] x (rv (fun x1 => P (some (vi l3)) x1))) :
    MT G (d + 1) z_readOneS 341 [(0, vr 0), (3, vi l3)] [] x P := by
  refine T_aload_n 0 (dk dt_readOneS 92 rfl) rfl rfl ?_
  refine T_bipush (v := 67) (dk dt_readOneS 93 rfl) (by decide +kernel) ?_
  refine MT_callVv [vi 67] [] rfl (dk dt_readOneS 94 rfl) cv_382 rfl rfl (Nat.le_of_ble_eq_true rfl) (Nat.le_of_ble_eq_true rfl) rfl rfl h (fun x1 h => ?_)
  refine T_iload_n 1 (dk dt_readOneS 95 rfl) rfl rfl ?_
  exact MT_iret (dk dt_readOneS 96 rfl) rfl rfl h
set_option maxRecDepth 100000 in
set_option maxHeartbeats 4000000 in
theorem sg_readOneS_488 {G : mG} {d : Nat} {x : gd} {P : Option gv → gd → Prop} (l1 : Int32) (l9 : Int32) (s0 : Int32)
    (h : MT G d z_node 0 [(0, vr 0), (1, vi s0), (2, vi l9), (3, vi 0), (4, vi 0), (5, vi l1)] [] x (ri (fun r2 x1 => P (some (vi r2)) x1))) :
    MT G (d + 1) z_readOneS 488 [(0, vr 0), (1, vi l1), (9, vi l9)] [vi s0, vr 0] x P := by
  refine T_iload 2 (dk dt_readOneS 177 rfl) rfl ?_
  refine T_iconst (v := 0) (dk dt_readOneS 178 rfl) (by decide +kernel) ?_
  refine T_iconst (v := 0) (dk dt_readOneS 179 rfl) (by decide +kernel) ?_
  refine T_iload_n 1 (dk dt_readOneS 180 rfl) rfl rfl ?_
  refine MT_callVi [vi s0, vi l9, vi 0, vi 0, vi l1] [] rfl (dk dt_readOneS 181 rfl) cv_404 rfl rfl (Nat.le_of_ble_eq_true rfl) (Nat.le_of_ble_eq_true rfl) rfl rfl h (fun r2 x1 h => ?_)
  exact MT_iret (dk dt_readOneS 182 rfl) rfl rfl h
set_option maxRecDepth 100000 in
theorem dt_readIf : dck cX12_readIf [(0, .aload_n 0, 1), (1, .getfield 372, 3), (4, .istore_n 1, 1), (5, .aload_n 0, 1), (6, .invokevirtual 379, 3), (9, .aload_n 0, 1), (10, .iconst 0, 1), (11, .iconst 0, 1), (12, .invokevirtual 400, 3), (15, .istore_n 2, 1), (16, .aload_n 0, 1), (17, .invokevirtual 442, 3), (20, .istore_n 3, 1), (21, .iconst (-1), 1), (22, .istore 4, 2), (24, .aload_n 0, 1), (25, .bipush 18, 2), (27, .invokevirtual 415, 3), (30, .ifCond .eq 25, 3), (33, .aload_n 0, 1), (34, .invokevirtual 389, 3), (37, .bipush 24, 2), (39, .if_icmp .ne 10, 3), (42, .aload_n 0, 1), (43, .invokevirtual 427, 3), (46, .goto 7, 3), (49, .aload_n 0, 1), (50, .invokevirtual 442, 3), (53, .istore 4, 2), (55, .aload_n 0, 1), (56, .bipush 23, 2), (58, .iload_n 2, 1), (59, .iload_n 3, 1), (60, .iload 4, 2), (62, .iload_n 1, 1), (63, .invokevirtual 404, 3), (66, .ireturn, 1)] = true := by decide +kernel
set_option maxRecDepth 100000 in
set_option maxHeartbeats 4000000 in
theorem sg_readIf_0 {G : mG} {d : Nat} {x : gd} {P : Option gv → gd → Prop} 
    (h : MT G d z_step 0 [(0, vr 0)] [] x (rv (fun x1 => MT G d z_readE 0 [(0, vr 0), (1, vi 0), (2, vi 0)] [] x1 (ri (fun r3 x2 => MT G d z_readBlock 0 [(0, vr 0)] [] x2 (ri (fun r5 x4 => MT G d z_take 0 [(0, vr 0), (1, vi 18)] [] x4 (ri (fun r7 x6 => ((r7 = (0 : Int32) → MT G (d + 1) z_readIf 55 [(0, vr 0), (1, vi (x.1 0 8)), (2, vi r3), (3, vi r5), (4, vi (-1))] [] x6 P) ∧ (¬ (r7 = (0 : Int32)) → MT G d z_here 0 [(0, vr 0)] [] x6 (ri (fun r10 x9 => ((¬ (r10 = (24 : Int32)) → MT G d z_readBlock 0 [(0, vr 0)] [] x9 (ri (fun r13 x12 => MT G (d + 1) z_readIf 55 [(0, vr 0), (1, vi (x.1 0 8)), (2, vi r3), (3, vi r5), (4, vi r13)] [] x12 P))) ∧ (r10 = (24 : Int32) → MT G d z_readS 0 [(0, vr 0)] [] x9 (ri (fun r15 x14 => MT G (d + 1) z_readIf 55 [(0, vr 0), (1, vi (x.1 0 8)), (2, vi r3), (3, vi r5), (4, vi r15)] [] x14 P))))))))))))))))) :
    MT G (d + 1) z_readIf 0 [(0, vr 0)] [] x P := by
  refine T_aload_n 0 (dk dt_readIf 0 rfl) rfl rfl ?_
  refine T_getI 0 8 (dk dt_readIf 1 rfl) fl_372 mk_0 ml_0 (by decide) rfl ?_
  refine T_istore_n (lv2 := [(1, vi (x.1 0 8)), (0, vr 0)]) (dk dt_readIf 2 rfl) rfl (by decide) rfl ?_
  refine T_aload_n 1 (dk dt_readIf 3 rfl) rfl rfl ?_
  refine MT_callVv [] [] rfl (dk dt_readIf 4 rfl) cv_379 rfl rfl (Nat.le_of_ble_eq_true rfl) (Nat.le_of_ble_eq_true rfl) rfl rfl h (fun x1 h => ?_)
  refine T_aload_n 1 (dk dt_readIf 5 rfl) rfl rfl ?_
  refine T_iconst (v := 0) (dk dt_readIf 6 rfl) (by decide +kernel) ?_
  refine T_iconst (v := 0) (dk dt_readIf 7 rfl) (by decide +kernel) ?_
  refine MT_callVi [vi 0, vi 0] [] rfl (dk dt_readIf 8 rfl) cv_400 rfl rfl (Nat.le_of_ble_eq_true rfl) (Nat.le_of_ble_eq_true rfl) rfl rfl h (fun r3 x2 h => ?_)
  refine T_istore_n (lv2 := [(2, vi r3), (1, vi (x.1 0 8)), (0, vr 0)]) (dk dt_readIf 9 rfl) rfl (by decide) rfl ?_
  refine T_aload_n 2 (dk dt_readIf 10 rfl) rfl rfl ?_
  refine MT_callVi [] [] rfl (dk dt_readIf 11 rfl) cv_442 rfl rfl (Nat.le_of_ble_eq_true rfl) (Nat.le_of_ble_eq_true rfl) rfl rfl h (fun r5 x4 h => ?_)
  refine T_istore_n (lv2 := [(3, vi r5), (2, vi r3), (1, vi (x.1 0 8)), (0, vr 0)]) (dk dt_readIf 12 rfl) rfl (by decide) rfl ?_
  refine T_iconst (v := (-1)) (dk dt_readIf 13 rfl) (by decide +kernel) ?_
  refine T_istore (lv2 := [(4, vi (-1)), (3, vi r5), (2, vi r3), (1, vi (x.1 0 8)), (0, vr 0)]) (dk dt_readIf 14 rfl) (by decide) rfl ?_
  refine T_aload_n 4 (dk dt_readIf 15 rfl) rfl rfl ?_
  refine T_bipush (v := 18) (dk dt_readIf 16 rfl) (by decide +kernel) ?_
  refine MT_callVi [vi 18] [] rfl (dk dt_readIf 17 rfl) cv_415 rfl rfl (Nat.le_of_ble_eq_true rfl) (Nat.le_of_ble_eq_true rfl) rfl rfl h (fun r7 x6 h => ?_)
  refine T_if_eq 55 (dk dt_readIf 18 rfl) (by decide) (fun c8 => ?_) (fun c8 => ?_)
  · have h := h.1 c8
    exact T_sub [4, 3, 2, 1, 0] rfl h
  · have h := h.2 c8
    refine T_aload_n 4 (dk dt_readIf 19 rfl) rfl rfl ?_
    refine MT_callVi [] [] rfl (dk dt_readIf 20 rfl) cv_389 rfl rfl (Nat.le_of_ble_eq_true rfl) (Nat.le_of_ble_eq_true rfl) rfl rfl h (fun r10 x9 h => ?_)
    refine T_bipush (v := 24) (dk dt_readIf 21 rfl) (by decide +kernel) ?_
    refine T_icmp_ne 49 (dk dt_readIf 22 rfl) (by decide) (fun c11 => ?_) (fun c11 => ?_)
    · have h := h.1 c11
      refine T_aload_n 4 (dk dt_readIf 26 rfl) rfl rfl ?_
      refine MT_callVi [] [] rfl (dk dt_readIf 27 rfl) cv_442 rfl rfl (Nat.le_of_ble_eq_true rfl) (Nat.le_of_ble_eq_true rfl) rfl rfl h (fun r13 x12 h => ?_)
      refine T_istore (lv2 := [(4, vi r13), (3, vi r5), (2, vi r3), (1, vi (x.1 0 8)), (0, vr 0)]) (dk dt_readIf 28 rfl) (by decide) rfl ?_
      exact T_sub [4, 3, 2, 1, 0] rfl h
    · have h := h.2 c11
      refine T_aload_n 4 (dk dt_readIf 23 rfl) rfl rfl ?_
      refine MT_callVi [] [] rfl (dk dt_readIf 24 rfl) cv_427 rfl rfl (Nat.le_of_ble_eq_true rfl) (Nat.le_of_ble_eq_true rfl) rfl rfl h (fun r15 x14 h => ?_)
      refine T_goto 53 (dk dt_readIf 25 rfl) (by decide) ?_
      refine T_istore (lv2 := [(4, vi r15), (3, vi r5), (2, vi r3), (1, vi (x.1 0 8)), (0, vr 0)]) (dk dt_readIf 28 rfl) (by decide) rfl ?_
      exact T_sub [4, 3, 2, 1, 0] rfl h
set_option maxRecDepth 100000 in
set_option maxHeartbeats 4000000 in
theorem sg_readIf_55 {G : mG} {d : Nat} {x : gd} {P : Option gv → gd → Prop} (l1 : Int32) (l2 : Int32) (l3 : Int32) (l4 : Int32)
    (h : MT G d z_node 0 [(0, vr 0), (1, vi 23), (2, vi l2), (3, vi l3), (4, vi l4), (5, vi l1)] [] x (ri (fun r2 x1 => P (some (vi r2)) x1))) :
    MT G (d + 1) z_readIf 55 [(0, vr 0), (1, vi l1), (2, vi l2), (3, vi l3), (4, vi l4)] [] x P := by
  refine T_aload_n 0 (dk dt_readIf 29 rfl) rfl rfl ?_
  refine T_bipush (v := 23) (dk dt_readIf 30 rfl) (by decide +kernel) ?_
  refine T_iload_n 2 (dk dt_readIf 31 rfl) rfl rfl ?_
  refine T_iload_n 3 (dk dt_readIf 32 rfl) rfl rfl ?_
  refine T_iload 4 (dk dt_readIf 33 rfl) rfl ?_
  refine T_iload_n 1 (dk dt_readIf 34 rfl) rfl rfl ?_
  refine MT_callVi [vi 23, vi l2, vi l3, vi l4, vi l1] [] rfl (dk dt_readIf 35 rfl) cv_404 rfl rfl (Nat.le_of_ble_eq_true rfl) (Nat.le_of_ble_eq_true rfl) rfl rfl h (fun r2 x1 h => ?_)
  exact MT_iret (dk dt_readIf 36 rfl) rfl rfl h
set_option maxRecDepth 100000 in
theorem dt_tell : dck cX12_tell [(0, .aload_n 0, 1), (1, .getfield 51, 3), (4, .aload_n 0, 1), (5, .getfield 445, 3), (8, .iload_n 1, 1), (9, .iastore, 1), (10, .aload_n 0, 1), (11, .getfield 54, 3), (14, .aload_n 0, 1), (15, .getfield 445, 3), (18, .iload_n 2, 1), (19, .iastore, 1), (20, .aload_n 0, 1), (21, .getfield 57, 3), (24, .aload_n 0, 1), (25, .getfield 445, 3), (28, .iload_n 3, 1), (29, .iastore, 1), (30, .aload_n 0, 1), (31, .getfield 60, 3), (34, .aload_n 0, 1), (35, .getfield 445, 3), (38, .iload 4, 2), (40, .iastore, 1), (41, .aload_n 0, 1), (42, .getfield 63, 3), (45, .aload_n 0, 1), (46, .getfield 445, 3), (49, .iload 5, 2), (51, .bastore, 1), (52, .aload_n 0, 1), (53, .getfield 67, 3), (56, .aload_n 0, 1), (57, .getfield 445, 3), (60, .iload 6, 2), (62, .iastore, 1), (63, .aload_n 0, 1), (64, .dup, 1), (65, .getfield 445, 3), (68, .iconst 1, 1), (69, .iadd, 1), (70, .putfield 445, 3), (73, .return_, 1)] = true := by decide +kernel
set_option maxRecDepth 100000 in
set_option maxHeartbeats 4000000 in
theorem sg_tell_0 {G : mG} {d : Nat} {x : gd} {P : Option gv → gd → Prop} (l1 : Int32) (l2 : Int32) (l3 : Int32) (l4 : Int32) (l5 : Int32) (l6 : Int32)
    (h : vp_in (x.1 0 28) 40 ∧ (∀ x2 : gd, x2 = si x 30 (x.1 0 28 : Int32).toNatClampNeg l1 → vp_in (x2.1 0 28) 40 ∧ (∀ x4 : gd, x4 = si x2 31 (x2.1 0 28 : Int32).toNatClampNeg l2 → vp_in (x4.1 0 28) 40 ∧ (∀ x6 : gd, x6 = si x4 32 (x4.1 0 28 : Int32).toNatClampNeg l3 → vp_in (x6.1 0 28) 40 ∧ (∀ x8 : gd, x8 = si x6 33 (x6.1 0 28 : Int32).toNatClampNeg l4 → vp_in (x8.1 0 28) 40 ∧ (∀ x10 : gd, x10 = si x8 34 (x8.1 0 28 : Int32).toNatClampNeg (vp_nar .boolean l5) → vp_in (x10.1 0 28) 40 ∧ (∀ x12 : gd, x12 = si x10 35 (x10.1 0 28 : Int32).toNatClampNeg l6 → (∀ x13 : gd, x13 = si x12 0 28 ((x12.1 0 28) + 1) → P none x13)))))))) :
    MT G d z_tell 0 [(0, vr 0), (1, vi l1), (2, vi l2), (3, vi l3), (4, vi l4), (5, vi l5), (6, vi l6)] [] x P := by
  refine T_aload_n 0 (dk dt_tell 0 rfl) rfl rfl ?_
  refine T_getR 0 29 30 (dk dt_tell 1 rfl) fl_51 mk_0 ml_0 (by decide) rfl rfl ?_
  refine T_aload_n 0 (dk dt_tell 2 rfl) rfl rfl ?_
  refine T_getI 0 28 (dk dt_tell 3 rfl) fl_445 mk_0 ml_0 (by decide) rfl ?_
  refine T_iload_n 1 (dk dt_tell 4 rfl) rfl rfl ?_
  obtain ⟨h1, h⟩ := h
  obtain ⟨x2, ex2⟩ : ∃ z, z = si x 30 (x.1 0 28 : Int32).toNatClampNeg l1 := ⟨_, rfl⟩
  have h := h x2 ex2
  refine T_iast 30 40 (dk dt_tell 5 rfl) mk_30 ml_30 h1 ?_
  rw [← ex2]
  refine T_aload_n 0 (dk dt_tell 6 rfl) rfl rfl ?_
  refine T_getR 0 30 31 (dk dt_tell 7 rfl) fl_54 mk_0 ml_0 (by decide) rfl rfl ?_
  refine T_aload_n 0 (dk dt_tell 8 rfl) rfl rfl ?_
  refine T_getI 0 28 (dk dt_tell 9 rfl) fl_445 mk_0 ml_0 (by decide) rfl ?_
  refine T_iload_n 2 (dk dt_tell 10 rfl) rfl rfl ?_
  obtain ⟨h3, h⟩ := h
  obtain ⟨x4, ex4⟩ : ∃ z, z = si x2 31 (x2.1 0 28 : Int32).toNatClampNeg l2 := ⟨_, rfl⟩
  have h := h x4 ex4
  refine T_iast 31 40 (dk dt_tell 11 rfl) mk_31 ml_31 h3 ?_
  rw [← ex4]
  refine T_aload_n 0 (dk dt_tell 12 rfl) rfl rfl ?_
  refine T_getR 0 31 32 (dk dt_tell 13 rfl) fl_57 mk_0 ml_0 (by decide) rfl rfl ?_
  refine T_aload_n 0 (dk dt_tell 14 rfl) rfl rfl ?_
  refine T_getI 0 28 (dk dt_tell 15 rfl) fl_445 mk_0 ml_0 (by decide) rfl ?_
  refine T_iload_n 3 (dk dt_tell 16 rfl) rfl rfl ?_
  obtain ⟨h5, h⟩ := h
  obtain ⟨x6, ex6⟩ : ∃ z, z = si x4 32 (x4.1 0 28 : Int32).toNatClampNeg l3 := ⟨_, rfl⟩
  have h := h x6 ex6
  refine T_iast 32 40 (dk dt_tell 17 rfl) mk_32 ml_32 h5 ?_
  rw [← ex6]
  refine T_aload_n 0 (dk dt_tell 18 rfl) rfl rfl ?_
  refine T_getR 0 32 33 (dk dt_tell 19 rfl) fl_60 mk_0 ml_0 (by decide) rfl rfl ?_
  refine T_aload_n 0 (dk dt_tell 20 rfl) rfl rfl ?_
  refine T_getI 0 28 (dk dt_tell 21 rfl) fl_445 mk_0 ml_0 (by decide) rfl ?_
  refine T_iload 4 (dk dt_tell 22 rfl) rfl ?_
  obtain ⟨h7, h⟩ := h
  obtain ⟨x8, ex8⟩ : ∃ z, z = si x6 33 (x6.1 0 28 : Int32).toNatClampNeg l4 := ⟨_, rfl⟩
  have h := h x8 ex8
  refine T_iast 33 40 (dk dt_tell 23 rfl) mk_33 ml_33 h7 ?_
  rw [← ex8]
  refine T_aload_n 0 (dk dt_tell 24 rfl) rfl rfl ?_
  refine T_getR 0 33 34 (dk dt_tell 25 rfl) fl_63 mk_0 ml_0 (by decide) rfl rfl ?_
  refine T_aload_n 0 (dk dt_tell 26 rfl) rfl rfl ?_
  refine T_getI 0 28 (dk dt_tell 27 rfl) fl_445 mk_0 ml_0 (by decide) rfl ?_
  refine T_iload 5 (dk dt_tell 28 rfl) rfl ?_
  obtain ⟨h9, h⟩ := h
  obtain ⟨x10, ex10⟩ : ∃ z, z = si x8 34 (x8.1 0 28 : Int32).toNatClampNeg (vp_nar .boolean l5) := ⟨_, rfl⟩
  have h := h x10 ex10
  refine T_zast 34 40 (dk dt_tell 29 rfl) mk_34 ml_34 h9 ?_
  rw [← ex10]
  refine T_aload_n 0 (dk dt_tell 30 rfl) rfl rfl ?_
  refine T_getR 0 34 35 (dk dt_tell 31 rfl) fl_67 mk_0 ml_0 (by decide) rfl rfl ?_
  refine T_aload_n 0 (dk dt_tell 32 rfl) rfl rfl ?_
  refine T_getI 0 28 (dk dt_tell 33 rfl) fl_445 mk_0 ml_0 (by decide) rfl ?_
  refine T_iload 6 (dk dt_tell 34 rfl) rfl ?_
  obtain ⟨h11, h⟩ := h
  obtain ⟨x12, ex12⟩ : ∃ z, z = si x10 35 (x10.1 0 28 : Int32).toNatClampNeg l6 := ⟨_, rfl⟩
  have h := h x12 ex12
  refine T_iast 35 40 (dk dt_tell 35 rfl) mk_35 ml_35 h11 ?_
  rw [← ex12]
  refine T_aload_n 0 (dk dt_tell 36 rfl) rfl rfl ?_
  refine T_dup (dk dt_tell 37 rfl) rfl ?_
  refine T_getI 0 28 (dk dt_tell 38 rfl) fl_445 mk_0 ml_0 (by decide) rfl ?_
  refine T_iconst (v := 1) (dk dt_tell 39 rfl) (by decide +kernel) ?_
  refine T_iadd (dk dt_tell 40 rfl) ?_
  obtain ⟨x13, ex13⟩ : ∃ z, z = si x12 0 28 ((x12.1 0 28) + 1) := ⟨_, rfl⟩
  have h := h x13 ex13
  refine T_putI 0 28 (dk dt_tell 41 rfl) fl_445 mk_0 ml_0 (by decide) rfl ⟨rfl, rfl⟩ ?_
  rw [← ex13]
  exact MT_vret (dk dt_tell 42 rfl) rfl h
set_option maxRecDepth 100000 in
theorem dt_readCell : dck cX12_readCell [(0, .aload_n 0, 1), (1, .bipush 34, 2), (3, .invokevirtual 415, 3), (6, .istore_n 1, 1), (7, .aload_n 0, 1), (8, .bipush 17, 2), (10, .invokevirtual 382, 3), (13, .aload_n 0, 1), (14, .invokevirtual 418, 3), (17, .istore_n 2, 1), (18, .aload_n 0, 1), (19, .getfield 366, 3), (22, .ifCond .ne 18, 3), (25, .aload_n 0, 1), (26, .getfield 448, 3), (29, .bipush 24, 2), (31, .if_icmp .ne 9, 3), (34, .aload_n 0, 1), (35, .iconst 3, 1), (36, .iload_n 2, 1), (37, .invokevirtual 375, 3), (40, .iconst 1, 1), (41, .istore_n 3, 1), (42, .iconst (-1), 1), (43, .istore 4, 2), (45, .aload_n 0, 1), (46, .bipush 65, 2), (48, .invokevirtual 415, 3), (51, .ifCond .eq 90, 3), (54, .aload_n 0, 1), (55, .getfield 372, 3), (58, .istore 4, 2), (60, .aload_n 0, 1), (61, .getfield 366, 3), (64, .ifCond .ne 40, 3), (67, .aload_n 0, 1), (68, .getfield 13, 3), (71, .iload 4, 2), (73, .iaload, 1), (74, .iconst 2, 1), (75, .if_icmp .ne 29, 3), (78, .aload_n 0, 1), (79, .getfield 20, 3), (82, .iload 4, 2), (84, .iaload, 1), (85, .iconst 1, 1), (86, .bipush 8, 2), (88, .invokestatic 322, 3), (91, .ifCond .eq 13, 3), (94, .aload_n 0, 1), (95, .getfield 20, 3), (98, .iload 4, 2), (100, .iaload, 1), (101, .goto 4, 3), (104, .iconst 1, 1), (105, .istore_n 3, 1), (106, .aload_n 0, 1), (107, .getfield 366, 3), (110, .ifCond .ne 20, 3), (113, .aload_n 0, 1), (114, .getfield 448, 3), (117, .iload_n 3, 1), (118, .iadd, 1), (119, .bipush 24, 2), (121, .if_icmp .le 9, 3), (124, .aload_n 0, 1), (125, .iconst 3, 1), (126, .iload_n 2, 1), (127, .invokevirtual 375, 3), (130, .aload_n 0, 1), (131, .iconst 2, 1), (132, .invokevirtual 382, 3), (135, .aload_n 0, 1), (136, .bipush 66, 2), (138, .invokevirtual 382, 3), (141, .iconst 0, 1), (142, .istore 5, 2), (144, .aload_n 0, 1), (145, .bipush 50, 2), (147, .invokevirtual 415, 3), (150, .ifCond .eq 47, 3), (153, .aload_n 0, 1), (154, .bipush 58, 2), (156, .invokevirtual 415, 3), (159, .istore 6, 2), (161, .aload_n 0, 1), (162, .getfield 372, 3), (165, .istore 7, 2), (167, .aload_n 0, 1), (168, .iconst 2, 1), (169, .invokevirtual 382, 3), (172, .iload 6, 2), (174, .ifCond .eq 14, 3), (177, .aload_n 0, 1), (178, .getfield 20, 3), (181, .iload 7, 2), (183, .iaload, 1), (184, .ineg, 1), (185, .goto 10, 3), (188, .aload_n 0, 1), (189, .getfield 20, 3), (192, .iload 7, 2), (194, .iaload, 1), (195, .istore 5, 2), (197, .aload_n 0, 1), (198, .bipush 67, 2), (200, .invokevirtual 382, 3), (203, .aload_n 0, 1), (204, .getfield 366, 3), (207, .ifCond .le 4, 3), (210, .return_, 1), (211, .aload_n 0, 1), (212, .iload_n 2, 1), (213, .iconst 0, 1), (214, .aload_n 0, 1), (215, .getfield 448, 3), (218, .iload_n 3, 1), (219, .iload 4, 2), (221, .iconst (-1), 1), (222, .if_icmp .eq 7, 3), (225, .iconst 1, 1), (226, .goto 4, 3), (229, .iconst 0, 1), (230, .iload 4, 2), (232, .invokevirtual 451, 3), (235, .iconst 0, 1), (236, .istore 6, 2), (238, .iload 6, 2), (240, .iload_n 3, 1), (241, .if_icmp .ge 40, 3), (244, .aload_n 0, 1), (245, .getfield 70, 3), (248, .aload_n 0, 1), (249, .getfield 448, 3), (252, .iload 5, 2), (254, .iastore, 1), (255, .aload_n 0, 1), (256, .getfield 73, 3), (259, .aload_n 0, 1), (260, .getfield 448, 3), (263, .iload_n 1, 1), (264, .bastore, 1), (265, .aload_n 0, 1), (266, .dup, 1), (267, .getfield 448, 3), (270, .iconst 1, 1), (271, .iadd, 1), (272, .putfield 448, 3), (275, .iinc 6 1, 3), (278, .goto (-40), 3), (281, .return_, 1)] = true := by decide +kernel
set_option maxRecDepth 100000 in
set_option maxHeartbeats 4000000 in
theorem sg_readCell_0 {G : mG} {d : Nat} {x : gd} {P : Option gv → gd → Prop} 
    (h : MT G d z_take 0 [(0, vr 0), (1, vi 34)] [] x (ri (fun r2 x1 => MT G d z_pass 0 [(0, vr 0), (1, vi 17)] [] x1 (rv (fun x3 => MT G d z_passName 0 [(0, vr 0)] [] x3 (ri (fun r5 x4 => ((¬ ((x4.1 0 9) = (0 : Int32)) → MT G (d + 1) z_readCell 40 [(0, vr 0), (1, vi r2), (2, vi r5)] [] x4 P) ∧ ((x4.1 0 9) = (0 : Int32) → ((¬ ((x4.1 0 23) = (24 : Int32)) → MT G (d + 1) z_readCell 40 [(0, vr 0), (1, vi r2), (2, vi r5)] [] x4 P) ∧ ((x4.1 0 23) = (24 : Int32) → MT G d z_fault 0 [(0, vr 0), (1, vi 3), (2, vi r5)] [] x4 (rv (fun x8 => MT G (d + 1) z_readCell 40 [(0, vr 0), (1, vi r2), (2, vi r5)] [] x8 P))))))))))))) :
    MT G (d + 1) z_readCell 0 [(0, vr 0)] [] x P := by
  refine T_aload_n 0 (dk dt_readCell 0 rfl) rfl rfl ?_
  refine T_bipush (v := 34) (dk dt_readCell 1 rfl) (by decide +kernel) ?_
  refine MT_callVi [vi 34] [] rfl (dk dt_readCell 2 rfl) cv_415 rfl rfl (Nat.le_of_ble_eq_true rfl) (Nat.le_of_ble_eq_true rfl) rfl rfl h (fun r2 x1 h => ?_)
  refine T_istore_n (lv2 := [(1, vi r2), (0, vr 0)]) (dk dt_readCell 3 rfl) rfl (by decide) rfl ?_
  refine T_aload_n 1 (dk dt_readCell 4 rfl) rfl rfl ?_
  refine T_bipush (v := 17) (dk dt_readCell 5 rfl) (by decide +kernel) ?_
  refine MT_callVv [vi 17] [] rfl (dk dt_readCell 6 rfl) cv_382 rfl rfl (Nat.le_of_ble_eq_true rfl) (Nat.le_of_ble_eq_true rfl) rfl rfl h (fun x3 h => ?_)
  refine T_aload_n 1 (dk dt_readCell 7 rfl) rfl rfl ?_
  refine MT_callVi [] [] rfl (dk dt_readCell 8 rfl) cv_418 rfl rfl (Nat.le_of_ble_eq_true rfl) (Nat.le_of_ble_eq_true rfl) rfl rfl h (fun r5 x4 h => ?_)
  refine T_istore_n (lv2 := [(2, vi r5), (1, vi r2), (0, vr 0)]) (dk dt_readCell 9 rfl) rfl (by decide) rfl ?_
  refine T_aload_n 2 (dk dt_readCell 10 rfl) rfl rfl ?_
  refine T_getI 0 9 (dk dt_readCell 11 rfl) fl_366 mk_0 ml_0 (by decide) rfl ?_
  refine T_if_ne 40 (dk dt_readCell 12 rfl) (by decide) (fun c6 => ?_) (fun c6 => ?_)
  · have h := h.1 c6
    exact T_sub [2, 1, 0] rfl h
  · have h := h.2 c6
    refine T_aload_n 2 (dk dt_readCell 13 rfl) rfl rfl ?_
    refine T_getI 0 23 (dk dt_readCell 14 rfl) fl_448 mk_0 ml_0 (by decide) rfl ?_
    refine T_bipush (v := 24) (dk dt_readCell 15 rfl) (by decide +kernel) ?_
    refine T_icmp_ne 40 (dk dt_readCell 16 rfl) (by decide) (fun c7 => ?_) (fun c7 => ?_)
    · have h := h.1 c7
      exact T_sub [2, 1, 0] rfl h
    · have h := h.2 c7
      refine T_aload_n 2 (dk dt_readCell 17 rfl) rfl rfl ?_
      refine T_iconst (v := 3) (dk dt_readCell 18 rfl) (by decide +kernel) ?_
      refine T_iload_n 0 (dk dt_readCell 19 rfl) rfl rfl ?_
      refine MT_callVv [vi 3, vi r5] [] rfl (dk dt_readCell 20 rfl) cv_375 rfl rfl (Nat.le_of_ble_eq_true rfl) (Nat.le_of_ble_eq_true rfl) rfl rfl h (fun x8 h => ?_)
      exact T_sub [2, 1, 0] rfl h
set_option maxRecDepth 100000 in
set_option maxHeartbeats 4000000 in
theorem sg_readCell_40 {G : mG} {d : Nat} {x : gd} {P : Option gv → gd → Prop} (l1 : Int32) (l2 : Int32)
    (h : MT G d z_take 0 [(0, vr 0), (1, vi 65)] [] x (ri (fun r2 x1 => ((r2 = (0 : Int32) → MT G (d + 1) z_readCell 141 [(0, vr 0), (1, vi l1), (2, vi l2), (3, vi 1), (4, vi (-1))] [] x1 P) ∧ (¬ (r2 = (0 : Int32)) → ((¬ ((x1.1 0 9) = (0 : Int32)) → MT G (d + 1) z_readCell 105 [(0, vr 0), (1, vi l1), (2, vi l2), (4, vi (x1.1 0 8))] [vi 1] x1 P) ∧ ((x1.1 0 9) = (0 : Int32) → vp_in (x1.1 0 8) 710 ∧ ((¬ ((x1.1 5 (x1.1 0 8 : Int32).toNatClampNeg) = (2 : Int32)) → MT G (d + 1) z_readCell 105 [(0, vr 0), (1, vi l1), (2, vi l2), (4, vi (x1.1 0 8))] [vi 1] x1 P) ∧ ((x1.1 5 (x1.1 0 8 : Int32).toNatClampNeg) = (2 : Int32) → vp_in (x1.1 0 8) 710 ∧ MT G d z_in 0 [(0, vi (x1.1 7 (x1.1 0 8 : Int32).toNatClampNeg)), (1, vi 1), (2, vi 8)] [] x1 (ri (fun r9 x8 => ((r9 = (0 : Int32) → MT G (d + 1) z_readCell 105 [(0, vr 0), (1, vi l1), (2, vi l2), (4, vi (x1.1 0 8))] [vi 1] x8 P) ∧ (¬ (r9 = (0 : Int32)) → vp_in (x1.1 0 8) 710 ∧ MT G (d + 1) z_readCell 105 [(0, vr 0), (1, vi l1), (2, vi l2), (4, vi (x1.1 0 8))] [vi (x8.1 7 (x1.1 0 8 : Int32).toNatClampNeg)] x8 P))))))))))))) :
    MT G (d + 1) z_readCell 40 [(0, vr 0), (1, vi l1), (2, vi l2)] [] x P := by
  refine T_iconst (v := 1) (dk dt_readCell 21 rfl) (by decide +kernel) ?_
  refine T_istore_n (lv2 := [(3, vi 1), (0, vr 0), (1, vi l1), (2, vi l2)]) (dk dt_readCell 22 rfl) rfl (by decide) rfl ?_
  refine T_iconst (v := (-1)) (dk dt_readCell 23 rfl) (by decide +kernel) ?_
  refine T_istore (lv2 := [(4, vi (-1)), (3, vi 1), (0, vr 0), (1, vi l1), (2, vi l2)]) (dk dt_readCell 24 rfl) (by decide) rfl ?_
  refine T_aload_n 2 (dk dt_readCell 25 rfl) rfl rfl ?_
  refine T_bipush (v := 65) (dk dt_readCell 26 rfl) (by decide +kernel) ?_
  refine MT_callVi [vi 65] [] rfl (dk dt_readCell 27 rfl) cv_415 rfl rfl (Nat.le_of_ble_eq_true rfl) (Nat.le_of_ble_eq_true rfl) rfl rfl h (fun r2 x1 h => ?_)
  refine T_if_eq 141 (dk dt_readCell 28 rfl) (by decide) (fun c3 => ?_) (fun c3 => ?_)
  · have h := h.1 c3
    exact T_sub [2, 3, 4, 1, 0] rfl h
  · have h := h.2 c3
    refine T_aload_n 2 (dk dt_readCell 29 rfl) rfl rfl ?_
    refine T_getI 0 8 (dk dt_readCell 30 rfl) fl_372 mk_0 ml_0 (by decide) rfl ?_
    refine T_istore (lv2 := [(4, vi (x1.1 0 8)), (3, vi 1), (0, vr 0), (1, vi l1), (2, vi l2)]) (dk dt_readCell 31 rfl) (by decide) rfl ?_
    refine T_aload_n 2 (dk dt_readCell 32 rfl) rfl rfl ?_
    refine T_getI 0 9 (dk dt_readCell 33 rfl) fl_366 mk_0 ml_0 (by decide) rfl ?_
    refine T_if_ne 104 (dk dt_readCell 34 rfl) (by decide) (fun c4 => ?_) (fun c4 => ?_)
    · have h := h.1 c4
      refine T_iconst (v := 1) (dk dt_readCell 54 rfl) (by decide +kernel) ?_
      exact T_sub [2, 3, 4, 0] rfl h
    · have h := h.2 c4
      refine T_aload_n 2 (dk dt_readCell 35 rfl) rfl rfl ?_
      refine T_getR 0 4 5 (dk dt_readCell 36 rfl) fl_13 mk_0 ml_0 (by decide) rfl rfl ?_
      refine T_iload 0 (dk dt_readCell 37 rfl) rfl ?_
      obtain ⟨h5, h⟩ := h
      refine T_iald 5 710 (dk dt_readCell 38 rfl) mk_5 ml_5 h5 ?_
      refine T_iconst (v := 2) (dk dt_readCell 39 rfl) (by decide +kernel) ?_
      refine T_icmp_ne 104 (dk dt_readCell 40 rfl) (by decide) (fun c6 => ?_) (fun c6 => ?_)
      · have h := h.1 c6
        refine T_iconst (v := 1) (dk dt_readCell 54 rfl) (by decide +kernel) ?_
        exact T_sub [2, 3, 4, 0] rfl h
      · have h := h.2 c6
        refine T_aload_n 2 (dk dt_readCell 41 rfl) rfl rfl ?_
        refine T_getR 0 6 7 (dk dt_readCell 42 rfl) fl_20 mk_0 ml_0 (by decide) rfl rfl ?_
        refine T_iload 0 (dk dt_readCell 43 rfl) rfl ?_
        obtain ⟨h7, h⟩ := h
        refine T_iald 7 710 (dk dt_readCell 44 rfl) mk_7 ml_7 h7 ?_
        refine T_iconst (v := 1) (dk dt_readCell 45 rfl) (by decide +kernel) ?_
        refine T_bipush (v := 8) (dk dt_readCell 46 rfl) (by decide +kernel) ?_
        refine MT_callSi [vi (x1.1 7 (x1.1 0 8 : Int32).toNatClampNeg), vi 1, vi 8] [] rfl (dk dt_readCell 47 rfl) cs_322 rfl (Nat.le_of_ble_eq_true rfl) (Nat.le_of_ble_eq_true rfl) rfl rfl h (fun r9 x8 h => ?_)
        refine T_if_eq 104 (dk dt_readCell 48 rfl) (by decide) (fun c10 => ?_) (fun c10 => ?_)
        · have h := h.1 c10
          refine T_iconst (v := 1) (dk dt_readCell 54 rfl) (by decide +kernel) ?_
          exact T_sub [2, 3, 4, 0] rfl h
        · have h := h.2 c10
          refine T_aload_n 2 (dk dt_readCell 49 rfl) rfl rfl ?_
          refine T_getR 0 6 7 (dk dt_readCell 50 rfl) fl_20 mk_0 ml_0 (by decide) rfl rfl ?_
          refine T_iload 0 (dk dt_readCell 51 rfl) rfl ?_
          obtain ⟨h11, h⟩ := h
          refine T_iald 7 710 (dk dt_readCell 52 rfl) mk_7 ml_7 h11 ?_
          refine T_goto 105 (dk dt_readCell 53 rfl) (by decide) ?_
          exact T_sub [2, 3, 4, 0] rfl h
set_option maxRecDepth 100000 in
set_option maxHeartbeats 4000000 in
theorem sg_readCell_105 {G : mG} {d : Nat} {x : gd} {P : Option gv → gd → Prop} (l1 : Int32) (l2 : Int32) (l4 : Int32) (s0 : Int32)
    (h : ((¬ ((x.1 0 9) = (0 : Int32)) → MT G (d + 1) z_readCell 130 [(0, vr 0), (1, vi l1), (2, vi l2), (3, vi s0), (4, vi l4)] [] x P) ∧ ((x.1 0 9) = (0 : Int32) → ((((x.1 0 23) + s0) ≤ (24 : Int32) → MT G (d + 1) z_readCell 130 [(0, vr 0), (1, vi l1), (2, vi l2), (3, vi s0), (4, vi l4)] [] x P) ∧ (¬ (((x.1 0 23) + s0) ≤ (24 : Int32)) → MT G d z_fault 0 [(0, vr 0), (1, vi 3), (2, vi l2)] [] x (rv (fun x3 => MT G (d + 1) z_readCell 130 [(0, vr 0), (1, vi l1), (2, vi l2), (3, vi s0), (4, vi l4)] [] x3 P))))))) :
    MT G (d + 1) z_readCell 105 [(0, vr 0), (1, vi l1), (2, vi l2), (4, vi l4)] [vi s0] x P := by
  refine T_istore_n (lv2 := [(3, vi s0), (0, vr 0), (1, vi l1), (2, vi l2), (4, vi l4)]) (dk dt_readCell 55 rfl) rfl (by decide) rfl ?_
  refine T_aload_n 1 (dk dt_readCell 56 rfl) rfl rfl ?_
  refine T_getI 0 9 (dk dt_readCell 57 rfl) fl_366 mk_0 ml_0 (by decide) rfl ?_
  refine T_if_ne 130 (dk dt_readCell 58 rfl) (by decide) (fun c1 => ?_) (fun c1 => ?_)
  · have h := h.1 c1
    exact T_sub [1, 2, 3, 0, 4] rfl h
  · have h := h.2 c1
    refine T_aload_n 1 (dk dt_readCell 59 rfl) rfl rfl ?_
    refine T_getI 0 23 (dk dt_readCell 60 rfl) fl_448 mk_0 ml_0 (by decide) rfl ?_
    refine T_iload_n 0 (dk dt_readCell 61 rfl) rfl rfl ?_
    refine T_iadd (dk dt_readCell 62 rfl) ?_
    refine T_bipush (v := 24) (dk dt_readCell 63 rfl) (by decide +kernel) ?_
    refine T_icmp_le 130 (dk dt_readCell 64 rfl) (by decide) (fun c2 => ?_) (fun c2 => ?_)
    · have h := h.1 c2
      exact T_sub [1, 2, 3, 0, 4] rfl h
    · have h := h.2 c2
      refine T_aload_n 1 (dk dt_readCell 65 rfl) rfl rfl ?_
      refine T_iconst (v := 3) (dk dt_readCell 66 rfl) (by decide +kernel) ?_
      refine T_iload_n 3 (dk dt_readCell 67 rfl) rfl rfl ?_
      refine MT_callVv [vi 3, vi l2] [] rfl (dk dt_readCell 68 rfl) cv_375 rfl rfl (Nat.le_of_ble_eq_true rfl) (Nat.le_of_ble_eq_true rfl) rfl rfl h (fun x3 h => ?_)
      exact T_sub [1, 2, 3, 0, 4] rfl h
set_option maxRecDepth 100000 in
set_option maxHeartbeats 4000000 in
theorem sg_readCell_130 {G : mG} {d : Nat} {x : gd} {P : Option gv → gd → Prop} (l1 : Int32) (l2 : Int32) (l3 : Int32) (l4 : Int32)
    (h : MT G d z_pass 0 [(0, vr 0), (1, vi 2)] [] x (rv (fun x1 => MT G d z_pass 0 [(0, vr 0), (1, vi 66)] [] x1 (rv (fun x2 => MT G (d + 1) z_readCell 141 [(0, vr 0), (1, vi l1), (2, vi l2), (3, vi l3), (4, vi l4)] [] x2 P))))) :
    MT G (d + 1) z_readCell 130 [(0, vr 0), (1, vi l1), (2, vi l2), (3, vi l3), (4, vi l4)] [] x P := by
  refine T_aload_n 0 (dk dt_readCell 69 rfl) rfl rfl ?_
  refine T_iconst (v := 2) (dk dt_readCell 70 rfl) (by decide +kernel) ?_
  refine MT_callVv [vi 2] [] rfl (dk dt_readCell 71 rfl) cv_382 rfl rfl (Nat.le_of_ble_eq_true rfl) (Nat.le_of_ble_eq_true rfl) rfl rfl h (fun x1 h => ?_)
  refine T_aload_n 0 (dk dt_readCell 72 rfl) rfl rfl ?_
  refine T_bipush (v := 66) (dk dt_readCell 73 rfl) (by decide +kernel) ?_
  refine MT_callVv [vi 66] [] rfl (dk dt_readCell 74 rfl) cv_382 rfl rfl (Nat.le_of_ble_eq_true rfl) (Nat.le_of_ble_eq_true rfl) rfl rfl h (fun x2 h => ?_)
  exact h
set_option maxRecDepth 100000 in
set_option maxHeartbeats 4000000 in
theorem sg_readCell_141 {G : mG} {d : Nat} {x : gd} {P : Option gv → gd → Prop} (l1 : Int32) (l2 : Int32) (l3 : Int32) (l4 : Int32)
    (h : MT G d z_take 0 [(0, vr 0), (1, vi 50)] [] x (ri (fun r2 x1 => ((r2 = (0 : Int32) → MT G (d + 1) z_readCell 197 [(0, vr 0), (1, vi l1), (2, vi l2), (3, vi l3), (4, vi l4), (5, vi 0)] [] x1 P) ∧ (¬ (r2 = (0 : Int32)) → MT G d z_take 0 [(0, vr 0), (1, vi 58)] [] x1 (ri (fun r5 x4 => MT G d z_pass 0 [(0, vr 0), (1, vi 2)] [] x4 (rv (fun x6 => ((r5 = (0 : Int32) → vp_in (x4.1 0 8) 710 ∧ MT G (d + 1) z_readCell 197 [(0, vr 0), (1, vi l1), (2, vi l2), (3, vi l3), (4, vi l4), (5, vi (x6.1 7 (x4.1 0 8 : Int32).toNatClampNeg))] [] x6 P) ∧ (¬ (r5 = (0 : Int32)) → vp_in (x4.1 0 8) 710 ∧ MT G (d + 1) z_readCell 197 [(0, vr 0), (1, vi l1), (2, vi l2), (3, vi l3), (4, vi l4), (5, vi (-(x6.1 7 (x4.1 0 8 : Int32).toNatClampNeg)))] [] x6 P))))))))))) :
    MT G (d + 1) z_readCell 141 [(0, vr 0), (1, vi l1), (2, vi l2), (3, vi l3), (4, vi l4)] [] x P := by
  refine T_iconst (v := 0) (dk dt_readCell 75 rfl) (by decide +kernel) ?_
  refine T_istore (lv2 := [(5, vi 0), (0, vr 0), (1, vi l1), (2, vi l2), (3, vi l3), (4, vi l4)]) (dk dt_readCell 76 rfl) (by decide) rfl ?_
  refine T_aload_n 1 (dk dt_readCell 77 rfl) rfl rfl ?_
  refine T_bipush (v := 50) (dk dt_readCell 78 rfl) (by decide +kernel) ?_
  refine MT_callVi [vi 50] [] rfl (dk dt_readCell 79 rfl) cv_415 rfl rfl (Nat.le_of_ble_eq_true rfl) (Nat.le_of_ble_eq_true rfl) rfl rfl h (fun r2 x1 h => ?_)
  refine T_if_eq 197 (dk dt_readCell 80 rfl) (by decide) (fun c3 => ?_) (fun c3 => ?_)
  · have h := h.1 c3
    exact T_sub [1, 2, 3, 4, 5, 0] rfl h
  · have h := h.2 c3
    refine T_aload_n 1 (dk dt_readCell 81 rfl) rfl rfl ?_
    refine T_bipush (v := 58) (dk dt_readCell 82 rfl) (by decide +kernel) ?_
    refine MT_callVi [vi 58] [] rfl (dk dt_readCell 83 rfl) cv_415 rfl rfl (Nat.le_of_ble_eq_true rfl) (Nat.le_of_ble_eq_true rfl) rfl rfl h (fun r5 x4 h => ?_)
    refine T_istore (lv2 := [(6, vi r5), (5, vi 0), (0, vr 0), (1, vi l1), (2, vi l2), (3, vi l3), (4, vi l4)]) (dk dt_readCell 84 rfl) (by decide) rfl ?_
    refine T_aload_n 2 (dk dt_readCell 85 rfl) rfl rfl ?_
    refine T_getI 0 8 (dk dt_readCell 86 rfl) fl_372 mk_0 ml_0 (by decide) rfl ?_
    refine T_istore (lv2 := [(7, vi (x4.1 0 8)), (6, vi r5), (5, vi 0), (0, vr 0), (1, vi l1), (2, vi l2), (3, vi l3), (4, vi l4)]) (dk dt_readCell 87 rfl) (by decide) rfl ?_
    refine T_aload_n 3 (dk dt_readCell 88 rfl) rfl rfl ?_
    refine T_iconst (v := 2) (dk dt_readCell 89 rfl) (by decide +kernel) ?_
    refine MT_callVv [vi 2] [] rfl (dk dt_readCell 90 rfl) cv_382 rfl rfl (Nat.le_of_ble_eq_true rfl) (Nat.le_of_ble_eq_true rfl) rfl rfl h (fun x6 h => ?_)
    refine T_iload 1 (dk dt_readCell 91 rfl) rfl ?_
    refine T_if_eq 188 (dk dt_readCell 92 rfl) (by decide) (fun c7 => ?_) (fun c7 => ?_)
    · have h := h.1 c7
      refine T_aload_n 3 (dk dt_readCell 99 rfl) rfl rfl ?_
      refine T_getR 0 6 7 (dk dt_readCell 100 rfl) fl_20 mk_0 ml_0 (by decide) rfl rfl ?_
      refine T_iload 0 (dk dt_readCell 101 rfl) rfl ?_
      obtain ⟨h8, h⟩ := h
      refine T_iald 7 710 (dk dt_readCell 102 rfl) mk_7 ml_7 h8 ?_
      refine T_istore (lv2 := [(5, vi (x6.1 7 (x4.1 0 8 : Int32).toNatClampNeg)), (7, vi (x4.1 0 8)), (6, vi r5), (0, vr 0), (1, vi l1), (2, vi l2), (3, vi l3), (4, vi l4)]) (dk dt_readCell 103 rfl) (by decide) rfl ?_
      exact T_sub [3, 4, 5, 6, 7, 0] rfl h
    · have h := h.2 c7
      refine T_aload_n 3 (dk dt_readCell 93 rfl) rfl rfl ?_
      refine T_getR 0 6 7 (dk dt_readCell 94 rfl) fl_20 mk_0 ml_0 (by decide) rfl rfl ?_
      refine T_iload 0 (dk dt_readCell 95 rfl) rfl ?_
      obtain ⟨h9, h⟩ := h
      refine T_iald 7 710 (dk dt_readCell 96 rfl) mk_7 ml_7 h9 ?_
      refine T_ineg (dk dt_readCell 97 rfl) ?_
      refine T_goto 195 (dk dt_readCell 98 rfl) (by decide) ?_
      refine T_istore (lv2 := [(5, vi (-(x6.1 7 (x4.1 0 8 : Int32).toNatClampNeg))), (7, vi (x4.1 0 8)), (6, vi r5), (0, vr 0), (1, vi l1), (2, vi l2), (3, vi l3), (4, vi l4)]) (dk dt_readCell 103 rfl) (by decide) rfl ?_
      exact T_sub [3, 4, 5, 6, 7, 0] rfl h
set_option maxRecDepth 100000 in
set_option maxHeartbeats 4000000 in
theorem sg_readCell_197 {G : mG} {d : Nat} {x : gd} {P : Option gv → gd → Prop} (l1 : Int32) (l2 : Int32) (l3 : Int32) (l4 : Int32) (l5 : Int32)
    (h : MT G d z_pass 0 [(0, vr 0), (1, vi 67)] [] x (rv (fun x1 => (((x1.1 0 9) ≤ (0 : Int32) → ((l4 = (-1 : Int32) → MT G (d + 1) z_readCell 230 [(0, vr 0), (1, vi l1), (3, vi l3), (4, vi l4), (5, vi l5)] [vi 0, vi l3, vi (x1.1 0 23), vi 0, vi l2, vr 0] x1 P) ∧ (¬ (l4 = (-1 : Int32)) → MT G (d + 1) z_readCell 230 [(0, vr 0), (1, vi l1), (3, vi l3), (4, vi l4), (5, vi l5)] [vi 1, vi l3, vi (x1.1 0 23), vi 0, vi l2, vr 0] x1 P))) ∧ (¬ ((x1.1 0 9) ≤ (0 : Int32)) → P none x1))))) :
    MT G (d + 1) z_readCell 197 [(0, vr 0), (1, vi l1), (2, vi l2), (3, vi l3), (4, vi l4), (5, vi l5)] [] x P := by
  refine T_aload_n 0 (dk dt_readCell 104 rfl) rfl rfl ?_
  refine T_bipush (v := 67) (dk dt_readCell 105 rfl) (by decide +kernel) ?_
  refine MT_callVv [vi 67] [] rfl (dk dt_readCell 106 rfl) cv_382 rfl rfl (Nat.le_of_ble_eq_true rfl) (Nat.le_of_ble_eq_true rfl) rfl rfl h (fun x1 h => ?_)
  refine T_aload_n 0 (dk dt_readCell 107 rfl) rfl rfl ?_
  refine T_getI 0 9 (dk dt_readCell 108 rfl) fl_366 mk_0 ml_0 (by decide) rfl ?_
  refine T_if_le 211 (dk dt_readCell 109 rfl) (by decide) (fun c2 => ?_) (fun c2 => ?_)
  · have h := h.1 c2
    refine T_aload_n 0 (dk dt_readCell 111 rfl) rfl rfl ?_
    refine T_iload_n 2 (dk dt_readCell 112 rfl) rfl rfl ?_
    refine T_iconst (v := 0) (dk dt_readCell 113 rfl) (by decide +kernel) ?_
    refine T_aload_n 0 (dk dt_readCell 114 rfl) rfl rfl ?_
    refine T_getI 0 23 (dk dt_readCell 115 rfl) fl_448 mk_0 ml_0 (by decide) rfl ?_
    refine T_iload_n 3 (dk dt_readCell 116 rfl) rfl rfl ?_
    refine T_iload 4 (dk dt_readCell 117 rfl) rfl ?_
    refine T_iconst (v := (-1)) (dk dt_readCell 118 rfl) (by decide +kernel) ?_
    refine T_icmp_eq 229 (dk dt_readCell 119 rfl) (by decide) (fun c3 => ?_) (fun c3 => ?_)
    · have h := h.1 c3
      refine T_iconst (v := 0) (dk dt_readCell 122 rfl) (by decide +kernel) ?_
      exact T_sub [0, 1, 3, 4, 5] rfl h
    · have h := h.2 c3
      refine T_iconst (v := 1) (dk dt_readCell 120 rfl) (by decide +kernel) ?_
      refine T_goto 230 (dk dt_readCell 121 rfl) (by decide) ?_
      exact T_sub [0, 1, 3, 4, 5] rfl h
  · have h := h.2 c2
    exact MT_vret (dk dt_readCell 110 rfl) rfl h
set_option maxRecDepth 100000 in
set_option maxHeartbeats 4000000 in
theorem sg_readCell_230 {G : mG} {d : Nat} {x : gd} {P : Option gv → gd → Prop} (l1 : Int32) (l3 : Int32) (l4 : Int32) (l5 : Int32) (s0 : Int32) (s1 : Int32) (s2 : Int32) (s3 : Int32) (s4 : Int32)
    (h : MT G d z_tell 0 [(0, vr 0), (1, vi s4), (2, vi s3), (3, vi s2), (4, vi s1), (5, vi s0), (6, vi l4)] [] x (rv (fun x1 => MT G (d + 1) z_readCell 238 [(0, vr 0), (1, vi l1), (3, vi l3), (5, vi l5), (6, vi 0)] [] x1 P))) :
    MT G (d + 1) z_readCell 230 [(0, vr 0), (1, vi l1), (3, vi l3), (4, vi l4), (5, vi l5)] [vi s0, vi s1, vi s2, vi s3, vi s4, vr 0] x P := by
  refine T_iload 3 (dk dt_readCell 123 rfl) rfl ?_
  refine MT_callVv [vi s4, vi s3, vi s2, vi s1, vi s0, vi l4] [] rfl (dk dt_readCell 124 rfl) cv_451 rfl rfl (Nat.le_of_ble_eq_true rfl) (Nat.le_of_ble_eq_true rfl) rfl rfl h (fun x1 h => ?_)
  refine T_iconst (v := 0) (dk dt_readCell 125 rfl) (by decide +kernel) ?_
  refine T_istore (lv2 := [(6, vi 0), (0, vr 0), (1, vi l1), (3, vi l3), (4, vi l4), (5, vi l5)]) (dk dt_readCell 126 rfl) (by decide) rfl ?_
  exact T_sub [1, 2, 3, 5, 0] rfl h
set_option maxRecDepth 100000 in
set_option maxHeartbeats 4000000 in
theorem sg_readCell_238 {G : mG} {d : Nat} {x : gd} {P : Option gv → gd → Prop} (l1 : Int32) (l3 : Int32) (l5 : Int32) (l6 : Int32)
    (h : ((l3 ≤ l6 → P none x) ∧ (¬ (l3 ≤ l6) → vp_in (x.1 0 23) 24 ∧ (∀ x3 : gd, x3 = si x 36 (x.1 0 23 : Int32).toNatClampNeg l5 → vp_in (x3.1 0 23) 24 ∧ (∀ x5 : gd, x5 = si x3 37 (x3.1 0 23 : Int32).toNatClampNeg (vp_nar .boolean l1) → (∀ x6 : gd, x6 = si x5 0 23 ((x5.1 0 23) + 1) → MT G (d + 1) z_readCell 238 [(0, vr 0), (1, vi l1), (3, vi l3), (5, vi l5), (6, vi (l6 + 1))] [] x6 P)))))) :
    MT G (d + 1) z_readCell 238 [(0, vr 0), (1, vi l1), (3, vi l3), (5, vi l5), (6, vi l6)] [] x P := by
  refine T_iload 4 (dk dt_readCell 127 rfl) rfl ?_
  refine T_iload_n 2 (dk dt_readCell 128 rfl) rfl rfl ?_
  refine T_icmp_ge 281 (dk dt_readCell 129 rfl) (by decide) (fun c1 => ?_) (fun c1 => ?_)
  · have h := h.1 c1
    exact MT_vret (dk dt_readCell 150 rfl) rfl h
  · have h := h.2 c1
    refine T_aload_n 0 (dk dt_readCell 130 rfl) rfl rfl ?_
    refine T_getR 0 35 36 (dk dt_readCell 131 rfl) fl_70 mk_0 ml_0 (by decide) rfl rfl ?_
    refine T_aload_n 0 (dk dt_readCell 132 rfl) rfl rfl ?_
    refine T_getI 0 23 (dk dt_readCell 133 rfl) fl_448 mk_0 ml_0 (by decide) rfl ?_
    refine T_iload 3 (dk dt_readCell 134 rfl) rfl ?_
    obtain ⟨h2, h⟩ := h
    obtain ⟨x3, ex3⟩ : ∃ z, z = si x 36 (x.1 0 23 : Int32).toNatClampNeg l5 := ⟨_, rfl⟩
    have h := h x3 ex3
    refine T_iast 36 24 (dk dt_readCell 135 rfl) mk_36 ml_36 h2 ?_
    rw [← ex3]
    refine T_aload_n 0 (dk dt_readCell 136 rfl) rfl rfl ?_
    refine T_getR 0 36 37 (dk dt_readCell 137 rfl) fl_73 mk_0 ml_0 (by decide) rfl rfl ?_
    refine T_aload_n 0 (dk dt_readCell 138 rfl) rfl rfl ?_
    refine T_getI 0 23 (dk dt_readCell 139 rfl) fl_448 mk_0 ml_0 (by decide) rfl ?_
    refine T_iload_n 1 (dk dt_readCell 140 rfl) rfl rfl ?_
    obtain ⟨h4, h⟩ := h
    obtain ⟨x5, ex5⟩ : ∃ z, z = si x3 37 (x3.1 0 23 : Int32).toNatClampNeg (vp_nar .boolean l1) := ⟨_, rfl⟩
    have h := h x5 ex5
    refine T_zast 37 24 (dk dt_readCell 141 rfl) mk_37 ml_37 h4 ?_
    rw [← ex5]
    refine T_aload_n 0 (dk dt_readCell 142 rfl) rfl rfl ?_
    refine T_dup (dk dt_readCell 143 rfl) rfl ?_
    refine T_getI 0 23 (dk dt_readCell 144 rfl) fl_448 mk_0 ml_0 (by decide) rfl ?_
    refine T_iconst (v := 1) (dk dt_readCell 145 rfl) (by decide +kernel) ?_
    refine T_iadd (dk dt_readCell 146 rfl) ?_
    obtain ⟨x6, ex6⟩ : ∃ z, z = si x5 0 23 ((x5.1 0 23) + 1) := ⟨_, rfl⟩
    have h := h x6 ex6
    refine T_putI 0 23 (dk dt_readCell 147 rfl) fl_448 mk_0 ml_0 (by decide) rfl ⟨rfl, rfl⟩ ?_
    rw [← ex6]
    refine T_iinc (v := l6 + 1) (lv2 := [(6, vi (l6 + 1)), (0, vr 0), (1, vi l1), (3, vi l3), (5, vi l5)]) 4 (dk dt_readCell 148 rfl) rfl rfl (by decide) rfl ?_
    refine T_goto 238 (dk dt_readCell 149 rfl) (by decide) ?_
    exact T_sub [1, 2, 3, 4, 0] rfl h
