set_option maxRecDepth 100000 in
theorem dt_readDef : dck cX12_readDef [(0, .aload_n 0, 1), (1, .invokevirtual 389, 3), (4, .istore_n 1, 1), (5, .aload_n 0, 1), (6, .getfield 372, 3), (9, .istore_n 2, 1), (10, .iload_n 1, 1), (11, .lookupswitch 357 #[(11, 238), (17, 65), (21, 238), (23, 134), (27, 70), (34, 65), (37, 134)], 65), (76, .aload_n 0, 1), (77, .invokevirtual 455, 3), (80, .return_, 1), (81, .aload_n 0, 1), (82, .getfield 458, 3), (85, .bipush 6, 2), (87, .if_icmp .ne 12, 3), (90, .aload_n 0, 1), (91, .iconst 3, 1), (92, .aload_n 0, 1), (93, .getfield 372, 3), (96, .invokevirtual 375, 3), (99, .aload_n 0, 1), (100, .invokevirtual 379, 3), (103, .aload_n 0, 1), (104, .invokevirtual 418, 3), (107, .istore_n 2, 1), (108, .aload_n 0, 1), (109, .bipush 67, 2), (111, .invokevirtual 382, 3), (114, .aload_n 0, 1), (115, .getfield 366, 3), (118, .ifCond .ne 26, 3), (121, .aload_n 0, 1), (122, .iload_n 2, 1), (123, .iconst 1, 1), (124, .aload_n 0, 1), (125, .getfield 458, 3), (128, .iconst 1, 1), (129, .iconst 0, 1), (130, .iconst (-1), 1), (131, .invokevirtual 451, 3), (134, .aload_n 0, 1), (135, .dup, 1), (136, .getfield 458, 3), (139, .iconst 1, 1), (140, .iadd, 1), (141, .putfield 458, 3), (144, .return_, 1), (145, .aload_n 0, 1), (146, .getfield 461, 3), (149, .bipush 6, 2), (151, .if_icmp .ne 12, 3), (154, .aload_n 0, 1), (155, .iconst 3, 1), (156, .aload_n 0, 1), (157, .getfield 372, 3), (160, .invokevirtual 375, 3), (163, .aload_n 0, 1), (164, .bipush 23, 2), (166, .invokevirtual 415, 3), (169, .istore_n 3, 1), (170, .aload_n 0, 1), (171, .bipush 37, 2), (173, .invokevirtual 382, 3), (176, .aload_n 0, 1), (177, .invokevirtual 418, 3), (180, .istore_n 2, 1), (181, .aload_n 0, 1), (182, .iconst 0, 1), (183, .putfield 433, 3), (186, .aload_n 0, 1), (187, .iconst 0, 1), (188, .putfield 386, 3), (191, .aload_n 0, 1), (192, .invokevirtual 442, 3), (195, .istore 4, 2), (197, .aload_n 0, 1), (198, .getfield 366, 3), (201, .ifCond .ne 47, 3), (204, .aload_n 0, 1), (205, .iload_n 2, 1), (206, .iconst 2, 1), (207, .aload_n 0, 1), (208, .getfield 461, 3), (211, .iconst 1, 1), (212, .iconst 0, 1), (213, .iconst (-1), 1), (214, .invokevirtual 451, 3), (217, .aload_n 0, 1), (218, .getfield 76, 3), (221, .aload_n 0, 1), (222, .getfield 461, 3), (225, .iload_n 3, 1), (226, .bastore, 1), (227, .aload_n 0, 1), (228, .getfield 79, 3), (231, .aload_n 0, 1), (232, .getfield 461, 3), (235, .iload 4, 2), (237, .iastore, 1), (238, .aload_n 0, 1), (239, .dup, 1), (240, .getfield 461, 3), (243, .iconst 1, 1), (244, .iadd, 1), (245, .putfield 461, 3), (248, .return_, 1), (249, .iload_n 1, 1), (250, .bipush 11, 2), (252, .if_icmp .ne 10, 3), (255, .aload_n 0, 1), (256, .getfield 464, 3), (259, .goto 7, 3), (262, .aload_n 0, 1), (263, .getfield 467, 3), (266, .iconst 4, 1), (267, .if_icmp .ne 12, 3), (270, .aload_n 0, 1), (271, .iconst 3, 1), (272, .aload_n 0, 1), (273, .getfield 372, 3), (276, .invokevirtual 375, 3), (279, .aload_n 0, 1), (280, .invokevirtual 379, 3), (283, .aload_n 0, 1), (284, .iconst 0, 1), (285, .putfield 386, 3), (288, .aload_n 0, 1), (289, .iconst 0, 1), (290, .iconst 1, 1), (291, .invokevirtual 400, 3), (294, .istore 5, 2), (296, .aload_n 0, 1), (297, .bipush 67, 2), (299, .invokevirtual 382, 3), (302, .aload_n 0, 1), (303, .getfield 366, 3), (306, .ifCond .ne 33, 3), (309, .iload_n 1, 1), (310, .bipush 11, 2), (312, .if_icmp .ne 27, 3), (315, .aload_n 0, 1), (316, .getfield 82, 3), (319, .aload_n 0, 1), (320, .getfield 464, 3), (323, .iload 5, 2), (325, .iastore, 1), (326, .aload_n 0, 1), (327, .dup, 1), (328, .getfield 464, 3), (331, .iconst 1, 1), (332, .iadd, 1), (333, .putfield 464, 3), (336, .goto 31, 3), (339, .aload_n 0, 1), (340, .getfield 366, 3), (343, .ifCond .ne 24, 3), (346, .aload_n 0, 1), (347, .getfield 85, 3), (350, .aload_n 0, 1), (351, .getfield 467, 3), (354, .iload 5, 2), (356, .iastore, 1), (357, .aload_n 0, 1), (358, .dup, 1), (359, .getfield 467, 3), (362, .iconst 1, 1), (363, .iadd, 1), (364, .putfield 467, 3), (367, .return_, 1), (368, .aload_n 0, 1), (369, .iconst 2, 1), (370, .aload_n 0, 1), (371, .getfield 372, 3), (374, .invokevirtual 375, 3), (377, .return_, 1)] = true := by decide +kernel
set_option maxRecDepth 100000 in
set_option maxHeartbeats 4000000 in
theorem sg_readDef_0 {G : mG} {d : Nat} {x : gd} {P : Option gv → gd → Prop} 
    (h : MT G d z_here 0 [(0, vr 0)] [] x (ri (fun r2 x1 => (((r2 = 17 ∨ r2 = 34) → MT G d z_readCell 0 [(0, vr 0)] [] x1 (rv (fun x4 => P none x4))) ∧ ((r2 = 27) → ((¬ ((x1.1 0 24) = (6 : Int32)) → MT G (d + 1) z_readDef 99 [(0, vr 0)] [] x1 P) ∧ ((x1.1 0 24) = (6 : Int32) → MT G d z_fault 0 [(0, vr 0), (1, vi 3), (2, vi (x1.1 0 8))] [] x1 (rv (fun x7 => MT G (d + 1) z_readDef 99 [(0, vr 0)] [] x7 P))))) ∧ ((r2 = 23 ∨ r2 = 37) → ((¬ ((x1.1 0 25) = (6 : Int32)) → MT G (d + 1) z_readDef 163 [(0, vr 0)] [] x1 P) ∧ ((x1.1 0 25) = (6 : Int32) → MT G d z_fault 0 [(0, vr 0), (1, vi 3), (2, vi (x1.1 0 8))] [] x1 (rv (fun x10 => MT G (d + 1) z_readDef 163 [(0, vr 0)] [] x10 P))))) ∧ ((r2 = 11 ∨ r2 = 21) → ((¬ (r2 = (11 : Int32)) → MT G (d + 1) z_readDef 266 [(0, vr 0), (1, vi r2)] [vi (x1.1 0 27)] x1 P) ∧ (r2 = (11 : Int32) → MT G (d + 1) z_readDef 266 [(0, vr 0), (1, vi r2)] [vi (x1.1 0 26)] x1 P))) ∧ ((∀ k ∈ [(17 : Int32), (34 : Int32), (27 : Int32), (23 : Int32), (37 : Int32), (11 : Int32), (21 : Int32)], ¬ r2 = k) → MT G d z_fault 0 [(0, vr 0), (1, vi 2), (2, vi (x1.1 0 8))] [] x1 (rv (fun x14 => P none x14))))))) :
    MT G (d + 1) z_readDef 0 [(0, vr 0)] [] x P := by
  refine T_aload_n 0 (dk dt_readDef 0 rfl) rfl rfl ?_
  refine MT_callVi [] [] rfl (dk dt_readDef 1 rfl) cv_389 rfl rfl (Nat.le_of_ble_eq_true rfl) (Nat.le_of_ble_eq_true rfl) rfl rfl h (fun r2 x1 h => ?_)
  refine T_istore_n (lv2 := [(1, vi r2), (0, vr 0)]) (dk dt_readDef 2 rfl) rfl (by decide) rfl ?_
  refine T_aload_n 1 (dk dt_readDef 3 rfl) rfl rfl ?_
  refine T_getI 0 8 (dk dt_readDef 4 rfl) fl_372 mk_0 ml_0 (by decide) rfl ?_
  refine T_istore_n (lv2 := [(2, vi (x1.1 0 8)), (1, vi r2), (0, vr 0)]) (dk dt_readDef 5 rfl) rfl (by decide) rfl ?_
  refine T_iload_n 1 (dk dt_readDef 6 rfl) rfl rfl ?_
  by_cases c3 : r2 = 17 ∨ r2 = 34
  · have h := h.1 c3
    refine T_lookup 65 76 (dk dt_readDef 7 rfl) (by decide +kernel) (by rcases c3 with q9 | q9 <;> rw [q9] <;> decide +kernel) (by decide) ?_
    refine T_aload_n 2 (dk dt_readDef 8 rfl) rfl rfl ?_
    refine MT_callVv [] [] rfl (dk dt_readDef 9 rfl) cv_455 rfl rfl (Nat.le_of_ble_eq_true rfl) (Nat.le_of_ble_eq_true rfl) rfl rfl h (fun x4 h => ?_)
    exact MT_vret (dk dt_readDef 10 rfl) rfl h
  · have h := h.2
    by_cases c5 : r2 = 27
    · have h := h.1 c5
      refine T_lookup 70 81 (dk dt_readDef 7 rfl) (by decide +kernel) (by rw [c5]; decide +kernel) (by decide) ?_
      refine T_aload_n 2 (dk dt_readDef 11 rfl) rfl rfl ?_
      refine T_getI 0 24 (dk dt_readDef 12 rfl) fl_458 mk_0 ml_0 (by decide) rfl ?_
      refine T_bipush (v := 6) (dk dt_readDef 13 rfl) (by decide +kernel) ?_
      refine T_icmp_ne 99 (dk dt_readDef 14 rfl) (by decide) (fun c6 => ?_) (fun c6 => ?_)
      · have h := h.1 c6
        exact T_sub [2] rfl h
      · have h := h.2 c6
        refine T_aload_n 2 (dk dt_readDef 15 rfl) rfl rfl ?_
        refine T_iconst (v := 3) (dk dt_readDef 16 rfl) (by decide +kernel) ?_
        refine T_aload_n 2 (dk dt_readDef 17 rfl) rfl rfl ?_
        refine T_getI 0 8 (dk dt_readDef 18 rfl) fl_372 mk_0 ml_0 (by decide) rfl ?_
        refine MT_callVv [vi 3, vi (x1.1 0 8)] [] rfl (dk dt_readDef 19 rfl) cv_375 rfl rfl (Nat.le_of_ble_eq_true rfl) (Nat.le_of_ble_eq_true rfl) rfl rfl h (fun x7 h => ?_)
        exact T_sub [2] rfl h
    · have h := h.2
      by_cases c8 : r2 = 23 ∨ r2 = 37
      · have h := h.1 c8
        refine T_lookup 134 145 (dk dt_readDef 7 rfl) (by decide +kernel) (by rcases c8 with q9 | q9 <;> rw [q9] <;> decide +kernel) (by decide) ?_
        refine T_aload_n 2 (dk dt_readDef 47 rfl) rfl rfl ?_
        refine T_getI 0 25 (dk dt_readDef 48 rfl) fl_461 mk_0 ml_0 (by decide) rfl ?_
        refine T_bipush (v := 6) (dk dt_readDef 49 rfl) (by decide +kernel) ?_
        refine T_icmp_ne 163 (dk dt_readDef 50 rfl) (by decide) (fun c9 => ?_) (fun c9 => ?_)
        · have h := h.1 c9
          exact T_sub [2] rfl h
        · have h := h.2 c9
          refine T_aload_n 2 (dk dt_readDef 51 rfl) rfl rfl ?_
          refine T_iconst (v := 3) (dk dt_readDef 52 rfl) (by decide +kernel) ?_
          refine T_aload_n 2 (dk dt_readDef 53 rfl) rfl rfl ?_
          refine T_getI 0 8 (dk dt_readDef 54 rfl) fl_372 mk_0 ml_0 (by decide) rfl ?_
          refine MT_callVv [vi 3, vi (x1.1 0 8)] [] rfl (dk dt_readDef 55 rfl) cv_375 rfl rfl (Nat.le_of_ble_eq_true rfl) (Nat.le_of_ble_eq_true rfl) rfl rfl h (fun x10 h => ?_)
          exact T_sub [2] rfl h
      · have h := h.2
        by_cases c11 : r2 = 11 ∨ r2 = 21
        · have h := h.1 c11
          refine T_lookup 238 249 (dk dt_readDef 7 rfl) (by decide +kernel) (by rcases c11 with q9 | q9 <;> rw [q9] <;> decide +kernel) (by decide) ?_
          refine T_iload_n 1 (dk dt_readDef 106 rfl) rfl rfl ?_
          refine T_bipush (v := 11) (dk dt_readDef 107 rfl) (by decide +kernel) ?_
          refine T_icmp_ne 262 (dk dt_readDef 108 rfl) (by decide) (fun c12 => ?_) (fun c12 => ?_)
          · have h := h.1 c12
            refine T_aload_n 2 (dk dt_readDef 112 rfl) rfl rfl ?_
            refine T_getI 0 27 (dk dt_readDef 113 rfl) fl_467 mk_0 ml_0 (by decide) rfl ?_
            exact T_sub [2, 1] rfl h
          · have h := h.2 c12
            refine T_aload_n 2 (dk dt_readDef 109 rfl) rfl rfl ?_
            refine T_getI 0 26 (dk dt_readDef 110 rfl) fl_464 mk_0 ml_0 (by decide) rfl ?_
            refine T_goto 266 (dk dt_readDef 111 rfl) (by decide) ?_
            exact T_sub [2, 1] rfl h
        · have h := h.2
          have n13 : ∀ k ∈ [(17 : Int32), (34 : Int32), (27 : Int32), (23 : Int32), (37 : Int32), (11 : Int32), (21 : Int32)], ¬ r2 = k := (gno (fun q9 => c3 (Or.inl q9)) (gno (fun q9 => c3 (Or.inr (q9))) (gno c5 (gno (fun q9 => c8 (Or.inl q9)) (gno (fun q9 => c8 (Or.inr (q9))) (gno (fun q9 => c11 (Or.inl q9)) (gno (fun q9 => c11 (Or.inr (q9))) gno0)))))))
          have h := h n13
          refine T_lookup 357 368 (dk dt_readDef 7 rfl) (by decide +kernel) (glk_d [(17 : Int32), (34 : Int32), (27 : Int32), (23 : Int32), (37 : Int32), (11 : Int32), (21 : Int32)] (by decide +kernel) n13) (by decide) ?_
          refine T_aload_n 2 (dk dt_readDef 169 rfl) rfl rfl ?_
          refine T_iconst (v := 2) (dk dt_readDef 170 rfl) (by decide +kernel) ?_
          refine T_aload_n 2 (dk dt_readDef 171 rfl) rfl rfl ?_
          refine T_getI 0 8 (dk dt_readDef 172 rfl) fl_372 mk_0 ml_0 (by decide) rfl ?_
          refine MT_callVv [vi 2, vi (x1.1 0 8)] [] rfl (dk dt_readDef 173 rfl) cv_375 rfl rfl (Nat.le_of_ble_eq_true rfl) (Nat.le_of_ble_eq_true rfl) rfl rfl h (fun x14 h => ?_)
          exact MT_vret (dk dt_readDef 174 rfl) rfl h
set_option maxRecDepth 100000 in
set_option maxHeartbeats 4000000 in
theorem sg_readDef_99 {G : mG} {d : Nat} {x : gd} {P : Option gv → gd → Prop} 
    (h : MT G d z_step 0 [(0, vr 0)] [] x (rv (fun x1 => MT G d z_passName 0 [(0, vr 0)] [] x1 (ri (fun r3 x2 => MT G d z_pass 0 [(0, vr 0), (1, vi 67)] [] x2 (rv (fun x4 => ((¬ ((x4.1 0 9) = (0 : Int32)) → P none x4) ∧ ((x4.1 0 9) = (0 : Int32) → MT G d z_tell 0 [(0, vr 0), (1, vi r3), (2, vi 1), (3, vi (x4.1 0 24)), (4, vi 1), (5, vi 0), (6, vi (-1))] [] x4 (rv (fun x6 => (∀ x7 : gd, x7 = si x6 0 24 ((x6.1 0 24) + 1) → P none x7)))))))))))) :
    MT G (d + 1) z_readDef 99 [(0, vr 0)] [] x P := by
  refine T_aload_n 0 (dk dt_readDef 20 rfl) rfl rfl ?_
  refine MT_callVv [] [] rfl (dk dt_readDef 21 rfl) cv_379 rfl rfl (Nat.le_of_ble_eq_true rfl) (Nat.le_of_ble_eq_true rfl) rfl rfl h (fun x1 h => ?_)
  refine T_aload_n 0 (dk dt_readDef 22 rfl) rfl rfl ?_
  refine MT_callVi [] [] rfl (dk dt_readDef 23 rfl) cv_418 rfl rfl (Nat.le_of_ble_eq_true rfl) (Nat.le_of_ble_eq_true rfl) rfl rfl h (fun r3 x2 h => ?_)
  refine T_istore_n (lv2 := [(2, vi r3), (0, vr 0)]) (dk dt_readDef 24 rfl) rfl (by decide) rfl ?_
  refine T_aload_n 1 (dk dt_readDef 25 rfl) rfl rfl ?_
  refine T_bipush (v := 67) (dk dt_readDef 26 rfl) (by decide +kernel) ?_
  refine MT_callVv [vi 67] [] rfl (dk dt_readDef 27 rfl) cv_382 rfl rfl (Nat.le_of_ble_eq_true rfl) (Nat.le_of_ble_eq_true rfl) rfl rfl h (fun x4 h => ?_)
  refine T_aload_n 1 (dk dt_readDef 28 rfl) rfl rfl ?_
  refine T_getI 0 9 (dk dt_readDef 29 rfl) fl_366 mk_0 ml_0 (by decide) rfl ?_
  refine T_if_ne 144 (dk dt_readDef 30 rfl) (by decide) (fun c5 => ?_) (fun c5 => ?_)
  · have h := h.1 c5
    exact MT_vret (dk dt_readDef 46 rfl) rfl h
  · have h := h.2 c5
    refine T_aload_n 1 (dk dt_readDef 31 rfl) rfl rfl ?_
    refine T_iload_n 0 (dk dt_readDef 32 rfl) rfl rfl ?_
    refine T_iconst (v := 1) (dk dt_readDef 33 rfl) (by decide +kernel) ?_
    refine T_aload_n 1 (dk dt_readDef 34 rfl) rfl rfl ?_
    refine T_getI 0 24 (dk dt_readDef 35 rfl) fl_458 mk_0 ml_0 (by decide) rfl ?_
    refine T_iconst (v := 1) (dk dt_readDef 36 rfl) (by decide +kernel) ?_
    refine T_iconst (v := 0) (dk dt_readDef 37 rfl) (by decide +kernel) ?_
    refine T_iconst (v := (-1)) (dk dt_readDef 38 rfl) (by decide +kernel) ?_
    refine MT_callVv [vi r3, vi 1, vi (x4.1 0 24), vi 1, vi 0, vi (-1)] [] rfl (dk dt_readDef 39 rfl) cv_451 rfl rfl (Nat.le_of_ble_eq_true rfl) (Nat.le_of_ble_eq_true rfl) rfl rfl h (fun x6 h => ?_)
    refine T_aload_n 1 (dk dt_readDef 40 rfl) rfl rfl ?_
    refine T_dup (dk dt_readDef 41 rfl) rfl ?_
    refine T_getI 0 24 (dk dt_readDef 42 rfl) fl_458 mk_0 ml_0 (by decide) rfl ?_
    refine T_iconst (v := 1) (dk dt_readDef 43 rfl) (by decide +kernel) ?_
    refine T_iadd (dk dt_readDef 44 rfl) ?_
    obtain ⟨x7, ex7⟩ : ∃ z, z = si x6 0 24 ((x6.1 0 24) + 1) := ⟨_, rfl⟩
    have h := h x7 ex7
    refine T_putI 0 24 (dk dt_readDef 45 rfl) fl_458 mk_0 ml_0 (by decide) rfl ⟨rfl, rfl⟩ ?_
    rw [← ex7]
    exact MT_vret (dk dt_readDef 46 rfl) rfl h
set_option maxRecDepth 100000 in
set_option maxHeartbeats 4000000 in
theorem sg_readDef_163 {G : mG} {d : Nat} {x : gd} {P : Option gv → gd → Prop} 
    (h : MT G d z_take 0 [(0, vr 0), (1, vi 23)] [] x (ri (fun r2 x1 => MT G d z_pass 0 [(0, vr 0), (1, vi 37)] [] x1 (rv (fun x3 => MT G d z_passName 0 [(0, vr 0)] [] x3 (ri (fun r5 x4 => (∀ x6 : gd, x6 = si x4 0 21 0 → (∀ x7 : gd, x7 = si x6 0 20 0 → MT G d z_readBlock 0 [(0, vr 0)] [] x7 (ri (fun r9 x8 => ((¬ ((x8.1 0 9) = (0 : Int32)) → P none x8) ∧ ((x8.1 0 9) = (0 : Int32) → MT G d z_tell 0 [(0, vr 0), (1, vi r5), (2, vi 2), (3, vi (x8.1 0 25)), (4, vi 1), (5, vi 0), (6, vi (-1))] [] x8 (rv (fun x11 => vp_in (x11.1 0 25) 6 ∧ (∀ x13 : gd, x13 = si x11 38 (x11.1 0 25 : Int32).toNatClampNeg (vp_nar .boolean r2) → vp_in (x13.1 0 25) 6 ∧ (∀ x15 : gd, x15 = si x13 39 (x13.1 0 25 : Int32).toNatClampNeg r9 → (∀ x16 : gd, x16 = si x15 0 25 ((x15.1 0 25) + 1) → P none x16)))))))))))))))))) :
    MT G (d + 1) z_readDef 163 [(0, vr 0)] [] x P := by
  refine T_aload_n 0 (dk dt_readDef 56 rfl) rfl rfl ?_
  refine T_bipush (v := 23) (dk dt_readDef 57 rfl) (by decide +kernel) ?_
  refine MT_callVi [vi 23] [] rfl (dk dt_readDef 58 rfl) cv_415 rfl rfl (Nat.le_of_ble_eq_true rfl) (Nat.le_of_ble_eq_true rfl) rfl rfl h (fun r2 x1 h => ?_)
  refine T_istore_n (lv2 := [(3, vi r2), (0, vr 0)]) (dk dt_readDef 59 rfl) rfl (by decide) rfl ?_
  refine T_aload_n 1 (dk dt_readDef 60 rfl) rfl rfl ?_
  refine T_bipush (v := 37) (dk dt_readDef 61 rfl) (by decide +kernel) ?_
  refine MT_callVv [vi 37] [] rfl (dk dt_readDef 62 rfl) cv_382 rfl rfl (Nat.le_of_ble_eq_true rfl) (Nat.le_of_ble_eq_true rfl) rfl rfl h (fun x3 h => ?_)
  refine T_aload_n 1 (dk dt_readDef 63 rfl) rfl rfl ?_
  refine MT_callVi [] [] rfl (dk dt_readDef 64 rfl) cv_418 rfl rfl (Nat.le_of_ble_eq_true rfl) (Nat.le_of_ble_eq_true rfl) rfl rfl h (fun r5 x4 h => ?_)
  refine T_istore_n (lv2 := [(2, vi r5), (3, vi r2), (0, vr 0)]) (dk dt_readDef 65 rfl) rfl (by decide) rfl ?_
  refine T_aload_n 2 (dk dt_readDef 66 rfl) rfl rfl ?_
  refine T_iconst (v := 0) (dk dt_readDef 67 rfl) (by decide +kernel) ?_
  obtain ⟨x6, ex6⟩ : ∃ z, z = si x4 0 21 0 := ⟨_, rfl⟩
  have h := h x6 ex6
  refine T_putI 0 21 (dk dt_readDef 68 rfl) fl_433 mk_0 ml_0 (by decide) rfl ⟨rfl, rfl⟩ ?_
  rw [← ex6]
  refine T_aload_n 2 (dk dt_readDef 69 rfl) rfl rfl ?_
  refine T_iconst (v := 0) (dk dt_readDef 70 rfl) (by decide +kernel) ?_
  obtain ⟨x7, ex7⟩ : ∃ z, z = si x6 0 20 0 := ⟨_, rfl⟩
  have h := h x7 ex7
  refine T_putI 0 20 (dk dt_readDef 71 rfl) fl_386 mk_0 ml_0 (by decide) rfl ⟨rfl, rfl⟩ ?_
  rw [← ex7]
  refine T_aload_n 2 (dk dt_readDef 72 rfl) rfl rfl ?_
  refine MT_callVi [] [] rfl (dk dt_readDef 73 rfl) cv_442 rfl rfl (Nat.le_of_ble_eq_true rfl) (Nat.le_of_ble_eq_true rfl) rfl rfl h (fun r9 x8 h => ?_)
  refine T_istore (lv2 := [(4, vi r9), (2, vi r5), (3, vi r2), (0, vr 0)]) (dk dt_readDef 74 rfl) (by decide) rfl ?_
  refine T_aload_n 3 (dk dt_readDef 75 rfl) rfl rfl ?_
  refine T_getI 0 9 (dk dt_readDef 76 rfl) fl_366 mk_0 ml_0 (by decide) rfl ?_
  refine T_if_ne 248 (dk dt_readDef 77 rfl) (by decide) (fun c10 => ?_) (fun c10 => ?_)
  · have h := h.1 c10
    exact MT_vret (dk dt_readDef 105 rfl) rfl h
  · have h := h.2 c10
    refine T_aload_n 3 (dk dt_readDef 78 rfl) rfl rfl ?_
    refine T_iload_n 1 (dk dt_readDef 79 rfl) rfl rfl ?_
    refine T_iconst (v := 2) (dk dt_readDef 80 rfl) (by decide +kernel) ?_
    refine T_aload_n 3 (dk dt_readDef 81 rfl) rfl rfl ?_
    refine T_getI 0 25 (dk dt_readDef 82 rfl) fl_461 mk_0 ml_0 (by decide) rfl ?_
    refine T_iconst (v := 1) (dk dt_readDef 83 rfl) (by decide +kernel) ?_
    refine T_iconst (v := 0) (dk dt_readDef 84 rfl) (by decide +kernel) ?_
    refine T_iconst (v := (-1)) (dk dt_readDef 85 rfl) (by decide +kernel) ?_
    refine MT_callVv [vi r5, vi 2, vi (x8.1 0 25), vi 1, vi 0, vi (-1)] [] rfl (dk dt_readDef 86 rfl) cv_451 rfl rfl (Nat.le_of_ble_eq_true rfl) (Nat.le_of_ble_eq_true rfl) rfl rfl h (fun x11 h => ?_)
    refine T_aload_n 3 (dk dt_readDef 87 rfl) rfl rfl ?_
    refine T_getR 0 37 38 (dk dt_readDef 88 rfl) fl_76 mk_0 ml_0 (by decide) rfl rfl ?_
    refine T_aload_n 3 (dk dt_readDef 89 rfl) rfl rfl ?_
    refine T_getI 0 25 (dk dt_readDef 90 rfl) fl_461 mk_0 ml_0 (by decide) rfl ?_
    refine T_iload_n 2 (dk dt_readDef 91 rfl) rfl rfl ?_
    obtain ⟨h12, h⟩ := h
    obtain ⟨x13, ex13⟩ : ∃ z, z = si x11 38 (x11.1 0 25 : Int32).toNatClampNeg (vp_nar .boolean r2) := ⟨_, rfl⟩
    have h := h x13 ex13
    refine T_zast 38 6 (dk dt_readDef 92 rfl) mk_38 ml_38 h12 ?_
    rw [← ex13]
    refine T_aload_n 3 (dk dt_readDef 93 rfl) rfl rfl ?_
    refine T_getR 0 38 39 (dk dt_readDef 94 rfl) fl_79 mk_0 ml_0 (by decide) rfl rfl ?_
    refine T_aload_n 3 (dk dt_readDef 95 rfl) rfl rfl ?_
    refine T_getI 0 25 (dk dt_readDef 96 rfl) fl_461 mk_0 ml_0 (by decide) rfl ?_
    refine T_iload 0 (dk dt_readDef 97 rfl) rfl ?_
    obtain ⟨h14, h⟩ := h
    obtain ⟨x15, ex15⟩ : ∃ z, z = si x13 39 (x13.1 0 25 : Int32).toNatClampNeg r9 := ⟨_, rfl⟩
    have h := h x15 ex15
    refine T_iast 39 6 (dk dt_readDef 98 rfl) mk_39 ml_39 h14 ?_
    rw [← ex15]
    refine T_aload_n 3 (dk dt_readDef 99 rfl) rfl rfl ?_
    refine T_dup (dk dt_readDef 100 rfl) rfl ?_
    refine T_getI 0 25 (dk dt_readDef 101 rfl) fl_461 mk_0 ml_0 (by decide) rfl ?_
    refine T_iconst (v := 1) (dk dt_readDef 102 rfl) (by decide +kernel) ?_
    refine T_iadd (dk dt_readDef 103 rfl) ?_
    obtain ⟨x16, ex16⟩ : ∃ z, z = si x15 0 25 ((x15.1 0 25) + 1) := ⟨_, rfl⟩
    have h := h x16 ex16
    refine T_putI 0 25 (dk dt_readDef 104 rfl) fl_461 mk_0 ml_0 (by decide) rfl ⟨rfl, rfl⟩ ?_
    rw [← ex16]
    exact MT_vret (dk dt_readDef 105 rfl) rfl h
set_option maxRecDepth 100000 in
set_option maxHeartbeats 4000000 in
theorem sg_readDef_266 {G : mG} {d : Nat} {x : gd} {P : Option gv → gd → Prop} (l1 : Int32) (s0 : Int32)
    (h : ((¬ (s0 = (4 : Int32)) → MT G (d + 1) z_readDef 279 [(0, vr 0), (1, vi l1)] [] x P) ∧ (s0 = (4 : Int32) → MT G d z_fault 0 [(0, vr 0), (1, vi 3), (2, vi (x.1 0 8))] [] x (rv (fun x2 => MT G (d + 1) z_readDef 279 [(0, vr 0), (1, vi l1)] [] x2 P))))) :
    MT G (d + 1) z_readDef 266 [(0, vr 0), (1, vi l1)] [vi s0] x P := by
  refine T_iconst (v := 4) (dk dt_readDef 114 rfl) (by decide +kernel) ?_
  refine T_icmp_ne 279 (dk dt_readDef 115 rfl) (by decide) (fun c1 => ?_) (fun c1 => ?_)
  · have h := h.1 c1
    exact h
  · have h := h.2 c1
    refine T_aload_n 0 (dk dt_readDef 116 rfl) rfl rfl ?_
    refine T_iconst (v := 3) (dk dt_readDef 117 rfl) (by decide +kernel) ?_
    refine T_aload_n 0 (dk dt_readDef 118 rfl) rfl rfl ?_
    refine T_getI 0 8 (dk dt_readDef 119 rfl) fl_372 mk_0 ml_0 (by decide) rfl ?_
    refine MT_callVv [vi 3, vi (x.1 0 8)] [] rfl (dk dt_readDef 120 rfl) cv_375 rfl rfl (Nat.le_of_ble_eq_true rfl) (Nat.le_of_ble_eq_true rfl) rfl rfl h (fun x2 h => ?_)
    exact h
set_option maxRecDepth 100000 in
set_option maxHeartbeats 4000000 in
theorem sg_readDef_279 {G : mG} {d : Nat} {x : gd} {P : Option gv → gd → Prop} (l1 : Int32)
    (h : MT G d z_step 0 [(0, vr 0)] [] x (rv (fun x1 => (∀ x2 : gd, x2 = si x1 0 20 0 → MT G d z_readE 0 [(0, vr 0), (1, vi 0), (2, vi 1)] [] x2 (ri (fun r4 x3 => MT G d z_pass 0 [(0, vr 0), (1, vi 67)] [] x3 (rv (fun x5 => ((¬ ((x5.1 0 9) = (0 : Int32)) → MT G (d + 1) z_readDef 339 [(0, vr 0), (5, vi r4)] [] x5 P) ∧ ((x5.1 0 9) = (0 : Int32) → ((¬ (l1 = (11 : Int32)) → MT G (d + 1) z_readDef 339 [(0, vr 0), (5, vi r4)] [] x5 P) ∧ (l1 = (11 : Int32) → vp_in (x5.1 0 26) 4 ∧ (∀ x9 : gd, x9 = si x5 40 (x5.1 0 26 : Int32).toNatClampNeg r4 → (∀ x10 : gd, x10 = si x9 0 26 ((x9.1 0 26) + 1) → P none x10)))))))))))))) :
    MT G (d + 1) z_readDef 279 [(0, vr 0), (1, vi l1)] [] x P := by
  refine T_aload_n 0 (dk dt_readDef 121 rfl) rfl rfl ?_
  refine MT_callVv [] [] rfl (dk dt_readDef 122 rfl) cv_379 rfl rfl (Nat.le_of_ble_eq_true rfl) (Nat.le_of_ble_eq_true rfl) rfl rfl h (fun x1 h => ?_)
  refine T_aload_n 0 (dk dt_readDef 123 rfl) rfl rfl ?_
  refine T_iconst (v := 0) (dk dt_readDef 124 rfl) (by decide +kernel) ?_
  obtain ⟨x2, ex2⟩ : ∃ z, z = si x1 0 20 0 := ⟨_, rfl⟩
  have h := h x2 ex2
  refine T_putI 0 20 (dk dt_readDef 125 rfl) fl_386 mk_0 ml_0 (by decide) rfl ⟨rfl, rfl⟩ ?_
  rw [← ex2]
  refine T_aload_n 0 (dk dt_readDef 126 rfl) rfl rfl ?_
  refine T_iconst (v := 0) (dk dt_readDef 127 rfl) (by decide +kernel) ?_
  refine T_iconst (v := 1) (dk dt_readDef 128 rfl) (by decide +kernel) ?_
  refine MT_callVi [vi 0, vi 1] [] rfl (dk dt_readDef 129 rfl) cv_400 rfl rfl (Nat.le_of_ble_eq_true rfl) (Nat.le_of_ble_eq_true rfl) rfl rfl h (fun r4 x3 h => ?_)
  refine T_istore (lv2 := [(5, vi r4), (0, vr 0), (1, vi l1)]) (dk dt_readDef 130 rfl) (by decide) rfl ?_
  refine T_aload_n 1 (dk dt_readDef 131 rfl) rfl rfl ?_
  refine T_bipush (v := 67) (dk dt_readDef 132 rfl) (by decide +kernel) ?_
  refine MT_callVv [vi 67] [] rfl (dk dt_readDef 133 rfl) cv_382 rfl rfl (Nat.le_of_ble_eq_true rfl) (Nat.le_of_ble_eq_true rfl) rfl rfl h (fun x5 h => ?_)
  refine T_aload_n 1 (dk dt_readDef 134 rfl) rfl rfl ?_
  refine T_getI 0 9 (dk dt_readDef 135 rfl) fl_366 mk_0 ml_0 (by decide) rfl ?_
  refine T_if_ne 339 (dk dt_readDef 136 rfl) (by decide) (fun c6 => ?_) (fun c6 => ?_)
  · have h := h.1 c6
    exact T_sub [1, 0] rfl h
  · have h := h.2 c6
    refine T_iload_n 2 (dk dt_readDef 137 rfl) rfl rfl ?_
    refine T_bipush (v := 11) (dk dt_readDef 138 rfl) (by decide +kernel) ?_
    refine T_icmp_ne 339 (dk dt_readDef 139 rfl) (by decide) (fun c7 => ?_) (fun c7 => ?_)
    · have h := h.1 c7
      exact T_sub [1, 0] rfl h
    · have h := h.2 c7
      refine T_aload_n 1 (dk dt_readDef 140 rfl) rfl rfl ?_
      refine T_getR 0 39 40 (dk dt_readDef 141 rfl) fl_82 mk_0 ml_0 (by decide) rfl rfl ?_
      refine T_aload_n 1 (dk dt_readDef 142 rfl) rfl rfl ?_
      refine T_getI 0 26 (dk dt_readDef 143 rfl) fl_464 mk_0 ml_0 (by decide) rfl ?_
      refine T_iload 0 (dk dt_readDef 144 rfl) rfl ?_
      obtain ⟨h8, h⟩ := h
      obtain ⟨x9, ex9⟩ : ∃ z, z = si x5 40 (x5.1 0 26 : Int32).toNatClampNeg r4 := ⟨_, rfl⟩
      have h := h x9 ex9
      refine T_iast 40 4 (dk dt_readDef 145 rfl) mk_40 ml_40 h8 ?_
      rw [← ex9]
      refine T_aload_n 1 (dk dt_readDef 146 rfl) rfl rfl ?_
      refine T_dup (dk dt_readDef 147 rfl) rfl ?_
      refine T_getI 0 26 (dk dt_readDef 148 rfl) fl_464 mk_0 ml_0 (by decide) rfl ?_
      refine T_iconst (v := 1) (dk dt_readDef 149 rfl) (by decide +kernel) ?_
      refine T_iadd (dk dt_readDef 150 rfl) ?_
      obtain ⟨x10, ex10⟩ : ∃ z, z = si x9 0 26 ((x9.1 0 26) + 1) := ⟨_, rfl⟩
      have h := h x10 ex10
      refine T_putI 0 26 (dk dt_readDef 151 rfl) fl_464 mk_0 ml_0 (by decide) rfl ⟨rfl, rfl⟩ ?_
      rw [← ex10]
      refine T_goto 367 (dk dt_readDef 152 rfl) (by decide) ?_
      exact MT_vret (dk dt_readDef 168 rfl) rfl h
set_option maxRecDepth 100000 in
set_option maxHeartbeats 4000000 in
theorem sg_readDef_339 {G : mG} {d : Nat} {x : gd} {P : Option gv → gd → Prop} (l5 : Int32)
    (h : ((¬ ((x.1 0 9) = (0 : Int32)) → P none x) ∧ ((x.1 0 9) = (0 : Int32) → vp_in (x.1 0 27) 4 ∧ (∀ x3 : gd, x3 = si x 41 (x.1 0 27 : Int32).toNatClampNeg l5 → (∀ x4 : gd, x4 = si x3 0 27 ((x3.1 0 27) + 1) → P none x4))))) :
    MT G (d + 1) z_readDef 339 [(0, vr 0), (5, vi l5)] [] x P := by
  refine T_aload_n 0 (dk dt_readDef 153 rfl) rfl rfl ?_
  refine T_getI 0 9 (dk dt_readDef 154 rfl) fl_366 mk_0 ml_0 (by decide) rfl ?_
  refine T_if_ne 367 (dk dt_readDef 155 rfl) (by decide) (fun c1 => ?_) (fun c1 => ?_)
  · have h := h.1 c1
    exact MT_vret (dk dt_readDef 168 rfl) rfl h
  · have h := h.2 c1
    refine T_aload_n 0 (dk dt_readDef 156 rfl) rfl rfl ?_
    refine T_getR 0 40 41 (dk dt_readDef 157 rfl) fl_85 mk_0 ml_0 (by decide) rfl rfl ?_
    refine T_aload_n 0 (dk dt_readDef 158 rfl) rfl rfl ?_
    refine T_getI 0 27 (dk dt_readDef 159 rfl) fl_467 mk_0 ml_0 (by decide) rfl ?_
    refine T_iload 1 (dk dt_readDef 160 rfl) rfl ?_
    obtain ⟨h2, h⟩ := h
    obtain ⟨x3, ex3⟩ : ∃ z, z = si x 41 (x.1 0 27 : Int32).toNatClampNeg l5 := ⟨_, rfl⟩
    have h := h x3 ex3
    refine T_iast 41 4 (dk dt_readDef 161 rfl) mk_41 ml_41 h2 ?_
    rw [← ex3]
    refine T_aload_n 0 (dk dt_readDef 162 rfl) rfl rfl ?_
    refine T_dup (dk dt_readDef 163 rfl) rfl ?_
    refine T_getI 0 27 (dk dt_readDef 164 rfl) fl_467 mk_0 ml_0 (by decide) rfl ?_
    refine T_iconst (v := 1) (dk dt_readDef 165 rfl) (by decide +kernel) ?_
    refine T_iadd (dk dt_readDef 166 rfl) ?_
    obtain ⟨x4, ex4⟩ : ∃ z, z = si x3 0 27 ((x3.1 0 27) + 1) := ⟨_, rfl⟩
    have h := h x4 ex4
    refine T_putI 0 27 (dk dt_readDef 167 rfl) fl_467 mk_0 ml_0 (by decide) rfl ⟨rfl, rfl⟩ ?_
    rw [← ex4]
    exact MT_vret (dk dt_readDef 168 rfl) rfl h
set_option maxRecDepth 100000 in
theorem dt_wrongAt : dck cX12_wrongAt [(0, .aload_n 0, 1), (1, .getfield 470, 3), (4, .ifCond .eq 37, 3), (7, .aload_n 0, 1), (8, .getfield 17, 3), (11, .iload_n 2, 1), (12, .iaload, 1), (13, .aload_n 0, 1), (14, .getfield 473, 3), (17, .if_icmp .lt 24, 3), (20, .aload_n 0, 1), (21, .getfield 17, 3), (24, .iload_n 2, 1), (25, .iaload, 1), (26, .aload_n 0, 1), (27, .getfield 473, 3), (30, .if_icmp .ne 26, 3), (33, .iload_n 1, 1), (34, .aload_n 0, 1), (35, .getfield 470, 3), (38, .if_icmp .ge 18, 3), (41, .aload_n 0, 1), (42, .iload_n 1, 1), (43, .putfield 470, 3), (46, .aload_n 0, 1), (47, .aload_n 0, 1), (48, .getfield 17, 3), (51, .iload_n 2, 1), (52, .iaload, 1), (53, .putfield 473, 3), (56, .return_, 1)] = true := by decide +kernel
set_option maxRecDepth 100000 in
set_option maxHeartbeats 4000000 in
theorem sg_wrongAt_0 {G : mG} {d : Nat} {x : gd} {P : Option gv → gd → Prop} (l1 : Int32) (l2 : Int32)
    (h : (((x.1 0 41) = (0 : Int32) → (∀ x2 : gd, x2 = si x 0 41 l1 → vp_in l2 710 ∧ (∀ x4 : gd, x4 = si x2 0 42 (x2.1 6 (l2 : Int32).toNatClampNeg) → P none x4))) ∧ (¬ ((x.1 0 41) = (0 : Int32)) → vp_in l2 710 ∧ (((x.1 6 (l2 : Int32).toNatClampNeg) < (x.1 0 42) → (∀ x7 : gd, x7 = si x 0 41 l1 → vp_in l2 710 ∧ (∀ x9 : gd, x9 = si x7 0 42 (x7.1 6 (l2 : Int32).toNatClampNeg) → P none x9))) ∧ (¬ ((x.1 6 (l2 : Int32).toNatClampNeg) < (x.1 0 42)) → vp_in l2 710 ∧ ((¬ ((x.1 6 (l2 : Int32).toNatClampNeg) = (x.1 0 42)) → P none x) ∧ ((x.1 6 (l2 : Int32).toNatClampNeg) = (x.1 0 42) → (((x.1 0 41) ≤ l1 → P none x) ∧ (¬ ((x.1 0 41) ≤ l1) → (∀ x13 : gd, x13 = si x 0 41 l1 → vp_in l2 710 ∧ (∀ x15 : gd, x15 = si x13 0 42 (x13.1 6 (l2 : Int32).toNatClampNeg) → P none x15))))))))))) :
    MT G d z_wrongAt 0 [(0, vr 0), (1, vi l1), (2, vi l2)] [] x P := by
  refine T_aload_n 0 (dk dt_wrongAt 0 rfl) rfl rfl ?_
  refine T_getI 0 41 (dk dt_wrongAt 1 rfl) fl_470 mk_0 ml_0 (by decide) rfl ?_
  refine T_if_eq 41 (dk dt_wrongAt 2 rfl) (by decide) (fun c1 => ?_) (fun c1 => ?_)
  · have h := h.1 c1
    refine T_aload_n 0 (dk dt_wrongAt 21 rfl) rfl rfl ?_
    refine T_iload_n 1 (dk dt_wrongAt 22 rfl) rfl rfl ?_
    obtain ⟨x2, ex2⟩ : ∃ z, z = si x 0 41 l1 := ⟨_, rfl⟩
    have h := h x2 ex2
    refine T_putI 0 41 (dk dt_wrongAt 23 rfl) fl_470 mk_0 ml_0 (by decide) rfl ⟨rfl, rfl⟩ ?_
    rw [← ex2]
    refine T_aload_n 0 (dk dt_wrongAt 24 rfl) rfl rfl ?_
    refine T_aload_n 0 (dk dt_wrongAt 25 rfl) rfl rfl ?_
    refine T_getR 0 5 6 (dk dt_wrongAt 26 rfl) fl_17 mk_0 ml_0 (by decide) rfl rfl ?_
    refine T_iload_n 2 (dk dt_wrongAt 27 rfl) rfl rfl ?_
    obtain ⟨h3, h⟩ := h
    refine T_iald 6 710 (dk dt_wrongAt 28 rfl) mk_6 ml_6 h3 ?_
    obtain ⟨x4, ex4⟩ : ∃ z, z = si x2 0 42 (x2.1 6 (l2 : Int32).toNatClampNeg) := ⟨_, rfl⟩
    have h := h x4 ex4
    refine T_putI 0 42 (dk dt_wrongAt 29 rfl) fl_473 mk_0 ml_0 (by decide) rfl ⟨rfl, rfl⟩ ?_
    rw [← ex4]
    exact MT_vret (dk dt_wrongAt 30 rfl) rfl h
  · have h := h.2 c1
    refine T_aload_n 0 (dk dt_wrongAt 3 rfl) rfl rfl ?_
    refine T_getR 0 5 6 (dk dt_wrongAt 4 rfl) fl_17 mk_0 ml_0 (by decide) rfl rfl ?_
    refine T_iload_n 2 (dk dt_wrongAt 5 rfl) rfl rfl ?_
    obtain ⟨h5, h⟩ := h
    refine T_iald 6 710 (dk dt_wrongAt 6 rfl) mk_6 ml_6 h5 ?_
    refine T_aload_n 0 (dk dt_wrongAt 7 rfl) rfl rfl ?_
    refine T_getI 0 42 (dk dt_wrongAt 8 rfl) fl_473 mk_0 ml_0 (by decide) rfl ?_
    refine T_icmp_lt 41 (dk dt_wrongAt 9 rfl) (by decide) (fun c6 => ?_) (fun c6 => ?_)
    · have h := h.1 c6
      refine T_aload_n 0 (dk dt_wrongAt 21 rfl) rfl rfl ?_
      refine T_iload_n 1 (dk dt_wrongAt 22 rfl) rfl rfl ?_
      obtain ⟨x7, ex7⟩ : ∃ z, z = si x 0 41 l1 := ⟨_, rfl⟩
      have h := h x7 ex7
      refine T_putI 0 41 (dk dt_wrongAt 23 rfl) fl_470 mk_0 ml_0 (by decide) rfl ⟨rfl, rfl⟩ ?_
      rw [← ex7]
      refine T_aload_n 0 (dk dt_wrongAt 24 rfl) rfl rfl ?_
      refine T_aload_n 0 (dk dt_wrongAt 25 rfl) rfl rfl ?_
      refine T_getR 0 5 6 (dk dt_wrongAt 26 rfl) fl_17 mk_0 ml_0 (by decide) rfl rfl ?_
      refine T_iload_n 2 (dk dt_wrongAt 27 rfl) rfl rfl ?_
      obtain ⟨h8, h⟩ := h
      refine T_iald 6 710 (dk dt_wrongAt 28 rfl) mk_6 ml_6 h8 ?_
      obtain ⟨x9, ex9⟩ : ∃ z, z = si x7 0 42 (x7.1 6 (l2 : Int32).toNatClampNeg) := ⟨_, rfl⟩
      have h := h x9 ex9
      refine T_putI 0 42 (dk dt_wrongAt 29 rfl) fl_473 mk_0 ml_0 (by decide) rfl ⟨rfl, rfl⟩ ?_
      rw [← ex9]
      exact MT_vret (dk dt_wrongAt 30 rfl) rfl h
    · have h := h.2 c6
      refine T_aload_n 0 (dk dt_wrongAt 10 rfl) rfl rfl ?_
      refine T_getR 0 5 6 (dk dt_wrongAt 11 rfl) fl_17 mk_0 ml_0 (by decide) rfl rfl ?_
      refine T_iload_n 2 (dk dt_wrongAt 12 rfl) rfl rfl ?_
      obtain ⟨h10, h⟩ := h
      refine T_iald 6 710 (dk dt_wrongAt 13 rfl) mk_6 ml_6 h10 ?_
      refine T_aload_n 0 (dk dt_wrongAt 14 rfl) rfl rfl ?_
      refine T_getI 0 42 (dk dt_wrongAt 15 rfl) fl_473 mk_0 ml_0 (by decide) rfl ?_
      refine T_icmp_ne 56 (dk dt_wrongAt 16 rfl) (by decide) (fun c11 => ?_) (fun c11 => ?_)
      · have h := h.1 c11
        exact MT_vret (dk dt_wrongAt 30 rfl) rfl h
      · have h := h.2 c11
        refine T_iload_n 1 (dk dt_wrongAt 17 rfl) rfl rfl ?_
        refine T_aload_n 0 (dk dt_wrongAt 18 rfl) rfl rfl ?_
        refine T_getI 0 41 (dk dt_wrongAt 19 rfl) fl_470 mk_0 ml_0 (by decide) rfl ?_
        refine T_icmp_ge 56 (dk dt_wrongAt 20 rfl) (by decide) (fun c12 => ?_) (fun c12 => ?_)
        · have h := h.1 c12
          exact MT_vret (dk dt_wrongAt 30 rfl) rfl h
        · have h := h.2 c12
          refine T_aload_n 0 (dk dt_wrongAt 21 rfl) rfl rfl ?_
          refine T_iload_n 1 (dk dt_wrongAt 22 rfl) rfl rfl ?_
          obtain ⟨x13, ex13⟩ : ∃ z, z = si x 0 41 l1 := ⟨_, rfl⟩
          have h := h x13 ex13
          refine T_putI 0 41 (dk dt_wrongAt 23 rfl) fl_470 mk_0 ml_0 (by decide) rfl ⟨rfl, rfl⟩ ?_
          rw [← ex13]
          refine T_aload_n 0 (dk dt_wrongAt 24 rfl) rfl rfl ?_
          refine T_aload_n 0 (dk dt_wrongAt 25 rfl) rfl rfl ?_
          refine T_getR 0 5 6 (dk dt_wrongAt 26 rfl) fl_17 mk_0 ml_0 (by decide) rfl rfl ?_
          refine T_iload_n 2 (dk dt_wrongAt 27 rfl) rfl rfl ?_
          obtain ⟨h14, h⟩ := h
          refine T_iald 6 710 (dk dt_wrongAt 28 rfl) mk_6 ml_6 h14 ?_
          obtain ⟨x15, ex15⟩ : ∃ z, z = si x13 0 42 (x13.1 6 (l2 : Int32).toNatClampNeg) := ⟨_, rfl⟩
          have h := h x15 ex15
          refine T_putI 0 42 (dk dt_wrongAt 29 rfl) fl_473 mk_0 ml_0 (by decide) rfl ⟨rfl, rfl⟩ ?_
          rw [← ex15]
          exact MT_vret (dk dt_wrongAt 30 rfl) rfl h
set_option maxRecDepth 100000 in
theorem dt_toldOf : dck cX12_toldOf [(0, .iconst 0, 1), (1, .istore_n 2, 1), (2, .iload_n 2, 1), (3, .aload_n 0, 1), (4, .getfield 445, 3), (7, .if_icmp .ge 25, 3), (10, .aload_n 0, 1), (11, .aload_n 0, 1), (12, .getfield 51, 3), (15, .iload_n 2, 1), (16, .iaload, 1), (17, .iload_n 1, 1), (18, .invokevirtual 476, 3), (21, .ifCond .eq 5, 3), (24, .iload_n 2, 1), (25, .ireturn, 1), (26, .iinc 2 1, 3), (29, .goto (-27), 3), (32, .iconst (-1), 1), (33, .ireturn, 1)] = true := by decide +kernel
set_option maxRecDepth 100000 in
set_option maxHeartbeats 4000000 in
theorem sg_toldOf_0 {G : mG} {d : Nat} {x : gd} {P : Option gv → gd → Prop} (l1 : Int32)
    (h : MT G (d + 1) z_toldOf 2 [(0, vr 0), (1, vi l1), (2, vi 0)] [] x P) :
    MT G (d + 1) z_toldOf 0 [(0, vr 0), (1, vi l1)] [] x P := by
  refine T_iconst (v := 0) (dk dt_toldOf 0 rfl) (by decide +kernel) ?_
  refine T_istore_n (lv2 := [(2, vi 0), (0, vr 0), (1, vi l1)]) (dk dt_toldOf 1 rfl) rfl (by decide) rfl ?_
  exact T_sub [1, 2, 0] rfl h
set_option maxRecDepth 100000 in
set_option maxHeartbeats 4000000 in
theorem sg_toldOf_2 {G : mG} {d : Nat} {x : gd} {P : Option gv → gd → Prop} (l1 : Int32) (l2 : Int32)
    (h : (((x.1 0 28) ≤ l2 → P (some (vi (-1))) x) ∧ (¬ ((x.1 0 28) ≤ l2) → vp_in l2 40 ∧ MT G d z_isSameName 0 [(0, vr 0), (1, vi (x.1 30 (l2 : Int32).toNatClampNeg)), (2, vi l1)] [] x (ri (fun r4 x3 => ((r4 = (0 : Int32) → MT G (d + 1) z_toldOf 2 [(0, vr 0), (1, vi l1), (2, vi (l2 + 1))] [] x3 P) ∧ (¬ (r4 = (0 : Int32)) → P (some (vi l2)) x3))))))) :
    MT G (d + 1) z_toldOf 2 [(0, vr 0), (1, vi l1), (2, vi l2)] [] x P := by
  refine T_iload_n 2 (dk dt_toldOf 2 rfl) rfl rfl ?_
  refine T_aload_n 0 (dk dt_toldOf 3 rfl) rfl rfl ?_
  refine T_getI 0 28 (dk dt_toldOf 4 rfl) fl_445 mk_0 ml_0 (by decide) rfl ?_
  refine T_icmp_ge 32 (dk dt_toldOf 5 rfl) (by decide) (fun c1 => ?_) (fun c1 => ?_)
  · have h := h.1 c1
    refine T_iconst (v := (-1)) (dk dt_toldOf 18 rfl) (by decide +kernel) ?_
    exact MT_iret (dk dt_toldOf 19 rfl) rfl rfl h
  · have h := h.2 c1
    refine T_aload_n 0 (dk dt_toldOf 6 rfl) rfl rfl ?_
    refine T_aload_n 0 (dk dt_toldOf 7 rfl) rfl rfl ?_
    refine T_getR 0 29 30 (dk dt_toldOf 8 rfl) fl_51 mk_0 ml_0 (by decide) rfl rfl ?_
    refine T_iload_n 2 (dk dt_toldOf 9 rfl) rfl rfl ?_
    obtain ⟨h2, h⟩ := h
    refine T_iald 30 40 (dk dt_toldOf 10 rfl) mk_30 ml_30 h2 ?_
    refine T_iload_n 1 (dk dt_toldOf 11 rfl) rfl rfl ?_
    refine MT_callVi [vi (x.1 30 (l2 : Int32).toNatClampNeg), vi l1] [] rfl (dk dt_toldOf 12 rfl) cv_476 rfl rfl (Nat.le_of_ble_eq_true rfl) (Nat.le_of_ble_eq_true rfl) rfl rfl h (fun r4 x3 h => ?_)
    refine T_if_eq 26 (dk dt_toldOf 13 rfl) (by decide) (fun c5 => ?_) (fun c5 => ?_)
    · have h := h.1 c5
      refine T_iinc (v := l2 + 1) (lv2 := [(2, vi (l2 + 1)), (0, vr 0), (1, vi l1)]) 2 (dk dt_toldOf 16 rfl) rfl rfl (by decide) rfl ?_
      refine T_goto 2 (dk dt_toldOf 17 rfl) (by decide) ?_
      exact T_sub [1, 2, 0] rfl h
    · have h := h.2 c5
      refine T_iload_n 2 (dk dt_toldOf 14 rfl) rfl rfl ?_
      exact MT_iret (dk dt_toldOf 15 rfl) rfl rfl h
set_option maxRecDepth 100000 in
theorem dt_meant : dck cX12_meant [(0, .iconst 0, 1), (1, .istore_n 3, 1), (2, .iload_n 3, 1), (3, .aload_n 0, 1), (4, .getfield 445, 3), (7, .if_icmp .ge 35, 3), (10, .aload_n 0, 1), (11, .getfield 54, 3), (14, .iload_n 3, 1), (15, .iaload, 1), (16, .iload_n 2, 1), (17, .if_icmp .ne 19, 3), (20, .aload_n 0, 1), (21, .aload_n 0, 1), (22, .getfield 51, 3), (25, .iload_n 3, 1), (26, .iaload, 1), (27, .iload_n 1, 1), (28, .invokevirtual 476, 3), (31, .ifCond .eq 5, 3), (34, .iload_n 3, 1), (35, .ireturn, 1), (36, .iinc 3 1, 3), (39, .goto (-37), 3), (42, .iconst (-1), 1), (43, .ireturn, 1)] = true := by decide +kernel
set_option maxRecDepth 100000 in
set_option maxHeartbeats 4000000 in
theorem sg_meant_0 {G : mG} {d : Nat} {x : gd} {P : Option gv → gd → Prop} (l1 : Int32) (l2 : Int32)
    (h : MT G (d + 1) z_meant 2 [(0, vr 0), (1, vi l1), (2, vi l2), (3, vi 0)] [] x P) :
    MT G (d + 1) z_meant 0 [(0, vr 0), (1, vi l1), (2, vi l2)] [] x P := by
  refine T_iconst (v := 0) (dk dt_meant 0 rfl) (by decide +kernel) ?_
  refine T_istore_n (lv2 := [(3, vi 0), (0, vr 0), (1, vi l1), (2, vi l2)]) (dk dt_meant 1 rfl) rfl (by decide) rfl ?_
  exact T_sub [1, 2, 3, 0] rfl h
set_option maxRecDepth 100000 in
set_option maxHeartbeats 4000000 in
theorem sg_meant_2 {G : mG} {d : Nat} {x : gd} {P : Option gv → gd → Prop} (l1 : Int32) (l2 : Int32) (l3 : Int32)
    (h : (((x.1 0 28) ≤ l3 → P (some (vi (-1))) x) ∧ (¬ ((x.1 0 28) ≤ l3) → vp_in l3 40 ∧ ((¬ ((x.1 31 (l3 : Int32).toNatClampNeg) = l2) → MT G (d + 1) z_meant 2 [(0, vr 0), (1, vi l1), (2, vi l2), (3, vi (l3 + 1))] [] x P) ∧ ((x.1 31 (l3 : Int32).toNatClampNeg) = l2 → vp_in l3 40 ∧ MT G d z_isSameName 0 [(0, vr 0), (1, vi (x.1 30 (l3 : Int32).toNatClampNeg)), (2, vi l1)] [] x (ri (fun r6 x5 => ((r6 = (0 : Int32) → MT G (d + 1) z_meant 2 [(0, vr 0), (1, vi l1), (2, vi l2), (3, vi (l3 + 1))] [] x5 P) ∧ (¬ (r6 = (0 : Int32)) → P (some (vi l3)) x5))))))))) :
    MT G (d + 1) z_meant 2 [(0, vr 0), (1, vi l1), (2, vi l2), (3, vi l3)] [] x P := by
  refine T_iload_n 3 (dk dt_meant 2 rfl) rfl rfl ?_
  refine T_aload_n 0 (dk dt_meant 3 rfl) rfl rfl ?_
  refine T_getI 0 28 (dk dt_meant 4 rfl) fl_445 mk_0 ml_0 (by decide) rfl ?_
  refine T_icmp_ge 42 (dk dt_meant 5 rfl) (by decide) (fun c1 => ?_) (fun c1 => ?_)
  · have h := h.1 c1
    refine T_iconst (v := (-1)) (dk dt_meant 24 rfl) (by decide +kernel) ?_
    exact MT_iret (dk dt_meant 25 rfl) rfl rfl h
  · have h := h.2 c1
    refine T_aload_n 0 (dk dt_meant 6 rfl) rfl rfl ?_
    refine T_getR 0 30 31 (dk dt_meant 7 rfl) fl_54 mk_0 ml_0 (by decide) rfl rfl ?_
    refine T_iload_n 3 (dk dt_meant 8 rfl) rfl rfl ?_
    obtain ⟨h2, h⟩ := h
    refine T_iald 31 40 (dk dt_meant 9 rfl) mk_31 ml_31 h2 ?_
    refine T_iload_n 2 (dk dt_meant 10 rfl) rfl rfl ?_
    refine T_icmp_ne 36 (dk dt_meant 11 rfl) (by decide) (fun c3 => ?_) (fun c3 => ?_)
    · have h := h.1 c3
      refine T_iinc (v := l3 + 1) (lv2 := [(3, vi (l3 + 1)), (0, vr 0), (1, vi l1), (2, vi l2)]) 3 (dk dt_meant 22 rfl) rfl rfl (by decide) rfl ?_
      refine T_goto 2 (dk dt_meant 23 rfl) (by decide) ?_
      exact T_sub [1, 2, 3, 0] rfl h
    · have h := h.2 c3
      refine T_aload_n 0 (dk dt_meant 12 rfl) rfl rfl ?_
      refine T_aload_n 0 (dk dt_meant 13 rfl) rfl rfl ?_
      refine T_getR 0 29 30 (dk dt_meant 14 rfl) fl_51 mk_0 ml_0 (by decide) rfl rfl ?_
      refine T_iload_n 3 (dk dt_meant 15 rfl) rfl rfl ?_
      obtain ⟨h4, h⟩ := h
      refine T_iald 30 40 (dk dt_meant 16 rfl) mk_30 ml_30 h4 ?_
      refine T_iload_n 1 (dk dt_meant 17 rfl) rfl rfl ?_
      refine MT_callVi [vi (x.1 30 (l3 : Int32).toNatClampNeg), vi l1] [] rfl (dk dt_meant 18 rfl) cv_476 rfl rfl (Nat.le_of_ble_eq_true rfl) (Nat.le_of_ble_eq_true rfl) rfl rfl h (fun r6 x5 h => ?_)
      refine T_if_eq 36 (dk dt_meant 19 rfl) (by decide) (fun c7 => ?_) (fun c7 => ?_)
      · have h := h.1 c7
        refine T_iinc (v := l3 + 1) (lv2 := [(3, vi (l3 + 1)), (0, vr 0), (1, vi l1), (2, vi l2)]) 3 (dk dt_meant 22 rfl) rfl rfl (by decide) rfl ?_
        refine T_goto 2 (dk dt_meant 23 rfl) (by decide) ?_
        exact T_sub [1, 2, 3, 0] rfl h
      · have h := h.2 c7
        refine T_iload_n 3 (dk dt_meant 20 rfl) rfl rfl ?_
        exact MT_iret (dk dt_meant 21 rfl) rfl rfl h
set_option maxRecDepth 100000 in
theorem dt_slotOf : dck cX12_slotOf [(0, .aload_n 0, 1), (1, .getfield 480, 3), (4, .iconst 1, 1), (5, .isub, 1), (6, .istore_n 2, 1), (7, .iload_n 2, 1), (8, .ifCond .lt 30, 3), (11, .aload_n 0, 1), (12, .aload_n 0, 1), (13, .getfield 88, 3), (16, .iload_n 2, 1), (17, .iaload, 1), (18, .iload_n 1, 1), (19, .invokevirtual 476, 3), (22, .ifCond .eq 10, 3), (25, .aload_n 0, 1), (26, .getfield 91, 3), (29, .iload_n 2, 1), (30, .iaload, 1), (31, .ireturn, 1), (32, .iinc 2 (-1), 3), (35, .goto (-28), 3), (38, .iconst (-1), 1), (39, .ireturn, 1)] = true := by decide +kernel
set_option maxRecDepth 100000 in
set_option maxHeartbeats 4000000 in
theorem sg_slotOf_0 {G : mG} {d : Nat} {x : gd} {P : Option gv → gd → Prop} (l1 : Int32)
    (h : MT G (d + 1) z_slotOf 7 [(0, vr 0), (1, vi l1), (2, vi ((x.1 0 43) - 1))] [] x P) :
    MT G (d + 1) z_slotOf 0 [(0, vr 0), (1, vi l1)] [] x P := by
  refine T_aload_n 0 (dk dt_slotOf 0 rfl) rfl rfl ?_
  refine T_getI 0 43 (dk dt_slotOf 1 rfl) fl_480 mk_0 ml_0 (by decide) rfl ?_
  refine T_iconst (v := 1) (dk dt_slotOf 2 rfl) (by decide +kernel) ?_
  refine T_isub (dk dt_slotOf 3 rfl) ?_
  refine T_istore_n (lv2 := [(2, vi ((x.1 0 43) - 1)), (0, vr 0), (1, vi l1)]) (dk dt_slotOf 4 rfl) rfl (by decide) rfl ?_
  exact T_sub [1, 2, 0] rfl h
set_option maxRecDepth 100000 in
set_option maxHeartbeats 4000000 in
theorem sg_slotOf_7 {G : mG} {d : Nat} {x : gd} {P : Option gv → gd → Prop} (l1 : Int32) (l2 : Int32)
    (h : ((l2 < (0 : Int32) → P (some (vi (-1))) x) ∧ (¬ (l2 < (0 : Int32)) → vp_in l2 40 ∧ MT G d z_isSameName 0 [(0, vr 0), (1, vi (x.1 45 (l2 : Int32).toNatClampNeg)), (2, vi l1)] [] x (ri (fun r4 x3 => ((r4 = (0 : Int32) → MT G (d + 1) z_slotOf 7 [(0, vr 0), (1, vi l1), (2, vi (l2 + (-1)))] [] x3 P) ∧ (¬ (r4 = (0 : Int32)) → vp_in l2 40 ∧ P (some (vi (x3.1 46 (l2 : Int32).toNatClampNeg))) x3))))))) :
    MT G (d + 1) z_slotOf 7 [(0, vr 0), (1, vi l1), (2, vi l2)] [] x P := by
  refine T_iload_n 2 (dk dt_slotOf 5 rfl) rfl rfl ?_
  refine T_if_lt 38 (dk dt_slotOf 6 rfl) (by decide) (fun c1 => ?_) (fun c1 => ?_)
  · have h := h.1 c1
    refine T_iconst (v := (-1)) (dk dt_slotOf 22 rfl) (by decide +kernel) ?_
    exact MT_iret (dk dt_slotOf 23 rfl) rfl rfl h
  · have h := h.2 c1
    refine T_aload_n 0 (dk dt_slotOf 7 rfl) rfl rfl ?_
    refine T_aload_n 0 (dk dt_slotOf 8 rfl) rfl rfl ?_
    refine T_getR 0 44 45 (dk dt_slotOf 9 rfl) fl_88 mk_0 ml_0 (by decide) rfl rfl ?_
    refine T_iload_n 2 (dk dt_slotOf 10 rfl) rfl rfl ?_
    obtain ⟨h2, h⟩ := h
    refine T_iald 45 40 (dk dt_slotOf 11 rfl) mk_45 ml_45 h2 ?_
    refine T_iload_n 1 (dk dt_slotOf 12 rfl) rfl rfl ?_
    refine MT_callVi [vi (x.1 45 (l2 : Int32).toNatClampNeg), vi l1] [] rfl (dk dt_slotOf 13 rfl) cv_476 rfl rfl (Nat.le_of_ble_eq_true rfl) (Nat.le_of_ble_eq_true rfl) rfl rfl h (fun r4 x3 h => ?_)
    refine T_if_eq 32 (dk dt_slotOf 14 rfl) (by decide) (fun c5 => ?_) (fun c5 => ?_)
    · have h := h.1 c5
      refine T_iinc (v := l2 + (-1)) (lv2 := [(2, vi (l2 + (-1))), (0, vr 0), (1, vi l1)]) 2 (dk dt_slotOf 20 rfl) rfl rfl (by decide) rfl ?_
      refine T_goto 7 (dk dt_slotOf 21 rfl) (by decide) ?_
      exact T_sub [1, 2, 0] rfl h
    · have h := h.2 c5
      refine T_aload_n 0 (dk dt_slotOf 15 rfl) rfl rfl ?_
      refine T_getR 0 45 46 (dk dt_slotOf 16 rfl) fl_91 mk_0 ml_0 (by decide) rfl rfl ?_
      refine T_iload_n 2 (dk dt_slotOf 17 rfl) rfl rfl ?_
      obtain ⟨h6, h⟩ := h
      refine T_iald 46 40 (dk dt_slotOf 18 rfl) mk_46 ml_46 h6 ?_
      exact MT_iret (dk dt_slotOf 19 rfl) rfl rfl h
set_option maxRecDepth 100000 in
theorem dt_knownMask : dck cX12_knownMask [(0, .iconst 0, 1), (1, .istore_n 1, 1), (2, .iconst 0, 1), (3, .istore_n 2, 1), (4, .iload_n 2, 1), (5, .aload_n 0, 1), (6, .getfield 480, 3), (9, .if_icmp .ge 20, 3), (12, .iload_n 1, 1), (13, .iconst 1, 1), (14, .aload_n 0, 1), (15, .getfield 91, 3), (18, .iload_n 2, 1), (19, .iaload, 1), (20, .ishl, 1), (21, .ior, 1), (22, .istore_n 1, 1), (23, .iinc 2 1, 3), (26, .goto (-22), 3), (29, .iload_n 1, 1), (30, .ireturn, 1)] = true := by decide +kernel
set_option maxRecDepth 100000 in
set_option maxHeartbeats 4000000 in
theorem sg_knownMask_0 {G : mG} {d : Nat} {x : gd} {P : Option gv → gd → Prop} 
    (h : MT G d z_knownMask 4 [(0, vr 0), (1, vi 0), (2, vi 0)] [] x P) :
    MT G d z_knownMask 0 [(0, vr 0)] [] x P := by
  refine T_iconst (v := 0) (dk dt_knownMask 0 rfl) (by decide +kernel) ?_
  refine T_istore_n (lv2 := [(1, vi 0), (0, vr 0)]) (dk dt_knownMask 1 rfl) rfl (by decide) rfl ?_
  refine T_iconst (v := 0) (dk dt_knownMask 2 rfl) (by decide +kernel) ?_
  refine T_istore_n (lv2 := [(2, vi 0), (1, vi 0), (0, vr 0)]) (dk dt_knownMask 3 rfl) rfl (by decide) rfl ?_
  exact T_sub [2, 1, 0] rfl h
set_option maxRecDepth 100000 in
set_option maxHeartbeats 4000000 in
theorem sg_knownMask_4 {G : mG} {d : Nat} {x : gd} {P : Option gv → gd → Prop} (l1 : Int32) (l2 : Int32)
    (h : (((x.1 0 43) ≤ l2 → P (some (vi l1)) x) ∧ (¬ ((x.1 0 43) ≤ l2) → vp_in l2 40 ∧ MT G d z_knownMask 4 [(0, vr 0), (1, vi (l1 ||| (1 <<< ((x.1 46 (l2 : Int32).toNatClampNeg) &&& 31 : Int32)))), (2, vi (l2 + 1))] [] x P))) :
    MT G d z_knownMask 4 [(0, vr 0), (1, vi l1), (2, vi l2)] [] x P := by
  refine T_iload_n 2 (dk dt_knownMask 4 rfl) rfl rfl ?_
  refine T_aload_n 0 (dk dt_knownMask 5 rfl) rfl rfl ?_
  refine T_getI 0 43 (dk dt_knownMask 6 rfl) fl_480 mk_0 ml_0 (by decide) rfl ?_
  refine T_icmp_ge 29 (dk dt_knownMask 7 rfl) (by decide) (fun c1 => ?_) (fun c1 => ?_)
  · have h := h.1 c1
    refine T_iload_n 1 (dk dt_knownMask 19 rfl) rfl rfl ?_
    exact MT_iret (dk dt_knownMask 20 rfl) rfl rfl h
  · have h := h.2 c1
    refine T_iload_n 1 (dk dt_knownMask 8 rfl) rfl rfl ?_
    refine T_iconst (v := 1) (dk dt_knownMask 9 rfl) (by decide +kernel) ?_
    refine T_aload_n 0 (dk dt_knownMask 10 rfl) rfl rfl ?_
    refine T_getR 0 45 46 (dk dt_knownMask 11 rfl) fl_91 mk_0 ml_0 (by decide) rfl rfl ?_
    refine T_iload_n 2 (dk dt_knownMask 12 rfl) rfl rfl ?_
    obtain ⟨h2, h⟩ := h
    refine T_iald 46 40 (dk dt_knownMask 13 rfl) mk_46 ml_46 h2 ?_
    refine T_ishl (dk dt_knownMask 14 rfl) ?_
    refine T_ior (dk dt_knownMask 15 rfl) ?_
    refine T_istore_n (lv2 := [(1, vi (l1 ||| (1 <<< ((x.1 46 (l2 : Int32).toNatClampNeg) &&& 31 : Int32)))), (0, vr 0), (2, vi l2)]) (dk dt_knownMask 16 rfl) rfl (by decide) rfl ?_
    refine T_iinc (v := l2 + 1) (lv2 := [(2, vi (l2 + 1)), (1, vi (l1 ||| (1 <<< ((x.1 46 (l2 : Int32).toNatClampNeg) &&& 31 : Int32)))), (0, vr 0)]) 2 (dk dt_knownMask 17 rfl) rfl rfl (by decide) rfl ?_
    refine T_goto 4 (dk dt_knownMask 18 rfl) (by decide) ?_
    exact T_sub [2, 1, 0] rfl h
set_option maxRecDepth 100000 in
theorem dt_lay : dck cX12_lay [(0, .aload_n 0, 1), (1, .getfield 97, 3), (4, .aload_n 0, 1), (5, .getfield 483, 3), (8, .iload_n 1, 1), (9, .iastore, 1), (10, .aload_n 0, 1), (11, .getfield 100, 3), (14, .aload_n 0, 1), (15, .getfield 483, 3), (18, .iload_n 2, 1), (19, .iastore, 1), (20, .aload_n 0, 1), (21, .dup, 1), (22, .getfield 483, 3), (25, .iconst 1, 1), (26, .iadd, 1), (27, .putfield 483, 3), (30, .return_, 1)] = true := by decide +kernel
set_option maxRecDepth 100000 in
set_option maxHeartbeats 4000000 in
theorem sg_lay_0 {G : mG} {d : Nat} {x : gd} {P : Option gv → gd → Prop} (l1 : Int32) (l2 : Int32)
    (h : vp_in (x.1 0 49) 6000 ∧ (∀ x2 : gd, x2 = si x 51 (x.1 0 49 : Int32).toNatClampNeg l1 → vp_in (x2.1 0 49) 6000 ∧ (∀ x4 : gd, x4 = si x2 52 (x2.1 0 49 : Int32).toNatClampNeg l2 → (∀ x5 : gd, x5 = si x4 0 49 ((x4.1 0 49) + 1) → P none x5)))) :
    MT G d z_lay 0 [(0, vr 0), (1, vi l1), (2, vi l2)] [] x P := by
  refine T_aload_n 0 (dk dt_lay 0 rfl) rfl rfl ?_
  refine T_getR 0 50 51 (dk dt_lay 1 rfl) fl_97 mk_0 ml_0 (by decide) rfl rfl ?_
  refine T_aload_n 0 (dk dt_lay 2 rfl) rfl rfl ?_
  refine T_getI 0 49 (dk dt_lay 3 rfl) fl_483 mk_0 ml_0 (by decide) rfl ?_
  refine T_iload_n 1 (dk dt_lay 4 rfl) rfl rfl ?_
  obtain ⟨h1, h⟩ := h
  obtain ⟨x2, ex2⟩ : ∃ z, z = si x 51 (x.1 0 49 : Int32).toNatClampNeg l1 := ⟨_, rfl⟩
  have h := h x2 ex2
  refine T_iast 51 6000 (dk dt_lay 5 rfl) mk_51 ml_51 h1 ?_
  rw [← ex2]
  refine T_aload_n 0 (dk dt_lay 6 rfl) rfl rfl ?_
  refine T_getR 0 51 52 (dk dt_lay 7 rfl) fl_100 mk_0 ml_0 (by decide) rfl rfl ?_
  refine T_aload_n 0 (dk dt_lay 8 rfl) rfl rfl ?_
  refine T_getI 0 49 (dk dt_lay 9 rfl) fl_483 mk_0 ml_0 (by decide) rfl ?_
  refine T_iload_n 2 (dk dt_lay 10 rfl) rfl rfl ?_
  obtain ⟨h3, h⟩ := h
  obtain ⟨x4, ex4⟩ : ∃ z, z = si x2 52 (x2.1 0 49 : Int32).toNatClampNeg l2 := ⟨_, rfl⟩
  have h := h x4 ex4
  refine T_iast 52 6000 (dk dt_lay 11 rfl) mk_52 ml_52 h3 ?_
  rw [← ex4]
  refine T_aload_n 0 (dk dt_lay 12 rfl) rfl rfl ?_
  refine T_dup (dk dt_lay 13 rfl) rfl ?_
  refine T_getI 0 49 (dk dt_lay 14 rfl) fl_483 mk_0 ml_0 (by decide) rfl ?_
  refine T_iconst (v := 1) (dk dt_lay 15 rfl) (by decide +kernel) ?_
  refine T_iadd (dk dt_lay 16 rfl) ?_
  obtain ⟨x5, ex5⟩ : ∃ z, z = si x4 0 49 ((x4.1 0 49) + 1) := ⟨_, rfl⟩
  have h := h x5 ex5
  refine T_putI 0 49 (dk dt_lay 17 rfl) fl_483 mk_0 ml_0 (by decide) rfl ⟨rfl, rfl⟩ ?_
  rw [← ex5]
  exact MT_vret (dk dt_lay 18 rfl) rfl h
set_option maxRecDepth 100000 in
theorem dt_layE : dck cX12_layE [(0, .aload_n 0, 1), (1, .getfield 45, 3), (4, .iload_n 1, 1), (5, .iaload, 1), (6, .istore_n 3, 1), (7, .aload_n 0, 1), (8, .getfield 33, 3), (11, .iload_n 1, 1), (12, .iaload, 1), (13, .tableswitch 322 1 5 #[35, 47, 54, 169, 288], 35), (48, .aload_n 0, 1), (49, .iconst 1, 1), (50, .aload_n 0, 1), (51, .getfield 36, 3), (54, .iload_n 1, 1), (55, .iaload, 1), (56, .invokevirtual 486, 3), (59, .return_, 1), (60, .aload_n 0, 1), (61, .iconst 3, 1), (62, .iconst 0, 1), (63, .invokevirtual 486, 3), (66, .return_, 1), (67, .aload_n 0, 1), (68, .iload_n 3, 1), (69, .iconst 0, 1), (70, .invokevirtual 489, 3), (73, .istore 4, 2), (75, .iload_n 2, 1), (76, .ifCond .eq 7, 3), (79, .iconst (-1), 1), (80, .goto 8, 3), (83, .aload_n 0, 1), (84, .iload_n 3, 1), (85, .invokevirtual 492, 3), (88, .istore 5, 2), (90, .iload_n 2, 1), (91, .ifCond .eq 61, 3), (94, .iload 4, 2), (96, .iconst (-1), 1), (97, .if_icmp .eq 17, 3), (100, .aload_n 0, 1), (101, .getfield 63, 3), (104, .iload 4, 2), (106, .baload, 1), (107, .ifCond .ne 7, 3), (110, .iconst 1, 1), (111, .goto 4, 3), (114, .iconst 0, 1), (115, .istore 6, 2), (117, .iload 6, 2), (119, .ifCond .ne 9, 3), (122, .aload_n 0, 1), (123, .iconst 5, 1), (124, .iload_n 3, 1), (125, .invokevirtual 495, 3), (128, .aload_n 0, 1), (129, .iconst 4, 1), (130, .iload 6, 2), (132, .ifCond .eq 13, 3), (135, .aload_n 0, 1), (136, .getfield 57, 3), (139, .iload 4, 2), (141, .iaload, 1), (142, .goto 4, 3), (145, .iconst 0, 1), (146, .invokevirtual 486, 3), (149, .goto 32, 3), (152, .iload 5, 2), (154, .iconst (-1), 1), (155, .if_icmp .ne 9, 3), (158, .aload_n 0, 1), (159, .iconst 5, 1), (160, .iload_n 3, 1), (161, .invokevirtual 495, 3), (164, .aload_n 0, 1), (165, .iconst 2, 1), (166, .iload 5, 2), (168, .iconst (-1), 1), (169, .if_icmp .ne 7, 3), (172, .iconst 0, 1), (173, .goto 5, 3), (176, .iload 5, 2), (178, .invokevirtual 486, 3), (181, .return_, 1), (182, .aload_n 0, 1), (183, .iload_n 3, 1), (184, .iconst 0, 1), (185, .invokevirtual 489, 3), (188, .istore 6, 2), (190, .iload 6, 2), (192, .iconst (-1), 1), (193, .if_icmp .eq 17, 3), (196, .aload_n 0, 1), (197, .getfield 63, 3), (200, .iload 6, 2), (202, .baload, 1), (203, .ifCond .eq 7, 3), (206, .iconst 1, 1), (207, .goto 4, 3), (210, .iconst 0, 1), (211, .istore 7, 2), (213, .aload_n 0, 1), (214, .getfield 20, 3), (217, .aload_n 0, 1), (218, .getfield 36, 3), (221, .iload_n 1, 1), (222, .iaload, 1), (223, .iaload, 1), (224, .istore 8, 2), (226, .iload 7, 2), (228, .ifCond .ne 12, 3), (231, .aload_n 0, 1), (232, .iconst 5, 1), (233, .iload_n 3, 1), (234, .invokevirtual 495, 3), (237, .goto 27, 3), (240, .iload 8, 2), (242, .aload_n 0, 1), (243, .getfield 60, 3), (246, .iload 6, 2), (248, .iaload, 1), (249, .if_icmp .lt 15, 3), (252, .aload_n 0, 1), (253, .bipush 6, 2), (255, .aload_n 0, 1), (256, .getfield 36, 3), (259, .iload_n 1, 1), (260, .iaload, 1), (261, .invokevirtual 495, 3), (264, .aload_n 0, 1), (265, .iconst 4, 1), (266, .iload 7, 2), (268, .ifCond .eq 28, 3), (271, .iload 8, 2), (273, .aload_n 0, 1), (274, .getfield 60, 3), (277, .iload 6, 2), (279, .iaload, 1), (280, .if_icmp .ge 16, 3), (283, .aload_n 0, 1), (284, .getfield 57, 3), (287, .iload 6, 2), (289, .iaload, 1), (290, .iload 8, 2), (292, .iadd, 1), (293, .goto 4, 3), (296, .iconst 0, 1), (297, .invokevirtual 486, 3), (300, .return_, 1), (301, .aload_n 0, 1), (302, .aload_n 0, 1), (303, .getfield 39, 3), (306, .iload_n 1, 1), (307, .iaload, 1), (308, .iload_n 2, 1), (309, .invokevirtual 498, 3), (312, .aload_n 0, 1), (313, .getfield 36, 3), (316, .iload_n 1, 1), (317, .iaload, 1), (318, .bipush 61, 2), (320, .if_icmp .eq 14, 3), (323, .aload_n 0, 1), (324, .iconst 5, 1), (325, .aload_n 0, 1), (326, .getfield 36, 3), (329, .iload_n 1, 1), (330, .iaload, 1), (331, .invokevirtual 486, 3), (334, .return_, 1), (335, .aload_n 0, 1), (336, .aload_n 0, 1), (337, .getfield 39, 3), (340, .iload_n 1, 1), (341, .iaload, 1), (342, .iload_n 2, 1), (343, .invokevirtual 498, 3), (346, .aload_n 0, 1), (347, .aload_n 0, 1), (348, .getfield 42, 3), (351, .iload_n 1, 1), (352, .iaload, 1), (353, .iload_n 2, 1), (354, .invokevirtual 498, 3), (357, .aload_n 0, 1), (358, .bipush 6, 2), (360, .aload_n 0, 1), (361, .getfield 36, 3), (364, .iload_n 1, 1), (365, .iaload, 1), (366, .invokevirtual 486, 3), (369, .return_, 1)] = true := by decide +kernel
set_option maxRecDepth 100000 in
set_option maxHeartbeats 4000000 in
theorem sg_layE_0 {G : mG} {d : Nat} {x : gd} {P : Option gv → gd → Prop} (l1 : Int32) (l2 : Int32)
    (h : vp_in l1 3000 ∧ vp_in l1 3000 ∧ ((((x.1 15 (l1 : Int32).toNatClampNeg) = 1) → vp_in l1 3000 ∧ MT G d z_lay 0 [(0, vr 0), (1, vi 1), (2, vi (x.1 16 (l1 : Int32).toNatClampNeg))] [] x (rv (fun x5 => P none x5))) ∧ (((x.1 15 (l1 : Int32).toNatClampNeg) = 2) → MT G d z_lay 0 [(0, vr 0), (1, vi 3), (2, vi 0)] [] x (rv (fun x7 => P none x7))) ∧ (((x.1 15 (l1 : Int32).toNatClampNeg) = 3) → MT G d z_meant 0 [(0, vr 0), (1, vi (x.1 19 (l1 : Int32).toNatClampNeg)), (2, vi 0)] [] x (ri (fun r10 x9 => ((l2 = (0 : Int32) → MT G d z_slotOf 0 [(0, vr 0), (1, vi (x.1 19 (l1 : Int32).toNatClampNeg))] [] x9 (ri (fun r13 x12 => MT G (d + 1) z_layE 88 [(0, vr 0), (2, vi l2), (3, vi (x.1 19 (l1 : Int32).toNatClampNeg)), (4, vi r10)] [vi r13] x12 P))) ∧ (¬ (l2 = (0 : Int32)) → MT G (d + 1) z_layE 88 [(0, vr 0), (2, vi l2), (3, vi (x.1 19 (l1 : Int32).toNatClampNeg)), (4, vi r10)] [vi (-1)] x9 P))))) ∧ (((x.1 15 (l1 : Int32).toNatClampNeg) = 4) → MT G d z_meant 0 [(0, vr 0), (1, vi (x.1 19 (l1 : Int32).toNatClampNeg)), (2, vi 0)] [] x (ri (fun r16 x15 => ((r16 = (-1 : Int32) → MT G (d + 1) z_layE 211 [(0, vr 0), (1, vi l1), (3, vi (x.1 19 (l1 : Int32).toNatClampNeg)), (6, vi r16)] [vi 0] x15 P) ∧ (¬ (r16 = (-1 : Int32)) → vp_in r16 40 ∧ (((x15.1 34 (r16 : Int32).toNatClampNeg) = (0 : Int32) → MT G (d + 1) z_layE 211 [(0, vr 0), (1, vi l1), (3, vi (x.1 19 (l1 : Int32).toNatClampNeg)), (6, vi r16)] [vi 0] x15 P) ∧ (¬ ((x15.1 34 (r16 : Int32).toNatClampNeg) = (0 : Int32)) → MT G (d + 1) z_layE 211 [(0, vr 0), (1, vi l1), (3, vi (x.1 19 (l1 : Int32).toNatClampNeg)), (6, vi r16)] [vi 1] x15 P))))))) ∧ (((x.1 15 (l1 : Int32).toNatClampNeg) = 5) → vp_in l1 3000 ∧ MT G d z_layE 0 [(0, vr 0), (1, vi (x.1 17 (l1 : Int32).toNatClampNeg)), (2, vi l2)] [] x (rv (fun x22 => vp_in l1 3000 ∧ (((x22.1 16 (l1 : Int32).toNatClampNeg) = (61 : Int32) → P none x22) ∧ (¬ ((x22.1 16 (l1 : Int32).toNatClampNeg) = (61 : Int32)) → vp_in l1 3000 ∧ MT G d z_lay 0 [(0, vr 0), (1, vi 5), (2, vi (x22.1 16 (l1 : Int32).toNatClampNeg))] [] x22 (rv (fun x26 => P none x26))))))) ∧ ((∀ k ∈ [(1 : Int32), (2 : Int32), (3 : Int32), (4 : Int32), (5 : Int32)], ¬ (x.1 15 (l1 : Int32).toNatClampNeg) = k) → vp_in l1 3000 ∧ MT G d z_layE 0 [(0, vr 0), (1, vi (x.1 17 (l1 : Int32).toNatClampNeg)), (2, vi l2)] [] x (rv (fun x29 => vp_in l1 3000 ∧ MT G d z_layE 0 [(0, vr 0), (1, vi (x29.1 18 (l1 : Int32).toNatClampNeg)), (2, vi l2)] [] x29 (rv (fun x31 => vp_in l1 3000 ∧ MT G d z_lay 0 [(0, vr 0), (1, vi 6), (2, vi (x31.1 16 (l1 : Int32).toNatClampNeg))] [] x31 (rv (fun x33 => P none x33))))))))) :
    MT G (d + 1) z_layE 0 [(0, vr 0), (1, vi l1), (2, vi l2)] [] x P := by
  refine T_aload_n 0 (dk dt_layE 0 rfl) rfl rfl ?_
  refine T_getR 0 18 19 (dk dt_layE 1 rfl) fl_45 mk_0 ml_0 (by decide) rfl rfl ?_
  refine T_iload_n 1 (dk dt_layE 2 rfl) rfl rfl ?_
  obtain ⟨h1, h⟩ := h
  refine T_iald 19 3000 (dk dt_layE 3 rfl) mk_19 ml_19 h1 ?_
  refine T_istore_n (lv2 := [(3, vi (x.1 19 (l1 : Int32).toNatClampNeg)), (0, vr 0), (1, vi l1), (2, vi l2)]) (dk dt_layE 4 rfl) rfl (by decide) rfl ?_
  refine T_aload_n 1 (dk dt_layE 5 rfl) rfl rfl ?_
  refine T_getR 0 14 15 (dk dt_layE 6 rfl) fl_33 mk_0 ml_0 (by decide) rfl rfl ?_
  refine T_iload_n 2 (dk dt_layE 7 rfl) rfl rfl ?_
  obtain ⟨h2, h⟩ := h
  refine T_iald 15 3000 (dk dt_layE 8 rfl) mk_15 ml_15 h2 ?_
  by_cases c3 : (x.1 15 (l1 : Int32).toNatClampNeg) = 1
  · have h := h.1 c3
    refine T_table 35 48 (dk dt_layE 9 rfl) (by decide) (by rw [c3]; decide +kernel) (by decide) ?_
    refine T_aload_n 1 (dk dt_layE 10 rfl) rfl rfl ?_
    refine T_iconst (v := 1) (dk dt_layE 11 rfl) (by decide +kernel) ?_
    refine T_aload_n 1 (dk dt_layE 12 rfl) rfl rfl ?_
    refine T_getR 0 15 16 (dk dt_layE 13 rfl) fl_36 mk_0 ml_0 (by decide) rfl rfl ?_
    refine T_iload_n 2 (dk dt_layE 14 rfl) rfl rfl ?_
    obtain ⟨h4, h⟩ := h
    refine T_iald 16 3000 (dk dt_layE 15 rfl) mk_16 ml_16 h4 ?_
    refine MT_callVv [vi 1, vi (x.1 16 (l1 : Int32).toNatClampNeg)] [] rfl (dk dt_layE 16 rfl) cv_486 rfl rfl (Nat.le_of_ble_eq_true rfl) (Nat.le_of_ble_eq_true rfl) rfl rfl h (fun x5 h => ?_)
    exact MT_vret (dk dt_layE 17 rfl) rfl h
  · have h := h.2
    by_cases c6 : (x.1 15 (l1 : Int32).toNatClampNeg) = 2
    · have h := h.1 c6
      refine T_table 47 60 (dk dt_layE 9 rfl) (by decide) (by rw [c6]; decide +kernel) (by decide) ?_
      refine T_aload_n 1 (dk dt_layE 18 rfl) rfl rfl ?_
      refine T_iconst (v := 3) (dk dt_layE 19 rfl) (by decide +kernel) ?_
      refine T_iconst (v := 0) (dk dt_layE 20 rfl) (by decide +kernel) ?_
      refine MT_callVv [vi 3, vi 0] [] rfl (dk dt_layE 21 rfl) cv_486 rfl rfl (Nat.le_of_ble_eq_true rfl) (Nat.le_of_ble_eq_true rfl) rfl rfl h (fun x7 h => ?_)
      exact MT_vret (dk dt_layE 22 rfl) rfl h
    · have h := h.2
      by_cases c8 : (x.1 15 (l1 : Int32).toNatClampNeg) = 3
      · have h := h.1 c8
        refine T_table 54 67 (dk dt_layE 9 rfl) (by decide) (by rw [c8]; decide +kernel) (by decide) ?_
        refine T_aload_n 1 (dk dt_layE 23 rfl) rfl rfl ?_
        refine T_iload_n 0 (dk dt_layE 24 rfl) rfl rfl ?_
        refine T_iconst (v := 0) (dk dt_layE 25 rfl) (by decide +kernel) ?_
        refine MT_callVi [vi (x.1 19 (l1 : Int32).toNatClampNeg), vi 0] [] rfl (dk dt_layE 26 rfl) cv_489 rfl rfl (Nat.le_of_ble_eq_true rfl) (Nat.le_of_ble_eq_true rfl) rfl rfl h (fun r10 x9 h => ?_)
        refine T_istore (lv2 := [(4, vi r10), (3, vi (x.1 19 (l1 : Int32).toNatClampNeg)), (0, vr 0), (1, vi l1), (2, vi l2)]) (dk dt_layE 27 rfl) (by decide) rfl ?_
        refine T_iload_n 4 (dk dt_layE 28 rfl) rfl rfl ?_
        refine T_if_eq 83 (dk dt_layE 29 rfl) (by decide) (fun c11 => ?_) (fun c11 => ?_)
        · have h := h.1 c11
          refine T_aload_n 2 (dk dt_layE 32 rfl) rfl rfl ?_
          refine T_iload_n 1 (dk dt_layE 33 rfl) rfl rfl ?_
          refine MT_callVi [vi (x.1 19 (l1 : Int32).toNatClampNeg)] [] rfl (dk dt_layE 34 rfl) cv_492 rfl rfl (Nat.le_of_ble_eq_true rfl) (Nat.le_of_ble_eq_true rfl) rfl rfl h (fun r13 x12 h => ?_)
          exact T_sub [2, 4, 1, 0] rfl h
        · have h := h.2 c11
          refine T_iconst (v := (-1)) (dk dt_layE 30 rfl) (by decide +kernel) ?_
          refine T_goto 88 (dk dt_layE 31 rfl) (by decide) ?_
          exact T_sub [2, 4, 1, 0] rfl h
      · have h := h.2
        by_cases c14 : (x.1 15 (l1 : Int32).toNatClampNeg) = 4
        · have h := h.1 c14
          refine T_table 169 182 (dk dt_layE 9 rfl) (by decide) (by rw [c14]; decide +kernel) (by decide) ?_
          refine T_aload_n 1 (dk dt_layE 85 rfl) rfl rfl ?_
          refine T_iload_n 0 (dk dt_layE 86 rfl) rfl rfl ?_
          refine T_iconst (v := 0) (dk dt_layE 87 rfl) (by decide +kernel) ?_
          refine MT_callVi [vi (x.1 19 (l1 : Int32).toNatClampNeg), vi 0] [] rfl (dk dt_layE 88 rfl) cv_489 rfl rfl (Nat.le_of_ble_eq_true rfl) (Nat.le_of_ble_eq_true rfl) rfl rfl h (fun r16 x15 h => ?_)
          refine T_istore (lv2 := [(6, vi r16), (3, vi (x.1 19 (l1 : Int32).toNatClampNeg)), (0, vr 0), (1, vi l1), (2, vi l2)]) (dk dt_layE 89 rfl) (by decide) rfl ?_
          refine T_iload 0 (dk dt_layE 90 rfl) rfl ?_
          refine T_iconst (v := (-1)) (dk dt_layE 91 rfl) (by decide +kernel) ?_
          refine T_icmp_eq 210 (dk dt_layE 92 rfl) (by decide) (fun c17 => ?_) (fun c17 => ?_)
          · have h := h.1 c17
            refine T_iconst (v := 0) (dk dt_layE 100 rfl) (by decide +kernel) ?_
            exact T_sub [2, 3, 1, 0] rfl h
          · have h := h.2 c17
            refine T_aload_n 2 (dk dt_layE 93 rfl) rfl rfl ?_
            refine T_getR 0 33 34 (dk dt_layE 94 rfl) fl_63 mk_0 ml_0 (by decide) rfl rfl ?_
            refine T_iload 0 (dk dt_layE 95 rfl) rfl ?_
            obtain ⟨h18, h⟩ := h
            refine T_zald 34 40 (dk dt_layE 96 rfl) mk_34 ml_34 h18 ?_
            refine T_if_eq 210 (dk dt_layE 97 rfl) (by decide) (fun c19 => ?_) (fun c19 => ?_)
            · have h := h.1 c19
              refine T_iconst (v := 0) (dk dt_layE 100 rfl) (by decide +kernel) ?_
              exact T_sub [2, 3, 1, 0] rfl h
            · have h := h.2 c19
              refine T_iconst (v := 1) (dk dt_layE 98 rfl) (by decide +kernel) ?_
              refine T_goto 211 (dk dt_layE 99 rfl) (by decide) ?_
              exact T_sub [2, 3, 1, 0] rfl h
        · have h := h.2
          by_cases c20 : (x.1 15 (l1 : Int32).toNatClampNeg) = 5
          · have h := h.1 c20
            refine T_table 288 301 (dk dt_layE 9 rfl) (by decide) (by rw [c20]; decide +kernel) (by decide) ?_
            refine T_aload_n 1 (dk dt_layE 150 rfl) rfl rfl ?_
            refine T_aload_n 1 (dk dt_layE 151 rfl) rfl rfl ?_
            refine T_getR 0 16 17 (dk dt_layE 152 rfl) fl_39 mk_0 ml_0 (by decide) rfl rfl ?_
            refine T_iload_n 2 (dk dt_layE 153 rfl) rfl rfl ?_
            obtain ⟨h21, h⟩ := h
            refine T_iald 17 3000 (dk dt_layE 154 rfl) mk_17 ml_17 h21 ?_
            refine T_iload_n 3 (dk dt_layE 155 rfl) rfl rfl ?_
            refine MT_callVv [vi (x.1 17 (l1 : Int32).toNatClampNeg), vi l2] [] rfl (dk dt_layE 156 rfl) cv_498 rfl rfl (Nat.le_of_ble_eq_true rfl) (Nat.le_of_ble_eq_true rfl) rfl rfl h (fun x22 h => ?_)
            refine T_aload_n 1 (dk dt_layE 157 rfl) rfl rfl ?_
            refine T_getR 0 15 16 (dk dt_layE 158 rfl) fl_36 mk_0 ml_0 (by decide) rfl rfl ?_
            refine T_iload_n 2 (dk dt_layE 159 rfl) rfl rfl ?_
            obtain ⟨h23, h⟩ := h
            refine T_iald 16 3000 (dk dt_layE 160 rfl) mk_16 ml_16 h23 ?_
            refine T_bipush (v := 61) (dk dt_layE 161 rfl) (by decide +kernel) ?_
            refine T_icmp_eq 334 (dk dt_layE 162 rfl) (by decide) (fun c24 => ?_) (fun c24 => ?_)
            · have h := h.1 c24
              exact MT_vret (dk dt_layE 170 rfl) rfl h
            · have h := h.2 c24
              refine T_aload_n 1 (dk dt_layE 163 rfl) rfl rfl ?_
              refine T_iconst (v := 5) (dk dt_layE 164 rfl) (by decide +kernel) ?_
              refine T_aload_n 1 (dk dt_layE 165 rfl) rfl rfl ?_
              refine T_getR 0 15 16 (dk dt_layE 166 rfl) fl_36 mk_0 ml_0 (by decide) rfl rfl ?_
              refine T_iload_n 2 (dk dt_layE 167 rfl) rfl rfl ?_
              obtain ⟨h25, h⟩ := h
              refine T_iald 16 3000 (dk dt_layE 168 rfl) mk_16 ml_16 h25 ?_
              refine MT_callVv [vi 5, vi (x22.1 16 (l1 : Int32).toNatClampNeg)] [] rfl (dk dt_layE 169 rfl) cv_486 rfl rfl (Nat.le_of_ble_eq_true rfl) (Nat.le_of_ble_eq_true rfl) rfl rfl h (fun x26 h => ?_)
              exact MT_vret (dk dt_layE 170 rfl) rfl h
          · have h := h.2
            have n27 : ∀ k ∈ [(1 : Int32), (2 : Int32), (3 : Int32), (4 : Int32), (5 : Int32)], ¬ (x.1 15 (l1 : Int32).toNatClampNeg) = k := (gno c3 (gno c6 (gno c8 (gno c14 (gno c20 gno0)))))
            have h := h n27
            refine T_table 322 335 (dk dt_layE 9 rfl) (by decide) (gtab_d [(1 : Int32), (2 : Int32), (3 : Int32), (4 : Int32), (5 : Int32)] (by decide +kernel) n27) (by decide) ?_
            refine T_aload_n 1 (dk dt_layE 171 rfl) rfl rfl ?_
            refine T_aload_n 1 (dk dt_layE 172 rfl) rfl rfl ?_
            refine T_getR 0 16 17 (dk dt_layE 173 rfl) fl_39 mk_0 ml_0 (by decide) rfl rfl ?_
            refine T_iload_n 2 (dk dt_layE 174 rfl) rfl rfl ?_
            obtain ⟨h28, h⟩ := h
            refine T_iald 17 3000 (dk dt_layE 175 rfl) mk_17 ml_17 h28 ?_
            refine T_iload_n 3 (dk dt_layE 176 rfl) rfl rfl ?_
            refine MT_callVv [vi (x.1 17 (l1 : Int32).toNatClampNeg), vi l2] [] rfl (dk dt_layE 177 rfl) cv_498 rfl rfl (Nat.le_of_ble_eq_true rfl) (Nat.le_of_ble_eq_true rfl) rfl rfl h (fun x29 h => ?_)
            refine T_aload_n 1 (dk dt_layE 178 rfl) rfl rfl ?_
            refine T_aload_n 1 (dk dt_layE 179 rfl) rfl rfl ?_
            refine T_getR 0 17 18 (dk dt_layE 180 rfl) fl_42 mk_0 ml_0 (by decide) rfl rfl ?_
            refine T_iload_n 2 (dk dt_layE 181 rfl) rfl rfl ?_
            obtain ⟨h30, h⟩ := h
            refine T_iald 18 3000 (dk dt_layE 182 rfl) mk_18 ml_18 h30 ?_
            refine T_iload_n 3 (dk dt_layE 183 rfl) rfl rfl ?_
            refine MT_callVv [vi (x29.1 18 (l1 : Int32).toNatClampNeg), vi l2] [] rfl (dk dt_layE 184 rfl) cv_498 rfl rfl (Nat.le_of_ble_eq_true rfl) (Nat.le_of_ble_eq_true rfl) rfl rfl h (fun x31 h => ?_)
            refine T_aload_n 1 (dk dt_layE 185 rfl) rfl rfl ?_
            refine T_bipush (v := 6) (dk dt_layE 186 rfl) (by decide +kernel) ?_
            refine T_aload_n 1 (dk dt_layE 187 rfl) rfl rfl ?_
            refine T_getR 0 15 16 (dk dt_layE 188 rfl) fl_36 mk_0 ml_0 (by decide) rfl rfl ?_
            refine T_iload_n 2 (dk dt_layE 189 rfl) rfl rfl ?_
            obtain ⟨h32, h⟩ := h
            refine T_iald 16 3000 (dk dt_layE 190 rfl) mk_16 ml_16 h32 ?_
            refine MT_callVv [vi 6, vi (x31.1 16 (l1 : Int32).toNatClampNeg)] [] rfl (dk dt_layE 191 rfl) cv_486 rfl rfl (Nat.le_of_ble_eq_true rfl) (Nat.le_of_ble_eq_true rfl) rfl rfl h (fun x33 h => ?_)
            exact MT_vret (dk dt_layE 192 rfl) rfl h
set_option maxRecDepth 100000 in
set_option maxHeartbeats 4000000 in
theorem sg_layE_88 {G : mG} {d : Nat} {x : gd} {P : Option gv → gd → Prop} (l2 : Int32) (l3 : Int32) (l4 : Int32) (s0 : Int32)
    (h : ((l2 = (0 : Int32) → ((¬ (s0 = (-1 : Int32)) → MT G (d + 1) z_layE 164 [(0, vr 0), (5, vi s0)] [] x P) ∧ (s0 = (-1 : Int32) → MT G d z_wrongAt 0 [(0, vr 0), (1, vi 5), (2, vi l3)] [] x (rv (fun x3 => MT G (d + 1) z_layE 164 [(0, vr 0), (5, vi s0)] [] x3 P))))) ∧ (¬ (l2 = (0 : Int32)) → ((l4 = (-1 : Int32) → MT G (d + 1) z_layE 115 [(0, vr 0), (3, vi l3), (4, vi l4)] [vi 0] x P) ∧ (¬ (l4 = (-1 : Int32)) → vp_in l4 40 ∧ ((¬ ((x.1 34 (l4 : Int32).toNatClampNeg) = (0 : Int32)) → MT G (d + 1) z_layE 115 [(0, vr 0), (3, vi l3), (4, vi l4)] [vi 0] x P) ∧ ((x.1 34 (l4 : Int32).toNatClampNeg) = (0 : Int32) → MT G (d + 1) z_layE 115 [(0, vr 0), (3, vi l3), (4, vi l4)] [vi 1] x P))))))) :
    MT G (d + 1) z_layE 88 [(0, vr 0), (2, vi l2), (3, vi l3), (4, vi l4)] [vi s0] x P := by
  refine T_istore (lv2 := [(5, vi s0), (0, vr 0), (2, vi l2), (3, vi l3), (4, vi l4)]) (dk dt_layE 35 rfl) (by decide) rfl ?_
  refine T_iload_n 2 (dk dt_layE 36 rfl) rfl rfl ?_
  refine T_if_eq 152 (dk dt_layE 37 rfl) (by decide) (fun c1 => ?_) (fun c1 => ?_)
  · have h := h.1 c1
    refine T_iload 0 (dk dt_layE 68 rfl) rfl ?_
    refine T_iconst (v := (-1)) (dk dt_layE 69 rfl) (by decide +kernel) ?_
    refine T_icmp_ne 164 (dk dt_layE 70 rfl) (by decide) (fun c2 => ?_) (fun c2 => ?_)
    · have h := h.1 c2
      exact T_sub [1, 0] rfl h
    · have h := h.2 c2
      refine T_aload_n 1 (dk dt_layE 71 rfl) rfl rfl ?_
      refine T_iconst (v := 5) (dk dt_layE 72 rfl) (by decide +kernel) ?_
      refine T_iload_n 3 (dk dt_layE 73 rfl) rfl rfl ?_
      refine MT_callVv [vi 5, vi l3] [] rfl (dk dt_layE 74 rfl) cv_495 rfl rfl (Nat.le_of_ble_eq_true rfl) (Nat.le_of_ble_eq_true rfl) rfl rfl h (fun x3 h => ?_)
      exact T_sub [1, 0] rfl h
  · have h := h.2 c1
    refine T_iload 4 (dk dt_layE 38 rfl) rfl ?_
    refine T_iconst (v := (-1)) (dk dt_layE 39 rfl) (by decide +kernel) ?_
    refine T_icmp_eq 114 (dk dt_layE 40 rfl) (by decide) (fun c4 => ?_) (fun c4 => ?_)
    · have h := h.1 c4
      refine T_iconst (v := 0) (dk dt_layE 48 rfl) (by decide +kernel) ?_
      exact T_sub [1, 3, 4] rfl h
    · have h := h.2 c4
      refine T_aload_n 1 (dk dt_layE 41 rfl) rfl rfl ?_
      refine T_getR 0 33 34 (dk dt_layE 42 rfl) fl_63 mk_0 ml_0 (by decide) rfl rfl ?_
      refine T_iload 4 (dk dt_layE 43 rfl) rfl ?_
      obtain ⟨h5, h⟩ := h
      refine T_zald 34 40 (dk dt_layE 44 rfl) mk_34 ml_34 h5 ?_
      refine T_if_ne 114 (dk dt_layE 45 rfl) (by decide) (fun c6 => ?_) (fun c6 => ?_)
      · have h := h.1 c6
        refine T_iconst (v := 0) (dk dt_layE 48 rfl) (by decide +kernel) ?_
        exact T_sub [1, 3, 4] rfl h
      · have h := h.2 c6
        refine T_iconst (v := 1) (dk dt_layE 46 rfl) (by decide +kernel) ?_
        refine T_goto 115 (dk dt_layE 47 rfl) (by decide) ?_
        exact T_sub [1, 3, 4] rfl h
set_option maxRecDepth 100000 in
set_option maxHeartbeats 4000000 in
theorem sg_layE_115 {G : mG} {d : Nat} {x : gd} {P : Option gv → gd → Prop} (l3 : Int32) (l4 : Int32) (s0 : Int32)
    (h : ((¬ (s0 = (0 : Int32)) → MT G (d + 1) z_layE 128 [(0, vr 0), (4, vi l4), (6, vi s0)] [] x P) ∧ (s0 = (0 : Int32) → MT G d z_wrongAt 0 [(0, vr 0), (1, vi 5), (2, vi l3)] [] x (rv (fun x2 => MT G (d + 1) z_layE 128 [(0, vr 0), (4, vi l4), (6, vi s0)] [] x2 P))))) :
    MT G (d + 1) z_layE 115 [(0, vr 0), (3, vi l3), (4, vi l4)] [vi s0] x P := by
  refine T_istore (lv2 := [(6, vi s0), (0, vr 0), (3, vi l3), (4, vi l4)]) (dk dt_layE 49 rfl) (by decide) rfl ?_
  refine T_iload 0 (dk dt_layE 50 rfl) rfl ?_
  refine T_if_ne 128 (dk dt_layE 51 rfl) (by decide) (fun c1 => ?_) (fun c1 => ?_)
  · have h := h.1 c1
    exact T_sub [1, 3, 0] rfl h
  · have h := h.2 c1
    refine T_aload_n 1 (dk dt_layE 52 rfl) rfl rfl ?_
    refine T_iconst (v := 5) (dk dt_layE 53 rfl) (by decide +kernel) ?_
    refine T_iload_n 2 (dk dt_layE 54 rfl) rfl rfl ?_
    refine MT_callVv [vi 5, vi l3] [] rfl (dk dt_layE 55 rfl) cv_495 rfl rfl (Nat.le_of_ble_eq_true rfl) (Nat.le_of_ble_eq_true rfl) rfl rfl h (fun x2 h => ?_)
    exact T_sub [1, 3, 0] rfl h
set_option maxRecDepth 100000 in
set_option maxHeartbeats 4000000 in
theorem sg_layE_128 {G : mG} {d : Nat} {x : gd} {P : Option gv → gd → Prop} (l4 : Int32) (l6 : Int32)
    (h : ((l6 = (0 : Int32) → MT G (d + 1) z_layE 146 [(0, vr 0)] [vi 0, vi 4, vr 0] x P) ∧ (¬ (l6 = (0 : Int32)) → vp_in l4 40 ∧ MT G (d + 1) z_layE 146 [(0, vr 0)] [vi (x.1 32 (l4 : Int32).toNatClampNeg), vi 4, vr 0] x P))) :
    MT G (d + 1) z_layE 128 [(0, vr 0), (4, vi l4), (6, vi l6)] [] x P := by
  refine T_aload_n 0 (dk dt_layE 56 rfl) rfl rfl ?_
  refine T_iconst (v := 4) (dk dt_layE 57 rfl) (by decide +kernel) ?_
  refine T_iload 2 (dk dt_layE 58 rfl) rfl ?_
  refine T_if_eq 145 (dk dt_layE 59 rfl) (by decide) (fun c1 => ?_) (fun c1 => ?_)
  · have h := h.1 c1
    refine T_iconst (v := 0) (dk dt_layE 65 rfl) (by decide +kernel) ?_
    exact T_sub [0] rfl h
  · have h := h.2 c1
    refine T_aload_n 0 (dk dt_layE 60 rfl) rfl rfl ?_
    refine T_getR 0 31 32 (dk dt_layE 61 rfl) fl_57 mk_0 ml_0 (by decide) rfl rfl ?_
    refine T_iload 1 (dk dt_layE 62 rfl) rfl ?_
    obtain ⟨h2, h⟩ := h
    refine T_iald 32 40 (dk dt_layE 63 rfl) mk_32 ml_32 h2 ?_
    refine T_goto 146 (dk dt_layE 64 rfl) (by decide) ?_
    exact T_sub [0] rfl h
set_option maxRecDepth 100000 in
set_option maxHeartbeats 4000000 in
theorem sg_layE_146 {G : mG} {d : Nat} {x : gd} {P : Option gv → gd → Prop} (s0 : Int32) (s1 : Int32)
    (h : MT G d z_lay 0 [(0, vr 0), (1, vi s1), (2, vi s0)] [] x (rv (fun x1 => P none x1))) :
    MT G (d + 1) z_layE 146 [(0, vr 0)] [vi s0, vi s1, vr 0] x P := by
  refine MT_callVv [vi s1, vi s0] [] rfl (dk dt_layE 66 rfl) cv_486 rfl rfl (Nat.le_of_ble_eq_true rfl) (Nat.le_of_ble_eq_true rfl) rfl rfl h (fun x1 h => ?_)
  refine T_goto 181 (dk dt_layE 67 rfl) (by decide) ?_
  exact MT_vret (dk dt_layE 84 rfl) rfl h
set_option maxRecDepth 100000 in
set_option maxHeartbeats 4000000 in
theorem sg_layE_164 {G : mG} {d : Nat} {x : gd} {P : Option gv → gd → Prop} (l5 : Int32)
    (h : ((¬ (l5 = (-1 : Int32)) → MT G (d + 1) z_layE 178 [(0, vr 0)] [vi l5, vi 2, vr 0] x P) ∧ (l5 = (-1 : Int32) → MT G (d + 1) z_layE 178 [(0, vr 0)] [vi 0, vi 2, vr 0] x P))) :
    MT G (d + 1) z_layE 164 [(0, vr 0), (5, vi l5)] [] x P := by
  refine T_aload_n 0 (dk dt_layE 75 rfl) rfl rfl ?_
  refine T_iconst (v := 2) (dk dt_layE 76 rfl) (by decide +kernel) ?_
  refine T_iload 1 (dk dt_layE 77 rfl) rfl ?_
  refine T_iconst (v := (-1)) (dk dt_layE 78 rfl) (by decide +kernel) ?_
  refine T_icmp_ne 176 (dk dt_layE 79 rfl) (by decide) (fun c1 => ?_) (fun c1 => ?_)
  · have h := h.1 c1
    refine T_iload 1 (dk dt_layE 82 rfl) rfl ?_
    exact T_sub [0] rfl h
  · have h := h.2 c1
    refine T_iconst (v := 0) (dk dt_layE 80 rfl) (by decide +kernel) ?_
    refine T_goto 178 (dk dt_layE 81 rfl) (by decide) ?_
    exact T_sub [0] rfl h
set_option maxRecDepth 100000 in
set_option maxHeartbeats 4000000 in
theorem sg_layE_178 {G : mG} {d : Nat} {x : gd} {P : Option gv → gd → Prop} (s0 : Int32) (s1 : Int32)
    (h : MT G d z_lay 0 [(0, vr 0), (1, vi s1), (2, vi s0)] [] x (rv (fun x1 => P none x1))) :
    MT G (d + 1) z_layE 178 [(0, vr 0)] [vi s0, vi s1, vr 0] x P := by
  refine MT_callVv [vi s1, vi s0] [] rfl (dk dt_layE 83 rfl) cv_486 rfl rfl (Nat.le_of_ble_eq_true rfl) (Nat.le_of_ble_eq_true rfl) rfl rfl h (fun x1 h => ?_)
  exact MT_vret (dk dt_layE 84 rfl) rfl h
set_option maxRecDepth 100000 in
set_option maxHeartbeats 4000000 in
theorem sg_layE_211 {G : mG} {d : Nat} {x : gd} {P : Option gv → gd → Prop} (l1 : Int32) (l3 : Int32) (l6 : Int32) (s0 : Int32)
    (h : vp_in l1 3000 ∧ vp_in (x.1 16 (l1 : Int32).toNatClampNeg) 710 ∧ ((¬ (s0 = (0 : Int32)) → vp_in l6 40 ∧ (((x.1 7 (x.1 16 (l1 : Int32).toNatClampNeg : Int32).toNatClampNeg) < (x.1 33 (l6 : Int32).toNatClampNeg) → MT G (d + 1) z_layE 264 [(0, vr 0), (6, vi l6), (7, vi s0), (8, vi (x.1 7 (x.1 16 (l1 : Int32).toNatClampNeg : Int32).toNatClampNeg))] [] x P) ∧ (¬ ((x.1 7 (x.1 16 (l1 : Int32).toNatClampNeg : Int32).toNatClampNeg) < (x.1 33 (l6 : Int32).toNatClampNeg)) → vp_in l1 3000 ∧ MT G d z_wrongAt 0 [(0, vr 0), (1, vi 6), (2, vi (x.1 16 (l1 : Int32).toNatClampNeg))] [] x (rv (fun x7 => MT G (d + 1) z_layE 264 [(0, vr 0), (6, vi l6), (7, vi s0), (8, vi (x.1 7 (x.1 16 (l1 : Int32).toNatClampNeg : Int32).toNatClampNeg))] [] x7 P))))) ∧ (s0 = (0 : Int32) → MT G d z_wrongAt 0 [(0, vr 0), (1, vi 5), (2, vi l3)] [] x (rv (fun x8 => MT G (d + 1) z_layE 264 [(0, vr 0), (6, vi l6), (7, vi s0), (8, vi (x.1 7 (x.1 16 (l1 : Int32).toNatClampNeg : Int32).toNatClampNeg))] [] x8 P))))) :
    MT G (d + 1) z_layE 211 [(0, vr 0), (1, vi l1), (3, vi l3), (6, vi l6)] [vi s0] x P := by
  refine T_istore (lv2 := [(7, vi s0), (0, vr 0), (1, vi l1), (3, vi l3), (6, vi l6)]) (dk dt_layE 101 rfl) (by decide) rfl ?_
  refine T_aload_n 1 (dk dt_layE 102 rfl) rfl rfl ?_
  refine T_getR 0 6 7 (dk dt_layE 103 rfl) fl_20 mk_0 ml_0 (by decide) rfl rfl ?_
  refine T_aload_n 1 (dk dt_layE 104 rfl) rfl rfl ?_
  refine T_getR 0 15 16 (dk dt_layE 105 rfl) fl_36 mk_0 ml_0 (by decide) rfl rfl ?_
  refine T_iload_n 2 (dk dt_layE 106 rfl) rfl rfl ?_
  obtain ⟨h1, h⟩ := h
  refine T_iald 16 3000 (dk dt_layE 107 rfl) mk_16 ml_16 h1 ?_
  obtain ⟨h2, h⟩ := h
  refine T_iald 7 710 (dk dt_layE 108 rfl) mk_7 ml_7 h2 ?_
  refine T_istore (lv2 := [(8, vi (x.1 7 (x.1 16 (l1 : Int32).toNatClampNeg : Int32).toNatClampNeg)), (7, vi s0), (0, vr 0), (1, vi l1), (3, vi l3), (6, vi l6)]) (dk dt_layE 109 rfl) (by decide) rfl ?_
  refine T_iload 1 (dk dt_layE 110 rfl) rfl ?_
  refine T_if_ne 240 (dk dt_layE 111 rfl) (by decide) (fun c3 => ?_) (fun c3 => ?_)
  · have h := h.1 c3
    refine T_iload 0 (dk dt_layE 117 rfl) rfl ?_
    refine T_aload_n 2 (dk dt_layE 118 rfl) rfl rfl ?_
    refine T_getR 0 32 33 (dk dt_layE 119 rfl) fl_60 mk_0 ml_0 (by decide) rfl rfl ?_
    refine T_iload 5 (dk dt_layE 120 rfl) rfl ?_
    obtain ⟨h4, h⟩ := h
    refine T_iald 33 40 (dk dt_layE 121 rfl) mk_33 ml_33 h4 ?_
    refine T_icmp_lt 264 (dk dt_layE 122 rfl) (by decide) (fun c5 => ?_) (fun c5 => ?_)
    · have h := h.1 c5
      exact T_sub [2, 5, 1, 0] rfl h
    · have h := h.2 c5
      refine T_aload_n 2 (dk dt_layE 123 rfl) rfl rfl ?_
      refine T_bipush (v := 6) (dk dt_layE 124 rfl) (by decide +kernel) ?_
      refine T_aload_n 2 (dk dt_layE 125 rfl) rfl rfl ?_
      refine T_getR 0 15 16 (dk dt_layE 126 rfl) fl_36 mk_0 ml_0 (by decide) rfl rfl ?_
      refine T_iload_n 3 (dk dt_layE 127 rfl) rfl rfl ?_
      obtain ⟨h6, h⟩ := h
      refine T_iald 16 3000 (dk dt_layE 128 rfl) mk_16 ml_16 h6 ?_
      refine MT_callVv [vi 6, vi (x.1 16 (l1 : Int32).toNatClampNeg)] [] rfl (dk dt_layE 129 rfl) cv_495 rfl rfl (Nat.le_of_ble_eq_true rfl) (Nat.le_of_ble_eq_true rfl) rfl rfl h (fun x7 h => ?_)
      exact T_sub [2, 5, 1, 0] rfl h
  · have h := h.2 c3
    refine T_aload_n 2 (dk dt_layE 112 rfl) rfl rfl ?_
    refine T_iconst (v := 5) (dk dt_layE 113 rfl) (by decide +kernel) ?_
    refine T_iload_n 4 (dk dt_layE 114 rfl) rfl rfl ?_
    refine MT_callVv [vi 5, vi l3] [] rfl (dk dt_layE 115 rfl) cv_495 rfl rfl (Nat.le_of_ble_eq_true rfl) (Nat.le_of_ble_eq_true rfl) rfl rfl h (fun x8 h => ?_)
    refine T_goto 264 (dk dt_layE 116 rfl) (by decide) ?_
    exact T_sub [2, 5, 1, 0] rfl h
set_option maxRecDepth 100000 in
set_option maxHeartbeats 4000000 in
theorem sg_layE_264 {G : mG} {d : Nat} {x : gd} {P : Option gv → gd → Prop} (l6 : Int32) (l7 : Int32) (l8 : Int32)
    (h : ((l7 = (0 : Int32) → MT G (d + 1) z_layE 297 [(0, vr 0)] [vi 0, vi 4, vr 0] x P) ∧ (¬ (l7 = (0 : Int32)) → vp_in l6 40 ∧ (((x.1 33 (l6 : Int32).toNatClampNeg) ≤ l8 → MT G (d + 1) z_layE 297 [(0, vr 0)] [vi 0, vi 4, vr 0] x P) ∧ (¬ ((x.1 33 (l6 : Int32).toNatClampNeg) ≤ l8) → vp_in l6 40 ∧ MT G (d + 1) z_layE 297 [(0, vr 0)] [vi ((x.1 32 (l6 : Int32).toNatClampNeg) + l8), vi 4, vr 0] x P))))) :
    MT G (d + 1) z_layE 264 [(0, vr 0), (6, vi l6), (7, vi l7), (8, vi l8)] [] x P := by
  refine T_aload_n 0 (dk dt_layE 130 rfl) rfl rfl ?_
  refine T_iconst (v := 4) (dk dt_layE 131 rfl) (by decide +kernel) ?_
  refine T_iload 2 (dk dt_layE 132 rfl) rfl ?_
  refine T_if_eq 296 (dk dt_layE 133 rfl) (by decide) (fun c1 => ?_) (fun c1 => ?_)
  · have h := h.1 c1
    refine T_iconst (v := 0) (dk dt_layE 147 rfl) (by decide +kernel) ?_
    exact T_sub [0] rfl h
  · have h := h.2 c1
    refine T_iload 3 (dk dt_layE 134 rfl) rfl ?_
    refine T_aload_n 0 (dk dt_layE 135 rfl) rfl rfl ?_
    refine T_getR 0 32 33 (dk dt_layE 136 rfl) fl_60 mk_0 ml_0 (by decide) rfl rfl ?_
    refine T_iload 1 (dk dt_layE 137 rfl) rfl ?_
    obtain ⟨h2, h⟩ := h
    refine T_iald 33 40 (dk dt_layE 138 rfl) mk_33 ml_33 h2 ?_
    refine T_icmp_ge 296 (dk dt_layE 139 rfl) (by decide) (fun c3 => ?_) (fun c3 => ?_)
    · have h := h.1 c3
      refine T_iconst (v := 0) (dk dt_layE 147 rfl) (by decide +kernel) ?_
      exact T_sub [0] rfl h
    · have h := h.2 c3
      refine T_aload_n 0 (dk dt_layE 140 rfl) rfl rfl ?_
      refine T_getR 0 31 32 (dk dt_layE 141 rfl) fl_57 mk_0 ml_0 (by decide) rfl rfl ?_
      refine T_iload 1 (dk dt_layE 142 rfl) rfl ?_
      obtain ⟨h4, h⟩ := h
      refine T_iald 32 40 (dk dt_layE 143 rfl) mk_32 ml_32 h4 ?_
      refine T_iload 3 (dk dt_layE 144 rfl) rfl ?_
      refine T_iadd (dk dt_layE 145 rfl) ?_
      refine T_goto 297 (dk dt_layE 146 rfl) (by decide) ?_
      exact T_sub [0] rfl h
set_option maxRecDepth 100000 in
set_option maxHeartbeats 4000000 in
theorem sg_layE_297 {G : mG} {d : Nat} {x : gd} {P : Option gv → gd → Prop} (s0 : Int32) (s1 : Int32)
    (h : MT G d z_lay 0 [(0, vr 0), (1, vi s1), (2, vi s0)] [] x (rv (fun x1 => P none x1))) :
    MT G (d + 1) z_layE 297 [(0, vr 0)] [vi s0, vi s1, vr 0] x P := by
  refine MT_callVv [vi s1, vi s0] [] rfl (dk dt_layE 148 rfl) cv_486 rfl rfl (Nat.le_of_ble_eq_true rfl) (Nat.le_of_ble_eq_true rfl) rfl rfl h (fun x1 h => ?_)
  exact MT_vret (dk dt_layE 149 rfl) rfl h
set_option maxRecDepth 100000 in
theorem dt_workOf : dck cX12_workOf [(0, .iload_n 1, 1), (1, .iconst (-1), 1), (2, .if_icmp .ne 5, 3), (5, .iconst (-1), 1), (6, .ireturn, 1), (7, .aload_n 0, 1), (8, .getfield 483, 3), (11, .istore_n 3, 1), (12, .aload_n 0, 1), (13, .iload_n 1, 1), (14, .iload_n 2, 1), (15, .invokevirtual 498, 3), (18, .aload_n 0, 1), (19, .iconst 0, 1), (20, .iconst 0, 1), (21, .invokevirtual 486, 3), (24, .iload_n 3, 1), (25, .ireturn, 1)] = true := by decide +kernel
set_option maxRecDepth 100000 in
set_option maxHeartbeats 4000000 in
theorem sg_workOf_0 {G : mG} {d : Nat} {x : gd} {P : Option gv → gd → Prop} (l1 : Int32) (l2 : Int32)
    (h : ((¬ (l1 = (-1 : Int32)) → MT G d z_layE 0 [(0, vr 0), (1, vi l1), (2, vi l2)] [] x (rv (fun x2 => MT G d z_lay 0 [(0, vr 0), (1, vi 0), (2, vi 0)] [] x2 (rv (fun x3 => P (some (vi (x.1 0 49))) x3))))) ∧ (l1 = (-1 : Int32) → P (some (vi (-1))) x))) :
    MT G (d + 1) z_workOf 0 [(0, vr 0), (1, vi l1), (2, vi l2)] [] x P := by
  refine T_iload_n 1 (dk dt_workOf 0 rfl) rfl rfl ?_
  refine T_iconst (v := (-1)) (dk dt_workOf 1 rfl) (by decide +kernel) ?_
  refine T_icmp_ne 7 (dk dt_workOf 2 rfl) (by decide) (fun c1 => ?_) (fun c1 => ?_)
  · have h := h.1 c1
    refine T_aload_n 0 (dk dt_workOf 5 rfl) rfl rfl ?_
    refine T_getI 0 49 (dk dt_workOf 6 rfl) fl_483 mk_0 ml_0 (by decide) rfl ?_
    refine T_istore_n (lv2 := [(3, vi (x.1 0 49)), (0, vr 0), (1, vi l1), (2, vi l2)]) (dk dt_workOf 7 rfl) rfl (by decide) rfl ?_
    refine T_aload_n 1 (dk dt_workOf 8 rfl) rfl rfl ?_
    refine T_iload_n 2 (dk dt_workOf 9 rfl) rfl rfl ?_
    refine T_iload_n 3 (dk dt_workOf 10 rfl) rfl rfl ?_
    refine MT_callVv [vi l1, vi l2] [] rfl (dk dt_workOf 11 rfl) cv_498 rfl rfl (Nat.le_of_ble_eq_true rfl) (Nat.le_of_ble_eq_true rfl) rfl rfl h (fun x2 h => ?_)
    refine T_aload_n 1 (dk dt_workOf 12 rfl) rfl rfl ?_
    refine T_iconst (v := 0) (dk dt_workOf 13 rfl) (by decide +kernel) ?_
    refine T_iconst (v := 0) (dk dt_workOf 14 rfl) (by decide +kernel) ?_
    refine MT_callVv [vi 0, vi 0] [] rfl (dk dt_workOf 15 rfl) cv_486 rfl rfl (Nat.le_of_ble_eq_true rfl) (Nat.le_of_ble_eq_true rfl) rfl rfl h (fun x3 h => ?_)
    refine T_iload_n 0 (dk dt_workOf 16 rfl) rfl rfl ?_
    exact MT_iret (dk dt_workOf 17 rfl) rfl rfl h
  · have h := h.2 c1
    refine T_iconst (v := (-1)) (dk dt_workOf 3 rfl) (by decide +kernel) ?_
    exact MT_iret (dk dt_workOf 4 rfl) rfl rfl h
