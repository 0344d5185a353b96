section
set_option maxRecDepth 100000 in
theorem dtk_X5_canAct : dck cX5_canAct [(0, .aload_n 0, 1), (1, .iload_n 1, 1), (2, .invokevirtual 94, 3), (5, .ifCond .ne 5, 3), (8, .iconst 0, 1), (9, .ireturn, 1), (10, .aload_n 0, 1), (11, .iload_n 1, 1), (12, .iconst 2, 1), (13, .invokevirtual 90, 3), (16, .istore_n 2, 1), (17, .aload_n 0, 1), (18, .getfield 21, 3), (21, .getfield 136, 3), (24, .iload_n 2, 1), (25, .iaload, 1), (26, .istore_n 3, 1), (27, .aload_n 0, 1), (28, .iload_n 1, 1), (29, .invokevirtual 130, 3), (32, .tableswitch 211 0 15 #[80, 82, 211, 211, 211, 106, 211, 211, 211, 211, 175, 211, 80, 80, 80, 140], 80), (112, .iconst 1, 1), (113, .ireturn, 1), (114, .aload_n 0, 1), (115, .iload_n 2, 1), (116, .invokevirtual 166, 3), (119, .ifCond .ne 13, 3), (122, .aload_n 0, 1), (123, .iload_n 1, 1), (124, .bipush 7, 2), (126, .invokevirtual 90, 3), (129, .ifCond .ne 7, 3), (132, .iconst 1, 1), (133, .goto 4, 3), (136, .iconst 0, 1), (137, .ireturn, 1), (138, .aload_n 0, 1), (139, .iload_n 1, 1), (140, .bipush 7, 2), (142, .invokevirtual 90, 3), (145, .ifCond .ne 25, 3), (148, .aload_n 0, 1), (149, .iload_n 3, 1), (150, .invokevirtual 113, 3), (153, .iconst (-1), 1), (154, .if_icmp .eq 12, 3), (157, .aload_n 0, 1), (158, .iload_n 3, 1), (159, .invokevirtual 113, 3), (162, .iload_n 1, 1), (163, .if_icmp .ne 7, 3), (166, .iconst 1, 1), (167, .goto 4, 3), (170, .iconst 0, 1), (171, .ireturn, 1), (172, .aload_n 0, 1), (173, .iload_n 1, 1), (174, .bipush 7, 2), (176, .invokevirtual 90, 3), (179, .ifCond .ne 26, 3), (182, .aload_n 0, 1), (183, .iload_n 1, 1), (184, .iconst 5, 1), (185, .invokevirtual 90, 3), (188, .iconst 1, 1), (189, .if_icmp .ne 16, 3), (192, .aload_n 0, 1), (193, .iload_n 3, 1), (194, .invokevirtual 113, 3), (197, .iconst (-1), 1), (198, .if_icmp .ne 7, 3), (201, .iconst 1, 1), (202, .goto 4, 3), (205, .iconst 0, 1), (206, .ireturn, 1), (207, .aload_n 0, 1), (208, .iload_n 1, 1), (209, .bipush 7, 2), (211, .invokevirtual 90, 3), (214, .ifCond .ne 27, 3), (217, .aload_n 0, 1), (218, .iload_n 3, 1), (219, .iconst 0, 1), (220, .invokevirtual 90, 3), (223, .iconst 2, 1), (224, .if_icmp .lt 17, 3), (227, .aload_n 0, 1), (228, .iload_n 3, 1), (229, .bipush 7, 2), (231, .invokevirtual 90, 3), (234, .ifCond .ne 7, 3), (237, .iconst 1, 1), (238, .goto 4, 3), (241, .iconst 0, 1), (242, .ireturn, 1), (243, .aload_n 0, 1), (244, .iload_n 1, 1), (245, .bipush 7, 2), (247, .invokevirtual 90, 3), (250, .ifCond .ne 7, 3), (253, .iconst 1, 1), (254, .goto 4, 3), (257, .iconst 0, 1), (258, .ireturn, 1)] = true := by decide +kernel
set_option maxRecDepth 100000 in
set_option maxHeartbeats 4000000 in
theorem kg_X5_canAct_0 {G : kG} {q : kP} {d : Nat} {x : gd} {P : Option gv → gd → Prop} (hq : kV q) {o : Nat} (ho : kiM q o) (l1 : Int32)
    (h : KT G q d zk_X5_isGoing 0 [(0, vr o), (1, vi l1)] [] x (ri (fun r2 x1 => ((¬ (r2 = (0 : Int32)) → KT G q d zk_X5_get 0 [(0, vr o), (1, vi l1), (2, vi 2)] [] x1 (ri (fun r5 x4 => vp_in r5 400 ∧ KT G q d zk_X5_sortOf 0 [(0, vr o), (1, vi l1)] [] x4 (ri (fun r8 x7 => (((r8 = 0 ∨ r8 = 12 ∨ r8 = 13 ∨ r8 = 14) → P (some (vi 1)) x7) ∧ ((r8 = 1) → KT G q d zk_X5_goesLate 0 [(0, vr o), (1, vi r5)] [] x7 (ri (fun r12 x11 => ((¬ (r12 = (0 : Int32)) → P (some (vi 1)) x11) ∧ (r12 = (0 : Int32) → KT G q d zk_X5_get 0 [(0, vr o), (1, vi l1), (2, vi 7)] [] x11 (ri (fun r15 x14 => ((¬ (r15 = (0 : Int32)) → P (some (vi 0)) x14) ∧ (r15 = (0 : Int32) → P (some (vi 1)) x14))))))))) ∧ ((r8 = 5) → KT G q d zk_X5_get 0 [(0, vr o), (1, vi l1), (2, vi 7)] [] x7 (ri (fun r19 x18 => ((¬ (r19 = (0 : Int32)) → P (some (vi 0)) x18) ∧ (r19 = (0 : Int32) → KT G q d zk_X5_holder 0 [(0, vr o), (1, vi (x4.1 85 (r5 : Int32).toNatClampNeg))] [] x18 (ri (fun r22 x21 => ((r22 = (-1 : Int32) → P (some (vi 1)) x21) ∧ (¬ (r22 = (-1 : Int32)) → KT G q d zk_X5_holder 0 [(0, vr o), (1, vi (x4.1 85 (r5 : Int32).toNatClampNeg))] [] x21 (ri (fun r25 x24 => ((¬ (r25 = l1) → P (some (vi 0)) x24) ∧ (r25 = l1 → P (some (vi 1)) x24))))))))))))) ∧ ((r8 = 15) → KT G q d zk_X5_get 0 [(0, vr o), (1, vi l1), (2, vi 7)] [] x7 (ri (fun r29 x28 => ((¬ (r29 = (0 : Int32)) → P (some (vi 0)) x28) ∧ (r29 = (0 : Int32) → KT G q d zk_X5_get 0 [(0, vr o), (1, vi l1), (2, vi 5)] [] x28 (ri (fun r32 x31 => ((¬ (r32 = (1 : Int32)) → P (some (vi 0)) x31) ∧ (r32 = (1 : Int32) → KT G q d zk_X5_holder 0 [(0, vr o), (1, vi (x4.1 85 (r5 : Int32).toNatClampNeg))] [] x31 (ri (fun r35 x34 => ((¬ (r35 = (-1 : Int32)) → P (some (vi 0)) x34) ∧ (r35 = (-1 : Int32) → P (some (vi 1)) x34))))))))))))) ∧ ((r8 = 10) → KT G q d zk_X5_get 0 [(0, vr o), (1, vi l1), (2, vi 7)] [] x7 (ri (fun r39 x38 => ((¬ (r39 = (0 : Int32)) → P (some (vi 0)) x38) ∧ (r39 = (0 : Int32) → KT G q d zk_X5_get 0 [(0, vr o), (1, vi (x4.1 85 (r5 : Int32).toNatClampNeg)), (2, vi 0)] [] x38 (ri (fun r42 x41 => ((r42 < (2 : Int32) → P (some (vi 0)) x41) ∧ (¬ (r42 < (2 : Int32)) → KT G q d zk_X5_get 0 [(0, vr o), (1, vi (x4.1 85 (r5 : Int32).toNatClampNeg)), (2, vi 7)] [] x41 (ri (fun r45 x44 => ((¬ (r45 = (0 : Int32)) → P (some (vi 0)) x44) ∧ (r45 = (0 : Int32) → P (some (vi 1)) x44))))))))))))) ∧ ((∀ k ∈ [(0 : Int32), (12 : Int32), (13 : Int32), (14 : Int32), (1 : Int32), (5 : Int32), (15 : Int32), (10 : Int32)], ¬ r8 = k) → KT G q d zk_X5_get 0 [(0, vr o), (1, vi l1), (2, vi 7)] [] x7 (ri (fun r49 x48 => ((¬ (r49 = (0 : Int32)) → P (some (vi 0)) x48) ∧ (r49 = (0 : Int32) → P (some (vi 1)) x48))))))))))) ∧ (r2 = (0 : Int32) → P (some (vi 0)) x1))))) :
    KT G q (d + 1) zk_X5_canAct 0 [(0, vr o), (1, vi l1)] [] x P := by
  refine T_aload_n 0 (dk dtk_X5_canAct 0 rfl) rfl rfl ?_
  refine T_iload_n 1 (dk dtk_X5_canAct 1 rfl) rfl rfl ?_
  refine KC_Vi [vi l1] [] rfl (dk dtk_X5_canAct 2 rfl) kcv_X5_94 rfl (kk_M0 ho) rfl (kl_M0 hq ho) (Nat.le_of_ble_eq_true rfl) (Nat.le_of_ble_eq_true rfl) (gok_i (av_c (gkr (kl_M0 hq ho)) (av_c rfl av_n)) as_n) rfl h (fun r2 x1 h => ?_)
  refine T_if_ne 10 (dk dtk_X5_canAct 3 rfl) (by decide) (fun c3 => ?_) (fun c3 => ?_)
  · have h := h.1 c3
    refine T_aload_n 0 (dk dtk_X5_canAct 6 rfl) rfl rfl ?_
    refine T_iload_n 1 (dk dtk_X5_canAct 7 rfl) rfl rfl ?_
    refine T_iconst (v := 2) (dk dtk_X5_canAct 8 rfl) (by decide +kernel) ?_
    refine KC_Vi [vi l1, vi 2] [] rfl (dk dtk_X5_canAct 9 rfl) kcv_X5_90 rfl (kk_M0 ho) rfl (kl_M0 hq ho) (Nat.le_of_ble_eq_true rfl) (Nat.le_of_ble_eq_true rfl) (gok_i (av_c (gkr (kl_M0 hq ho)) (av_c rfl av_n)) as_n) rfl h (fun r5 x4 h => ?_)
    refine T_istore_n (lv2 := [(2, vi r5), (0, vr o), (1, vi l1)]) (dk dtk_X5_canAct 10 rfl) rfl (by decide) rfl ?_
    refine T_aload_n 1 (dk dtk_X5_canAct 11 rfl) rfl rfl ?_
    refine T_getR o 1 80 (dk dtk_X5_canAct 12 rfl) kfl_X5_21 (kk_M0 ho) (kl_M0 hq ho) (by decide) rfl (kr_M_1 ho) ?_
    refine T_getR 80 4 85 (dk dtk_X5_canAct 13 rfl) kfl_X5_136 kk_80 (kl_80 hq) (by decide) rfl kr_80_4 ?_
    refine T_iload_n 0 (dk dtk_X5_canAct 14 rfl) rfl rfl ?_
    obtain ⟨h6, h⟩ := h
    refine T_iald 85 400 (dk dtk_X5_canAct 15 rfl) kk_85 (kl_85 hq) h6 ?_
    refine T_istore_n (lv2 := [(3, vi (x4.1 85 (r5 : Int32).toNatClampNeg)), (2, vi r5), (0, vr o), (1, vi l1)]) (dk dtk_X5_canAct 16 rfl) rfl (by decide) rfl ?_
    refine T_aload_n 2 (dk dtk_X5_canAct 17 rfl) rfl rfl ?_
    refine T_iload_n 3 (dk dtk_X5_canAct 18 rfl) rfl rfl ?_
    refine KC_Vi [vi l1] [] rfl (dk dtk_X5_canAct 19 rfl) kcv_X5_130 rfl (kk_M0 ho) rfl (kl_M0 hq ho) (Nat.le_of_ble_eq_true rfl) (Nat.le_of_ble_eq_true rfl) (gok_i (av_c rfl (av_c rfl (av_c (gkr (kl_M0 hq ho)) (av_c rfl av_n)))) as_n) rfl h (fun r8 x7 h => ?_)
    by_cases c9 : r8 = 0 ∨ r8 = 12 ∨ r8 = 13 ∨ r8 = 14
    · have h := h.1 c9
      refine T_table 80 112 (dk dtk_X5_canAct 20 rfl) (by decide) (by rcases c9 with q9 | q9 | q9 | q9 <;> rw [q9] <;> decide +kernel) (by decide) ?_
      refine T_iconst (v := 1) (dk dtk_X5_canAct 21 rfl) (by decide +kernel) ?_
      exact KT_iret (dk dtk_X5_canAct 22 rfl) rfl rfl h
    · have h := h.2
      by_cases c10 : r8 = 1
      · have h := h.1 c10
        refine T_table 82 114 (dk dtk_X5_canAct 20 rfl) (by decide) (by rw [c10]; decide +kernel) (by decide) ?_
        refine T_aload_n 2 (dk dtk_X5_canAct 23 rfl) rfl rfl ?_
        refine T_iload_n 1 (dk dtk_X5_canAct 24 rfl) rfl rfl ?_
        refine T_sub (lv2 := [(0, vr o), (1, vi l1)]) [2, 3] rfl ?_
        refine KC_Vi [vi r5] [] rfl (dk dtk_X5_canAct 25 rfl) kcv_X5_166 rfl (kk_M0 ho) rfl (kl_M0 hq ho) (Nat.le_of_ble_eq_true rfl) (Nat.le_of_ble_eq_true rfl) (gok_i (av_c (gkr (kl_M0 hq ho)) (av_c rfl av_n)) as_n) rfl h (fun r12 x11 h => ?_)
        refine T_if_ne 132 (dk dtk_X5_canAct 26 rfl) (by decide) (fun c13 => ?_) (fun c13 => ?_)
        · have h := h.1 c13
          refine T_iconst (v := 1) (dk dtk_X5_canAct 32 rfl) (by decide +kernel) ?_
          refine T_goto 137 (dk dtk_X5_canAct 33 rfl) (by decide) ?_
          exact KT_iret (dk dtk_X5_canAct 35 rfl) rfl rfl h
        · have h := h.2 c13
          refine T_aload_n 0 (dk dtk_X5_canAct 27 rfl) rfl rfl ?_
          refine T_iload_n 1 (dk dtk_X5_canAct 28 rfl) rfl rfl ?_
          refine T_bipush (v := 7) (dk dtk_X5_canAct 29 rfl) (by decide +kernel) ?_
          refine T_sub (lv2 := []) [] rfl ?_
          refine KC_Vi [vi l1, vi 7] [] rfl (dk dtk_X5_canAct 30 rfl) kcv_X5_90 rfl (kk_M0 ho) rfl (kl_M0 hq ho) (Nat.le_of_ble_eq_true rfl) (Nat.le_of_ble_eq_true rfl) (gok_i av_n as_n) rfl h (fun r15 x14 h => ?_)
          refine T_if_ne 136 (dk dtk_X5_canAct 31 rfl) (by decide) (fun c16 => ?_) (fun c16 => ?_)
          · have h := h.1 c16
            refine T_iconst (v := 0) (dk dtk_X5_canAct 34 rfl) (by decide +kernel) ?_
            exact KT_iret (dk dtk_X5_canAct 35 rfl) rfl rfl h
          · have h := h.2 c16
            refine T_iconst (v := 1) (dk dtk_X5_canAct 32 rfl) (by decide +kernel) ?_
            refine T_goto 137 (dk dtk_X5_canAct 33 rfl) (by decide) ?_
            exact KT_iret (dk dtk_X5_canAct 35 rfl) rfl rfl h
      · have h := h.2
        by_cases c17 : r8 = 5
        · have h := h.1 c17
          refine T_table 106 138 (dk dtk_X5_canAct 20 rfl) (by decide) (by rw [c17]; decide +kernel) (by decide) ?_
          refine T_aload_n 2 (dk dtk_X5_canAct 36 rfl) rfl rfl ?_
          refine T_iload_n 3 (dk dtk_X5_canAct 37 rfl) rfl rfl ?_
          refine T_bipush (v := 7) (dk dtk_X5_canAct 38 rfl) (by decide +kernel) ?_
          refine T_sub (lv2 := [(3, vi (x4.1 85 (r5 : Int32).toNatClampNeg)), (0, vr o), (1, vi l1)]) [0, 2, 3] rfl ?_
          refine KC_Vi [vi l1, vi 7] [] rfl (dk dtk_X5_canAct 39 rfl) kcv_X5_90 rfl (kk_M0 ho) rfl (kl_M0 hq ho) (Nat.le_of_ble_eq_true rfl) (Nat.le_of_ble_eq_true rfl) (gok_i (av_c rfl (av_c (gkr (kl_M0 hq ho)) (av_c rfl av_n))) as_n) rfl h (fun r19 x18 h => ?_)
          refine T_if_ne 170 (dk dtk_X5_canAct 40 rfl) (by decide) (fun c20 => ?_) (fun c20 => ?_)
          · have h := h.1 c20
            refine T_iconst (v := 0) (dk dtk_X5_canAct 53 rfl) (by decide +kernel) ?_
            exact KT_iret (dk dtk_X5_canAct 54 rfl) rfl rfl h
          · have h := h.2 c20
            refine T_aload_n 1 (dk dtk_X5_canAct 41 rfl) rfl rfl ?_
            refine T_iload_n 0 (dk dtk_X5_canAct 42 rfl) rfl rfl ?_
            refine KC_Vi [vi (x4.1 85 (r5 : Int32).toNatClampNeg)] [] rfl (dk dtk_X5_canAct 43 rfl) kcv_X5_113 rfl (kk_M0 ho) rfl (kl_M0 hq ho) (Nat.le_of_ble_eq_true rfl) (Nat.le_of_ble_eq_true rfl) (gok_i (av_c rfl (av_c (gkr (kl_M0 hq ho)) (av_c rfl av_n))) as_n) rfl h (fun r22 x21 h => ?_)
            refine T_iconst (v := (-1)) (dk dtk_X5_canAct 44 rfl) (by decide +kernel) ?_
            refine T_icmp_eq 166 (dk dtk_X5_canAct 45 rfl) (by decide) (fun c23 => ?_) (fun c23 => ?_)
            · have h := h.1 c23
              refine T_iconst (v := 1) (dk dtk_X5_canAct 51 rfl) (by decide +kernel) ?_
              refine T_goto 171 (dk dtk_X5_canAct 52 rfl) (by decide) ?_
              exact KT_iret (dk dtk_X5_canAct 54 rfl) rfl rfl h
            · have h := h.2 c23
              refine T_aload_n 1 (dk dtk_X5_canAct 46 rfl) rfl rfl ?_
              refine T_iload_n 0 (dk dtk_X5_canAct 47 rfl) rfl rfl ?_
              refine T_sub (lv2 := [(1, vi l1)]) [2] rfl ?_
              refine KC_Vi [vi (x4.1 85 (r5 : Int32).toNatClampNeg)] [] rfl (dk dtk_X5_canAct 48 rfl) kcv_X5_113 rfl (kk_M0 ho) rfl (kl_M0 hq ho) (Nat.le_of_ble_eq_true rfl) (Nat.le_of_ble_eq_true rfl) (gok_i (av_c rfl av_n) as_n) rfl h (fun r25 x24 h => ?_)
              refine T_iload_n 0 (dk dtk_X5_canAct 49 rfl) rfl rfl ?_
              refine T_icmp_ne 170 (dk dtk_X5_canAct 50 rfl) (by decide) (fun c26 => ?_) (fun c26 => ?_)
              · have h := h.1 c26
                refine T_iconst (v := 0) (dk dtk_X5_canAct 53 rfl) (by decide +kernel) ?_
                exact KT_iret (dk dtk_X5_canAct 54 rfl) rfl rfl h
              · have h := h.2 c26
                refine T_iconst (v := 1) (dk dtk_X5_canAct 51 rfl) (by decide +kernel) ?_
                refine T_goto 171 (dk dtk_X5_canAct 52 rfl) (by decide) ?_
                exact KT_iret (dk dtk_X5_canAct 54 rfl) rfl rfl h
        · have h := h.2
          by_cases c27 : r8 = 15
          · have h := h.1 c27
            refine T_table 140 172 (dk dtk_X5_canAct 20 rfl) (by decide) (by rw [c27]; decide +kernel) (by decide) ?_
            refine T_aload_n 2 (dk dtk_X5_canAct 55 rfl) rfl rfl ?_
            refine T_iload_n 3 (dk dtk_X5_canAct 56 rfl) rfl rfl ?_
            refine T_bipush (v := 7) (dk dtk_X5_canAct 57 rfl) (by decide +kernel) ?_
            refine T_sub (lv2 := [(3, vi (x4.1 85 (r5 : Int32).toNatClampNeg)), (0, vr o), (1, vi l1)]) [0, 2, 3] rfl ?_
            refine KC_Vi [vi l1, vi 7] [] rfl (dk dtk_X5_canAct 58 rfl) kcv_X5_90 rfl (kk_M0 ho) rfl (kl_M0 hq ho) (Nat.le_of_ble_eq_true rfl) (Nat.le_of_ble_eq_true rfl) (gok_i (av_c rfl (av_c (gkr (kl_M0 hq ho)) (av_c rfl av_n))) as_n) rfl h (fun r29 x28 h => ?_)
            refine T_if_ne 205 (dk dtk_X5_canAct 59 rfl) (by decide) (fun c30 => ?_) (fun c30 => ?_)
            · have h := h.1 c30
              refine T_iconst (v := 0) (dk dtk_X5_canAct 73 rfl) (by decide +kernel) ?_
              exact KT_iret (dk dtk_X5_canAct 74 rfl) rfl rfl h
            · have h := h.2 c30
              refine T_aload_n 1 (dk dtk_X5_canAct 60 rfl) rfl rfl ?_
              refine T_iload_n 2 (dk dtk_X5_canAct 61 rfl) rfl rfl ?_
              refine T_iconst (v := 5) (dk dtk_X5_canAct 62 rfl) (by decide +kernel) ?_
              refine T_sub (lv2 := [(3, vi (x4.1 85 (r5 : Int32).toNatClampNeg)), (0, vr o)]) [0, 1] rfl ?_
              refine KC_Vi [vi l1, vi 5] [] rfl (dk dtk_X5_canAct 63 rfl) kcv_X5_90 rfl (kk_M0 ho) rfl (kl_M0 hq ho) (Nat.le_of_ble_eq_true rfl) (Nat.le_of_ble_eq_true rfl) (gok_i (av_c rfl (av_c (gkr (kl_M0 hq ho)) av_n)) as_n) rfl h (fun r32 x31 h => ?_)
              refine T_iconst (v := 1) (dk dtk_X5_canAct 64 rfl) (by decide +kernel) ?_
              refine T_icmp_ne 205 (dk dtk_X5_canAct 65 rfl) (by decide) (fun c33 => ?_) (fun c33 => ?_)
              · have h := h.1 c33
                refine T_iconst (v := 0) (dk dtk_X5_canAct 73 rfl) (by decide +kernel) ?_
                exact KT_iret (dk dtk_X5_canAct 74 rfl) rfl rfl h
              · have h := h.2 c33
                refine T_aload_n 1 (dk dtk_X5_canAct 66 rfl) rfl rfl ?_
                refine T_iload_n 0 (dk dtk_X5_canAct 67 rfl) rfl rfl ?_
                refine T_sub (lv2 := []) [] rfl ?_
                refine KC_Vi [vi (x4.1 85 (r5 : Int32).toNatClampNeg)] [] rfl (dk dtk_X5_canAct 68 rfl) kcv_X5_113 rfl (kk_M0 ho) rfl (kl_M0 hq ho) (Nat.le_of_ble_eq_true rfl) (Nat.le_of_ble_eq_true rfl) (gok_i av_n as_n) rfl h (fun r35 x34 h => ?_)
                refine T_iconst (v := (-1)) (dk dtk_X5_canAct 69 rfl) (by decide +kernel) ?_
                refine T_icmp_ne 205 (dk dtk_X5_canAct 70 rfl) (by decide) (fun c36 => ?_) (fun c36 => ?_)
                · have h := h.1 c36
                  refine T_iconst (v := 0) (dk dtk_X5_canAct 73 rfl) (by decide +kernel) ?_
                  exact KT_iret (dk dtk_X5_canAct 74 rfl) rfl rfl h
                · have h := h.2 c36
                  refine T_iconst (v := 1) (dk dtk_X5_canAct 71 rfl) (by decide +kernel) ?_
                  refine T_goto 206 (dk dtk_X5_canAct 72 rfl) (by decide) ?_
                  exact KT_iret (dk dtk_X5_canAct 74 rfl) rfl rfl h
          · have h := h.2
            by_cases c37 : r8 = 10
            · have h := h.1 c37
              refine T_table 175 207 (dk dtk_X5_canAct 20 rfl) (by decide) (by rw [c37]; decide +kernel) (by decide) ?_
              refine T_aload_n 2 (dk dtk_X5_canAct 75 rfl) rfl rfl ?_
              refine T_iload_n 3 (dk dtk_X5_canAct 76 rfl) rfl rfl ?_
              refine T_bipush (v := 7) (dk dtk_X5_canAct 77 rfl) (by decide +kernel) ?_
              refine T_sub (lv2 := [(3, vi (x4.1 85 (r5 : Int32).toNatClampNeg)), (0, vr o)]) [0, 2] rfl ?_
              refine KC_Vi [vi l1, vi 7] [] rfl (dk dtk_X5_canAct 78 rfl) kcv_X5_90 rfl (kk_M0 ho) rfl (kl_M0 hq ho) (Nat.le_of_ble_eq_true rfl) (Nat.le_of_ble_eq_true rfl) (gok_i (av_c rfl (av_c (gkr (kl_M0 hq ho)) av_n)) as_n) rfl h (fun r39 x38 h => ?_)
              refine T_if_ne 241 (dk dtk_X5_canAct 79 rfl) (by decide) (fun c40 => ?_) (fun c40 => ?_)
              · have h := h.1 c40
                refine T_iconst (v := 0) (dk dtk_X5_canAct 93 rfl) (by decide +kernel) ?_
                exact KT_iret (dk dtk_X5_canAct 94 rfl) rfl rfl h
              · have h := h.2 c40
                refine T_aload_n 1 (dk dtk_X5_canAct 80 rfl) rfl rfl ?_
                refine T_iload_n 0 (dk dtk_X5_canAct 81 rfl) rfl rfl ?_
                refine T_iconst (v := 0) (dk dtk_X5_canAct 82 rfl) (by decide +kernel) ?_
                refine KC_Vi [vi (x4.1 85 (r5 : Int32).toNatClampNeg), vi 0] [] rfl (dk dtk_X5_canAct 83 rfl) kcv_X5_90 rfl (kk_M0 ho) rfl (kl_M0 hq ho) (Nat.le_of_ble_eq_true rfl) (Nat.le_of_ble_eq_true rfl) (gok_i (av_c rfl (av_c (gkr (kl_M0 hq ho)) av_n)) as_n) rfl h (fun r42 x41 h => ?_)
                refine T_iconst (v := 2) (dk dtk_X5_canAct 84 rfl) (by decide +kernel) ?_
                refine T_icmp_lt 241 (dk dtk_X5_canAct 85 rfl) (by decide) (fun c43 => ?_) (fun c43 => ?_)
                · have h := h.1 c43
                  refine T_iconst (v := 0) (dk dtk_X5_canAct 93 rfl) (by decide +kernel) ?_
                  exact KT_iret (dk dtk_X5_canAct 94 rfl) rfl rfl h
                · have h := h.2 c43
                  refine T_aload_n 1 (dk dtk_X5_canAct 86 rfl) rfl rfl ?_
                  refine T_iload_n 0 (dk dtk_X5_canAct 87 rfl) rfl rfl ?_
                  refine T_bipush (v := 7) (dk dtk_X5_canAct 88 rfl) (by decide +kernel) ?_
                  refine T_sub (lv2 := []) [] rfl ?_
                  refine KC_Vi [vi (x4.1 85 (r5 : Int32).toNatClampNeg), vi 7] [] rfl (dk dtk_X5_canAct 89 rfl) kcv_X5_90 rfl (kk_M0 ho) rfl (kl_M0 hq ho) (Nat.le_of_ble_eq_true rfl) (Nat.le_of_ble_eq_true rfl) (gok_i av_n as_n) rfl h (fun r45 x44 h => ?_)
                  refine T_if_ne 241 (dk dtk_X5_canAct 90 rfl) (by decide) (fun c46 => ?_) (fun c46 => ?_)
                  · have h := h.1 c46
                    refine T_iconst (v := 0) (dk dtk_X5_canAct 93 rfl) (by decide +kernel) ?_
                    exact KT_iret (dk dtk_X5_canAct 94 rfl) rfl rfl h
                  · have h := h.2 c46
                    refine T_iconst (v := 1) (dk dtk_X5_canAct 91 rfl) (by decide +kernel) ?_
                    refine T_goto 242 (dk dtk_X5_canAct 92 rfl) (by decide) ?_
                    exact KT_iret (dk dtk_X5_canAct 94 rfl) rfl rfl h
            · have h := h.2
              have n47 : ∀ k ∈ [(0 : Int32), (12 : Int32), (13 : Int32), (14 : Int32), (1 : Int32), (5 : Int32), (15 : Int32), (10 : Int32)], ¬ r8 = k := (gno (fun q9 => c9 (Or.inl q9)) (gno (fun q9 => c9 (Or.inr (Or.inl q9))) (gno (fun q9 => c9 (Or.inr (Or.inr (Or.inl q9)))) (gno (fun q9 => c9 (Or.inr (Or.inr (Or.inr (q9))))) (gno c10 (gno c17 (gno c27 (gno c37 gno0))))))))
              have h := h n47
              refine T_table 211 243 (dk dtk_X5_canAct 20 rfl) (by decide) (gtab_d [(0 : Int32), (12 : Int32), (13 : Int32), (14 : Int32), (1 : Int32), (5 : Int32), (15 : Int32), (10 : Int32)] (by decide +kernel) n47) (by decide) ?_
              refine T_aload_n 2 (dk dtk_X5_canAct 95 rfl) rfl rfl ?_
              refine T_iload_n 3 (dk dtk_X5_canAct 96 rfl) rfl rfl ?_
              refine T_bipush (v := 7) (dk dtk_X5_canAct 97 rfl) (by decide +kernel) ?_
              refine T_sub (lv2 := []) [] rfl ?_
              refine KC_Vi [vi l1, vi 7] [] rfl (dk dtk_X5_canAct 98 rfl) kcv_X5_90 rfl (kk_M0 ho) rfl (kl_M0 hq ho) (Nat.le_of_ble_eq_true rfl) (Nat.le_of_ble_eq_true rfl) (gok_i av_n as_n) rfl h (fun r49 x48 h => ?_)
              refine T_if_ne 257 (dk dtk_X5_canAct 99 rfl) (by decide) (fun c50 => ?_) (fun c50 => ?_)
              · have h := h.1 c50
                refine T_iconst (v := 0) (dk dtk_X5_canAct 102 rfl) (by decide +kernel) ?_
                exact KT_iret (dk dtk_X5_canAct 103 rfl) rfl rfl h
              · have h := h.2 c50
                refine T_iconst (v := 1) (dk dtk_X5_canAct 100 rfl) (by decide +kernel) ?_
                refine T_goto 258 (dk dtk_X5_canAct 101 rfl) (by decide) ?_
                exact KT_iret (dk dtk_X5_canAct 103 rfl) rfl rfl h
  · have h := h.2 c3
    refine T_iconst (v := 0) (dk dtk_X5_canAct 4 rfl) (by decide +kernel) ?_
    exact KT_iret (dk dtk_X5_canAct 5 rfl) rfl rfl h
set_option maxRecDepth 100000 in
theorem dtk_X5_listChoices : dck cX5_listChoices [(0, .aload_n 0, 1), (1, .iconst 0, 1), (2, .putfield 98, 3), (5, .iconst 0, 1), (6, .istore_n 1, 1), (7, .iload_n 1, 1), (8, .aload_n 0, 1), (9, .getfield 11, 3), (12, .getfield 67, 3), (15, .if_icmp .ge 57, 3), (18, .aload_n 0, 1), (19, .iload_n 1, 1), (20, .invokevirtual 169, 3), (23, .ifCond .eq 8, 3), (26, .aload_n 0, 1), (27, .iload_n 1, 1), (28, .invokevirtual 172, 3), (31, .iconst 0, 1), (32, .istore_n 2, 1), (33, .iload_n 2, 1), (34, .aload_n 0, 1), (35, .iload_n 1, 1), (36, .bipush 7, 2), (38, .invokevirtual 90, 3), (41, .if_icmp .ge 25, 3), (44, .aload_n 0, 1), (45, .iload_n 1, 1), (46, .iload_n 2, 1), (47, .invokevirtual 175, 3), (50, .ifCond .eq 10, 3), (53, .aload_n 0, 1), (54, .iload_n 1, 1), (55, .iload_n 2, 1), (56, .iconst (-1), 1), (57, .invokevirtual 179, 3), (60, .iinc 2 1, 3), (63, .goto (-30), 3), (66, .iinc 1 1, 3), (69, .goto (-62), 3), (72, .return_, 1)] = true := by decide +kernel
set_option maxRecDepth 100000 in
set_option maxHeartbeats 4000000 in
theorem kg_X5_listChoices_0 {G : kG} {q : kP} {d : Nat} {x : gd} {P : Option gv → gd → Prop} (hq : kV q) {o : Nat} (ho : kiM q o)
    (h : (∀ x1 : gd, x1 = si x o 13 0 → KT G q (d + 1) zk_X5_listChoices 7 [(0, vr o), (1, vi 0)] [] x1 P)) :
    KT G q (d + 1) zk_X5_listChoices 0 [(0, vr o)] [] x P := by
  refine T_aload_n 0 (dk dtk_X5_listChoices 0 rfl) rfl rfl ?_
  refine T_iconst (v := 0) (dk dtk_X5_listChoices 1 rfl) (by decide +kernel) ?_
  obtain ⟨x1, ex1⟩ : ∃ z, z = si x o 13 0 := ⟨_, rfl⟩
  have h := h x1 ex1
  refine T_putI o 13 (dk dtk_X5_listChoices 2 rfl) kfl_X5_98 (kk_M0 ho) (kl_M0 hq ho) (by decide) rfl ⟨rfl, rfl⟩ ?_
  rw [← ex1]
  refine T_iconst (v := 0) (dk dtk_X5_listChoices 3 rfl) (by decide +kernel) ?_
  refine T_istore_n (lv2 := [(1, vi 0), (0, vr o)]) (dk dtk_X5_listChoices 4 rfl) rfl (by decide) rfl ?_
  exact T_sub [1, 0] rfl h
set_option maxRecDepth 100000 in
set_option maxHeartbeats 4000000 in
theorem kg_X5_listChoices_7 {G : kG} {q : kP} {d : Nat} {x : gd} {P : Option gv → gd → Prop} (hq : kV q) {o : Nat} (ho : kiM q o) (l1 : Int32)
    (h : (((x.1 60 10) ≤ l1 → P none x) ∧ (¬ ((x.1 60 10) ≤ l1) → KT G q d zk_X5_canAct 0 [(0, vr o), (1, vi l1)] [] x (ri (fun r3 x2 => ((r3 = (0 : Int32) → KT G q (d + 1) zk_X5_listChoices 33 [(0, vr o), (1, vi l1), (2, vi 0)] [] x2 P) ∧ (¬ (r3 = (0 : Int32)) → KT G q d zk_X5_listAct 0 [(0, vr o), (1, vi l1)] [] x2 (rv (fun x5 => KT G q (d + 1) zk_X5_listChoices 33 [(0, vr o), (1, vi l1), (2, vi 0)] [] x5 P))))))))) :
    KT G q (d + 1) zk_X5_listChoices 7 [(0, vr o), (1, vi l1)] [] x P := by
  refine T_iload_n 1 (dk dtk_X5_listChoices 5 rfl) rfl rfl ?_
  refine T_aload_n 0 (dk dtk_X5_listChoices 6 rfl) rfl rfl ?_
  refine T_getR o 0 60 (dk dtk_X5_listChoices 7 rfl) kfl_X5_11 (kk_M0 ho) (kl_M0 hq ho) (by decide) rfl (kr_M_0 ho) ?_
  refine T_getI 60 10 (dk dtk_X5_listChoices 8 rfl) kfl_X5_67 kk_60 (kl_60 hq) (by decide) rfl ?_
  refine T_icmp_ge 72 (dk dtk_X5_listChoices 9 rfl) (by decide) (fun c1 => ?_) (fun c1 => ?_)
  · have h := h.1 c1
    exact KT_vret (dk dtk_X5_listChoices 39 rfl) rfl h
  · have h := h.2 c1
    refine T_aload_n 0 (dk dtk_X5_listChoices 10 rfl) rfl rfl ?_
    refine T_iload_n 1 (dk dtk_X5_listChoices 11 rfl) rfl rfl ?_
    refine KC_Vi [vi l1] [] rfl (dk dtk_X5_listChoices 12 rfl) kcv_X5_169 rfl (kk_M0 ho) rfl (kl_M0 hq ho) (Nat.le_of_ble_eq_true rfl) (Nat.le_of_ble_eq_true rfl) (gok_i (av_c (gkr (kl_M0 hq ho)) (av_c rfl av_n)) as_n) rfl h (fun r3 x2 h => ?_)
    refine T_if_eq 31 (dk dtk_X5_listChoices 13 rfl) (by decide) (fun c4 => ?_) (fun c4 => ?_)
    · have h := h.1 c4
      refine T_iconst (v := 0) (dk dtk_X5_listChoices 17 rfl) (by decide +kernel) ?_
      refine T_istore_n (lv2 := [(2, vi 0), (0, vr o), (1, vi l1)]) (dk dtk_X5_listChoices 18 rfl) rfl (by decide) rfl ?_
      exact T_sub [1, 2, 0] rfl h
    · have h := h.2 c4
      refine T_aload_n 0 (dk dtk_X5_listChoices 14 rfl) rfl rfl ?_
      refine T_iload_n 1 (dk dtk_X5_listChoices 15 rfl) rfl rfl ?_
      refine KC_Vv [vi l1] [] rfl (dk dtk_X5_listChoices 16 rfl) kcv_X5_172 rfl (kk_M0 ho) rfl (kl_M0 hq ho) (Nat.le_of_ble_eq_true rfl) (Nat.le_of_ble_eq_true rfl) (gok_i (av_c (gkr (kl_M0 hq ho)) (av_c rfl av_n)) as_n) rfl h (fun x5 h => ?_)
      refine T_iconst (v := 0) (dk dtk_X5_listChoices 17 rfl) (by decide +kernel) ?_
      refine T_istore_n (lv2 := [(2, vi 0), (0, vr o), (1, vi l1)]) (dk dtk_X5_listChoices 18 rfl) rfl (by decide) rfl ?_
      exact T_sub [1, 2, 0] rfl h
set_option maxRecDepth 100000 in
set_option maxHeartbeats 4000000 in
theorem kg_X5_listChoices_33 {G : kG} {q : kP} {d : Nat} {x : gd} {P : Option gv → gd → Prop} (hq : kV q) {o : Nat} (ho : kiM q o) (l1 : Int32) (l2 : Int32)
    (h : KT G q d zk_X5_get 0 [(0, vr o), (1, vi l1), (2, vi 7)] [] x (ri (fun r2 x1 => ((r2 ≤ l2 → KT G q (d + 1) zk_X5_listChoices 7 [(0, vr o), (1, vi (l1 + 1))] [] x1 P) ∧ (¬ (r2 ≤ l2) → KT G q d zk_X5_isFirstOfCell 0 [(0, vr o), (1, vi l1), (2, vi l2)] [] x1 (ri (fun r5 x4 => ((r5 = (0 : Int32) → KT G q (d + 1) zk_X5_listChoices 33 [(0, vr o), (1, vi l1), (2, vi (l2 + 1))] [] x4 P) ∧ (¬ (r5 = (0 : Int32)) → KT G q d zk_X5_list 0 [(0, vr o), (1, vi l1), (2, vi l2), (3, vi (-1))] [] x4 (rv (fun x7 => KT G q (d + 1) zk_X5_listChoices 33 [(0, vr o), (1, vi l1), (2, vi (l2 + 1))] [] x7 P))))))))))) :
    KT G q (d + 1) zk_X5_listChoices 33 [(0, vr o), (1, vi l1), (2, vi l2)] [] x P := by
  refine T_iload_n 2 (dk dtk_X5_listChoices 19 rfl) rfl rfl ?_
  refine T_aload_n 0 (dk dtk_X5_listChoices 20 rfl) rfl rfl ?_
  refine T_iload_n 1 (dk dtk_X5_listChoices 21 rfl) rfl rfl ?_
  refine T_bipush (v := 7) (dk dtk_X5_listChoices 22 rfl) (by decide +kernel) ?_
  refine KC_Vi [vi l1, vi 7] [vi l2] rfl (dk dtk_X5_listChoices 23 rfl) kcv_X5_90 rfl (kk_M0 ho) rfl (kl_M0 hq ho) (Nat.le_of_ble_eq_true rfl) (Nat.le_of_ble_eq_true rfl) (gok_i (av_c (gkr (kl_M0 hq ho)) (av_c rfl (av_c rfl av_n))) (as_c rfl as_n)) rfl h (fun r2 x1 h => ?_)
  refine T_icmp_ge 66 (dk dtk_X5_listChoices 24 rfl) (by decide) (fun c3 => ?_) (fun c3 => ?_)
  · have h := h.1 c3
    refine T_iinc (v := l1 + 1) (lv2 := [(1, vi (l1 + 1)), (0, vr o), (2, vi l2)]) 1 (dk dtk_X5_listChoices 37 rfl) rfl rfl (by decide) rfl ?_
    refine T_goto 7 (dk dtk_X5_listChoices 38 rfl) (by decide) ?_
    exact T_sub [1, 0] rfl h
  · have h := h.2 c3
    refine T_aload_n 0 (dk dtk_X5_listChoices 25 rfl) rfl rfl ?_
    refine T_iload_n 1 (dk dtk_X5_listChoices 26 rfl) rfl rfl ?_
    refine T_iload_n 2 (dk dtk_X5_listChoices 27 rfl) rfl rfl ?_
    refine KC_Vi [vi l1, vi l2] [] rfl (dk dtk_X5_listChoices 28 rfl) kcv_X5_175 rfl (kk_M0 ho) rfl (kl_M0 hq ho) (Nat.le_of_ble_eq_true rfl) (Nat.le_of_ble_eq_true rfl) (gok_i (av_c (gkr (kl_M0 hq ho)) (av_c rfl (av_c rfl av_n))) as_n) rfl h (fun r5 x4 h => ?_)
    refine T_if_eq 60 (dk dtk_X5_listChoices 29 rfl) (by decide) (fun c6 => ?_) (fun c6 => ?_)
    · have h := h.1 c6
      refine T_iinc (v := l2 + 1) (lv2 := [(2, vi (l2 + 1)), (0, vr o), (1, vi l1)]) 2 (dk dtk_X5_listChoices 35 rfl) rfl rfl (by decide) rfl ?_
      refine T_goto 33 (dk dtk_X5_listChoices 36 rfl) (by decide) ?_
      exact T_sub [1, 2, 0] rfl h
    · have h := h.2 c6
      refine T_aload_n 0 (dk dtk_X5_listChoices 30 rfl) rfl rfl ?_
      refine T_iload_n 1 (dk dtk_X5_listChoices 31 rfl) rfl rfl ?_
      refine T_iload_n 2 (dk dtk_X5_listChoices 32 rfl) rfl rfl ?_
      refine T_iconst (v := (-1)) (dk dtk_X5_listChoices 33 rfl) (by decide +kernel) ?_
      refine KC_Vv [vi l1, vi l2, vi (-1)] [] rfl (dk dtk_X5_listChoices 34 rfl) kcv_X5_179 rfl (kk_M0 ho) rfl (kl_M0 hq ho) (Nat.le_of_ble_eq_true rfl) (Nat.le_of_ble_eq_true rfl) (gok_i (av_c (gkr (kl_M0 hq ho)) (av_c rfl (av_c rfl av_n))) as_n) rfl h (fun x7 h => ?_)
      refine T_iinc (v := l2 + 1) (lv2 := [(2, vi (l2 + 1)), (0, vr o), (1, vi l1)]) 2 (dk dtk_X5_listChoices 35 rfl) rfl rfl (by decide) rfl ?_
      refine T_goto 33 (dk dtk_X5_listChoices 36 rfl) (by decide) ?_
      exact T_sub [1, 2, 0] rfl h
set_option maxRecDepth 100000 in
theorem dtk_X5_list : dck cX5_list [(0, .aload_n 0, 1), (1, .getfield 98, 3), (4, .bipush 84, 2), (6, .if_icmp .ge 43, 3), (9, .aload_n 0, 1), (10, .getfield 33, 3), (13, .aload_n 0, 1), (14, .getfield 98, 3), (17, .iload_n 1, 1), (18, .iastore, 1), (19, .aload_n 0, 1), (20, .getfield 36, 3), (23, .aload_n 0, 1), (24, .getfield 98, 3), (27, .iload_n 2, 1), (28, .iastore, 1), (29, .aload_n 0, 1), (30, .getfield 39, 3), (33, .aload_n 0, 1), (34, .getfield 98, 3), (37, .iload_n 3, 1), (38, .iastore, 1), (39, .aload_n 0, 1), (40, .dup, 1), (41, .getfield 98, 3), (44, .iconst 1, 1), (45, .iadd, 1), (46, .putfield 98, 3), (49, .return_, 1)] = true := by decide +kernel
set_option maxRecDepth 100000 in
set_option maxHeartbeats 4000000 in
theorem kg_X5_list_0 {G : kG} {q : kP} {d : Nat} {x : gd} {P : Option gv → gd → Prop} (hq : kV q) {o : Nat} (ho : kiM q o) (l1 : Int32) (l2 : Int32) (l3 : Int32)
    (h : (((84 : Int32) ≤ (x.1 o 13) → P none x) ∧ (¬ ((84 : Int32) ≤ (x.1 o 13)) → vp_in (x.1 o 13) 84 ∧ (∀ x3 : gd, x3 = si x (o + 11) (x.1 o 13 : Int32).toNatClampNeg l1 → vp_in (x3.1 o 13) 84 ∧ (∀ x5 : gd, x5 = si x3 (o + 12) (x3.1 o 13 : Int32).toNatClampNeg l2 → vp_in (x5.1 o 13) 84 ∧ (∀ x7 : gd, x7 = si x5 (o + 13) (x5.1 o 13 : Int32).toNatClampNeg l3 → (∀ x8 : gd, x8 = si x7 o 13 ((x7.1 o 13) + 1) → P none x8))))))) :
    KT G q d zk_X5_list 0 [(0, vr o), (1, vi l1), (2, vi l2), (3, vi l3)] [] x P := by
  refine T_aload_n 0 (dk dtk_X5_list 0 rfl) rfl rfl ?_
  refine T_getI o 13 (dk dtk_X5_list 1 rfl) kfl_X5_98 (kk_M0 ho) (kl_M0 hq ho) (by decide) rfl ?_
  refine T_bipush (v := 84) (dk dtk_X5_list 2 rfl) (by decide +kernel) ?_
  refine T_icmp_ge 49 (dk dtk_X5_list 3 rfl) (by decide) (fun c1 => ?_) (fun c1 => ?_)
  · have h := h.1 c1
    exact KT_vret (dk dtk_X5_list 28 rfl) rfl h
  · have h := h.2 c1
    refine T_aload_n 0 (dk dtk_X5_list 4 rfl) rfl rfl ?_
    refine T_getR o 10 (o + 11) (dk dtk_X5_list 5 rfl) kfl_X5_33 (kk_M0 ho) (kl_M0 hq ho) (by decide) rfl (kr_M_10 ho) ?_
    refine T_aload_n 0 (dk dtk_X5_list 6 rfl) rfl rfl ?_
    refine T_getI o 13 (dk dtk_X5_list 7 rfl) kfl_X5_98 (kk_M0 ho) (kl_M0 hq ho) (by decide) rfl ?_
    refine T_iload_n 1 (dk dtk_X5_list 8 rfl) rfl rfl ?_
    obtain ⟨h2, h⟩ := h
    obtain ⟨x3, ex3⟩ : ∃ z, z = si x (o + 11) (x.1 o 13 : Int32).toNatClampNeg l1 := ⟨_, rfl⟩
    have h := h x3 ex3
    refine T_iast (o + 11) 84 (dk dtk_X5_list 9 rfl) (kk_M11 ho) (kl_M11 hq ho) h2 ?_
    rw [← ex3]
    refine T_aload_n 0 (dk dtk_X5_list 10 rfl) rfl rfl ?_
    refine T_getR o 11 (o + 12) (dk dtk_X5_list 11 rfl) kfl_X5_36 (kk_M0 ho) (kl_M0 hq ho) (by decide) rfl (kr_M_11 ho) ?_
    refine T_aload_n 0 (dk dtk_X5_list 12 rfl) rfl rfl ?_
    refine T_getI o 13 (dk dtk_X5_list 13 rfl) kfl_X5_98 (kk_M0 ho) (kl_M0 hq ho) (by decide) rfl ?_
    refine T_iload_n 2 (dk dtk_X5_list 14 rfl) rfl rfl ?_
    obtain ⟨h4, h⟩ := h
    obtain ⟨x5, ex5⟩ : ∃ z, z = si x3 (o + 12) (x3.1 o 13 : Int32).toNatClampNeg l2 := ⟨_, rfl⟩
    have h := h x5 ex5
    refine T_iast (o + 12) 84 (dk dtk_X5_list 15 rfl) (kk_M12 ho) (kl_M12 hq ho) h4 ?_
    rw [← ex5]
    refine T_aload_n 0 (dk dtk_X5_list 16 rfl) rfl rfl ?_
    refine T_getR o 12 (o + 13) (dk dtk_X5_list 17 rfl) kfl_X5_39 (kk_M0 ho) (kl_M0 hq ho) (by decide) rfl (kr_M_12 ho) ?_
    refine T_aload_n 0 (dk dtk_X5_list 18 rfl) rfl rfl ?_
    refine T_getI o 13 (dk dtk_X5_list 19 rfl) kfl_X5_98 (kk_M0 ho) (kl_M0 hq ho) (by decide) rfl ?_
    refine T_iload_n 3 (dk dtk_X5_list 20 rfl) rfl rfl ?_
    obtain ⟨h6, h⟩ := h
    obtain ⟨x7, ex7⟩ : ∃ z, z = si x5 (o + 13) (x5.1 o 13 : Int32).toNatClampNeg l3 := ⟨_, rfl⟩
    have h := h x7 ex7
    refine T_iast (o + 13) 84 (dk dtk_X5_list 21 rfl) (kk_M13 ho) (kl_M13 hq ho) h6 ?_
    rw [← ex7]
    refine T_aload_n 0 (dk dtk_X5_list 22 rfl) rfl rfl ?_
    refine T_dup (dk dtk_X5_list 23 rfl) rfl ?_
    refine T_getI o 13 (dk dtk_X5_list 24 rfl) kfl_X5_98 (kk_M0 ho) (kl_M0 hq ho) (by decide) rfl ?_
    refine T_iconst (v := 1) (dk dtk_X5_list 25 rfl) (by decide +kernel) ?_
    refine T_iadd (dk dtk_X5_list 26 rfl) ?_
    obtain ⟨x8, ex8⟩ : ∃ z, z = si x7 o 13 ((x7.1 o 13) + 1) := ⟨_, rfl⟩
    have h := h x8 ex8
    refine T_putI o 13 (dk dtk_X5_list 27 rfl) kfl_X5_98 (kk_M0 ho) (kl_M0 hq ho) (by decide) rfl ⟨rfl, rfl⟩ ?_
    rw [← ex8]
    exact KT_vret (dk dtk_X5_list 28 rfl) rfl h
set_option maxRecDepth 100000 in
theorem dtk_X5_listAct : dck cX5_listAct [(0, .aload_n 0, 1), (1, .iload_n 1, 1), (2, .iconst 2, 1), (3, .invokevirtual 90, 3), (6, .istore_n 2, 1), (7, .aload_n 0, 1), (8, .getfield 21, 3), (11, .getfield 136, 3), (14, .iload_n 2, 1), (15, .iaload, 1), (16, .istore_n 3, 1), (17, .aload_n 0, 1), (18, .iload_n 1, 1), (19, .invokevirtual 130, 3), (22, .bipush 8, 2), (24, .if_icmp .ne 33, 3), (27, .aload_n 0, 1), (28, .getfield 21, 3), (31, .getfield 182, 3), (34, .iload_n 2, 1), (35, .iaload, 1), (36, .iconst 1, 1), (37, .if_icmp .eq 20, 3), (40, .aload_n 0, 1), (41, .iload_n 3, 1), (42, .invokevirtual 113, 3), (45, .iload_n 1, 1), (46, .if_icmp .ne 11, 3), (49, .aload_n 0, 1), (50, .iload_n 3, 1), (51, .invokevirtual 185, 3), (54, .ifCond .ne 11, 3), (57, .aload_n 0, 1), (58, .iload_n 1, 1), (59, .iconst (-1), 1), (60, .iconst (-1), 1), (61, .invokevirtual 179, 3), (64, .return_, 1), (65, .aload_n 0, 1), (66, .iload_n 3, 1), (67, .invokevirtual 185, 3), (70, .istore 4, 2), (72, .iconst 0, 1), (73, .istore 5, 2), (75, .iload 5, 2), (77, .aload_n 0, 1), (78, .getfield 11, 3), (81, .getfield 67, 3), (84, .if_icmp .ge 28, 3), (87, .iload 4, 2), (89, .iload 5, 2), (91, .ishr, 1), (92, .iconst 1, 1), (93, .iand, 1), (94, .iconst 1, 1), (95, .if_icmp .ne 11, 3), (98, .aload_n 0, 1), (99, .iload_n 1, 1), (100, .iconst (-1), 1), (101, .iload 5, 2), (103, .invokevirtual 179, 3), (106, .iinc 5 1, 3), (109, .goto (-34), 3), (112, .return_, 1)] = true := by decide +kernel
set_option maxRecDepth 100000 in
set_option maxHeartbeats 4000000 in
theorem kg_X5_listAct_0 {G : kG} {q : kP} {d : Nat} {x : gd} {P : Option gv → gd → Prop} (hq : kV q) {o : Nat} (ho : kiM q o) (l1 : Int32)
    (h : KT G q d zk_X5_get 0 [(0, vr o), (1, vi l1), (2, vi 2)] [] x (ri (fun r2 x1 => vp_in r2 400 ∧ KT G q d zk_X5_sortOf 0 [(0, vr o), (1, vi l1)] [] x1 (ri (fun r5 x4 => ((¬ (r5 = (8 : Int32)) → KT G q (d + 1) zk_X5_listAct 57 [(0, vr o), (1, vi l1)] [] x4 P) ∧ (r5 = (8 : Int32) → vp_in r2 400 ∧ (((x4.1 84 (r2 : Int32).toNatClampNeg) = (1 : Int32) → KT G q (d + 1) zk_X5_listAct 57 [(0, vr o), (1, vi l1)] [] x4 P) ∧ (¬ ((x4.1 84 (r2 : Int32).toNatClampNeg) = (1 : Int32)) → KT G q d zk_X5_holder 0 [(0, vr o), (1, vi (x1.1 85 (r2 : Int32).toNatClampNeg))] [] x4 (ri (fun r10 x9 => ((¬ (r10 = l1) → KT G q (d + 1) zk_X5_listAct 57 [(0, vr o), (1, vi l1)] [] x9 P) ∧ (r10 = l1 → KT G q d zk_X5_waiters 0 [(0, vr o), (1, vi (x1.1 85 (r2 : Int32).toNatClampNeg))] [] x9 (ri (fun r13 x12 => ((¬ (r13 = (0 : Int32)) → KT G q d zk_X5_waiters 0 [(0, vr o), (1, vi (x1.1 85 (r2 : Int32).toNatClampNeg))] [] x12 (ri (fun r16 x15 => KT G q (d + 1) zk_X5_listAct 75 [(0, vr o), (1, vi l1), (4, vi r16), (5, vi 0)] [] x15 P))) ∧ (r13 = (0 : Int32) → KT G q (d + 1) zk_X5_listAct 57 [(0, vr o), (1, vi l1)] [] x12 P))))))))))))))))) :
    KT G q (d + 1) zk_X5_listAct 0 [(0, vr o), (1, vi l1)] [] x P := by
  refine T_aload_n 0 (dk dtk_X5_listAct 0 rfl) rfl rfl ?_
  refine T_iload_n 1 (dk dtk_X5_listAct 1 rfl) rfl rfl ?_
  refine T_iconst (v := 2) (dk dtk_X5_listAct 2 rfl) (by decide +kernel) ?_
  refine KC_Vi [vi l1, vi 2] [] rfl (dk dtk_X5_listAct 3 rfl) kcv_X5_90 rfl (kk_M0 ho) rfl (kl_M0 hq ho) (Nat.le_of_ble_eq_true rfl) (Nat.le_of_ble_eq_true rfl) (gok_i (av_c (gkr (kl_M0 hq ho)) (av_c rfl av_n)) as_n) rfl h (fun r2 x1 h => ?_)
  refine T_istore_n (lv2 := [(2, vi r2), (0, vr o), (1, vi l1)]) (dk dtk_X5_listAct 4 rfl) rfl (by decide) rfl ?_
  refine T_aload_n 1 (dk dtk_X5_listAct 5 rfl) rfl rfl ?_
  refine T_getR o 1 80 (dk dtk_X5_listAct 6 rfl) kfl_X5_21 (kk_M0 ho) (kl_M0 hq ho) (by decide) rfl (kr_M_1 ho) ?_
  refine T_getR 80 4 85 (dk dtk_X5_listAct 7 rfl) kfl_X5_136 kk_80 (kl_80 hq) (by decide) rfl kr_80_4 ?_
  refine T_iload_n 0 (dk dtk_X5_listAct 8 rfl) rfl rfl ?_
  obtain ⟨h3, h⟩ := h
  refine T_iald 85 400 (dk dtk_X5_listAct 9 rfl) kk_85 (kl_85 hq) h3 ?_
  refine T_istore_n (lv2 := [(3, vi (x1.1 85 (r2 : Int32).toNatClampNeg)), (2, vi r2), (0, vr o), (1, vi l1)]) (dk dtk_X5_listAct 10 rfl) rfl (by decide) rfl ?_
  refine T_aload_n 2 (dk dtk_X5_listAct 11 rfl) rfl rfl ?_
  refine T_iload_n 3 (dk dtk_X5_listAct 12 rfl) rfl rfl ?_
  refine KC_Vi [vi l1] [] rfl (dk dtk_X5_listAct 13 rfl) kcv_X5_130 rfl (kk_M0 ho) rfl (kl_M0 hq ho) (Nat.le_of_ble_eq_true rfl) (Nat.le_of_ble_eq_true rfl) (gok_i (av_c rfl (av_c rfl (av_c (gkr (kl_M0 hq ho)) (av_c rfl av_n)))) as_n) rfl h (fun r5 x4 h => ?_)
  refine T_bipush (v := 8) (dk dtk_X5_listAct 14 rfl) (by decide +kernel) ?_
  refine T_icmp_ne 57 (dk dtk_X5_listAct 15 rfl) (by decide) (fun c6 => ?_) (fun c6 => ?_)
  · have h := h.1 c6
    exact T_sub [2, 3] rfl h
  · have h := h.2 c6
    refine T_aload_n 2 (dk dtk_X5_listAct 16 rfl) rfl rfl ?_
    refine T_getR o 1 80 (dk dtk_X5_listAct 17 rfl) kfl_X5_21 (kk_M0 ho) (kl_M0 hq ho) (by decide) rfl (kr_M_1 ho) ?_
    refine T_getR 80 3 84 (dk dtk_X5_listAct 18 rfl) kfl_X5_182 kk_80 (kl_80 hq) (by decide) rfl kr_80_3 ?_
    refine T_iload_n 1 (dk dtk_X5_listAct 19 rfl) rfl rfl ?_
    obtain ⟨h7, h⟩ := h
    refine T_iald 84 400 (dk dtk_X5_listAct 20 rfl) kk_84 (kl_84 hq) h7 ?_
    refine T_iconst (v := 1) (dk dtk_X5_listAct 21 rfl) (by decide +kernel) ?_
    refine T_icmp_eq 57 (dk dtk_X5_listAct 22 rfl) (by decide) (fun c8 => ?_) (fun c8 => ?_)
    · have h := h.1 c8
      exact T_sub [2, 3] rfl h
    · have h := h.2 c8
      refine T_aload_n 2 (dk dtk_X5_listAct 23 rfl) rfl rfl ?_
      refine T_iload_n 0 (dk dtk_X5_listAct 24 rfl) rfl rfl ?_
      refine T_sub (lv2 := [(3, vi (x1.1 85 (r2 : Int32).toNatClampNeg)), (0, vr o), (1, vi l1)]) [0, 2, 3] rfl ?_
      refine KC_Vi [vi (x1.1 85 (r2 : Int32).toNatClampNeg)] [] rfl (dk dtk_X5_listAct 25 rfl) kcv_X5_113 rfl (kk_M0 ho) rfl (kl_M0 hq ho) (Nat.le_of_ble_eq_true rfl) (Nat.le_of_ble_eq_true rfl) (gok_i (av_c rfl (av_c (gkr (kl_M0 hq ho)) (av_c rfl av_n))) as_n) rfl h (fun r10 x9 h => ?_)
      refine T_iload_n 2 (dk dtk_X5_listAct 26 rfl) rfl rfl ?_
      refine T_icmp_ne 57 (dk dtk_X5_listAct 27 rfl) (by decide) (fun c11 => ?_) (fun c11 => ?_)
      · have h := h.1 c11
        exact T_sub [1, 2] rfl h
      · have h := h.2 c11
        refine T_aload_n 1 (dk dtk_X5_listAct 28 rfl) rfl rfl ?_
        refine T_iload_n 0 (dk dtk_X5_listAct 29 rfl) rfl rfl ?_
        refine KC_Vi [vi (x1.1 85 (r2 : Int32).toNatClampNeg)] [] rfl (dk dtk_X5_listAct 30 rfl) kcv_X5_185 rfl (kk_M0 ho) rfl (kl_M0 hq ho) (Nat.le_of_ble_eq_true rfl) (Nat.le_of_ble_eq_true rfl) (gok_i (av_c rfl (av_c (gkr (kl_M0 hq ho)) (av_c rfl av_n))) as_n) rfl h (fun r13 x12 h => ?_)
        refine T_if_ne 65 (dk dtk_X5_listAct 31 rfl) (by decide) (fun c14 => ?_) (fun c14 => ?_)
        · have h := h.1 c14
          refine T_aload_n 1 (dk dtk_X5_listAct 38 rfl) rfl rfl ?_
          refine T_iload_n 0 (dk dtk_X5_listAct 39 rfl) rfl rfl ?_
          refine T_sub (lv2 := [(0, vr o), (1, vi l1)]) [1, 2] rfl ?_
          refine KC_Vi [vi (x1.1 85 (r2 : Int32).toNatClampNeg)] [] rfl (dk dtk_X5_listAct 40 rfl) kcv_X5_185 rfl (kk_M0 ho) rfl (kl_M0 hq ho) (Nat.le_of_ble_eq_true rfl) (Nat.le_of_ble_eq_true rfl) (gok_i (av_c (gkr (kl_M0 hq ho)) (av_c rfl av_n)) as_n) rfl h (fun r16 x15 h => ?_)
          refine T_istore (lv2 := [(4, vi r16), (0, vr o), (1, vi l1)]) (dk dtk_X5_listAct 41 rfl) (by decide) rfl ?_
          refine T_iconst (v := 0) (dk dtk_X5_listAct 42 rfl) (by decide +kernel) ?_
          refine T_istore (lv2 := [(5, vi 0), (4, vi r16), (0, vr o), (1, vi l1)]) (dk dtk_X5_listAct 43 rfl) (by decide) rfl ?_
          exact T_sub [2, 3, 1, 0] rfl h
        · have h := h.2 c14
          exact T_sub [1, 2] rfl h
set_option maxRecDepth 100000 in
set_option maxHeartbeats 4000000 in
theorem kg_X5_listAct_57 {G : kG} {q : kP} {d : Nat} {x : gd} {P : Option gv → gd → Prop} (hq : kV q) {o : Nat} (ho : kiM q o) (l1 : Int32)
    (h : KT G q d zk_X5_list 0 [(0, vr o), (1, vi l1), (2, vi (-1)), (3, vi (-1))] [] x (rv (fun x1 => P none x1))) :
    KT G q (d + 1) zk_X5_listAct 57 [(0, vr o), (1, vi l1)] [] x P := by
  refine T_aload_n 0 (dk dtk_X5_listAct 32 rfl) rfl rfl ?_
  refine T_iload_n 1 (dk dtk_X5_listAct 33 rfl) rfl rfl ?_
  refine T_iconst (v := (-1)) (dk dtk_X5_listAct 34 rfl) (by decide +kernel) ?_
  refine T_iconst (v := (-1)) (dk dtk_X5_listAct 35 rfl) (by decide +kernel) ?_
  refine T_sub (lv2 := []) [] rfl ?_
  refine KC_Vv [vi l1, vi (-1), vi (-1)] [] rfl (dk dtk_X5_listAct 36 rfl) kcv_X5_179 rfl (kk_M0 ho) rfl (kl_M0 hq ho) (Nat.le_of_ble_eq_true rfl) (Nat.le_of_ble_eq_true rfl) (gok_i av_n as_n) rfl h (fun x1 h => ?_)
  exact KT_vret (dk dtk_X5_listAct 37 rfl) rfl h
set_option maxRecDepth 100000 in
set_option maxHeartbeats 4000000 in
theorem kg_X5_listAct_75 {G : kG} {q : kP} {d : Nat} {x : gd} {P : Option gv → gd → Prop} (hq : kV q) {o : Nat} (ho : kiM q o) (l1 : Int32) (l4 : Int32) (l5 : Int32)
    (h : (((x.1 60 10) ≤ l5 → P none x) ∧ (¬ ((x.1 60 10) ≤ l5) → ((¬ (((l4 >>> (l5 &&& 31 : Int32)) &&& 1) = (1 : Int32)) → KT G q (d + 1) zk_X5_listAct 75 [(0, vr o), (1, vi l1), (4, vi l4), (5, vi (l5 + 1))] [] x P) ∧ (((l4 >>> (l5 &&& 31 : Int32)) &&& 1) = (1 : Int32) → KT G q d zk_X5_list 0 [(0, vr o), (1, vi l1), (2, vi (-1)), (3, vi l5)] [] x (rv (fun x3 => KT G q (d + 1) zk_X5_listAct 75 [(0, vr o), (1, vi l1), (4, vi l4), (5, vi (l5 + 1))] [] x3 P))))))) :
    KT G q (d + 1) zk_X5_listAct 75 [(0, vr o), (1, vi l1), (4, vi l4), (5, vi l5)] [] x P := by
  refine T_iload 3 (dk dtk_X5_listAct 44 rfl) rfl ?_
  refine T_aload_n 0 (dk dtk_X5_listAct 45 rfl) rfl rfl ?_
  refine T_getR o 0 60 (dk dtk_X5_listAct 46 rfl) kfl_X5_11 (kk_M0 ho) (kl_M0 hq ho) (by decide) rfl (kr_M_0 ho) ?_
  refine T_getI 60 10 (dk dtk_X5_listAct 47 rfl) kfl_X5_67 kk_60 (kl_60 hq) (by decide) rfl ?_
  refine T_icmp_ge 112 (dk dtk_X5_listAct 48 rfl) (by decide) (fun c1 => ?_) (fun c1 => ?_)
  · have h := h.1 c1
    exact KT_vret (dk dtk_X5_listAct 63 rfl) rfl h
  · have h := h.2 c1
    refine T_iload 2 (dk dtk_X5_listAct 49 rfl) rfl ?_
    refine T_iload 3 (dk dtk_X5_listAct 50 rfl) rfl ?_
    refine T_ishr (dk dtk_X5_listAct 51 rfl) ?_
    refine T_iconst (v := 1) (dk dtk_X5_listAct 52 rfl) (by decide +kernel) ?_
    refine T_iand (dk dtk_X5_listAct 53 rfl) ?_
    refine T_iconst (v := 1) (dk dtk_X5_listAct 54 rfl) (by decide +kernel) ?_
    refine T_icmp_ne 106 (dk dtk_X5_listAct 55 rfl) (by decide) (fun c2 => ?_) (fun c2 => ?_)
    · have h := h.1 c2
      refine T_iinc (v := l5 + 1) (lv2 := [(5, vi (l5 + 1)), (0, vr o), (1, vi l1), (4, vi l4)]) 3 (dk dtk_X5_listAct 61 rfl) rfl rfl (by decide) rfl ?_
      refine T_goto 75 (dk dtk_X5_listAct 62 rfl) (by decide) ?_
      exact T_sub [1, 2, 3, 0] rfl h
    · have h := h.2 c2
      refine T_aload_n 0 (dk dtk_X5_listAct 56 rfl) rfl rfl ?_
      refine T_iload_n 1 (dk dtk_X5_listAct 57 rfl) rfl rfl ?_
      refine T_iconst (v := (-1)) (dk dtk_X5_listAct 58 rfl) (by decide +kernel) ?_
      refine T_iload 3 (dk dtk_X5_listAct 59 rfl) rfl ?_
      refine KC_Vv [vi l1, vi (-1), vi l5] [] rfl (dk dtk_X5_listAct 60 rfl) kcv_X5_179 rfl (kk_M0 ho) rfl (kl_M0 hq ho) (Nat.le_of_ble_eq_true rfl) (Nat.le_of_ble_eq_true rfl) (gok_i (av_c (gkr (kl_M0 hq ho)) (av_c rfl (av_c rfl (av_c rfl av_n)))) as_n) rfl h (fun x3 h => ?_)
      refine T_iinc (v := l5 + 1) (lv2 := [(5, vi (l5 + 1)), (0, vr o), (1, vi l1), (4, vi l4)]) 3 (dk dtk_X5_listAct 61 rfl) rfl rfl (by decide) rfl ?_
      refine T_goto 75 (dk dtk_X5_listAct 62 rfl) (by decide) ?_
      exact T_sub [1, 2, 3, 0] rfl h
set_option maxRecDepth 100000 in
theorem dtk_X5_isFirstOfCell : dck cX5_isFirstOfCell [(0, .iconst 0, 1), (1, .istore_n 3, 1), (2, .iload_n 3, 1), (3, .iload_n 2, 1), (4, .if_icmp .ge 26, 3), (7, .aload_n 0, 1), (8, .iload_n 1, 1), (9, .iload_n 3, 1), (10, .invokevirtual 121, 3), (13, .aload_n 0, 1), (14, .iload_n 1, 1), (15, .iload_n 2, 1), (16, .invokevirtual 121, 3), (19, .if_icmp .ne 5, 3), (22, .iconst 0, 1), (23, .ireturn, 1), (24, .iinc 3 1, 3), (27, .goto (-25), 3), (30, .iconst 1, 1), (31, .ireturn, 1)] = true := by decide +kernel
set_option maxRecDepth 100000 in
set_option maxHeartbeats 4000000 in
theorem kg_X5_isFirstOfCell_0 {G : kG} {q : kP} {d : Nat} {x : gd} {P : Option gv → gd → Prop} (hq : kV q) {o : Nat} (ho : kiM q o) (l1 : Int32) (l2 : Int32)
    (h : KT G q (d + 1) zk_X5_isFirstOfCell 2 [(0, vr o), (1, vi l1), (2, vi l2), (3, vi 0)] [] x P) :
    KT G q (d + 1) zk_X5_isFirstOfCell 0 [(0, vr o), (1, vi l1), (2, vi l2)] [] x P := by
  refine T_iconst (v := 0) (dk dtk_X5_isFirstOfCell 0 rfl) (by decide +kernel) ?_
  refine T_istore_n (lv2 := [(3, vi 0), (0, vr o), (1, vi l1), (2, vi l2)]) (dk dtk_X5_isFirstOfCell 1 rfl) rfl (by decide) rfl ?_
  exact T_sub [1, 2, 3, 0] rfl h
set_option maxRecDepth 100000 in
set_option maxHeartbeats 4000000 in
theorem kg_X5_isFirstOfCell_2 {G : kG} {q : kP} {d : Nat} {x : gd} {P : Option gv → gd → Prop} (hq : kV q) {o : Nat} (ho : kiM q o) (l1 : Int32) (l2 : Int32) (l3 : Int32)
    (h : ((l2 ≤ l3 → P (some (vi 1)) x) ∧ (¬ (l2 ≤ l3) → KT G q d zk_X5_lateCell 0 [(0, vr o), (1, vi l1), (2, vi l3)] [] x (ri (fun r3 x2 => KT G q d zk_X5_lateCell 0 [(0, vr o), (1, vi l1), (2, vi l2)] [] x2 (ri (fun r5 x4 => ((¬ (r3 = r5) → KT G q (d + 1) zk_X5_isFirstOfCell 2 [(0, vr o), (1, vi l1), (2, vi l2), (3, vi (l3 + 1))] [] x4 P) ∧ (r3 = r5 → P (some (vi 0)) x4))))))))) :
    KT G q (d + 1) zk_X5_isFirstOfCell 2 [(0, vr o), (1, vi l1), (2, vi l2), (3, vi l3)] [] x P := by
  refine T_iload_n 3 (dk dtk_X5_isFirstOfCell 2 rfl) rfl rfl ?_
  refine T_iload_n 2 (dk dtk_X5_isFirstOfCell 3 rfl) rfl rfl ?_
  refine T_icmp_ge 30 (dk dtk_X5_isFirstOfCell 4 rfl) (by decide) (fun c1 => ?_) (fun c1 => ?_)
  · have h := h.1 c1
    refine T_iconst (v := 1) (dk dtk_X5_isFirstOfCell 18 rfl) (by decide +kernel) ?_
    exact KT_iret (dk dtk_X5_isFirstOfCell 19 rfl) rfl rfl h
  · have h := h.2 c1
    refine T_aload_n 0 (dk dtk_X5_isFirstOfCell 5 rfl) rfl rfl ?_
    refine T_iload_n 1 (dk dtk_X5_isFirstOfCell 6 rfl) rfl rfl ?_
    refine T_iload_n 3 (dk dtk_X5_isFirstOfCell 7 rfl) rfl rfl ?_
    refine KC_Vi [vi l1, vi l3] [] rfl (dk dtk_X5_isFirstOfCell 8 rfl) kcv_X5_121 rfl (kk_M0 ho) rfl (kl_M0 hq ho) (Nat.le_of_ble_eq_true rfl) (Nat.le_of_ble_eq_true rfl) (gok_i (av_c (gkr (kl_M0 hq ho)) (av_c rfl (av_c rfl (av_c rfl av_n)))) as_n) rfl h (fun r3 x2 h => ?_)
    refine T_aload_n 0 (dk dtk_X5_isFirstOfCell 9 rfl) rfl rfl ?_
    refine T_iload_n 1 (dk dtk_X5_isFirstOfCell 10 rfl) rfl rfl ?_
    refine T_iload_n 2 (dk dtk_X5_isFirstOfCell 11 rfl) rfl rfl ?_
    refine KC_Vi [vi l1, vi l2] [vi r3] rfl (dk dtk_X5_isFirstOfCell 12 rfl) kcv_X5_121 rfl (kk_M0 ho) rfl (kl_M0 hq ho) (Nat.le_of_ble_eq_true rfl) (Nat.le_of_ble_eq_true rfl) (gok_i (av_c (gkr (kl_M0 hq ho)) (av_c rfl (av_c rfl (av_c rfl av_n)))) (as_c rfl as_n)) rfl h (fun r5 x4 h => ?_)
    refine T_icmp_ne 24 (dk dtk_X5_isFirstOfCell 13 rfl) (by decide) (fun c6 => ?_) (fun c6 => ?_)
    · have h := h.1 c6
      refine T_iinc (v := l3 + 1) (lv2 := [(3, vi (l3 + 1)), (0, vr o), (1, vi l1), (2, vi l2)]) 3 (dk dtk_X5_isFirstOfCell 16 rfl) rfl rfl (by decide) rfl ?_
      refine T_goto 2 (dk dtk_X5_isFirstOfCell 17 rfl) (by decide) ?_
      exact T_sub [1, 2, 3, 0] rfl h
    · have h := h.2 c6
      refine T_iconst (v := 0) (dk dtk_X5_isFirstOfCell 14 rfl) (by decide +kernel) ?_
      exact KT_iret (dk dtk_X5_isFirstOfCell 15 rfl) rfl rfl h
set_option maxRecDepth 100000 in
theorem dtk_X5_perform : dck cX5_perform [(0, .aload_n 0, 1), (1, .getfield 33, 3), (4, .iload_n 1, 1), (5, .iaload, 1), (6, .istore_n 2, 1), (7, .aload_n 0, 1), (8, .getfield 36, 3), (11, .iload_n 1, 1), (12, .iaload, 1), (13, .iconst (-1), 1), (14, .if_icmp .eq 25, 3), (17, .aload_n 0, 1), (18, .getfield 25, 3), (21, .iconst (-1), 1), (22, .iconst (-1), 1), (23, .iconst (-1), 1), (24, .invokevirtual 188, 3), (27, .aload_n 0, 1), (28, .iload_n 2, 1), (29, .aload_n 0, 1), (30, .getfield 36, 3), (33, .iload_n 1, 1), (34, .iaload, 1), (35, .invokevirtual 191, 3), (38, .return_, 1), (39, .aload_n 0, 1), (40, .iload_n 2, 1), (41, .invokevirtual 130, 3), (44, .istore_n 3, 1), (45, .aload_n 0, 1), (46, .iload_n 2, 1), (47, .iconst 2, 1), (48, .invokevirtual 90, 3), (51, .istore 4, 2), (53, .aload_n 0, 1), (54, .getfield 25, 3), (57, .iload_n 2, 1), (58, .iload_n 3, 1), (59, .aload_n 0, 1), (60, .getfield 21, 3), (63, .getfield 136, 3), (66, .iload 4, 2), (68, .iaload, 1), (69, .invokevirtual 188, 3), (72, .aload_n 0, 1), (73, .iload_n 2, 1), (74, .iload 4, 2), (76, .iload_n 3, 1), (77, .aload_n 0, 1), (78, .getfield 39, 3), (81, .iload_n 1, 1), (82, .iaload, 1), (83, .invokevirtual 195, 3), (86, .istore 5, 2), (88, .iload 5, 2), (90, .ifCond .eq 19, 3), (93, .aload_n 0, 1), (94, .getfield 25, 3), (97, .iconst 1, 1), (98, .putfield 199, 3), (101, .aload_n 0, 1), (102, .iload_n 2, 1), (103, .iload 5, 2), (105, .invokevirtual 202, 3), (108, .return_, 1), (109, .iload_n 3, 1), (110, .bipush 9, 2), (112, .if_icmp .ne 17, 3), (115, .aload_n 0, 1), (116, .aload_n 0, 1), (117, .getfield 21, 3), (120, .getfield 136, 3), (123, .iload 4, 2), (125, .iaload, 1), (126, .invokevirtual 86, 3), (129, .iload_n 3, 1), (130, .bipush 7, 2), (132, .if_icmp .eq 18, 3), (135, .aload_n 0, 1), (136, .iload_n 2, 1), (137, .iconst 2, 1), (138, .iload 4, 2), (140, .iconst 1, 1), (141, .iadd, 1), (142, .invokevirtual 117, 3), (145, .aload_n 0, 1), (146, .iload_n 2, 1), (147, .invokevirtual 205, 3), (150, .return_, 1)] = true := by decide +kernel
set_option maxRecDepth 100000 in
set_option maxHeartbeats 4000000 in
theorem kg_X5_perform_0 {G : kG} {q : kP} {d : Nat} {x : gd} {P : Option gv → gd → Prop} (hq : kV q) {o : Nat} (ho : kiM q o) (l1 : Int32)
    (h : vp_in l1 84 ∧ vp_in l1 84 ∧ (((x.1 (o + 12) (l1 : Int32).toNatClampNeg) = (-1 : Int32) → KT G q d zk_X5_sortOf 0 [(0, vr o), (1, vi (x.1 (o + 11) (l1 : Int32).toNatClampNeg))] [] x (ri (fun r5 x4 => KT G q d zk_X5_get 0 [(0, vr o), (1, vi (x.1 (o + 11) (l1 : Int32).toNatClampNeg)), (2, vi 2)] [] x4 (ri (fun r7 x6 => vp_in r7 400 ∧ KT G q d zk_X1_clear 0 [(0, vr (o + 20)), (1, vi (x.1 (o + 11) (l1 : Int32).toNatClampNeg)), (2, vi r5), (3, vi (x6.1 85 (r7 : Int32).toNatClampNeg))] [] x6 (rv (fun x9 => vp_in l1 84 ∧ KT G q d zk_X5_actFailure 0 [(0, vr o), (1, vi (x.1 (o + 11) (l1 : Int32).toNatClampNeg)), (2, vi r7), (3, vi r5), (4, vi (x9.1 (o + 13) (l1 : Int32).toNatClampNeg))] [] x9 (ri (fun r12 x11 => ((r12 = (0 : Int32) → ((¬ (r5 = (9 : Int32)) → KT G q (d + 1) zk_X5_perform 129 [(0, vr o), (2, vi (x.1 (o + 11) (l1 : Int32).toNatClampNeg)), (3, vi r5), (4, vi r7)] [] x11 P) ∧ (r5 = (9 : Int32) → vp_in r7 400 ∧ KT G q d zk_X5_rouse 0 [(0, vr o), (1, vi (x11.1 85 (r7 : Int32).toNatClampNeg))] [] x11 (rv (fun x16 => KT G q (d + 1) zk_X5_perform 129 [(0, vr o), (2, vi (x.1 (o + 11) (l1 : Int32).toNatClampNeg)), (3, vi r5), (4, vi r7)] [] x16 P))))) ∧ (¬ (r12 = (0 : Int32)) → (∀ x17 : gd, x17 = si x11 (o + 20) 5 1 → KT G q d zk_X5_fail 0 [(0, vr o), (1, vi (x.1 (o + 11) (l1 : Int32).toNatClampNeg)), (2, vi r12)] [] x17 (rv (fun x18 => P none x18)))))))))))))) ∧ (¬ ((x.1 (o + 12) (l1 : Int32).toNatClampNeg) = (-1 : Int32)) → KT G q d zk_X1_clear 0 [(0, vr (o + 20)), (1, vi (-1)), (2, vi (-1)), (3, vi (-1))] [] x (rv (fun x19 => vp_in l1 84 ∧ KT G q d zk_X5_bringLate 0 [(0, vr o), (1, vi (x.1 (o + 11) (l1 : Int32).toNatClampNeg)), (2, vi (x19.1 (o + 12) (l1 : Int32).toNatClampNeg))] [] x19 (rv (fun x21 => P none x21))))))) :
    KT G q (d + 1) zk_X5_perform 0 [(0, vr o), (1, vi l1)] [] x P := by
  refine T_aload_n 0 (dk dtk_X5_perform 0 rfl) rfl rfl ?_
  refine T_getR o 10 (o + 11) (dk dtk_X5_perform 1 rfl) kfl_X5_33 (kk_M0 ho) (kl_M0 hq ho) (by decide) rfl (kr_M_10 ho) ?_
  refine T_iload_n 1 (dk dtk_X5_perform 2 rfl) rfl rfl ?_
  obtain ⟨h1, h⟩ := h
  refine T_iald (o + 11) 84 (dk dtk_X5_perform 3 rfl) (kk_M11 ho) (kl_M11 hq ho) h1 ?_
  refine T_istore_n (lv2 := [(2, vi (x.1 (o + 11) (l1 : Int32).toNatClampNeg)), (0, vr o), (1, vi l1)]) (dk dtk_X5_perform 4 rfl) rfl (by decide) rfl ?_
  refine T_aload_n 1 (dk dtk_X5_perform 5 rfl) rfl rfl ?_
  refine T_getR o 11 (o + 12) (dk dtk_X5_perform 6 rfl) kfl_X5_36 (kk_M0 ho) (kl_M0 hq ho) (by decide) rfl (kr_M_11 ho) ?_
  refine T_iload_n 2 (dk dtk_X5_perform 7 rfl) rfl rfl ?_
  obtain ⟨h2, h⟩ := h
  refine T_iald (o + 12) 84 (dk dtk_X5_perform 8 rfl) (kk_M12 ho) (kl_M12 hq ho) h2 ?_
  refine T_iconst (v := (-1)) (dk dtk_X5_perform 9 rfl) (by decide +kernel) ?_
  refine T_icmp_eq 39 (dk dtk_X5_perform 10 rfl) (by decide) (fun c3 => ?_) (fun c3 => ?_)
  · have h := h.1 c3
    refine T_aload_n 1 (dk dtk_X5_perform 25 rfl) rfl rfl ?_
    refine T_iload_n 0 (dk dtk_X5_perform 26 rfl) rfl rfl ?_
    refine KC_Vi [vi (x.1 (o + 11) (l1 : Int32).toNatClampNeg)] [] rfl (dk dtk_X5_perform 27 rfl) kcv_X5_130 rfl (kk_M0 ho) rfl (kl_M0 hq ho) (Nat.le_of_ble_eq_true rfl) (Nat.le_of_ble_eq_true rfl) (gok_i (av_c rfl (av_c (gkr (kl_M0 hq ho)) (av_c rfl av_n))) as_n) rfl h (fun r5 x4 h => ?_)
    refine T_istore_n (lv2 := [(3, vi r5), (2, vi (x.1 (o + 11) (l1 : Int32).toNatClampNeg)), (0, vr o), (1, vi l1)]) (dk dtk_X5_perform 28 rfl) rfl (by decide) rfl ?_
    refine T_aload_n 2 (dk dtk_X5_perform 29 rfl) rfl rfl ?_
    refine T_iload_n 1 (dk dtk_X5_perform 30 rfl) rfl rfl ?_
    refine T_iconst (v := 2) (dk dtk_X5_perform 31 rfl) (by decide +kernel) ?_
    refine KC_Vi [vi (x.1 (o + 11) (l1 : Int32).toNatClampNeg), vi 2] [] rfl (dk dtk_X5_perform 32 rfl) kcv_X5_90 rfl (kk_M0 ho) rfl (kl_M0 hq ho) (Nat.le_of_ble_eq_true rfl) (Nat.le_of_ble_eq_true rfl) (gok_i (av_c rfl (av_c rfl (av_c (gkr (kl_M0 hq ho)) (av_c rfl av_n)))) as_n) rfl h (fun r7 x6 h => ?_)
    refine T_istore (lv2 := [(4, vi r7), (3, vi r5), (2, vi (x.1 (o + 11) (l1 : Int32).toNatClampNeg)), (0, vr o), (1, vi l1)]) (dk dtk_X5_perform 33 rfl) (by decide) rfl ?_
    refine T_aload_n 3 (dk dtk_X5_perform 34 rfl) rfl rfl ?_
    refine T_getR o 2 (o + 20) (dk dtk_X5_perform 35 rfl) kfl_X5_25 (kk_M0 ho) (kl_M0 hq ho) (by decide) rfl (kr_M_2 ho) ?_
    refine T_iload_n 2 (dk dtk_X5_perform 36 rfl) rfl rfl ?_
    refine T_iload_n 1 (dk dtk_X5_perform 37 rfl) rfl rfl ?_
    refine T_aload_n 3 (dk dtk_X5_perform 38 rfl) rfl rfl ?_
    refine T_getR o 1 80 (dk dtk_X5_perform 39 rfl) kfl_X5_21 (kk_M0 ho) (kl_M0 hq ho) (by decide) rfl (kr_M_1 ho) ?_
    refine T_getR 80 4 85 (dk dtk_X5_perform 40 rfl) kfl_X5_136 kk_80 (kl_80 hq) (by decide) rfl kr_80_4 ?_
    refine T_iload 0 (dk dtk_X5_perform 41 rfl) rfl ?_
    obtain ⟨h8, h⟩ := h
    refine T_iald 85 400 (dk dtk_X5_perform 42 rfl) kk_85 (kl_85 hq) h8 ?_
    refine KC_Vv [vi (x.1 (o + 11) (l1 : Int32).toNatClampNeg), vi r5, vi (x6.1 85 (r7 : Int32).toNatClampNeg)] [] rfl (dk dtk_X5_perform 43 rfl) kcv_X5_188 rfl (kk_D0 (kiM_D ho)) rfl (kl_D0 hq (kiM_D ho)) (Nat.le_of_ble_eq_true rfl) (Nat.le_of_ble_eq_true rfl) (gok_i (av_c rfl (av_c rfl (av_c rfl (av_c (gkr (kl_M0 hq ho)) (av_c rfl av_n))))) as_n) rfl h (fun x9 h => ?_)
    refine T_aload_n 3 (dk dtk_X5_perform 44 rfl) rfl rfl ?_
    refine T_iload_n 2 (dk dtk_X5_perform 45 rfl) rfl rfl ?_
    refine T_iload 0 (dk dtk_X5_perform 46 rfl) rfl ?_
    refine T_iload_n 1 (dk dtk_X5_perform 47 rfl) rfl rfl ?_
    refine T_aload_n 3 (dk dtk_X5_perform 48 rfl) rfl rfl ?_
    refine T_getR o 12 (o + 13) (dk dtk_X5_perform 49 rfl) kfl_X5_39 (kk_M0 ho) (kl_M0 hq ho) (by decide) rfl (kr_M_12 ho) ?_
    refine T_iload_n 4 (dk dtk_X5_perform 50 rfl) rfl rfl ?_
    obtain ⟨h10, h⟩ := h
    refine T_iald (o + 13) 84 (dk dtk_X5_perform 51 rfl) (kk_M13 ho) (kl_M13 hq ho) h10 ?_
    refine T_sub (lv2 := [(4, vi r7), (3, vi r5), (2, vi (x.1 (o + 11) (l1 : Int32).toNatClampNeg)), (0, vr o)]) [0, 1, 2, 3] rfl ?_
    refine KC_Vi [vi (x.1 (o + 11) (l1 : Int32).toNatClampNeg), vi r7, vi r5, vi (x9.1 (o + 13) (l1 : Int32).toNatClampNeg)] [] rfl (dk dtk_X5_perform 52 rfl) kcv_X5_195 rfl (kk_M0 ho) rfl (kl_M0 hq ho) (Nat.le_of_ble_eq_true rfl) (Nat.le_of_ble_eq_true rfl) (gok_i (av_c rfl (av_c rfl (av_c rfl (av_c (gkr (kl_M0 hq ho)) av_n)))) as_n) rfl h (fun r12 x11 h => ?_)
    refine T_istore (lv2 := [(5, vi r12), (4, vi r7), (3, vi r5), (2, vi (x.1 (o + 11) (l1 : Int32).toNatClampNeg)), (0, vr o)]) (dk dtk_X5_perform 53 rfl) (by decide) rfl ?_
    refine T_iload 0 (dk dtk_X5_perform 54 rfl) rfl ?_
    refine T_if_eq 109 (dk dtk_X5_perform 55 rfl) (by decide) (fun c13 => ?_) (fun c13 => ?_)
    · have h := h.1 c13
      refine T_iload_n 2 (dk dtk_X5_perform 65 rfl) rfl rfl ?_
      refine T_bipush (v := 9) (dk dtk_X5_perform 66 rfl) (by decide +kernel) ?_
      refine T_icmp_ne 129 (dk dtk_X5_perform 67 rfl) (by decide) (fun c14 => ?_) (fun c14 => ?_)
      · have h := h.1 c14
        exact T_sub [4, 3, 2, 1] rfl h
      · have h := h.2 c14
        refine T_aload_n 4 (dk dtk_X5_perform 68 rfl) rfl rfl ?_
        refine T_aload_n 4 (dk dtk_X5_perform 69 rfl) rfl rfl ?_
        refine T_getR o 1 80 (dk dtk_X5_perform 70 rfl) kfl_X5_21 (kk_M0 ho) (kl_M0 hq ho) (by decide) rfl (kr_M_1 ho) ?_
        refine T_getR 80 4 85 (dk dtk_X5_perform 71 rfl) kfl_X5_136 kk_80 (kl_80 hq) (by decide) rfl kr_80_4 ?_
        refine T_iload 1 (dk dtk_X5_perform 72 rfl) rfl ?_
        obtain ⟨h15, h⟩ := h
        refine T_iald 85 400 (dk dtk_X5_perform 73 rfl) kk_85 (kl_85 hq) h15 ?_
        refine T_sub (lv2 := [(4, vi r7), (3, vi r5), (2, vi (x.1 (o + 11) (l1 : Int32).toNatClampNeg)), (0, vr o)]) [1, 2, 3, 4] rfl ?_
        refine KC_Vv [vi (x11.1 85 (r7 : Int32).toNatClampNeg)] [] rfl (dk dtk_X5_perform 74 rfl) kcv_X5_86 rfl (kk_M0 ho) rfl (kl_M0 hq ho) (Nat.le_of_ble_eq_true rfl) (Nat.le_of_ble_eq_true rfl) (gok_i (av_c rfl (av_c rfl (av_c rfl (av_c (gkr (kl_M0 hq ho)) av_n)))) as_n) rfl h (fun x16 h => ?_)
        exact T_sub [3, 2, 1, 0] rfl h
    · have h := h.2 c13
      refine T_aload_n 4 (dk dtk_X5_perform 56 rfl) rfl rfl ?_
      refine T_getR o 2 (o + 20) (dk dtk_X5_perform 57 rfl) kfl_X5_25 (kk_M0 ho) (kl_M0 hq ho) (by decide) rfl (kr_M_2 ho) ?_
      refine T_iconst (v := 1) (dk dtk_X5_perform 58 rfl) (by decide +kernel) ?_
      obtain ⟨x17, ex17⟩ : ∃ z, z = si x11 (o + 20) 5 1 := ⟨_, rfl⟩
      have h := h x17 ex17
      refine T_putI (o + 20) 5 (dk dtk_X5_perform 59 rfl) kfl_X5_199 (kk_D0 (kiM_D ho)) (kl_D0 hq (kiM_D ho)) (by decide) rfl ⟨rfl, rfl⟩ ?_
      rw [← ex17]
      refine T_aload_n 4 (dk dtk_X5_perform 60 rfl) rfl rfl ?_
      refine T_iload_n 3 (dk dtk_X5_perform 61 rfl) rfl rfl ?_
      refine T_iload 0 (dk dtk_X5_perform 62 rfl) rfl ?_
      refine T_sub (lv2 := []) [] rfl ?_
      refine KC_Vv [vi (x.1 (o + 11) (l1 : Int32).toNatClampNeg), vi r12] [] rfl (dk dtk_X5_perform 63 rfl) kcv_X5_202 rfl (kk_M0 ho) rfl (kl_M0 hq ho) (Nat.le_of_ble_eq_true rfl) (Nat.le_of_ble_eq_true rfl) (gok_i av_n as_n) rfl h (fun x18 h => ?_)
      exact KT_vret (dk dtk_X5_perform 64 rfl) rfl h
  · have h := h.2 c3
    refine T_aload_n 1 (dk dtk_X5_perform 11 rfl) rfl rfl ?_
    refine T_getR o 2 (o + 20) (dk dtk_X5_perform 12 rfl) kfl_X5_25 (kk_M0 ho) (kl_M0 hq ho) (by decide) rfl (kr_M_2 ho) ?_
    refine T_iconst (v := (-1)) (dk dtk_X5_perform 13 rfl) (by decide +kernel) ?_
    refine T_iconst (v := (-1)) (dk dtk_X5_perform 14 rfl) (by decide +kernel) ?_
    refine T_iconst (v := (-1)) (dk dtk_X5_perform 15 rfl) (by decide +kernel) ?_
    refine KC_Vv [vi (-1), vi (-1), vi (-1)] [] rfl (dk dtk_X5_perform 16 rfl) kcv_X5_188 rfl (kk_D0 (kiM_D ho)) rfl (kl_D0 hq (kiM_D ho)) (Nat.le_of_ble_eq_true rfl) (Nat.le_of_ble_eq_true rfl) (gok_i (av_c rfl (av_c (gkr (kl_M0 hq ho)) (av_c rfl av_n))) as_n) rfl h (fun x19 h => ?_)
    refine T_aload_n 1 (dk dtk_X5_perform 17 rfl) rfl rfl ?_
    refine T_iload_n 0 (dk dtk_X5_perform 18 rfl) rfl rfl ?_
    refine T_aload_n 1 (dk dtk_X5_perform 19 rfl) rfl rfl ?_
    refine T_getR o 11 (o + 12) (dk dtk_X5_perform 20 rfl) kfl_X5_36 (kk_M0 ho) (kl_M0 hq ho) (by decide) rfl (kr_M_11 ho) ?_
    refine T_iload_n 2 (dk dtk_X5_perform 21 rfl) rfl rfl ?_
    obtain ⟨h20, h⟩ := h
    refine T_iald (o + 12) 84 (dk dtk_X5_perform 22 rfl) (kk_M12 ho) (kl_M12 hq ho) h20 ?_
    refine T_sub (lv2 := []) [] rfl ?_
    refine KC_Vv [vi (x.1 (o + 11) (l1 : Int32).toNatClampNeg), vi (x19.1 (o + 12) (l1 : Int32).toNatClampNeg)] [] rfl (dk dtk_X5_perform 23 rfl) kcv_X5_191 rfl (kk_M0 ho) rfl (kl_M0 hq ho) (Nat.le_of_ble_eq_true rfl) (Nat.le_of_ble_eq_true rfl) (gok_i av_n as_n) rfl h (fun x21 h => ?_)
    exact KT_vret (dk dtk_X5_perform 24 rfl) rfl h
set_option maxRecDepth 100000 in
set_option maxHeartbeats 4000000 in
theorem kg_X5_perform_129 {G : kG} {q : kP} {d : Nat} {x : gd} {P : Option gv → gd → Prop} (hq : kV q) {o : Nat} (ho : kiM q o) (l2 : Int32) (l3 : Int32) (l4 : Int32)
    (h : ((l3 = (7 : Int32) → P none x) ∧ (¬ (l3 = (7 : Int32)) → KT G q d zk_X5_set 0 [(0, vr o), (1, vi l2), (2, vi 2), (3, vi (l4 + 1))] [] x (rv (fun x2 => KT G q d zk_X5_settle 0 [(0, vr o), (1, vi l2)] [] x2 (rv (fun x3 => P none x3))))))) :
    KT G q (d + 1) zk_X5_perform 129 [(0, vr o), (2, vi l2), (3, vi l3), (4, vi l4)] [] x P := by
  refine T_iload_n 2 (dk dtk_X5_perform 75 rfl) rfl rfl ?_
  refine T_bipush (v := 7) (dk dtk_X5_perform 76 rfl) (by decide +kernel) ?_
  refine T_icmp_eq 150 (dk dtk_X5_perform 77 rfl) (by decide) (fun c1 => ?_) (fun c1 => ?_)
  · have h := h.1 c1
    exact KT_vret (dk dtk_X5_perform 88 rfl) rfl h
  · have h := h.2 c1
    refine T_aload_n 0 (dk dtk_X5_perform 78 rfl) rfl rfl ?_
    refine T_iload_n 1 (dk dtk_X5_perform 79 rfl) rfl rfl ?_
    refine T_iconst (v := 2) (dk dtk_X5_perform 80 rfl) (by decide +kernel) ?_
    refine T_iload 3 (dk dtk_X5_perform 81 rfl) rfl ?_
    refine T_iconst (v := 1) (dk dtk_X5_perform 82 rfl) (by decide +kernel) ?_
    refine T_iadd (dk dtk_X5_perform 83 rfl) ?_
    refine T_sub (lv2 := [(0, vr o), (2, vi l2)]) [0, 1] rfl ?_
    refine KC_Vv [vi l2, vi 2, vi (l4 + 1)] [] rfl (dk dtk_X5_perform 84 rfl) kcv_X5_117 rfl (kk_M0 ho) rfl (kl_M0 hq ho) (Nat.le_of_ble_eq_true rfl) (Nat.le_of_ble_eq_true rfl) (gok_i (av_c (gkr (kl_M0 hq ho)) (av_c rfl av_n)) as_n) rfl h (fun x2 h => ?_)
    refine T_aload_n 0 (dk dtk_X5_perform 85 rfl) rfl rfl ?_
    refine T_iload_n 1 (dk dtk_X5_perform 86 rfl) rfl rfl ?_
    refine T_sub (lv2 := []) [] rfl ?_
    refine KC_Vv [vi l2] [] rfl (dk dtk_X5_perform 87 rfl) kcv_X5_205 rfl (kk_M0 ho) rfl (kl_M0 hq ho) (Nat.le_of_ble_eq_true rfl) (Nat.le_of_ble_eq_true rfl) (gok_i av_n as_n) rfl h (fun x3 h => ?_)
    exact KT_vret (dk dtk_X5_perform 88 rfl) rfl h
end
section
set_option maxRecDepth 100000 in
theorem dtk_X5_bringLate : dck cX5_bringLate [(0, .aload_n 0, 1), (1, .getfield 29, 3), (4, .aload_n 0, 1), (5, .iload_n 1, 1), (6, .iload_n 2, 1), (7, .invokevirtual 121, 3), (10, .aload_n 0, 1), (11, .iload_n 1, 1), (12, .iload_n 2, 1), (13, .invokevirtual 124, 3), (16, .iastore, 1), (17, .aload_n 0, 1), (18, .iload_n 1, 1), (19, .bipush 7, 2), (21, .invokevirtual 90, 3), (24, .iconst 1, 1), (25, .isub, 1), (26, .istore_n 3, 1), (27, .iload_n 2, 1), (28, .istore 4, 2), (30, .iload 4, 2), (32, .iload_n 3, 1), (33, .if_icmp .ge 34, 3), (36, .aload_n 0, 1), (37, .iload_n 1, 1), (38, .iload 4, 2), (40, .aload_n 0, 1), (41, .iload_n 1, 1), (42, .iload 4, 2), (44, .iconst 1, 1), (45, .iadd, 1), (46, .invokevirtual 121, 3), (49, .aload_n 0, 1), (50, .iload_n 1, 1), (51, .iload 4, 2), (53, .iconst 1, 1), (54, .iadd, 1), (55, .invokevirtual 124, 3), (58, .invokevirtual 208, 3), (61, .iinc 4 1, 3), (64, .goto (-34), 3), (67, .aload_n 0, 1), (68, .iload_n 1, 1), (69, .iload_n 3, 1), (70, .iconst 0, 1), (71, .iconst 0, 1), (72, .invokevirtual 208, 3), (75, .aload_n 0, 1), (76, .iload_n 1, 1), (77, .bipush 7, 2), (79, .iload_n 3, 1), (80, .invokevirtual 117, 3), (83, .return_, 1)] = true := by decide +kernel
set_option maxRecDepth 100000 in
set_option maxHeartbeats 4000000 in
theorem kg_X5_bringLate_0 {G : kG} {q : kP} {d : Nat} {x : gd} {P : Option gv → gd → Prop} (hq : kV q) {o : Nat} (ho : kiM q o) (l1 : Int32) (l2 : Int32)
    (h : KT G q d zk_X5_lateCell 0 [(0, vr o), (1, vi l1), (2, vi l2)] [] x (ri (fun r2 x1 => KT G q d zk_X5_lateValue 0 [(0, vr o), (1, vi l1), (2, vi l2)] [] x1 (ri (fun r4 x3 => vp_in r2 228 ∧ (∀ x6 : gd, x6 = si x3 (o + 5) (r2 : Int32).toNatClampNeg r4 → KT G q d zk_X5_get 0 [(0, vr o), (1, vi l1), (2, vi 7)] [] x6 (ri (fun r8 x7 => KT G q (d + 1) zk_X5_bringLate 30 [(0, vr o), (1, vi l1), (3, vi (r8 - 1)), (4, vi l2)] [] x7 P)))))))) :
    KT G q (d + 1) zk_X5_bringLate 0 [(0, vr o), (1, vi l1), (2, vi l2)] [] x P := by
  refine T_aload_n 0 (dk dtk_X5_bringLate 0 rfl) rfl rfl ?_
  refine T_getR o 4 (o + 5) (dk dtk_X5_bringLate 1 rfl) kfl_X5_29 (kk_M0 ho) (kl_M0 hq ho) (by decide) rfl (kr_M_4 ho) ?_
  refine T_aload_n 0 (dk dtk_X5_bringLate 2 rfl) rfl rfl ?_
  refine T_iload_n 1 (dk dtk_X5_bringLate 3 rfl) rfl rfl ?_
  refine T_iload_n 2 (dk dtk_X5_bringLate 4 rfl) rfl rfl ?_
  refine KC_Vi [vi l1, vi l2] [vr (o + 5)] rfl (dk dtk_X5_bringLate 5 rfl) kcv_X5_121 rfl (kk_M0 ho) rfl (kl_M0 hq ho) (Nat.le_of_ble_eq_true rfl) (Nat.le_of_ble_eq_true rfl) (gok_i (av_c (gkr (kl_M0 hq ho)) (av_c rfl (av_c rfl av_n))) (as_c (gkr (kl_M5 hq ho)) as_n)) rfl h (fun r2 x1 h => ?_)
  refine T_aload_n 0 (dk dtk_X5_bringLate 6 rfl) rfl rfl ?_
  refine T_iload_n 1 (dk dtk_X5_bringLate 7 rfl) rfl rfl ?_
  refine T_iload_n 2 (dk dtk_X5_bringLate 8 rfl) rfl rfl ?_
  refine KC_Vi [vi l1, vi l2] [vi r2, vr (o + 5)] rfl (dk dtk_X5_bringLate 9 rfl) kcv_X5_124 rfl (kk_M0 ho) rfl (kl_M0 hq ho) (Nat.le_of_ble_eq_true rfl) (Nat.le_of_ble_eq_true rfl) (gok_i (av_c (gkr (kl_M0 hq ho)) (av_c rfl (av_c rfl av_n))) (as_c rfl (as_c (gkr (kl_M5 hq ho)) as_n))) rfl h (fun r4 x3 h => ?_)
  obtain ⟨h5, h⟩ := h
  obtain ⟨x6, ex6⟩ : ∃ z, z = si x3 (o + 5) (r2 : Int32).toNatClampNeg r4 := ⟨_, rfl⟩
  have h := h x6 ex6
  refine T_iast (o + 5) 228 (dk dtk_X5_bringLate 10 rfl) (kk_M5 ho) (kl_M5 hq ho) h5 ?_
  rw [← ex6]
  refine T_aload_n 0 (dk dtk_X5_bringLate 11 rfl) rfl rfl ?_
  refine T_iload_n 1 (dk dtk_X5_bringLate 12 rfl) rfl rfl ?_
  refine T_bipush (v := 7) (dk dtk_X5_bringLate 13 rfl) (by decide +kernel) ?_
  refine KC_Vi [vi l1, vi 7] [] rfl (dk dtk_X5_bringLate 14 rfl) kcv_X5_90 rfl (kk_M0 ho) rfl (kl_M0 hq ho) (Nat.le_of_ble_eq_true rfl) (Nat.le_of_ble_eq_true rfl) (gok_i (av_c (gkr (kl_M0 hq ho)) (av_c rfl (av_c rfl av_n))) as_n) rfl h (fun r8 x7 h => ?_)
  refine T_iconst (v := 1) (dk dtk_X5_bringLate 15 rfl) (by decide +kernel) ?_
  refine T_isub (dk dtk_X5_bringLate 16 rfl) ?_
  refine T_istore_n (lv2 := [(3, vi (r8 - 1)), (0, vr o), (1, vi l1), (2, vi l2)]) (dk dtk_X5_bringLate 17 rfl) rfl (by decide) rfl ?_
  refine T_iload_n 3 (dk dtk_X5_bringLate 18 rfl) rfl rfl ?_
  refine T_istore (lv2 := [(4, vi l2), (3, vi (r8 - 1)), (0, vr o), (1, vi l1), (2, vi l2)]) (dk dtk_X5_bringLate 19 rfl) (by decide) rfl ?_
  exact T_sub [2, 3, 1, 0] rfl h
set_option maxRecDepth 100000 in
set_option maxHeartbeats 4000000 in
theorem kg_X5_bringLate_30 {G : kG} {q : kP} {d : Nat} {x : gd} {P : Option gv → gd → Prop} (hq : kV q) {o : Nat} (ho : kiM q o) (l1 : Int32) (l3 : Int32) (l4 : Int32)
    (h : ((l3 ≤ l4 → KT G q d zk_X5_setLate 0 [(0, vr o), (1, vi l1), (2, vi l3), (3, vi 0), (4, vi 0)] [] x (rv (fun x2 => KT G q d zk_X5_set 0 [(0, vr o), (1, vi l1), (2, vi 7), (3, vi l3)] [] x2 (rv (fun x3 => P none x3))))) ∧ (¬ (l3 ≤ l4) → KT G q d zk_X5_lateCell 0 [(0, vr o), (1, vi l1), (2, vi (l4 + 1))] [] x (ri (fun r5 x4 => KT G q d zk_X5_lateValue 0 [(0, vr o), (1, vi l1), (2, vi (l4 + 1))] [] x4 (ri (fun r7 x6 => KT G q d zk_X5_setLate 0 [(0, vr o), (1, vi l1), (2, vi l4), (3, vi r5), (4, vi r7)] [] x6 (rv (fun x8 => KT G q (d + 1) zk_X5_bringLate 30 [(0, vr o), (1, vi l1), (3, vi l3), (4, vi (l4 + 1))] [] x8 P))))))))) :
    KT G q (d + 1) zk_X5_bringLate 30 [(0, vr o), (1, vi l1), (3, vi l3), (4, vi l4)] [] x P := by
  refine T_iload 3 (dk dtk_X5_bringLate 20 rfl) rfl ?_
  refine T_iload_n 2 (dk dtk_X5_bringLate 21 rfl) rfl rfl ?_
  refine T_icmp_ge 67 (dk dtk_X5_bringLate 22 rfl) (by decide) (fun c1 => ?_) (fun c1 => ?_)
  · have h := h.1 c1
    refine T_aload_n 0 (dk dtk_X5_bringLate 41 rfl) rfl rfl ?_
    refine T_iload_n 1 (dk dtk_X5_bringLate 42 rfl) rfl rfl ?_
    refine T_iload_n 2 (dk dtk_X5_bringLate 43 rfl) rfl rfl ?_
    refine T_iconst (v := 0) (dk dtk_X5_bringLate 44 rfl) (by decide +kernel) ?_
    refine T_iconst (v := 0) (dk dtk_X5_bringLate 45 rfl) (by decide +kernel) ?_
    refine T_sub (lv2 := [(0, vr o), (1, vi l1), (3, vi l3)]) [0, 1, 2] rfl ?_
    refine KC_Vv [vi l1, vi l3, vi 0, vi 0] [] rfl (dk dtk_X5_bringLate 46 rfl) kcv_X5_208 rfl (kk_M0 ho) rfl (kl_M0 hq ho) (Nat.le_of_ble_eq_true rfl) (Nat.le_of_ble_eq_true rfl) (gok_i (av_c (gkr (kl_M0 hq ho)) (av_c rfl (av_c rfl av_n))) as_n) rfl h (fun x2 h => ?_)
    refine T_aload_n 0 (dk dtk_X5_bringLate 47 rfl) rfl rfl ?_
    refine T_iload_n 1 (dk dtk_X5_bringLate 48 rfl) rfl rfl ?_
    refine T_bipush (v := 7) (dk dtk_X5_bringLate 49 rfl) (by decide +kernel) ?_
    refine T_iload_n 2 (dk dtk_X5_bringLate 50 rfl) rfl rfl ?_
    refine T_sub (lv2 := []) [] rfl ?_
    refine KC_Vv [vi l1, vi 7, vi l3] [] rfl (dk dtk_X5_bringLate 51 rfl) kcv_X5_117 rfl (kk_M0 ho) rfl (kl_M0 hq ho) (Nat.le_of_ble_eq_true rfl) (Nat.le_of_ble_eq_true rfl) (gok_i av_n as_n) rfl h (fun x3 h => ?_)
    exact KT_vret (dk dtk_X5_bringLate 52 rfl) rfl h
  · have h := h.2 c1
    refine T_aload_n 0 (dk dtk_X5_bringLate 23 rfl) rfl rfl ?_
    refine T_iload_n 1 (dk dtk_X5_bringLate 24 rfl) rfl rfl ?_
    refine T_iload 3 (dk dtk_X5_bringLate 25 rfl) rfl ?_
    refine T_aload_n 0 (dk dtk_X5_bringLate 26 rfl) rfl rfl ?_
    refine T_iload_n 1 (dk dtk_X5_bringLate 27 rfl) rfl rfl ?_
    refine T_iload 3 (dk dtk_X5_bringLate 28 rfl) rfl ?_
    refine T_iconst (v := 1) (dk dtk_X5_bringLate 29 rfl) (by decide +kernel) ?_
    refine T_iadd (dk dtk_X5_bringLate 30 rfl) ?_
    refine KC_Vi [vi l1, vi (l4 + 1)] [vi l4, vi l1, vr o] rfl (dk dtk_X5_bringLate 31 rfl) kcv_X5_121 rfl (kk_M0 ho) rfl (kl_M0 hq ho) (Nat.le_of_ble_eq_true rfl) (Nat.le_of_ble_eq_true rfl) (gok_i (av_c (gkr (kl_M0 hq ho)) (av_c rfl (av_c rfl (av_c rfl av_n)))) (as_c rfl (as_c rfl (as_c (gkr (kl_M0 hq ho)) as_n)))) rfl h (fun r5 x4 h => ?_)
    refine T_aload_n 0 (dk dtk_X5_bringLate 32 rfl) rfl rfl ?_
    refine T_iload_n 1 (dk dtk_X5_bringLate 33 rfl) rfl rfl ?_
    refine T_iload 3 (dk dtk_X5_bringLate 34 rfl) rfl ?_
    refine T_iconst (v := 1) (dk dtk_X5_bringLate 35 rfl) (by decide +kernel) ?_
    refine T_iadd (dk dtk_X5_bringLate 36 rfl) ?_
    refine KC_Vi [vi l1, vi (l4 + 1)] [vi r5, vi l4, vi l1, vr o] rfl (dk dtk_X5_bringLate 37 rfl) kcv_X5_124 rfl (kk_M0 ho) rfl (kl_M0 hq ho) (Nat.le_of_ble_eq_true rfl) (Nat.le_of_ble_eq_true rfl) (gok_i (av_c (gkr (kl_M0 hq ho)) (av_c rfl (av_c rfl (av_c rfl av_n)))) (as_c rfl (as_c rfl (as_c rfl (as_c (gkr (kl_M0 hq ho)) as_n))))) rfl h (fun r7 x6 h => ?_)
    refine KC_Vv [vi l1, vi l4, vi r5, vi r7] [] rfl (dk dtk_X5_bringLate 38 rfl) kcv_X5_208 rfl (kk_M0 ho) rfl (kl_M0 hq ho) (Nat.le_of_ble_eq_true rfl) (Nat.le_of_ble_eq_true rfl) (gok_i (av_c (gkr (kl_M0 hq ho)) (av_c rfl (av_c rfl (av_c rfl av_n)))) as_n) rfl h (fun x8 h => ?_)
    refine T_iinc (v := l4 + 1) (lv2 := [(4, vi (l4 + 1)), (0, vr o), (1, vi l1), (3, vi l3)]) 3 (dk dtk_X5_bringLate 39 rfl) rfl rfl (by decide) rfl ?_
    refine T_goto 30 (dk dtk_X5_bringLate 40 rfl) (by decide) ?_
    exact T_sub [1, 2, 3, 0] rfl h
set_option maxRecDepth 100000 in
theorem dtk_X5_actFailure : dck cX5_actFailure [(0, .aload_n 0, 1), (1, .getfield 21, 3), (4, .getfield 136, 3), (7, .iload_n 2, 1), (8, .iaload, 1), (9, .istore 5, 2), (11, .iload_n 3, 1), (12, .tableswitch 182 0 15 #[80, 80, 80, 80, 80, 88, 105, 113, 129, 157, 182, 182, 182, 174, 174, 121], 80), (92, .aload_n 0, 1), (93, .iload_n 1, 1), (94, .iload_n 2, 1), (95, .iload_n 3, 1), (96, .invokevirtual 212, 3), (99, .ireturn, 1), (100, .aload_n 0, 1), (101, .iload 5, 2), (103, .iload_n 1, 1), (104, .aload_n 0, 1), (105, .iload 5, 2), (107, .invokevirtual 216, 3), (110, .iconst 1, 1), (111, .iadd, 1), (112, .invokevirtual 219, 3), (115, .iconst 0, 1), (116, .ireturn, 1), (117, .aload_n 0, 1), (118, .iload_n 1, 1), (119, .iload 5, 2), (121, .invokevirtual 222, 3), (124, .ireturn, 1), (125, .aload_n 0, 1), (126, .iload_n 1, 1), (127, .iload 5, 2), (129, .invokevirtual 225, 3), (132, .ireturn, 1), (133, .aload_n 0, 1), (134, .iload_n 1, 1), (135, .iload 5, 2), (137, .invokevirtual 228, 3), (140, .ireturn, 1), (141, .aload_n 0, 1), (142, .iload_n 1, 1), (143, .iload 5, 2), (145, .aload_n 0, 1), (146, .getfield 21, 3), (149, .getfield 182, 3), (152, .iload_n 2, 1), (153, .iaload, 1), (154, .iconst 1, 1), (155, .if_icmp .ne 7, 3), (158, .iconst 1, 1), (159, .goto 4, 3), (162, .iconst 0, 1), (163, .iload 4, 2), (165, .invokevirtual 231, 3), (168, .ireturn, 1), (169, .aload_n 0, 1), (170, .iload 5, 2), (172, .iconst 0, 1), (173, .invokevirtual 90, 3), (176, .ifCond .ne 7, 3), (179, .iconst 0, 1), (180, .goto 5, 3), (183, .bipush 7, 2), (185, .ireturn, 1), (186, .aload_n 0, 1), (187, .iload_n 1, 1), (188, .iload_n 2, 1), (189, .iload_n 3, 1), (190, .invokevirtual 235, 3), (193, .ireturn, 1), (194, .iconst 0, 1), (195, .ireturn, 1)] = true := by decide +kernel
set_option maxRecDepth 100000 in
set_option maxHeartbeats 4000000 in
theorem kg_X5_actFailure_0 {G : kG} {q : kP} {d : Nat} {x : gd} {P : Option gv → gd → Prop} (hq : kV q) {o : Nat} (ho : kiM q o) (l1 : Int32) (l2 : Int32) (l3 : Int32) (l4 : Int32)
    (h : vp_in l2 400 ∧ (((l3 = 0 ∨ l3 = 1 ∨ l3 = 2 ∨ l3 = 3 ∨ l3 = 4) → KT G q d zk_X5_doAccess 0 [(0, vr o), (1, vi l1), (2, vi l2), (3, vi l3)] [] x (ri (fun r4 x3 => P (some (vi r4)) x3))) ∧ ((l3 = 5) → KT G q d zk_X5_often 0 [(0, vr o), (1, vi (x.1 85 (l2 : Int32).toNatClampNeg))] [] x (ri (fun r7 x6 => KT G q d zk_X5_setLock 0 [(0, vr o), (1, vi (x.1 85 (l2 : Int32).toNatClampNeg)), (2, vi l1), (3, vi (r7 + 1))] [] x6 (rv (fun x8 => P (some (vi 0)) x8))))) ∧ ((l3 = 6) → KT G q d zk_X5_doGive 0 [(0, vr o), (1, vi l1), (2, vi (x.1 85 (l2 : Int32).toNatClampNeg))] [] x (ri (fun r11 x10 => P (some (vi r11)) x10))) ∧ ((l3 = 7) → KT G q d zk_X5_doWait 0 [(0, vr o), (1, vi l1), (2, vi (x.1 85 (l2 : Int32).toNatClampNeg))] [] x (ri (fun r14 x13 => P (some (vi r14)) x13))) ∧ ((l3 = 15) → KT G q d zk_X5_doRetake 0 [(0, vr o), (1, vi l1), (2, vi (x.1 85 (l2 : Int32).toNatClampNeg))] [] x (ri (fun r17 x16 => P (some (vi r17)) x16))) ∧ ((l3 = 8) → vp_in l2 400 ∧ ((¬ ((x.1 84 (l2 : Int32).toNatClampNeg) = (1 : Int32)) → KT G q (d + 1) zk_X5_actFailure 163 [(4, vi l4)] [vi 0, vi (x.1 85 (l2 : Int32).toNatClampNeg), vi l1, vr o] x P) ∧ ((x.1 84 (l2 : Int32).toNatClampNeg) = (1 : Int32) → KT G q (d + 1) zk_X5_actFailure 163 [(4, vi l4)] [vi 1, vi (x.1 85 (l2 : Int32).toNatClampNeg), vi l1, vr o] x P))) ∧ ((l3 = 9) → KT G q d zk_X5_get 0 [(0, vr o), (1, vi (x.1 85 (l2 : Int32).toNatClampNeg)), (2, vi 0)] [] x (ri (fun r23 x22 => ((¬ (r23 = (0 : Int32)) → P (some (vi 7)) x22) ∧ (r23 = (0 : Int32) → P (some (vi 0)) x22))))) ∧ ((l3 = 13 ∨ l3 = 14) → KT G q d zk_X5_doCallOrBack 0 [(0, vr o), (1, vi l1), (2, vi l2), (3, vi l3)] [] x (ri (fun r27 x26 => P (some (vi r27)) x26))) ∧ ((∀ k ∈ [(0 : Int32), (1 : Int32), (2 : Int32), (3 : Int32), (4 : Int32), (5 : Int32), (6 : Int32), (7 : Int32), (15 : Int32), (8 : Int32), (9 : Int32), (13 : Int32), (14 : Int32)], ¬ l3 = k) → P (some (vi 0)) x))) :
    KT G q (d + 1) zk_X5_actFailure 0 [(0, vr o), (1, vi l1), (2, vi l2), (3, vi l3), (4, vi l4)] [] x P := by
  refine T_aload_n 0 (dk dtk_X5_actFailure 0 rfl) rfl rfl ?_
  refine T_getR o 1 80 (dk dtk_X5_actFailure 1 rfl) kfl_X5_21 (kk_M0 ho) (kl_M0 hq ho) (by decide) rfl (kr_M_1 ho) ?_
  refine T_getR 80 4 85 (dk dtk_X5_actFailure 2 rfl) kfl_X5_136 kk_80 (kl_80 hq) (by decide) rfl kr_80_4 ?_
  refine T_iload_n 2 (dk dtk_X5_actFailure 3 rfl) rfl rfl ?_
  obtain ⟨h1, h⟩ := h
  refine T_iald 85 400 (dk dtk_X5_actFailure 4 rfl) kk_85 (kl_85 hq) h1 ?_
  refine T_istore (lv2 := [(5, vi (x.1 85 (l2 : Int32).toNatClampNeg)), (0, vr o), (1, vi l1), (2, vi l2), (3, vi l3), (4, vi l4)]) (dk dtk_X5_actFailure 5 rfl) (by decide) rfl ?_
  refine T_iload_n 4 (dk dtk_X5_actFailure 6 rfl) rfl rfl ?_
  by_cases c2 : l3 = 0 ∨ l3 = 1 ∨ l3 = 2 ∨ l3 = 3 ∨ l3 = 4
  · have h := h.1 c2
    refine T_table 80 92 (dk dtk_X5_actFailure 7 rfl) (by decide) (by rcases c2 with q9 | q9 | q9 | q9 | q9 <;> rw [q9] <;> decide +kernel) (by decide) ?_
    refine T_aload_n 1 (dk dtk_X5_actFailure 8 rfl) rfl rfl ?_
    refine T_iload_n 2 (dk dtk_X5_actFailure 9 rfl) rfl rfl ?_
    refine T_iload_n 3 (dk dtk_X5_actFailure 10 rfl) rfl rfl ?_
    refine T_iload_n 4 (dk dtk_X5_actFailure 11 rfl) rfl rfl ?_
    refine T_sub (lv2 := []) [] rfl ?_
    refine KC_Vi [vi l1, vi l2, vi l3] [] rfl (dk dtk_X5_actFailure 12 rfl) kcv_X5_212 rfl (kk_M0 ho) rfl (kl_M0 hq ho) (Nat.le_of_ble_eq_true rfl) (Nat.le_of_ble_eq_true rfl) (gok_i av_n as_n) rfl h (fun r4 x3 h => ?_)
    exact KT_iret (dk dtk_X5_actFailure 13 rfl) rfl rfl h
  · have h := h.2
    by_cases c5 : l3 = 5
    · have h := h.1 c5
      refine T_table 88 100 (dk dtk_X5_actFailure 7 rfl) (by decide) (by rw [c5]; decide +kernel) (by decide) ?_
      refine T_aload_n 1 (dk dtk_X5_actFailure 14 rfl) rfl rfl ?_
      refine T_iload 0 (dk dtk_X5_actFailure 15 rfl) rfl ?_
      refine T_iload_n 2 (dk dtk_X5_actFailure 16 rfl) rfl rfl ?_
      refine T_aload_n 1 (dk dtk_X5_actFailure 17 rfl) rfl rfl ?_
      refine T_iload 0 (dk dtk_X5_actFailure 18 rfl) rfl ?_
      refine T_sub (lv2 := []) [] rfl ?_
      refine KC_Vi [vi (x.1 85 (l2 : Int32).toNatClampNeg)] [vi l1, vi (x.1 85 (l2 : Int32).toNatClampNeg), vr o] rfl (dk dtk_X5_actFailure 19 rfl) kcv_X5_216 rfl (kk_M0 ho) rfl (kl_M0 hq ho) (Nat.le_of_ble_eq_true rfl) (Nat.le_of_ble_eq_true rfl) (gok_i av_n (as_c rfl (as_c rfl (as_c (gkr (kl_M0 hq ho)) as_n)))) rfl h (fun r7 x6 h => ?_)
      refine T_iconst (v := 1) (dk dtk_X5_actFailure 20 rfl) (by decide +kernel) ?_
      refine T_iadd (dk dtk_X5_actFailure 21 rfl) ?_
      refine KC_Vv [vi (x.1 85 (l2 : Int32).toNatClampNeg), vi l1, vi (r7 + 1)] [] rfl (dk dtk_X5_actFailure 22 rfl) kcv_X5_219 rfl (kk_M0 ho) rfl (kl_M0 hq ho) (Nat.le_of_ble_eq_true rfl) (Nat.le_of_ble_eq_true rfl) (gok_i av_n as_n) rfl h (fun x8 h => ?_)
      refine T_iconst (v := 0) (dk dtk_X5_actFailure 23 rfl) (by decide +kernel) ?_
      exact KT_iret (dk dtk_X5_actFailure 24 rfl) rfl rfl h
    · have h := h.2
      by_cases c9 : l3 = 6
      · have h := h.1 c9
        refine T_table 105 117 (dk dtk_X5_actFailure 7 rfl) (by decide) (by rw [c9]; decide +kernel) (by decide) ?_
        refine T_aload_n 1 (dk dtk_X5_actFailure 25 rfl) rfl rfl ?_
        refine T_iload_n 2 (dk dtk_X5_actFailure 26 rfl) rfl rfl ?_
        refine T_iload 0 (dk dtk_X5_actFailure 27 rfl) rfl ?_
        refine T_sub (lv2 := []) [] rfl ?_
        refine KC_Vi [vi l1, vi (x.1 85 (l2 : Int32).toNatClampNeg)] [] rfl (dk dtk_X5_actFailure 28 rfl) kcv_X5_222 rfl (kk_M0 ho) rfl (kl_M0 hq ho) (Nat.le_of_ble_eq_true rfl) (Nat.le_of_ble_eq_true rfl) (gok_i av_n as_n) rfl h (fun r11 x10 h => ?_)
        exact KT_iret (dk dtk_X5_actFailure 29 rfl) rfl rfl h
      · have h := h.2
        by_cases c12 : l3 = 7
        · have h := h.1 c12
          refine T_table 113 125 (dk dtk_X5_actFailure 7 rfl) (by decide) (by rw [c12]; decide +kernel) (by decide) ?_
          refine T_aload_n 1 (dk dtk_X5_actFailure 30 rfl) rfl rfl ?_
          refine T_iload_n 2 (dk dtk_X5_actFailure 31 rfl) rfl rfl ?_
          refine T_iload 0 (dk dtk_X5_actFailure 32 rfl) rfl ?_
          refine T_sub (lv2 := []) [] rfl ?_
          refine KC_Vi [vi l1, vi (x.1 85 (l2 : Int32).toNatClampNeg)] [] rfl (dk dtk_X5_actFailure 33 rfl) kcv_X5_225 rfl (kk_M0 ho) rfl (kl_M0 hq ho) (Nat.le_of_ble_eq_true rfl) (Nat.le_of_ble_eq_true rfl) (gok_i av_n as_n) rfl h (fun r14 x13 h => ?_)
          exact KT_iret (dk dtk_X5_actFailure 34 rfl) rfl rfl h
        · have h := h.2
          by_cases c15 : l3 = 15
          · have h := h.1 c15
            refine T_table 121 133 (dk dtk_X5_actFailure 7 rfl) (by decide) (by rw [c15]; decide +kernel) (by decide) ?_
            refine T_aload_n 1 (dk dtk_X5_actFailure 35 rfl) rfl rfl ?_
            refine T_iload_n 2 (dk dtk_X5_actFailure 36 rfl) rfl rfl ?_
            refine T_iload 0 (dk dtk_X5_actFailure 37 rfl) rfl ?_
            refine T_sub (lv2 := []) [] rfl ?_
            refine KC_Vi [vi l1, vi (x.1 85 (l2 : Int32).toNatClampNeg)] [] rfl (dk dtk_X5_actFailure 38 rfl) kcv_X5_228 rfl (kk_M0 ho) rfl (kl_M0 hq ho) (Nat.le_of_ble_eq_true rfl) (Nat.le_of_ble_eq_true rfl) (gok_i av_n as_n) rfl h (fun r17 x16 h => ?_)
            exact KT_iret (dk dtk_X5_actFailure 39 rfl) rfl rfl h
          · have h := h.2
            by_cases c18 : l3 = 8
            · have h := h.1 c18
              refine T_table 129 141 (dk dtk_X5_actFailure 7 rfl) (by decide) (by rw [c18]; decide +kernel) (by decide) ?_
              refine T_aload_n 1 (dk dtk_X5_actFailure 40 rfl) rfl rfl ?_
              refine T_iload_n 2 (dk dtk_X5_actFailure 41 rfl) rfl rfl ?_
              refine T_iload 0 (dk dtk_X5_actFailure 42 rfl) rfl ?_
              refine T_aload_n 1 (dk dtk_X5_actFailure 43 rfl) rfl rfl ?_
              refine T_getR o 1 80 (dk dtk_X5_actFailure 44 rfl) kfl_X5_21 (kk_M0 ho) (kl_M0 hq ho) (by decide) rfl (kr_M_1 ho) ?_
              refine T_getR 80 3 84 (dk dtk_X5_actFailure 45 rfl) kfl_X5_182 kk_80 (kl_80 hq) (by decide) rfl kr_80_3 ?_
              refine T_iload_n 3 (dk dtk_X5_actFailure 46 rfl) rfl rfl ?_
              obtain ⟨h19, h⟩ := h
              refine T_iald 84 400 (dk dtk_X5_actFailure 47 rfl) kk_84 (kl_84 hq) h19 ?_
              refine T_iconst (v := 1) (dk dtk_X5_actFailure 48 rfl) (by decide +kernel) ?_
              refine T_icmp_ne 162 (dk dtk_X5_actFailure 49 rfl) (by decide) (fun c20 => ?_) (fun c20 => ?_)
              · have h := h.1 c20
                refine T_iconst (v := 0) (dk dtk_X5_actFailure 52 rfl) (by decide +kernel) ?_
                exact T_sub [5] rfl h
              · have h := h.2 c20
                refine T_iconst (v := 1) (dk dtk_X5_actFailure 50 rfl) (by decide +kernel) ?_
                refine T_goto 163 (dk dtk_X5_actFailure 51 rfl) (by decide) ?_
                exact T_sub [5] rfl h
            · have h := h.2
              by_cases c21 : l3 = 9
              · have h := h.1 c21
                refine T_table 157 169 (dk dtk_X5_actFailure 7 rfl) (by decide) (by rw [c21]; decide +kernel) (by decide) ?_
                refine T_aload_n 1 (dk dtk_X5_actFailure 56 rfl) rfl rfl ?_
                refine T_iload 0 (dk dtk_X5_actFailure 57 rfl) rfl ?_
                refine T_iconst (v := 0) (dk dtk_X5_actFailure 58 rfl) (by decide +kernel) ?_
                refine T_sub (lv2 := []) [] rfl ?_
                refine KC_Vi [vi (x.1 85 (l2 : Int32).toNatClampNeg), vi 0] [] rfl (dk dtk_X5_actFailure 59 rfl) kcv_X5_90 rfl (kk_M0 ho) rfl (kl_M0 hq ho) (Nat.le_of_ble_eq_true rfl) (Nat.le_of_ble_eq_true rfl) (gok_i av_n as_n) rfl h (fun r23 x22 h => ?_)
                refine T_if_ne 183 (dk dtk_X5_actFailure 60 rfl) (by decide) (fun c24 => ?_) (fun c24 => ?_)
                · have h := h.1 c24
                  refine T_bipush (v := 7) (dk dtk_X5_actFailure 63 rfl) (by decide +kernel) ?_
                  exact KT_iret (dk dtk_X5_actFailure 64 rfl) rfl rfl h
                · have h := h.2 c24
                  refine T_iconst (v := 0) (dk dtk_X5_actFailure 61 rfl) (by decide +kernel) ?_
                  refine T_goto 185 (dk dtk_X5_actFailure 62 rfl) (by decide) ?_
                  exact KT_iret (dk dtk_X5_actFailure 64 rfl) rfl rfl h
              · have h := h.2
                by_cases c25 : l3 = 13 ∨ l3 = 14
                · have h := h.1 c25
                  refine T_table 174 186 (dk dtk_X5_actFailure 7 rfl) (by decide) (by rcases c25 with q9 | q9 <;> rw [q9] <;> decide +kernel) (by decide) ?_
                  refine T_aload_n 1 (dk dtk_X5_actFailure 65 rfl) rfl rfl ?_
                  refine T_iload_n 2 (dk dtk_X5_actFailure 66 rfl) rfl rfl ?_
                  refine T_iload_n 3 (dk dtk_X5_actFailure 67 rfl) rfl rfl ?_
                  refine T_iload_n 4 (dk dtk_X5_actFailure 68 rfl) rfl rfl ?_
                  refine T_sub (lv2 := []) [] rfl ?_
                  refine KC_Vi [vi l1, vi l2, vi l3] [] rfl (dk dtk_X5_actFailure 69 rfl) kcv_X5_235 rfl (kk_M0 ho) rfl (kl_M0 hq ho) (Nat.le_of_ble_eq_true rfl) (Nat.le_of_ble_eq_true rfl) (gok_i av_n as_n) rfl h (fun r27 x26 h => ?_)
                  exact KT_iret (dk dtk_X5_actFailure 70 rfl) rfl rfl h
                · have h := h.2
                  have n28 : ∀ k ∈ [(0 : Int32), (1 : Int32), (2 : Int32), (3 : Int32), (4 : Int32), (5 : Int32), (6 : Int32), (7 : Int32), (15 : Int32), (8 : Int32), (9 : Int32), (13 : Int32), (14 : Int32)], ¬ l3 = k := (gno (fun q9 => c2 (Or.inl q9)) (gno (fun q9 => c2 (Or.inr (Or.inl q9))) (gno (fun q9 => c2 (Or.inr (Or.inr (Or.inl q9)))) (gno (fun q9 => c2 (Or.inr (Or.inr (Or.inr (Or.inl q9))))) (gno (fun q9 => c2 (Or.inr (Or.inr (Or.inr (Or.inr (q9)))))) (gno c5 (gno c9 (gno c12 (gno c15 (gno c18 (gno c21 (gno (fun q9 => c25 (Or.inl q9)) (gno (fun q9 => c25 (Or.inr (q9))) gno0)))))))))))))
                  have h := h n28
                  refine T_table 182 194 (dk dtk_X5_actFailure 7 rfl) (by decide) (gtab_d [(0 : Int32), (1 : Int32), (2 : Int32), (3 : Int32), (4 : Int32), (5 : Int32), (6 : Int32), (7 : Int32), (15 : Int32), (8 : Int32), (9 : Int32), (13 : Int32), (14 : Int32)] (by decide +kernel) n28) (by decide) ?_
                  refine T_iconst (v := 0) (dk dtk_X5_actFailure 71 rfl) (by decide +kernel) ?_
                  exact KT_iret (dk dtk_X5_actFailure 72 rfl) rfl rfl h
set_option maxRecDepth 100000 in
set_option maxHeartbeats 4000000 in
theorem kg_X5_actFailure_163 {G : kG} {q : kP} {d : Nat} {x : gd} {P : Option gv → gd → Prop} (hq : kV q) {o : Nat} (ho : kiM q o) (l4 : Int32) (s0 : Int32) (s1 : Int32) (s2 : Int32)
    (h : KT G q d zk_X5_doWake 0 [(0, vr o), (1, vi s2), (2, vi s1), (3, vi s0), (4, vi l4)] [] x (ri (fun r2 x1 => P (some (vi r2)) x1))) :
    KT G q (d + 1) zk_X5_actFailure 163 [(4, vi l4)] [vi s0, vi s1, vi s2, vr o] x P := by
  refine T_iload 0 (dk dtk_X5_actFailure 53 rfl) rfl ?_
  refine T_sub (lv2 := []) [] rfl ?_
  refine KC_Vi [vi s2, vi s1, vi s0, vi l4] [] rfl (dk dtk_X5_actFailure 54 rfl) kcv_X5_231 rfl (kk_M0 ho) rfl (kl_M0 hq ho) (Nat.le_of_ble_eq_true rfl) (Nat.le_of_ble_eq_true rfl) (gok_i av_n as_n) rfl h (fun r2 x1 h => ?_)
  exact KT_iret (dk dtk_X5_actFailure 55 rfl) rfl rfl h
set_option maxRecDepth 100000 in
theorem dtk_X5_doAccess : dck cX5_doAccess [(0, .aload_n 0, 1), (1, .iload_n 1, 1), (2, .invokevirtual 133, 3), (5, .istore 4, 2), (7, .aload_n 0, 1), (8, .getfield 25, 3), (11, .iload 4, 2), (13, .putfield 238, 3), (16, .iload 4, 2), (18, .iconst (-1), 1), (19, .if_icmp .ne 8, 3), (22, .aload_n 0, 1), (23, .getfield 154, 3), (26, .ireturn, 1), (27, .aload_n 0, 1), (28, .iload_n 1, 1), (29, .iload 4, 2), (31, .invokevirtual 240, 3), (34, .istore 5, 2), (36, .iload_n 3, 1), (37, .ifCond .ne 33, 3), (40, .aload_n 0, 1), (41, .getfield 25, 3), (44, .iload 5, 2), (46, .putfield 243, 3), (49, .aload_n 0, 1), (50, .iload_n 1, 1), (51, .bipush 8, 2), (53, .aload_n 0, 1), (54, .getfield 21, 3), (57, .getfield 182, 3), (60, .iload_n 2, 1), (61, .iaload, 1), (62, .iadd, 1), (63, .iload 5, 2), (65, .invokevirtual 117, 3), (68, .iconst 0, 1), (69, .ireturn, 1), (70, .aload_n 0, 1), (71, .getfield 11, 3), (74, .aload_n 0, 1), (75, .getfield 21, 3), (78, .getfield 160, 3), (81, .iload_n 2, 1), (82, .iaload, 1), (83, .aload_n 0, 1), (84, .getfield 29, 3), (87, .aload_n 0, 1), (88, .iload_n 1, 1), (89, .invokevirtual 142, 3), (92, .iload_n 1, 1), (93, .invokevirtual 145, 3), (96, .istore 6, 2), (98, .aload_n 0, 1), (99, .getfield 11, 3), (102, .getfield 149, 3), (105, .ifCond .eq 5, 3), (108, .iconst 1, 1), (109, .ireturn, 1), (110, .iload_n 3, 1), (111, .iconst 1, 1), (112, .if_icmp .ne 16, 3), (115, .aload_n 0, 1), (116, .iload_n 1, 1), (117, .iload_n 2, 1), (118, .iload 4, 2), (120, .iload 6, 2), (122, .invokevirtual 246, 3), (125, .goto 13, 3), (128, .aload_n 0, 1), (129, .iload_n 1, 1), (130, .iload_n 2, 1), (131, .iload 4, 2), (133, .iload 6, 2), (135, .invokevirtual 249, 3), (138, .ireturn, 1)] = true := by decide +kernel
set_option maxRecDepth 100000 in
set_option maxHeartbeats 4000000 in
theorem kg_X5_doAccess_0 {G : kG} {q : kP} {d : Nat} {x : gd} {P : Option gv → gd → Prop} (hq : kV q) {o : Nat} (ho : kiM q o) (l1 : Int32) (l2 : Int32) (l3 : Int32)
    (h : KT G q d zk_X5_placeOf 0 [(0, vr o), (1, vi l1)] [] x (ri (fun r2 x1 => (∀ x3 : gd, x3 = si x1 (o + 20) 2 r2 → ((¬ (r2 = (-1 : Int32)) → KT G q d zk_X5_seenBy 0 [(0, vr o), (1, vi l1), (2, vi r2)] [] x3 (ri (fun r6 x5 => ((¬ (l3 = (0 : Int32)) → vp_in l2 400 ∧ KT G q d zk_X5_localsAt 0 [(0, vr o), (1, vi l1)] [] x5 (ri (fun r10 x9 => KT G q d zk_X0_work 0 [(0, vr 60), (1, vi (x5.1 88 (l2 : Int32).toNatClampNeg)), (2, vr (o + 5)), (3, vi r10), (4, vi l1)] [] x9 (ri (fun r12 x11 => (((x11.1 60 5) = (0 : Int32) → ((¬ (l3 = (1 : Int32)) → KT G q d zk_X5_doExchange 0 [(0, vr o), (1, vi l1), (2, vi l2), (3, vi r2), (4, vi r12)] [] x11 (ri (fun r16 x15 => P (some (vi r16)) x15))) ∧ (l3 = (1 : Int32) → KT G q d zk_X5_doWrite 0 [(0, vr o), (1, vi l1), (2, vi l2), (3, vi r2), (4, vi r12)] [] x11 (ri (fun r18 x17 => P (some (vi r18)) x17))))) ∧ (¬ ((x11.1 60 5) = (0 : Int32)) → P (some (vi 1)) x11))))))) ∧ (l3 = (0 : Int32) → (∀ x19 : gd, x19 = si x5 (o + 20) 3 r6 → vp_in l2 400 ∧ KT G q d zk_X5_set 0 [(0, vr o), (1, vi l1), (2, vi (8 + (x19.1 84 (l2 : Int32).toNatClampNeg))), (3, vi r6)] [] x19 (rv (fun x21 => P (some (vi 0)) x21)))))))) ∧ (r2 = (-1 : Int32) → P (some (vi (x3.1 o 14))) x3)))))) :
    KT G q (d + 1) zk_X5_doAccess 0 [(0, vr o), (1, vi l1), (2, vi l2), (3, vi l3)] [] x P := by
  refine T_aload_n 0 (dk dtk_X5_doAccess 0 rfl) rfl rfl ?_
  refine T_iload_n 1 (dk dtk_X5_doAccess 1 rfl) rfl rfl ?_
  refine KC_Vi [vi l1] [] rfl (dk dtk_X5_doAccess 2 rfl) kcv_X5_133 rfl (kk_M0 ho) rfl (kl_M0 hq ho) (Nat.le_of_ble_eq_true rfl) (Nat.le_of_ble_eq_true rfl) (gok_i (av_c (gkr (kl_M0 hq ho)) (av_c rfl (av_c rfl (av_c rfl av_n)))) as_n) rfl h (fun r2 x1 h => ?_)
  refine T_istore (lv2 := [(4, vi r2), (0, vr o), (1, vi l1), (2, vi l2), (3, vi l3)]) (dk dtk_X5_doAccess 3 rfl) (by decide) rfl ?_
  refine T_aload_n 1 (dk dtk_X5_doAccess 4 rfl) rfl rfl ?_
  refine T_getR o 2 (o + 20) (dk dtk_X5_doAccess 5 rfl) kfl_X5_25 (kk_M0 ho) (kl_M0 hq ho) (by decide) rfl (kr_M_2 ho) ?_
  refine T_iload 0 (dk dtk_X5_doAccess 6 rfl) rfl ?_
  obtain ⟨x3, ex3⟩ : ∃ z, z = si x1 (o + 20) 2 r2 := ⟨_, rfl⟩
  have h := h x3 ex3
  refine T_putI (o + 20) 2 (dk dtk_X5_doAccess 7 rfl) kfl_X5_238 (kk_D0 (kiM_D ho)) (kl_D0 hq (kiM_D ho)) (by decide) rfl ⟨rfl, rfl⟩ ?_
  rw [← ex3]
  refine T_iload 0 (dk dtk_X5_doAccess 8 rfl) rfl ?_
  refine T_iconst (v := (-1)) (dk dtk_X5_doAccess 9 rfl) (by decide +kernel) ?_
  refine T_icmp_ne 27 (dk dtk_X5_doAccess 10 rfl) (by decide) (fun c4 => ?_) (fun c4 => ?_)
  · have h := h.1 c4
    refine T_aload_n 1 (dk dtk_X5_doAccess 14 rfl) rfl rfl ?_
    refine T_iload_n 2 (dk dtk_X5_doAccess 15 rfl) rfl rfl ?_
    refine T_iload 0 (dk dtk_X5_doAccess 16 rfl) rfl ?_
    refine KC_Vi [vi l1, vi r2] [] rfl (dk dtk_X5_doAccess 17 rfl) kcv_X5_240 rfl (kk_M0 ho) rfl (kl_M0 hq ho) (Nat.le_of_ble_eq_true rfl) (Nat.le_of_ble_eq_true rfl) (gok_i (av_c rfl (av_c (gkr (kl_M0 hq ho)) (av_c rfl (av_c rfl (av_c rfl av_n))))) as_n) rfl h (fun r6 x5 h => ?_)
    refine T_istore (lv2 := [(5, vi r6), (4, vi r2), (0, vr o), (1, vi l1), (2, vi l2), (3, vi l3)]) (dk dtk_X5_doAccess 18 rfl) (by decide) rfl ?_
    refine T_iload_n 5 (dk dtk_X5_doAccess 19 rfl) rfl rfl ?_
    refine T_if_ne 70 (dk dtk_X5_doAccess 20 rfl) (by decide) (fun c7 => ?_) (fun c7 => ?_)
    · have h := h.1 c7
      refine T_aload_n 2 (dk dtk_X5_doAccess 38 rfl) rfl rfl ?_
      refine T_getR o 0 60 (dk dtk_X5_doAccess 39 rfl) kfl_X5_11 (kk_M0 ho) (kl_M0 hq ho) (by decide) rfl (kr_M_0 ho) ?_
      refine T_aload_n 2 (dk dtk_X5_doAccess 40 rfl) rfl rfl ?_
      refine T_getR o 1 80 (dk dtk_X5_doAccess 41 rfl) kfl_X5_21 (kk_M0 ho) (kl_M0 hq ho) (by decide) rfl (kr_M_1 ho) ?_
      refine T_getR 80 7 88 (dk dtk_X5_doAccess 42 rfl) kfl_X5_160 kk_80 (kl_80 hq) (by decide) rfl kr_80_7 ?_
      refine T_iload_n 4 (dk dtk_X5_doAccess 43 rfl) rfl rfl ?_
      obtain ⟨h8, h⟩ := h
      refine T_iald 88 400 (dk dtk_X5_doAccess 44 rfl) kk_88 (kl_88 hq) h8 ?_
      refine T_aload_n 2 (dk dtk_X5_doAccess 45 rfl) rfl rfl ?_
      refine T_getR o 4 (o + 5) (dk dtk_X5_doAccess 46 rfl) kfl_X5_29 (kk_M0 ho) (kl_M0 hq ho) (by decide) rfl (kr_M_4 ho) ?_
      refine T_aload_n 2 (dk dtk_X5_doAccess 47 rfl) rfl rfl ?_
      refine T_iload_n 3 (dk dtk_X5_doAccess 48 rfl) rfl rfl ?_
      refine T_sub (lv2 := [(4, vi r2), (0, vr o), (1, vi l1), (2, vi l2), (3, vi l3)]) [1, 2, 3, 4, 5] rfl ?_
      refine KC_Vi [vi l1] [vr (o + 5), vi (x5.1 88 (l2 : Int32).toNatClampNeg), vr 60] rfl (dk dtk_X5_doAccess 49 rfl) kcv_X5_142 rfl (kk_M0 ho) rfl (kl_M0 hq ho) (Nat.le_of_ble_eq_true rfl) (Nat.le_of_ble_eq_true rfl) (gok_i (av_c rfl (av_c (gkr (kl_M0 hq ho)) (av_c rfl (av_c rfl (av_c rfl av_n))))) (as_c (gkr (kl_M5 hq ho)) (as_c rfl (as_c (gkr (kl_60 hq)) as_n)))) rfl h (fun r10 x9 h => ?_)
      refine T_iload_n 2 (dk dtk_X5_doAccess 50 rfl) rfl rfl ?_
      refine KC_Vi [vi (x5.1 88 (l2 : Int32).toNatClampNeg), vr (o + 5), vi r10, vi l1] [] rfl (dk dtk_X5_doAccess 51 rfl) kcv_X5_145 rfl kk_60 rfl (kl_60 hq) (Nat.le_of_ble_eq_true rfl) (Nat.le_of_ble_eq_true rfl) (gok_i (av_c rfl (av_c (gkr (kl_M0 hq ho)) (av_c rfl (av_c rfl (av_c rfl av_n))))) as_n) rfl h (fun r12 x11 h => ?_)
      refine T_istore (lv2 := [(6, vi r12), (4, vi r2), (0, vr o), (1, vi l1), (2, vi l2), (3, vi l3)]) (dk dtk_X5_doAccess 52 rfl) (by decide) rfl ?_
      refine T_aload_n 2 (dk dtk_X5_doAccess 53 rfl) rfl rfl ?_
      refine T_getR o 0 60 (dk dtk_X5_doAccess 54 rfl) kfl_X5_11 (kk_M0 ho) (kl_M0 hq ho) (by decide) rfl (kr_M_0 ho) ?_
      refine T_getI 60 5 (dk dtk_X5_doAccess 55 rfl) kfl_X5_149 kk_60 (kl_60 hq) (by decide) rfl ?_
      refine T_if_eq 110 (dk dtk_X5_doAccess 56 rfl) (by decide) (fun c13 => ?_) (fun c13 => ?_)
      · have h := h.1 c13
        refine T_iload_n 5 (dk dtk_X5_doAccess 59 rfl) rfl rfl ?_
        refine T_iconst (v := 1) (dk dtk_X5_doAccess 60 rfl) (by decide +kernel) ?_
        refine T_icmp_ne 128 (dk dtk_X5_doAccess 61 rfl) (by decide) (fun c14 => ?_) (fun c14 => ?_)
        · have h := h.1 c14
          refine T_aload_n 2 (dk dtk_X5_doAccess 69 rfl) rfl rfl ?_
          refine T_iload_n 3 (dk dtk_X5_doAccess 70 rfl) rfl rfl ?_
          refine T_iload_n 4 (dk dtk_X5_doAccess 71 rfl) rfl rfl ?_
          refine T_iload 1 (dk dtk_X5_doAccess 72 rfl) rfl ?_
          refine T_iload 0 (dk dtk_X5_doAccess 73 rfl) rfl ?_
          refine T_sub (lv2 := []) [] rfl ?_
          refine KC_Vi [vi l1, vi l2, vi r2, vi r12] [] rfl (dk dtk_X5_doAccess 74 rfl) kcv_X5_249 rfl (kk_M0 ho) rfl (kl_M0 hq ho) (Nat.le_of_ble_eq_true rfl) (Nat.le_of_ble_eq_true rfl) (gok_i av_n as_n) rfl h (fun r16 x15 h => ?_)
          exact KT_iret (dk dtk_X5_doAccess 75 rfl) rfl rfl h
        · have h := h.2 c14
          refine T_aload_n 2 (dk dtk_X5_doAccess 62 rfl) rfl rfl ?_
          refine T_iload_n 3 (dk dtk_X5_doAccess 63 rfl) rfl rfl ?_
          refine T_iload_n 4 (dk dtk_X5_doAccess 64 rfl) rfl rfl ?_
          refine T_iload 1 (dk dtk_X5_doAccess 65 rfl) rfl ?_
          refine T_iload 0 (dk dtk_X5_doAccess 66 rfl) rfl ?_
          refine T_sub (lv2 := []) [] rfl ?_
          refine KC_Vi [vi l1, vi l2, vi r2, vi r12] [] rfl (dk dtk_X5_doAccess 67 rfl) kcv_X5_246 rfl (kk_M0 ho) rfl (kl_M0 hq ho) (Nat.le_of_ble_eq_true rfl) (Nat.le_of_ble_eq_true rfl) (gok_i av_n as_n) rfl h (fun r18 x17 h => ?_)
          refine T_goto 138 (dk dtk_X5_doAccess 68 rfl) (by decide) ?_
          exact KT_iret (dk dtk_X5_doAccess 75 rfl) rfl rfl h
      · have h := h.2 c13
        refine T_iconst (v := 1) (dk dtk_X5_doAccess 57 rfl) (by decide +kernel) ?_
        exact KT_iret (dk dtk_X5_doAccess 58 rfl) rfl rfl h
    · have h := h.2 c7
      refine T_aload_n 2 (dk dtk_X5_doAccess 21 rfl) rfl rfl ?_
      refine T_getR o 2 (o + 20) (dk dtk_X5_doAccess 22 rfl) kfl_X5_25 (kk_M0 ho) (kl_M0 hq ho) (by decide) rfl (kr_M_2 ho) ?_
      refine T_iload 0 (dk dtk_X5_doAccess 23 rfl) rfl ?_
      obtain ⟨x19, ex19⟩ : ∃ z, z = si x5 (o + 20) 3 r6 := ⟨_, rfl⟩
      have h := h x19 ex19
      refine T_putI (o + 20) 3 (dk dtk_X5_doAccess 24 rfl) kfl_X5_243 (kk_D0 (kiM_D ho)) (kl_D0 hq (kiM_D ho)) (by decide) rfl ⟨rfl, rfl⟩ ?_
      rw [← ex19]
      refine T_aload_n 2 (dk dtk_X5_doAccess 25 rfl) rfl rfl ?_
      refine T_iload_n 3 (dk dtk_X5_doAccess 26 rfl) rfl rfl ?_
      refine T_bipush (v := 8) (dk dtk_X5_doAccess 27 rfl) (by decide +kernel) ?_
      refine T_aload_n 2 (dk dtk_X5_doAccess 28 rfl) rfl rfl ?_
      refine T_getR o 1 80 (dk dtk_X5_doAccess 29 rfl) kfl_X5_21 (kk_M0 ho) (kl_M0 hq ho) (by decide) rfl (kr_M_1 ho) ?_
      refine T_getR 80 3 84 (dk dtk_X5_doAccess 30 rfl) kfl_X5_182 kk_80 (kl_80 hq) (by decide) rfl kr_80_3 ?_
      refine T_iload_n 4 (dk dtk_X5_doAccess 31 rfl) rfl rfl ?_
      obtain ⟨h20, h⟩ := h
      refine T_iald 84 400 (dk dtk_X5_doAccess 32 rfl) kk_84 (kl_84 hq) h20 ?_
      refine T_iadd (dk dtk_X5_doAccess 33 rfl) ?_
      refine T_iload 0 (dk dtk_X5_doAccess 34 rfl) rfl ?_
      refine T_sub (lv2 := []) [] rfl ?_
      refine KC_Vv [vi l1, vi (8 + (x19.1 84 (l2 : Int32).toNatClampNeg)), vi r6] [] rfl (dk dtk_X5_doAccess 35 rfl) kcv_X5_117 rfl (kk_M0 ho) rfl (kl_M0 hq ho) (Nat.le_of_ble_eq_true rfl) (Nat.le_of_ble_eq_true rfl) (gok_i av_n as_n) rfl h (fun x21 h => ?_)
      refine T_iconst (v := 0) (dk dtk_X5_doAccess 36 rfl) (by decide +kernel) ?_
      exact KT_iret (dk dtk_X5_doAccess 37 rfl) rfl rfl h
  · have h := h.2 c4
    refine T_aload_n 1 (dk dtk_X5_doAccess 11 rfl) rfl rfl ?_
    refine T_getI o 14 (dk dtk_X5_doAccess 12 rfl) kfl_X5_154 (kk_M0 ho) (kl_M0 hq ho) (by decide) rfl ?_
    exact KT_iret (dk dtk_X5_doAccess 13 rfl) rfl rfl h
set_option maxRecDepth 100000 in
theorem dtk_X5_doWrite : dck cX5_doWrite [(0, .aload_n 0, 1), (1, .iload_n 2, 1), (2, .invokevirtual 166, 3), (5, .ifCond .ne 14, 3), (8, .aload_n 0, 1), (9, .getfield 29, 3), (12, .iload_n 3, 1), (13, .iload 4, 2), (15, .iastore, 1), (16, .goto 43, 3), (19, .aload_n 0, 1), (20, .iload_n 1, 1), (21, .bipush 7, 2), (23, .invokevirtual 90, 3), (26, .istore 5, 2), (28, .iload 5, 2), (30, .bipush 8, 2), (32, .if_icmp .lt 6, 3), (35, .bipush 9, 2), (37, .ireturn, 1), (38, .aload_n 0, 1), (39, .iload_n 1, 1), (40, .iload 5, 2), (42, .iload_n 3, 1), (43, .iload 4, 2), (45, .invokevirtual 208, 3), (48, .aload_n 0, 1), (49, .iload_n 1, 1), (50, .bipush 7, 2), (52, .iload 5, 2), (54, .iconst 1, 1), (55, .iadd, 1), (56, .invokevirtual 117, 3), (59, .aload_n 0, 1), (60, .getfield 25, 3), (63, .iload 4, 2), (65, .putfield 252, 3), (68, .iconst 0, 1), (69, .ireturn, 1)] = true := by decide +kernel
set_option maxRecDepth 100000 in
set_option maxHeartbeats 4000000 in
theorem kg_X5_doWrite_0 {G : kG} {q : kP} {d : Nat} {x : gd} {P : Option gv → gd → Prop} (hq : kV q) {o : Nat} (ho : kiM q o) (l1 : Int32) (l2 : Int32) (l3 : Int32) (l4 : Int32)
    (h : KT G q d zk_X5_goesLate 0 [(0, vr o), (1, vi l2)] [] x (ri (fun r2 x1 => ((¬ (r2 = (0 : Int32)) → KT G q d zk_X5_get 0 [(0, vr o), (1, vi l1), (2, vi 7)] [] x1 (ri (fun r5 x4 => ((r5 < (8 : Int32) → KT G q d zk_X5_setLate 0 [(0, vr o), (1, vi l1), (2, vi r5), (3, vi l3), (4, vi l4)] [] x4 (rv (fun x7 => KT G q d zk_X5_set 0 [(0, vr o), (1, vi l1), (2, vi 7), (3, vi (r5 + 1))] [] x7 (rv (fun x8 => (∀ x9 : gd, x9 = si x8 (o + 20) 4 l4 → P (some (vi 0)) x9)))))) ∧ (¬ (r5 < (8 : Int32)) → P (some (vi 9)) x4))))) ∧ (r2 = (0 : Int32) → vp_in l3 228 ∧ (∀ x11 : gd, x11 = si x1 (o + 5) (l3 : Int32).toNatClampNeg l4 → (∀ x12 : gd, x12 = si x11 (o + 20) 4 l4 → P (some (vi 0)) x12))))))) :
    KT G q (d + 1) zk_X5_doWrite 0 [(0, vr o), (1, vi l1), (2, vi l2), (3, vi l3), (4, vi l4)] [] x P := by
  refine T_aload_n 0 (dk dtk_X5_doWrite 0 rfl) rfl rfl ?_
  refine T_iload_n 2 (dk dtk_X5_doWrite 1 rfl) rfl rfl ?_
  refine T_sub (lv2 := [(0, vr o), (1, vi l1), (3, vi l3), (4, vi l4)]) [0, 1, 3, 4] rfl ?_
  refine KC_Vi [vi l2] [] rfl (dk dtk_X5_doWrite 2 rfl) kcv_X5_166 rfl (kk_M0 ho) rfl (kl_M0 hq ho) (Nat.le_of_ble_eq_true rfl) (Nat.le_of_ble_eq_true rfl) (gok_i (av_c (gkr (kl_M0 hq ho)) (av_c rfl (av_c rfl (av_c rfl av_n)))) as_n) rfl h (fun r2 x1 h => ?_)
  refine T_if_ne 19 (dk dtk_X5_doWrite 3 rfl) (by decide) (fun c3 => ?_) (fun c3 => ?_)
  · have h := h.1 c3
    refine T_aload_n 0 (dk dtk_X5_doWrite 10 rfl) rfl rfl ?_
    refine T_iload_n 1 (dk dtk_X5_doWrite 11 rfl) rfl rfl ?_
    refine T_bipush (v := 7) (dk dtk_X5_doWrite 12 rfl) (by decide +kernel) ?_
    refine KC_Vi [vi l1, vi 7] [] rfl (dk dtk_X5_doWrite 13 rfl) kcv_X5_90 rfl (kk_M0 ho) rfl (kl_M0 hq ho) (Nat.le_of_ble_eq_true rfl) (Nat.le_of_ble_eq_true rfl) (gok_i (av_c (gkr (kl_M0 hq ho)) (av_c rfl (av_c rfl (av_c rfl av_n)))) as_n) rfl h (fun r5 x4 h => ?_)
    refine T_istore (lv2 := [(5, vi r5), (0, vr o), (1, vi l1), (3, vi l3), (4, vi l4)]) (dk dtk_X5_doWrite 14 rfl) (by decide) rfl ?_
    refine T_iload 0 (dk dtk_X5_doWrite 15 rfl) rfl ?_
    refine T_bipush (v := 8) (dk dtk_X5_doWrite 16 rfl) (by decide +kernel) ?_
    refine T_icmp_lt 38 (dk dtk_X5_doWrite 17 rfl) (by decide) (fun c6 => ?_) (fun c6 => ?_)
    · have h := h.1 c6
      refine T_aload_n 1 (dk dtk_X5_doWrite 20 rfl) rfl rfl ?_
      refine T_iload_n 2 (dk dtk_X5_doWrite 21 rfl) rfl rfl ?_
      refine T_iload 0 (dk dtk_X5_doWrite 22 rfl) rfl ?_
      refine T_iload_n 3 (dk dtk_X5_doWrite 23 rfl) rfl rfl ?_
      refine T_iload 4 (dk dtk_X5_doWrite 24 rfl) rfl ?_
      refine T_sub (lv2 := [(5, vi r5), (0, vr o), (1, vi l1), (4, vi l4)]) [0, 1, 2, 4] rfl ?_
      refine KC_Vv [vi l1, vi r5, vi l3, vi l4] [] rfl (dk dtk_X5_doWrite 25 rfl) kcv_X5_208 rfl (kk_M0 ho) rfl (kl_M0 hq ho) (Nat.le_of_ble_eq_true rfl) (Nat.le_of_ble_eq_true rfl) (gok_i (av_c rfl (av_c (gkr (kl_M0 hq ho)) (av_c rfl (av_c rfl av_n)))) as_n) rfl h (fun x7 h => ?_)
      refine T_aload_n 1 (dk dtk_X5_doWrite 26 rfl) rfl rfl ?_
      refine T_iload_n 2 (dk dtk_X5_doWrite 27 rfl) rfl rfl ?_
      refine T_bipush (v := 7) (dk dtk_X5_doWrite 28 rfl) (by decide +kernel) ?_
      refine T_iload 0 (dk dtk_X5_doWrite 29 rfl) rfl ?_
      refine T_iconst (v := 1) (dk dtk_X5_doWrite 30 rfl) (by decide +kernel) ?_
      refine T_iadd (dk dtk_X5_doWrite 31 rfl) ?_
      refine T_sub (lv2 := [(0, vr o), (4, vi l4)]) [1, 3] rfl ?_
      refine KC_Vv [vi l1, vi 7, vi (r5 + 1)] [] rfl (dk dtk_X5_doWrite 32 rfl) kcv_X5_117 rfl (kk_M0 ho) rfl (kl_M0 hq ho) (Nat.le_of_ble_eq_true rfl) (Nat.le_of_ble_eq_true rfl) (gok_i (av_c (gkr (kl_M0 hq ho)) (av_c rfl av_n)) as_n) rfl h (fun x8 h => ?_)
      refine T_aload_n 0 (dk dtk_X5_doWrite 33 rfl) rfl rfl ?_
      refine T_getR o 2 (o + 20) (dk dtk_X5_doWrite 34 rfl) kfl_X5_25 (kk_M0 ho) (kl_M0 hq ho) (by decide) rfl (kr_M_2 ho) ?_
      refine T_iload 1 (dk dtk_X5_doWrite 35 rfl) rfl ?_
      obtain ⟨x9, ex9⟩ : ∃ z, z = si x8 (o + 20) 4 l4 := ⟨_, rfl⟩
      have h := h x9 ex9
      refine T_putI (o + 20) 4 (dk dtk_X5_doWrite 36 rfl) kfl_X5_252 (kk_D0 (kiM_D ho)) (kl_D0 hq (kiM_D ho)) (by decide) rfl ⟨rfl, rfl⟩ ?_
      rw [← ex9]
      refine T_iconst (v := 0) (dk dtk_X5_doWrite 37 rfl) (by decide +kernel) ?_
      exact KT_iret (dk dtk_X5_doWrite 38 rfl) rfl rfl h
    · have h := h.2 c6
      refine T_bipush (v := 9) (dk dtk_X5_doWrite 18 rfl) (by decide +kernel) ?_
      exact KT_iret (dk dtk_X5_doWrite 19 rfl) rfl rfl h
  · have h := h.2 c3
    refine T_aload_n 0 (dk dtk_X5_doWrite 4 rfl) rfl rfl ?_
    refine T_getR o 4 (o + 5) (dk dtk_X5_doWrite 5 rfl) kfl_X5_29 (kk_M0 ho) (kl_M0 hq ho) (by decide) rfl (kr_M_4 ho) ?_
    refine T_iload_n 2 (dk dtk_X5_doWrite 6 rfl) rfl rfl ?_
    refine T_iload 3 (dk dtk_X5_doWrite 7 rfl) rfl ?_
    obtain ⟨h10, h⟩ := h
    obtain ⟨x11, ex11⟩ : ∃ z, z = si x1 (o + 5) (l3 : Int32).toNatClampNeg l4 := ⟨_, rfl⟩
    have h := h x11 ex11
    refine T_iast (o + 5) 228 (dk dtk_X5_doWrite 8 rfl) (kk_M5 ho) (kl_M5 hq ho) h10 ?_
    rw [← ex11]
    refine T_goto 59 (dk dtk_X5_doWrite 9 rfl) (by decide) ?_
    refine T_aload_n 0 (dk dtk_X5_doWrite 33 rfl) rfl rfl ?_
    refine T_getR o 2 (o + 20) (dk dtk_X5_doWrite 34 rfl) kfl_X5_25 (kk_M0 ho) (kl_M0 hq ho) (by decide) rfl (kr_M_2 ho) ?_
    refine T_iload 3 (dk dtk_X5_doWrite 35 rfl) rfl ?_
    obtain ⟨x12, ex12⟩ : ∃ z, z = si x11 (o + 20) 4 l4 := ⟨_, rfl⟩
    have h := h x12 ex12
    refine T_putI (o + 20) 4 (dk dtk_X5_doWrite 36 rfl) kfl_X5_252 (kk_D0 (kiM_D ho)) (kl_D0 hq (kiM_D ho)) (by decide) rfl ⟨rfl, rfl⟩ ?_
    rw [← ex12]
    refine T_iconst (v := 0) (dk dtk_X5_doWrite 37 rfl) (by decide +kernel) ?_
    exact KT_iret (dk dtk_X5_doWrite 38 rfl) rfl rfl h
set_option maxRecDepth 100000 in
theorem dtk_X5_doExchange : dck cX5_doExchange [(0, .aload_n 0, 1), (1, .getfield 29, 3), (4, .iload_n 3, 1), (5, .iaload, 1), (6, .istore 5, 2), (8, .iload 5, 2), (10, .istore 6, 2), (12, .iload 4, 2), (14, .istore 7, 2), (16, .aload_n 0, 1), (17, .getfield 21, 3), (20, .getfield 127, 3), (23, .iload_n 2, 1), (24, .iaload, 1), (25, .iconst 3, 1), (26, .if_icmp .ne 13, 3), (29, .iload 5, 2), (31, .iload 4, 2), (33, .iadd, 1), (34, .istore 7, 2), (36, .goto 86, 3), (39, .aload_n 0, 1), (40, .getfield 21, 3), (43, .getfield 127, 3), (46, .iload_n 2, 1), (47, .iaload, 1), (48, .iconst 4, 1), (49, .if_icmp .ne 73, 3), (52, .aload_n 0, 1), (53, .getfield 11, 3), (56, .aload_n 0, 1), (57, .getfield 21, 3), (60, .getfield 163, 3), (63, .iload_n 2, 1), (64, .iaload, 1), (65, .aload_n 0, 1), (66, .getfield 29, 3), (69, .aload_n 0, 1), (70, .iload_n 1, 1), (71, .invokevirtual 142, 3), (74, .iload_n 1, 1), (75, .invokevirtual 145, 3), (78, .istore 8, 2), (80, .aload_n 0, 1), (81, .getfield 11, 3), (84, .getfield 149, 3), (87, .ifCond .eq 5, 3), (90, .iconst 1, 1), (91, .ireturn, 1), (92, .iload 5, 2), (94, .iload 4, 2), (96, .if_icmp .ne 7, 3), (99, .iconst 1, 1), (100, .goto 4, 3), (103, .iconst 0, 1), (104, .istore 6, 2), (106, .iload 5, 2), (108, .iload 4, 2), (110, .if_icmp .ne 8, 3), (113, .iload 8, 2), (115, .goto 5, 3), (118, .iload 5, 2), (120, .istore 7, 2), (122, .aload_n 0, 1), (123, .getfield 29, 3), (126, .iload_n 3, 1), (127, .iload 7, 2), (129, .iastore, 1), (130, .aload_n 0, 1), (131, .getfield 25, 3), (134, .iload 5, 2), (136, .putfield 243, 3), (139, .aload_n 0, 1), (140, .getfield 25, 3), (143, .iload 7, 2), (145, .putfield 252, 3), (148, .aload_n 0, 1), (149, .iload_n 1, 1), (150, .bipush 8, 2), (152, .aload_n 0, 1), (153, .getfield 21, 3), (156, .getfield 182, 3), (159, .iload_n 2, 1), (160, .iaload, 1), (161, .iadd, 1), (162, .iload 6, 2), (164, .invokevirtual 117, 3), (167, .iconst 0, 1), (168, .ireturn, 1)] = true := by decide +kernel
set_option maxRecDepth 100000 in
set_option maxHeartbeats 4000000 in
theorem kg_X5_doExchange_0 {G : kG} {q : kP} {d : Nat} {x : gd} {P : Option gv → gd → Prop} (hq : kV q) {o : Nat} (ho : kiM q o) (l1 : Int32) (l2 : Int32) (l3 : Int32) (l4 : Int32)
    (h : vp_in l3 228 ∧ vp_in l2 400 ∧ ((¬ ((x.1 81 (l2 : Int32).toNatClampNeg) = (3 : Int32)) → vp_in l2 400 ∧ ((¬ ((x.1 81 (l2 : Int32).toNatClampNeg) = (4 : Int32)) → KT G q (d + 1) zk_X5_doExchange 122 [(0, vr o), (1, vi l1), (2, vi l2), (3, vi l3), (5, vi (x.1 (o + 5) (l3 : Int32).toNatClampNeg)), (6, vi (x.1 (o + 5) (l3 : Int32).toNatClampNeg)), (7, vi l4)] [] x P) ∧ ((x.1 81 (l2 : Int32).toNatClampNeg) = (4 : Int32) → vp_in l2 400 ∧ KT G q d zk_X5_localsAt 0 [(0, vr o), (1, vi l1)] [] x (ri (fun r8 x7 => KT G q d zk_X0_work 0 [(0, vr 60), (1, vi (x.1 89 (l2 : Int32).toNatClampNeg)), (2, vr (o + 5)), (3, vi r8), (4, vi l1)] [] x7 (ri (fun r10 x9 => (((x9.1 60 5) = (0 : Int32) → ((¬ ((x.1 (o + 5) (l3 : Int32).toNatClampNeg) = l4) → KT G q (d + 1) zk_X5_doExchange 104 [(0, vr o), (1, vi l1), (2, vi l2), (3, vi l3), (4, vi l4), (5, vi (x.1 (o + 5) (l3 : Int32).toNatClampNeg)), (8, vi r10)] [vi 0] x9 P) ∧ ((x.1 (o + 5) (l3 : Int32).toNatClampNeg) = l4 → KT G q (d + 1) zk_X5_doExchange 104 [(0, vr o), (1, vi l1), (2, vi l2), (3, vi l3), (4, vi l4), (5, vi (x.1 (o + 5) (l3 : Int32).toNatClampNeg)), (8, vi r10)] [vi 1] x9 P))) ∧ (¬ ((x9.1 60 5) = (0 : Int32)) → P (some (vi 1)) x9))))))))) ∧ ((x.1 81 (l2 : Int32).toNatClampNeg) = (3 : Int32) → KT G q (d + 1) zk_X5_doExchange 122 [(0, vr o), (1, vi l1), (2, vi l2), (3, vi l3), (5, vi (x.1 (o + 5) (l3 : Int32).toNatClampNeg)), (6, vi (x.1 (o + 5) (l3 : Int32).toNatClampNeg)), (7, vi ((x.1 (o + 5) (l3 : Int32).toNatClampNeg) + l4))] [] x P))) :
    KT G q (d + 1) zk_X5_doExchange 0 [(0, vr o), (1, vi l1), (2, vi l2), (3, vi l3), (4, vi l4)] [] x P := by
  refine T_aload_n 0 (dk dtk_X5_doExchange 0 rfl) rfl rfl ?_
  refine T_getR o 4 (o + 5) (dk dtk_X5_doExchange 1 rfl) kfl_X5_29 (kk_M0 ho) (kl_M0 hq ho) (by decide) rfl (kr_M_4 ho) ?_
  refine T_iload_n 3 (dk dtk_X5_doExchange 2 rfl) rfl rfl ?_
  obtain ⟨h1, h⟩ := h
  refine T_iald (o + 5) 228 (dk dtk_X5_doExchange 3 rfl) (kk_M5 ho) (kl_M5 hq ho) h1 ?_
  refine T_istore (lv2 := [(5, vi (x.1 (o + 5) (l3 : Int32).toNatClampNeg)), (0, vr o), (1, vi l1), (2, vi l2), (3, vi l3), (4, vi l4)]) (dk dtk_X5_doExchange 4 rfl) (by decide) rfl ?_
  refine T_iload 0 (dk dtk_X5_doExchange 5 rfl) rfl ?_
  refine T_istore (lv2 := [(6, vi (x.1 (o + 5) (l3 : Int32).toNatClampNeg)), (5, vi (x.1 (o + 5) (l3 : Int32).toNatClampNeg)), (0, vr o), (1, vi l1), (2, vi l2), (3, vi l3), (4, vi l4)]) (dk dtk_X5_doExchange 6 rfl) (by decide) rfl ?_
  refine T_iload 6 (dk dtk_X5_doExchange 7 rfl) rfl ?_
  refine T_istore (lv2 := [(7, vi l4), (6, vi (x.1 (o + 5) (l3 : Int32).toNatClampNeg)), (5, vi (x.1 (o + 5) (l3 : Int32).toNatClampNeg)), (0, vr o), (1, vi l1), (2, vi l2), (3, vi l3), (4, vi l4)]) (dk dtk_X5_doExchange 8 rfl) (by decide) rfl ?_
  refine T_aload_n 3 (dk dtk_X5_doExchange 9 rfl) rfl rfl ?_
  refine T_getR o 1 80 (dk dtk_X5_doExchange 10 rfl) kfl_X5_21 (kk_M0 ho) (kl_M0 hq ho) (by decide) rfl (kr_M_1 ho) ?_
  refine T_getR 80 0 81 (dk dtk_X5_doExchange 11 rfl) kfl_X5_127 kk_80 (kl_80 hq) (by decide) rfl kr_80_0 ?_
  refine T_iload_n 5 (dk dtk_X5_doExchange 12 rfl) rfl rfl ?_
  obtain ⟨h2, h⟩ := h
  refine T_iald 81 400 (dk dtk_X5_doExchange 13 rfl) kk_81 (kl_81 hq) h2 ?_
  refine T_iconst (v := 3) (dk dtk_X5_doExchange 14 rfl) (by decide +kernel) ?_
  refine T_icmp_ne 39 (dk dtk_X5_doExchange 15 rfl) (by decide) (fun c3 => ?_) (fun c3 => ?_)
  · have h := h.1 c3
    refine T_aload_n 3 (dk dtk_X5_doExchange 21 rfl) rfl rfl ?_
    refine T_getR o 1 80 (dk dtk_X5_doExchange 22 rfl) kfl_X5_21 (kk_M0 ho) (kl_M0 hq ho) (by decide) rfl (kr_M_1 ho) ?_
    refine T_getR 80 0 81 (dk dtk_X5_doExchange 23 rfl) kfl_X5_127 kk_80 (kl_80 hq) (by decide) rfl kr_80_0 ?_
    refine T_iload_n 5 (dk dtk_X5_doExchange 24 rfl) rfl rfl ?_
    obtain ⟨h4, h⟩ := h
    refine T_iald 81 400 (dk dtk_X5_doExchange 25 rfl) kk_81 (kl_81 hq) h4 ?_
    refine T_iconst (v := 4) (dk dtk_X5_doExchange 26 rfl) (by decide +kernel) ?_
    refine T_icmp_ne 122 (dk dtk_X5_doExchange 27 rfl) (by decide) (fun c5 => ?_) (fun c5 => ?_)
    · have h := h.1 c5
      exact T_sub [3, 4, 5, 6, 2, 1, 0] rfl h
    · have h := h.2 c5
      refine T_aload_n 3 (dk dtk_X5_doExchange 28 rfl) rfl rfl ?_
      refine T_getR o 0 60 (dk dtk_X5_doExchange 29 rfl) kfl_X5_11 (kk_M0 ho) (kl_M0 hq ho) (by decide) rfl (kr_M_0 ho) ?_
      refine T_aload_n 3 (dk dtk_X5_doExchange 30 rfl) rfl rfl ?_
      refine T_getR o 1 80 (dk dtk_X5_doExchange 31 rfl) kfl_X5_21 (kk_M0 ho) (kl_M0 hq ho) (by decide) rfl (kr_M_1 ho) ?_
      refine T_getR 80 8 89 (dk dtk_X5_doExchange 32 rfl) kfl_X5_163 kk_80 (kl_80 hq) (by decide) rfl kr_80_8 ?_
      refine T_iload_n 5 (dk dtk_X5_doExchange 33 rfl) rfl rfl ?_
      obtain ⟨h6, h⟩ := h
      refine T_iald 89 400 (dk dtk_X5_doExchange 34 rfl) kk_89 (kl_89 hq) h6 ?_
      refine T_aload_n 3 (dk dtk_X5_doExchange 35 rfl) rfl rfl ?_
      refine T_getR o 4 (o + 5) (dk dtk_X5_doExchange 36 rfl) kfl_X5_29 (kk_M0 ho) (kl_M0 hq ho) (by decide) rfl (kr_M_4 ho) ?_
      refine T_aload_n 3 (dk dtk_X5_doExchange 37 rfl) rfl rfl ?_
      refine T_iload_n 4 (dk dtk_X5_doExchange 38 rfl) rfl rfl ?_
      refine T_sub (lv2 := [(5, vi (x.1 (o + 5) (l3 : Int32).toNatClampNeg)), (0, vr o), (1, vi l1), (2, vi l2), (3, vi l3), (4, vi l4)]) [2, 3, 4, 5, 6, 7] rfl ?_
      refine KC_Vi [vi l1] [vr (o + 5), vi (x.1 89 (l2 : Int32).toNatClampNeg), vr 60] rfl (dk dtk_X5_doExchange 39 rfl) kcv_X5_142 rfl (kk_M0 ho) rfl (kl_M0 hq ho) (Nat.le_of_ble_eq_true rfl) (Nat.le_of_ble_eq_true rfl) (gok_i (av_c rfl (av_c (gkr (kl_M0 hq ho)) (av_c rfl (av_c rfl (av_c rfl (av_c rfl av_n)))))) (as_c (gkr (kl_M5 hq ho)) (as_c rfl (as_c (gkr (kl_60 hq)) as_n)))) rfl h (fun r8 x7 h => ?_)
      refine T_iload_n 2 (dk dtk_X5_doExchange 40 rfl) rfl rfl ?_
      refine KC_Vi [vi (x.1 89 (l2 : Int32).toNatClampNeg), vr (o + 5), vi r8, vi l1] [] rfl (dk dtk_X5_doExchange 41 rfl) kcv_X5_145 rfl kk_60 rfl (kl_60 hq) (Nat.le_of_ble_eq_true rfl) (Nat.le_of_ble_eq_true rfl) (gok_i (av_c rfl (av_c (gkr (kl_M0 hq ho)) (av_c rfl (av_c rfl (av_c rfl (av_c rfl av_n)))))) as_n) rfl h (fun r10 x9 h => ?_)
      refine T_istore (lv2 := [(8, vi r10), (5, vi (x.1 (o + 5) (l3 : Int32).toNatClampNeg)), (0, vr o), (1, vi l1), (2, vi l2), (3, vi l3), (4, vi l4)]) (dk dtk_X5_doExchange 42 rfl) (by decide) rfl ?_
      refine T_aload_n 2 (dk dtk_X5_doExchange 43 rfl) rfl rfl ?_
      refine T_getR o 0 60 (dk dtk_X5_doExchange 44 rfl) kfl_X5_11 (kk_M0 ho) (kl_M0 hq ho) (by decide) rfl (kr_M_0 ho) ?_
      refine T_getI 60 5 (dk dtk_X5_doExchange 45 rfl) kfl_X5_149 kk_60 (kl_60 hq) (by decide) rfl ?_
      refine T_if_eq 92 (dk dtk_X5_doExchange 46 rfl) (by decide) (fun c11 => ?_) (fun c11 => ?_)
      · have h := h.1 c11
        refine T_iload 1 (dk dtk_X5_doExchange 49 rfl) rfl ?_
        refine T_iload 6 (dk dtk_X5_doExchange 50 rfl) rfl ?_
        refine T_icmp_ne 103 (dk dtk_X5_doExchange 51 rfl) (by decide) (fun c12 => ?_) (fun c12 => ?_)
        · have h := h.1 c12
          refine T_iconst (v := 0) (dk dtk_X5_doExchange 54 rfl) (by decide +kernel) ?_
          exact T_sub [2, 3, 4, 5, 6, 1, 0] rfl h
        · have h := h.2 c12
          refine T_iconst (v := 1) (dk dtk_X5_doExchange 52 rfl) (by decide +kernel) ?_
          refine T_goto 104 (dk dtk_X5_doExchange 53 rfl) (by decide) ?_
          exact T_sub [2, 3, 4, 5, 6, 1, 0] rfl h
      · have h := h.2 c11
        refine T_iconst (v := 1) (dk dtk_X5_doExchange 47 rfl) (by decide +kernel) ?_
        exact KT_iret (dk dtk_X5_doExchange 48 rfl) rfl rfl h
  · have h := h.2 c3
    refine T_iload 2 (dk dtk_X5_doExchange 16 rfl) rfl ?_
    refine T_iload 7 (dk dtk_X5_doExchange 17 rfl) rfl ?_
    refine T_iadd (dk dtk_X5_doExchange 18 rfl) ?_
    refine T_istore (lv2 := [(7, vi ((x.1 (o + 5) (l3 : Int32).toNatClampNeg) + l4)), (6, vi (x.1 (o + 5) (l3 : Int32).toNatClampNeg)), (5, vi (x.1 (o + 5) (l3 : Int32).toNatClampNeg)), (0, vr o), (1, vi l1), (2, vi l2), (3, vi l3), (4, vi l4)]) (dk dtk_X5_doExchange 19 rfl) (by decide) rfl ?_
    refine T_goto 122 (dk dtk_X5_doExchange 20 rfl) (by decide) ?_
    exact T_sub [3, 4, 5, 6, 2, 1, 0] rfl h
set_option maxRecDepth 100000 in
set_option maxHeartbeats 4000000 in
theorem kg_X5_doExchange_104 {G : kG} {q : kP} {d : Nat} {x : gd} {P : Option gv → gd → Prop} (hq : kV q) {o : Nat} (ho : kiM q o) (l1 : Int32) (l2 : Int32) (l3 : Int32) (l4 : Int32) (l5 : Int32) (l8 : Int32) (s0 : Int32)
    (h : ((¬ (l5 = l4) → KT G q (d + 1) zk_X5_doExchange 122 [(0, vr o), (1, vi l1), (2, vi l2), (3, vi l3), (5, vi l5), (6, vi s0), (7, vi l5)] [] x P) ∧ (l5 = l4 → KT G q (d + 1) zk_X5_doExchange 122 [(0, vr o), (1, vi l1), (2, vi l2), (3, vi l3), (5, vi l5), (6, vi s0), (7, vi l8)] [] x P))) :
    KT G q (d + 1) zk_X5_doExchange 104 [(0, vr o), (1, vi l1), (2, vi l2), (3, vi l3), (4, vi l4), (5, vi l5), (8, vi l8)] [vi s0] x P := by
  refine T_istore (lv2 := [(6, vi s0), (0, vr o), (1, vi l1), (2, vi l2), (3, vi l3), (4, vi l4), (5, vi l5), (8, vi l8)]) (dk dtk_X5_doExchange 55 rfl) (by decide) rfl ?_
  refine T_iload 6 (dk dtk_X5_doExchange 56 rfl) rfl ?_
  refine T_iload 5 (dk dtk_X5_doExchange 57 rfl) rfl ?_
  refine T_icmp_ne 118 (dk dtk_X5_doExchange 58 rfl) (by decide) (fun c1 => ?_) (fun c1 => ?_)
  · have h := h.1 c1
    refine T_iload 6 (dk dtk_X5_doExchange 61 rfl) rfl ?_
    refine T_istore (lv2 := [(7, vi l5), (6, vi s0), (0, vr o), (1, vi l1), (2, vi l2), (3, vi l3), (4, vi l4), (5, vi l5), (8, vi l8)]) (dk dtk_X5_doExchange 62 rfl) (by decide) rfl ?_
    exact T_sub [2, 3, 4, 5, 7, 1, 0] rfl h
  · have h := h.2 c1
    refine T_iload 7 (dk dtk_X5_doExchange 59 rfl) rfl ?_
    refine T_goto 120 (dk dtk_X5_doExchange 60 rfl) (by decide) ?_
    refine T_istore (lv2 := [(7, vi l8), (6, vi s0), (0, vr o), (1, vi l1), (2, vi l2), (3, vi l3), (4, vi l4), (5, vi l5), (8, vi l8)]) (dk dtk_X5_doExchange 62 rfl) (by decide) rfl ?_
    exact T_sub [2, 3, 4, 5, 7, 1, 0] rfl h
set_option maxRecDepth 100000 in
set_option maxHeartbeats 4000000 in
theorem kg_X5_doExchange_122 {G : kG} {q : kP} {d : Nat} {x : gd} {P : Option gv → gd → Prop} (hq : kV q) {o : Nat} (ho : kiM q o) (l1 : Int32) (l2 : Int32) (l3 : Int32) (l5 : Int32) (l6 : Int32) (l7 : Int32)
    (h : vp_in l3 228 ∧ (∀ x2 : gd, x2 = si x (o + 5) (l3 : Int32).toNatClampNeg l7 → (∀ x3 : gd, x3 = si x2 (o + 20) 3 l5 → (∀ x4 : gd, x4 = si x3 (o + 20) 4 l7 → vp_in l2 400 ∧ KT G q d zk_X5_set 0 [(0, vr o), (1, vi l1), (2, vi (8 + (x4.1 84 (l2 : Int32).toNatClampNeg))), (3, vi l6)] [] x4 (rv (fun x6 => P (some (vi 0)) x6)))))) :
    KT G q (d + 1) zk_X5_doExchange 122 [(0, vr o), (1, vi l1), (2, vi l2), (3, vi l3), (5, vi l5), (6, vi l6), (7, vi l7)] [] x P := by
  refine T_aload_n 0 (dk dtk_X5_doExchange 63 rfl) rfl rfl ?_
  refine T_getR o 4 (o + 5) (dk dtk_X5_doExchange 64 rfl) kfl_X5_29 (kk_M0 ho) (kl_M0 hq ho) (by decide) rfl (kr_M_4 ho) ?_
  refine T_iload_n 3 (dk dtk_X5_doExchange 65 rfl) rfl rfl ?_
  refine T_iload 6 (dk dtk_X5_doExchange 66 rfl) rfl ?_
  obtain ⟨h1, h⟩ := h
  obtain ⟨x2, ex2⟩ : ∃ z, z = si x (o + 5) (l3 : Int32).toNatClampNeg l7 := ⟨_, rfl⟩
  have h := h x2 ex2
  refine T_iast (o + 5) 228 (dk dtk_X5_doExchange 67 rfl) (kk_M5 ho) (kl_M5 hq ho) h1 ?_
  rw [← ex2]
  refine T_aload_n 0 (dk dtk_X5_doExchange 68 rfl) rfl rfl ?_
  refine T_getR o 2 (o + 20) (dk dtk_X5_doExchange 69 rfl) kfl_X5_25 (kk_M0 ho) (kl_M0 hq ho) (by decide) rfl (kr_M_2 ho) ?_
  refine T_iload 4 (dk dtk_X5_doExchange 70 rfl) rfl ?_
  obtain ⟨x3, ex3⟩ : ∃ z, z = si x2 (o + 20) 3 l5 := ⟨_, rfl⟩
  have h := h x3 ex3
  refine T_putI (o + 20) 3 (dk dtk_X5_doExchange 71 rfl) kfl_X5_243 (kk_D0 (kiM_D ho)) (kl_D0 hq (kiM_D ho)) (by decide) rfl ⟨rfl, rfl⟩ ?_
  rw [← ex3]
  refine T_aload_n 0 (dk dtk_X5_doExchange 72 rfl) rfl rfl ?_
  refine T_getR o 2 (o + 20) (dk dtk_X5_doExchange 73 rfl) kfl_X5_25 (kk_M0 ho) (kl_M0 hq ho) (by decide) rfl (kr_M_2 ho) ?_
  refine T_iload 6 (dk dtk_X5_doExchange 74 rfl) rfl ?_
  obtain ⟨x4, ex4⟩ : ∃ z, z = si x3 (o + 20) 4 l7 := ⟨_, rfl⟩
  have h := h x4 ex4
  refine T_putI (o + 20) 4 (dk dtk_X5_doExchange 75 rfl) kfl_X5_252 (kk_D0 (kiM_D ho)) (kl_D0 hq (kiM_D ho)) (by decide) rfl ⟨rfl, rfl⟩ ?_
  rw [← ex4]
  refine T_aload_n 0 (dk dtk_X5_doExchange 76 rfl) rfl rfl ?_
  refine T_iload_n 1 (dk dtk_X5_doExchange 77 rfl) rfl rfl ?_
  refine T_bipush (v := 8) (dk dtk_X5_doExchange 78 rfl) (by decide +kernel) ?_
  refine T_aload_n 0 (dk dtk_X5_doExchange 79 rfl) rfl rfl ?_
  refine T_getR o 1 80 (dk dtk_X5_doExchange 80 rfl) kfl_X5_21 (kk_M0 ho) (kl_M0 hq ho) (by decide) rfl (kr_M_1 ho) ?_
  refine T_getR 80 3 84 (dk dtk_X5_doExchange 81 rfl) kfl_X5_182 kk_80 (kl_80 hq) (by decide) rfl kr_80_3 ?_
  refine T_iload_n 2 (dk dtk_X5_doExchange 82 rfl) rfl rfl ?_
  obtain ⟨h5, h⟩ := h
  refine T_iald 84 400 (dk dtk_X5_doExchange 83 rfl) kk_84 (kl_84 hq) h5 ?_
  refine T_iadd (dk dtk_X5_doExchange 84 rfl) ?_
  refine T_iload 5 (dk dtk_X5_doExchange 85 rfl) rfl ?_
  refine T_sub (lv2 := []) [] rfl ?_
  refine KC_Vv [vi l1, vi (8 + (x4.1 84 (l2 : Int32).toNatClampNeg)), vi l6] [] rfl (dk dtk_X5_doExchange 86 rfl) kcv_X5_117 rfl (kk_M0 ho) rfl (kl_M0 hq ho) (Nat.le_of_ble_eq_true rfl) (Nat.le_of_ble_eq_true rfl) (gok_i av_n as_n) rfl h (fun x6 h => ?_)
  refine T_iconst (v := 0) (dk dtk_X5_doExchange 87 rfl) (by decide +kernel) ?_
  exact KT_iret (dk dtk_X5_doExchange 88 rfl) rfl rfl h
set_option maxRecDepth 100000 in
theorem dtk_X5_doGive : dck cX5_doGive [(0, .aload_n 0, 1), (1, .iload_n 2, 1), (2, .invokevirtual 113, 3), (5, .iload_n 1, 1), (6, .if_icmp .eq 5, 3), (9, .iconst 3, 1), (10, .ireturn, 1), (11, .aload_n 0, 1), (12, .iload_n 2, 1), (13, .invokevirtual 216, 3), (16, .iconst 1, 1), (17, .isub, 1), (18, .istore_n 3, 1), (19, .aload_n 0, 1), (20, .iload_n 2, 1), (21, .iload_n 3, 1), (22, .ifCond .ne 7, 3), (25, .iconst (-1), 1), (26, .goto 4, 3), (29, .iload_n 1, 1), (30, .iload_n 3, 1), (31, .invokevirtual 219, 3), (34, .iconst 0, 1), (35, .ireturn, 1)] = true := by decide +kernel
set_option maxRecDepth 100000 in
set_option maxHeartbeats 4000000 in
theorem kg_X5_doGive_0 {G : kG} {q : kP} {d : Nat} {x : gd} {P : Option gv → gd → Prop} (hq : kV q) {o : Nat} (ho : kiM q o) (l1 : Int32) (l2 : Int32)
    (h : KT G q d zk_X5_holder 0 [(0, vr o), (1, vi l2)] [] x (ri (fun r2 x1 => ((r2 = l1 → KT G q d zk_X5_often 0 [(0, vr o), (1, vi l2)] [] x1 (ri (fun r5 x4 => ((¬ ((r5 - 1) = (0 : Int32)) → KT G q (d + 1) zk_X5_doGive 30 [(3, vi (r5 - 1))] [vi l1, vi l2, vr o] x4 P) ∧ ((r5 - 1) = (0 : Int32) → KT G q (d + 1) zk_X5_doGive 30 [(3, vi (r5 - 1))] [vi (-1), vi l2, vr o] x4 P))))) ∧ (¬ (r2 = l1) → P (some (vi 3)) x1))))) :
    KT G q (d + 1) zk_X5_doGive 0 [(0, vr o), (1, vi l1), (2, vi l2)] [] x P := by
  refine T_aload_n 0 (dk dtk_X5_doGive 0 rfl) rfl rfl ?_
  refine T_iload_n 2 (dk dtk_X5_doGive 1 rfl) rfl rfl ?_
  refine KC_Vi [vi l2] [] rfl (dk dtk_X5_doGive 2 rfl) kcv_X5_113 rfl (kk_M0 ho) rfl (kl_M0 hq ho) (Nat.le_of_ble_eq_true rfl) (Nat.le_of_ble_eq_true rfl) (gok_i (av_c (gkr (kl_M0 hq ho)) (av_c rfl (av_c rfl av_n))) as_n) rfl h (fun r2 x1 h => ?_)
  refine T_iload_n 1 (dk dtk_X5_doGive 3 rfl) rfl rfl ?_
  refine T_icmp_eq 11 (dk dtk_X5_doGive 4 rfl) (by decide) (fun c3 => ?_) (fun c3 => ?_)
  · have h := h.1 c3
    refine T_aload_n 0 (dk dtk_X5_doGive 7 rfl) rfl rfl ?_
    refine T_iload_n 2 (dk dtk_X5_doGive 8 rfl) rfl rfl ?_
    refine KC_Vi [vi l2] [] rfl (dk dtk_X5_doGive 9 rfl) kcv_X5_216 rfl (kk_M0 ho) rfl (kl_M0 hq ho) (Nat.le_of_ble_eq_true rfl) (Nat.le_of_ble_eq_true rfl) (gok_i (av_c (gkr (kl_M0 hq ho)) (av_c rfl (av_c rfl av_n))) as_n) rfl h (fun r5 x4 h => ?_)
    refine T_iconst (v := 1) (dk dtk_X5_doGive 10 rfl) (by decide +kernel) ?_
    refine T_isub (dk dtk_X5_doGive 11 rfl) ?_
    refine T_istore_n (lv2 := [(3, vi (r5 - 1)), (0, vr o), (1, vi l1), (2, vi l2)]) (dk dtk_X5_doGive 12 rfl) rfl (by decide) rfl ?_
    refine T_aload_n 1 (dk dtk_X5_doGive 13 rfl) rfl rfl ?_
    refine T_iload_n 3 (dk dtk_X5_doGive 14 rfl) rfl rfl ?_
    refine T_iload_n 0 (dk dtk_X5_doGive 15 rfl) rfl rfl ?_
    refine T_if_ne 29 (dk dtk_X5_doGive 16 rfl) (by decide) (fun c6 => ?_) (fun c6 => ?_)
    · have h := h.1 c6
      refine T_iload_n 2 (dk dtk_X5_doGive 19 rfl) rfl rfl ?_
      exact T_sub [0] rfl h
    · have h := h.2 c6
      refine T_iconst (v := (-1)) (dk dtk_X5_doGive 17 rfl) (by decide +kernel) ?_
      refine T_goto 30 (dk dtk_X5_doGive 18 rfl) (by decide) ?_
      exact T_sub [0] rfl h
  · have h := h.2 c3
    refine T_iconst (v := 3) (dk dtk_X5_doGive 5 rfl) (by decide +kernel) ?_
    exact KT_iret (dk dtk_X5_doGive 6 rfl) rfl rfl h
set_option maxRecDepth 100000 in
set_option maxHeartbeats 4000000 in
theorem kg_X5_doGive_30 {G : kG} {q : kP} {d : Nat} {x : gd} {P : Option gv → gd → Prop} (hq : kV q) {o : Nat} (ho : kiM q o) (l3 : Int32) (s0 : Int32) (s1 : Int32)
    (h : KT G q d zk_X5_setLock 0 [(0, vr o), (1, vi s1), (2, vi s0), (3, vi l3)] [] x (rv (fun x1 => P (some (vi 0)) x1))) :
    KT G q (d + 1) zk_X5_doGive 30 [(3, vi l3)] [vi s0, vi s1, vr o] x P := by
  refine T_iload_n 0 (dk dtk_X5_doGive 20 rfl) rfl rfl ?_
  refine T_sub (lv2 := []) [] rfl ?_
  refine KC_Vv [vi s1, vi s0, vi l3] [] rfl (dk dtk_X5_doGive 21 rfl) kcv_X5_219 rfl (kk_M0 ho) rfl (kl_M0 hq ho) (Nat.le_of_ble_eq_true rfl) (Nat.le_of_ble_eq_true rfl) (gok_i av_n as_n) rfl h (fun x1 h => ?_)
  refine T_iconst (v := 0) (dk dtk_X5_doGive 22 rfl) (by decide +kernel) ?_
  exact KT_iret (dk dtk_X5_doGive 23 rfl) rfl rfl h
set_option maxRecDepth 100000 in
theorem dtk_X5_doWait : dck cX5_doWait [(0, .aload_n 0, 1), (1, .iload_n 2, 1), (2, .invokevirtual 113, 3), (5, .iload_n 1, 1), (6, .if_icmp .eq 5, 3), (9, .iconst 4, 1), (10, .ireturn, 1), (11, .aload_n 0, 1), (12, .iload_n 1, 1), (13, .iconst 3, 1), (14, .iload_n 2, 1), (15, .iconst 1, 1), (16, .iadd, 1), (17, .invokevirtual 117, 3), (20, .aload_n 0, 1), (21, .iload_n 1, 1), (22, .iconst 4, 1), (23, .aload_n 0, 1), (24, .iload_n 2, 1), (25, .invokevirtual 216, 3), (28, .invokevirtual 117, 3), (31, .aload_n 0, 1), (32, .iload_n 2, 1), (33, .iconst (-1), 1), (34, .iconst 0, 1), (35, .invokevirtual 219, 3), (38, .iconst 0, 1), (39, .ireturn, 1)] = true := by decide +kernel
set_option maxRecDepth 100000 in
set_option maxHeartbeats 4000000 in
theorem kg_X5_doWait_0 {G : kG} {q : kP} {d : Nat} {x : gd} {P : Option gv → gd → Prop} (hq : kV q) {o : Nat} (ho : kiM q o) (l1 : Int32) (l2 : Int32)
    (h : KT G q d zk_X5_holder 0 [(0, vr o), (1, vi l2)] [] x (ri (fun r2 x1 => ((r2 = l1 → KT G q d zk_X5_set 0 [(0, vr o), (1, vi l1), (2, vi 3), (3, vi (l2 + 1))] [] x1 (rv (fun x4 => KT G q d zk_X5_often 0 [(0, vr o), (1, vi l2)] [] x4 (ri (fun r6 x5 => KT G q d zk_X5_set 0 [(0, vr o), (1, vi l1), (2, vi 4), (3, vi r6)] [] x5 (rv (fun x7 => KT G q d zk_X5_setLock 0 [(0, vr o), (1, vi l2), (2, vi (-1)), (3, vi 0)] [] x7 (rv (fun x8 => P (some (vi 0)) x8))))))))) ∧ (¬ (r2 = l1) → P (some (vi 4)) x1))))) :
    KT G q (d + 1) zk_X5_doWait 0 [(0, vr o), (1, vi l1), (2, vi l2)] [] x P := by
  refine T_aload_n 0 (dk dtk_X5_doWait 0 rfl) rfl rfl ?_
  refine T_iload_n 2 (dk dtk_X5_doWait 1 rfl) rfl rfl ?_
  refine KC_Vi [vi l2] [] rfl (dk dtk_X5_doWait 2 rfl) kcv_X5_113 rfl (kk_M0 ho) rfl (kl_M0 hq ho) (Nat.le_of_ble_eq_true rfl) (Nat.le_of_ble_eq_true rfl) (gok_i (av_c (gkr (kl_M0 hq ho)) (av_c rfl (av_c rfl av_n))) as_n) rfl h (fun r2 x1 h => ?_)
  refine T_iload_n 1 (dk dtk_X5_doWait 3 rfl) rfl rfl ?_
  refine T_icmp_eq 11 (dk dtk_X5_doWait 4 rfl) (by decide) (fun c3 => ?_) (fun c3 => ?_)
  · have h := h.1 c3
    refine T_aload_n 0 (dk dtk_X5_doWait 7 rfl) rfl rfl ?_
    refine T_iload_n 1 (dk dtk_X5_doWait 8 rfl) rfl rfl ?_
    refine T_iconst (v := 3) (dk dtk_X5_doWait 9 rfl) (by decide +kernel) ?_
    refine T_iload_n 2 (dk dtk_X5_doWait 10 rfl) rfl rfl ?_
    refine T_iconst (v := 1) (dk dtk_X5_doWait 11 rfl) (by decide +kernel) ?_
    refine T_iadd (dk dtk_X5_doWait 12 rfl) ?_
    refine KC_Vv [vi l1, vi 3, vi (l2 + 1)] [] rfl (dk dtk_X5_doWait 13 rfl) kcv_X5_117 rfl (kk_M0 ho) rfl (kl_M0 hq ho) (Nat.le_of_ble_eq_true rfl) (Nat.le_of_ble_eq_true rfl) (gok_i (av_c (gkr (kl_M0 hq ho)) (av_c rfl (av_c rfl av_n))) as_n) rfl h (fun x4 h => ?_)
    refine T_aload_n 0 (dk dtk_X5_doWait 14 rfl) rfl rfl ?_
    refine T_iload_n 1 (dk dtk_X5_doWait 15 rfl) rfl rfl ?_
    refine T_iconst (v := 4) (dk dtk_X5_doWait 16 rfl) (by decide +kernel) ?_
    refine T_aload_n 0 (dk dtk_X5_doWait 17 rfl) rfl rfl ?_
    refine T_iload_n 2 (dk dtk_X5_doWait 18 rfl) rfl rfl ?_
    refine T_sub (lv2 := [(0, vr o), (2, vi l2)]) [0, 2] rfl ?_
    refine KC_Vi [vi l2] [vi 4, vi l1, vr o] rfl (dk dtk_X5_doWait 19 rfl) kcv_X5_216 rfl (kk_M0 ho) rfl (kl_M0 hq ho) (Nat.le_of_ble_eq_true rfl) (Nat.le_of_ble_eq_true rfl) (gok_i (av_c (gkr (kl_M0 hq ho)) (av_c rfl av_n)) (as_c rfl (as_c rfl (as_c (gkr (kl_M0 hq ho)) as_n)))) rfl h (fun r6 x5 h => ?_)
    refine KC_Vv [vi l1, vi 4, vi r6] [] rfl (dk dtk_X5_doWait 20 rfl) kcv_X5_117 rfl (kk_M0 ho) rfl (kl_M0 hq ho) (Nat.le_of_ble_eq_true rfl) (Nat.le_of_ble_eq_true rfl) (gok_i (av_c (gkr (kl_M0 hq ho)) (av_c rfl av_n)) as_n) rfl h (fun x7 h => ?_)
    refine T_aload_n 0 (dk dtk_X5_doWait 21 rfl) rfl rfl ?_
    refine T_iload_n 1 (dk dtk_X5_doWait 22 rfl) rfl rfl ?_
    refine T_iconst (v := (-1)) (dk dtk_X5_doWait 23 rfl) (by decide +kernel) ?_
    refine T_iconst (v := 0) (dk dtk_X5_doWait 24 rfl) (by decide +kernel) ?_
    refine T_sub (lv2 := []) [] rfl ?_
    refine KC_Vv [vi l2, vi (-1), vi 0] [] rfl (dk dtk_X5_doWait 25 rfl) kcv_X5_219 rfl (kk_M0 ho) rfl (kl_M0 hq ho) (Nat.le_of_ble_eq_true rfl) (Nat.le_of_ble_eq_true rfl) (gok_i av_n as_n) rfl h (fun x8 h => ?_)
    refine T_iconst (v := 0) (dk dtk_X5_doWait 26 rfl) (by decide +kernel) ?_
    exact KT_iret (dk dtk_X5_doWait 27 rfl) rfl rfl h
  · have h := h.2 c3
    refine T_iconst (v := 4) (dk dtk_X5_doWait 5 rfl) (by decide +kernel) ?_
    exact KT_iret (dk dtk_X5_doWait 6 rfl) rfl rfl h
end
section
set_option maxRecDepth 100000 in
theorem dtk_X5_doRetake : dck cX5_doRetake [(0, .aload_n 0, 1), (1, .iload_n 2, 1), (2, .iload_n 1, 1), (3, .aload_n 0, 1), (4, .iload_n 1, 1), (5, .iconst 4, 1), (6, .invokevirtual 90, 3), (9, .invokevirtual 219, 3), (12, .aload_n 0, 1), (13, .iload_n 1, 1), (14, .iconst 3, 1), (15, .iconst 0, 1), (16, .invokevirtual 117, 3), (19, .aload_n 0, 1), (20, .iload_n 1, 1), (21, .iconst 4, 1), (22, .iconst 0, 1), (23, .invokevirtual 117, 3), (26, .aload_n 0, 1), (27, .iload_n 1, 1), (28, .iconst 5, 1), (29, .iconst 0, 1), (30, .invokevirtual 117, 3), (33, .iconst 0, 1), (34, .ireturn, 1)] = true := by decide +kernel
set_option maxRecDepth 100000 in
set_option maxHeartbeats 4000000 in
theorem kg_X5_doRetake_0 {G : kG} {q : kP} {d : Nat} {x : gd} {P : Option gv → gd → Prop} (hq : kV q) {o : Nat} (ho : kiM q o) (l1 : Int32) (l2 : Int32)
    (h : KT G q d zk_X5_get 0 [(0, vr o), (1, vi l1), (2, vi 4)] [] x (ri (fun r2 x1 => KT G q d zk_X5_setLock 0 [(0, vr o), (1, vi l2), (2, vi l1), (3, vi r2)] [] x1 (rv (fun x3 => KT G q d zk_X5_set 0 [(0, vr o), (1, vi l1), (2, vi 3), (3, vi 0)] [] x3 (rv (fun x4 => KT G q d zk_X5_set 0 [(0, vr o), (1, vi l1), (2, vi 4), (3, vi 0)] [] x4 (rv (fun x5 => KT G q d zk_X5_set 0 [(0, vr o), (1, vi l1), (2, vi 5), (3, vi 0)] [] x5 (rv (fun x6 => P (some (vi 0)) x6))))))))))) :
    KT G q (d + 1) zk_X5_doRetake 0 [(0, vr o), (1, vi l1), (2, vi l2)] [] x P := by
  refine T_aload_n 0 (dk dtk_X5_doRetake 0 rfl) rfl rfl ?_
  refine T_iload_n 2 (dk dtk_X5_doRetake 1 rfl) rfl rfl ?_
  refine T_iload_n 1 (dk dtk_X5_doRetake 2 rfl) rfl rfl ?_
  refine T_aload_n 0 (dk dtk_X5_doRetake 3 rfl) rfl rfl ?_
  refine T_iload_n 1 (dk dtk_X5_doRetake 4 rfl) rfl rfl ?_
  refine T_iconst (v := 4) (dk dtk_X5_doRetake 5 rfl) (by decide +kernel) ?_
  refine T_sub (lv2 := [(0, vr o), (1, vi l1)]) [0, 1] rfl ?_
  refine KC_Vi [vi l1, vi 4] [vi l1, vi l2, vr o] rfl (dk dtk_X5_doRetake 6 rfl) kcv_X5_90 rfl (kk_M0 ho) rfl (kl_M0 hq ho) (Nat.le_of_ble_eq_true rfl) (Nat.le_of_ble_eq_true rfl) (gok_i (av_c (gkr (kl_M0 hq ho)) (av_c rfl av_n)) (as_c rfl (as_c rfl (as_c (gkr (kl_M0 hq ho)) as_n)))) rfl h (fun r2 x1 h => ?_)
  refine KC_Vv [vi l2, vi l1, vi r2] [] rfl (dk dtk_X5_doRetake 7 rfl) kcv_X5_219 rfl (kk_M0 ho) rfl (kl_M0 hq ho) (Nat.le_of_ble_eq_true rfl) (Nat.le_of_ble_eq_true rfl) (gok_i (av_c (gkr (kl_M0 hq ho)) (av_c rfl av_n)) as_n) rfl h (fun x3 h => ?_)
  refine T_aload_n 0 (dk dtk_X5_doRetake 8 rfl) rfl rfl ?_
  refine T_iload_n 1 (dk dtk_X5_doRetake 9 rfl) rfl rfl ?_
  refine T_iconst (v := 3) (dk dtk_X5_doRetake 10 rfl) (by decide +kernel) ?_
  refine T_iconst (v := 0) (dk dtk_X5_doRetake 11 rfl) (by decide +kernel) ?_
  refine KC_Vv [vi l1, vi 3, vi 0] [] rfl (dk dtk_X5_doRetake 12 rfl) kcv_X5_117 rfl (kk_M0 ho) rfl (kl_M0 hq ho) (Nat.le_of_ble_eq_true rfl) (Nat.le_of_ble_eq_true rfl) (gok_i (av_c (gkr (kl_M0 hq ho)) (av_c rfl av_n)) as_n) rfl h (fun x4 h => ?_)
  refine T_aload_n 0 (dk dtk_X5_doRetake 13 rfl) rfl rfl ?_
  refine T_iload_n 1 (dk dtk_X5_doRetake 14 rfl) rfl rfl ?_
  refine T_iconst (v := 4) (dk dtk_X5_doRetake 15 rfl) (by decide +kernel) ?_
  refine T_iconst (v := 0) (dk dtk_X5_doRetake 16 rfl) (by decide +kernel) ?_
  refine KC_Vv [vi l1, vi 4, vi 0] [] rfl (dk dtk_X5_doRetake 17 rfl) kcv_X5_117 rfl (kk_M0 ho) rfl (kl_M0 hq ho) (Nat.le_of_ble_eq_true rfl) (Nat.le_of_ble_eq_true rfl) (gok_i (av_c (gkr (kl_M0 hq ho)) (av_c rfl av_n)) as_n) rfl h (fun x5 h => ?_)
  refine T_aload_n 0 (dk dtk_X5_doRetake 18 rfl) rfl rfl ?_
  refine T_iload_n 1 (dk dtk_X5_doRetake 19 rfl) rfl rfl ?_
  refine T_iconst (v := 5) (dk dtk_X5_doRetake 20 rfl) (by decide +kernel) ?_
  refine T_iconst (v := 0) (dk dtk_X5_doRetake 21 rfl) (by decide +kernel) ?_
  refine T_sub (lv2 := []) [] rfl ?_
  refine KC_Vv [vi l1, vi 5, vi 0] [] rfl (dk dtk_X5_doRetake 22 rfl) kcv_X5_117 rfl (kk_M0 ho) rfl (kl_M0 hq ho) (Nat.le_of_ble_eq_true rfl) (Nat.le_of_ble_eq_true rfl) (gok_i av_n as_n) rfl h (fun x6 h => ?_)
  refine T_iconst (v := 0) (dk dtk_X5_doRetake 23 rfl) (by decide +kernel) ?_
  exact KT_iret (dk dtk_X5_doRetake 24 rfl) rfl rfl h
set_option maxRecDepth 100000 in
theorem dtk_X5_doWake : dck cX5_doWake [(0, .aload_n 0, 1), (1, .iload_n 2, 1), (2, .invokevirtual 113, 3), (5, .iload_n 1, 1), (6, .if_icmp .eq 5, 3), (9, .iconst 4, 1), (10, .ireturn, 1), (11, .aload_n 0, 1), (12, .getfield 25, 3), (15, .iload_n 3, 1), (16, .ifCond .eq 11, 3), (19, .aload_n 0, 1), (20, .iload_n 2, 1), (21, .invokevirtual 185, 3), (24, .goto 17, 3), (27, .iload 4, 2), (29, .iconst (-1), 1), (30, .if_icmp .ne 7, 3), (33, .iconst 0, 1), (34, .goto 7, 3), (37, .iconst 1, 1), (38, .iload 4, 2), (40, .ishl, 1), (41, .putfield 255, 3), (44, .iconst 0, 1), (45, .istore 5, 2), (47, .iload 5, 2), (49, .aload_n 0, 1), (50, .getfield 11, 3), (53, .getfield 67, 3), (56, .if_icmp .ge 33, 3), (59, .aload_n 0, 1), (60, .getfield 25, 3), (63, .getfield 255, 3), (66, .iload 5, 2), (68, .ishr, 1), (69, .iconst 1, 1), (70, .iand, 1), (71, .iconst 1, 1), (72, .if_icmp .ne 11, 3), (75, .aload_n 0, 1), (76, .iload 5, 2), (78, .iconst 5, 1), (79, .iconst 1, 1), (80, .invokevirtual 117, 3), (83, .iinc 5 1, 3), (86, .goto (-39), 3), (89, .iconst 0, 1), (90, .ireturn, 1)] = true := by decide +kernel
set_option maxRecDepth 100000 in
set_option maxHeartbeats 4000000 in
theorem kg_X5_doWake_0 {G : kG} {q : kP} {d : Nat} {x : gd} {P : Option gv → gd → Prop} (hq : kV q) {o : Nat} (ho : kiM q o) (l1 : Int32) (l2 : Int32) (l3 : Int32) (l4 : Int32)
    (h : KT G q d zk_X5_holder 0 [(0, vr o), (1, vi l2)] [] x (ri (fun r2 x1 => ((r2 = l1 → ((l3 = (0 : Int32) → ((¬ (l4 = (-1 : Int32)) → (∀ x6 : gd, x6 = si x1 (o + 20) 6 (1 <<< (l4 &&& 31 : Int32)) → KT G q (d + 1) zk_X5_doWake 47 [(0, vr o), (5, vi 0)] [] x6 P)) ∧ (l4 = (-1 : Int32) → (∀ x7 : gd, x7 = si x1 (o + 20) 6 0 → KT G q (d + 1) zk_X5_doWake 47 [(0, vr o), (5, vi 0)] [] x7 P)))) ∧ (¬ (l3 = (0 : Int32)) → KT G q d zk_X5_waiters 0 [(0, vr o), (1, vi l2)] [] x1 (ri (fun r9 x8 => (∀ x10 : gd, x10 = si x8 (o + 20) 6 r9 → KT G q (d + 1) zk_X5_doWake 47 [(0, vr o), (5, vi 0)] [] x10 P)))))) ∧ (¬ (r2 = l1) → P (some (vi 4)) x1))))) :
    KT G q (d + 1) zk_X5_doWake 0 [(0, vr o), (1, vi l1), (2, vi l2), (3, vi l3), (4, vi l4)] [] x P := by
  refine T_aload_n 0 (dk dtk_X5_doWake 0 rfl) rfl rfl ?_
  refine T_iload_n 2 (dk dtk_X5_doWake 1 rfl) rfl rfl ?_
  refine KC_Vi [vi l2] [] rfl (dk dtk_X5_doWake 2 rfl) kcv_X5_113 rfl (kk_M0 ho) rfl (kl_M0 hq ho) (Nat.le_of_ble_eq_true rfl) (Nat.le_of_ble_eq_true rfl) (gok_i (av_c (gkr (kl_M0 hq ho)) (av_c rfl (av_c rfl (av_c rfl (av_c rfl av_n))))) as_n) rfl h (fun r2 x1 h => ?_)
  refine T_iload_n 1 (dk dtk_X5_doWake 3 rfl) rfl rfl ?_
  refine T_icmp_eq 11 (dk dtk_X5_doWake 4 rfl) (by decide) (fun c3 => ?_) (fun c3 => ?_)
  · have h := h.1 c3
    refine T_aload_n 0 (dk dtk_X5_doWake 7 rfl) rfl rfl ?_
    refine T_getR o 2 (o + 20) (dk dtk_X5_doWake 8 rfl) kfl_X5_25 (kk_M0 ho) (kl_M0 hq ho) (by decide) rfl (kr_M_2 ho) ?_
    refine T_iload_n 3 (dk dtk_X5_doWake 9 rfl) rfl rfl ?_
    refine T_if_eq 27 (dk dtk_X5_doWake 10 rfl) (by decide) (fun c4 => ?_) (fun c4 => ?_)
    · have h := h.1 c4
      refine T_iload 4 (dk dtk_X5_doWake 15 rfl) rfl ?_
      refine T_iconst (v := (-1)) (dk dtk_X5_doWake 16 rfl) (by decide +kernel) ?_
      refine T_icmp_ne 37 (dk dtk_X5_doWake 17 rfl) (by decide) (fun c5 => ?_) (fun c5 => ?_)
      · have h := h.1 c5
        refine T_iconst (v := 1) (dk dtk_X5_doWake 20 rfl) (by decide +kernel) ?_
        refine T_iload 4 (dk dtk_X5_doWake 21 rfl) rfl ?_
        refine T_ishl (dk dtk_X5_doWake 22 rfl) ?_
        obtain ⟨x6, ex6⟩ : ∃ z, z = si x1 (o + 20) 6 (1 <<< (l4 &&& 31 : Int32)) := ⟨_, rfl⟩
        have h := h x6 ex6
        refine T_putI (o + 20) 6 (dk dtk_X5_doWake 23 rfl) kfl_X5_255 (kk_D0 (kiM_D ho)) (kl_D0 hq (kiM_D ho)) (by decide) rfl ⟨rfl, rfl⟩ ?_
        rw [← ex6]
        refine T_iconst (v := 0) (dk dtk_X5_doWake 24 rfl) (by decide +kernel) ?_
        refine T_istore (lv2 := [(5, vi 0), (0, vr o), (1, vi l1), (2, vi l2), (3, vi l3), (4, vi l4)]) (dk dtk_X5_doWake 25 rfl) (by decide) rfl ?_
        exact T_sub [1, 0] rfl h
      · have h := h.2 c5
        refine T_iconst (v := 0) (dk dtk_X5_doWake 18 rfl) (by decide +kernel) ?_
        refine T_goto 41 (dk dtk_X5_doWake 19 rfl) (by decide) ?_
        obtain ⟨x7, ex7⟩ : ∃ z, z = si x1 (o + 20) 6 0 := ⟨_, rfl⟩
        have h := h x7 ex7
        refine T_putI (o + 20) 6 (dk dtk_X5_doWake 23 rfl) kfl_X5_255 (kk_D0 (kiM_D ho)) (kl_D0 hq (kiM_D ho)) (by decide) rfl ⟨rfl, rfl⟩ ?_
        rw [← ex7]
        refine T_iconst (v := 0) (dk dtk_X5_doWake 24 rfl) (by decide +kernel) ?_
        refine T_istore (lv2 := [(5, vi 0), (0, vr o), (1, vi l1), (2, vi l2), (3, vi l3), (4, vi l4)]) (dk dtk_X5_doWake 25 rfl) (by decide) rfl ?_
        exact T_sub [1, 0] rfl h
    · have h := h.2 c4
      refine T_aload_n 0 (dk dtk_X5_doWake 11 rfl) rfl rfl ?_
      refine T_iload_n 2 (dk dtk_X5_doWake 12 rfl) rfl rfl ?_
      refine T_sub (lv2 := [(0, vr o)]) [0] rfl ?_
      refine KC_Vi [vi l2] [vr (o + 20)] rfl (dk dtk_X5_doWake 13 rfl) kcv_X5_185 rfl (kk_M0 ho) rfl (kl_M0 hq ho) (Nat.le_of_ble_eq_true rfl) (Nat.le_of_ble_eq_true rfl) (gok_i (av_c (gkr (kl_M0 hq ho)) av_n) (as_c (gkr (kl_D0 hq (kiM_D ho))) as_n)) rfl h (fun r9 x8 h => ?_)
      refine T_goto 41 (dk dtk_X5_doWake 14 rfl) (by decide) ?_
      obtain ⟨x10, ex10⟩ : ∃ z, z = si x8 (o + 20) 6 r9 := ⟨_, rfl⟩
      have h := h x10 ex10
      refine T_putI (o + 20) 6 (dk dtk_X5_doWake 23 rfl) kfl_X5_255 (kk_D0 (kiM_D ho)) (kl_D0 hq (kiM_D ho)) (by decide) rfl ⟨rfl, rfl⟩ ?_
      rw [← ex10]
      refine T_iconst (v := 0) (dk dtk_X5_doWake 24 rfl) (by decide +kernel) ?_
      refine T_istore (lv2 := [(5, vi 0), (0, vr o)]) (dk dtk_X5_doWake 25 rfl) (by decide) rfl ?_
      exact T_sub [1, 0] rfl h
  · have h := h.2 c3
    refine T_iconst (v := 4) (dk dtk_X5_doWake 5 rfl) (by decide +kernel) ?_
    exact KT_iret (dk dtk_X5_doWake 6 rfl) rfl rfl h
set_option maxRecDepth 100000 in
set_option maxHeartbeats 4000000 in
theorem kg_X5_doWake_47 {G : kG} {q : kP} {d : Nat} {x : gd} {P : Option gv → gd → Prop} (hq : kV q) {o : Nat} (ho : kiM q o) (l5 : Int32)
    (h : (((x.1 60 10) ≤ l5 → P (some (vi 0)) x) ∧ (¬ ((x.1 60 10) ≤ l5) → ((¬ ((((x.1 (o + 20) 6) >>> (l5 &&& 31 : Int32)) &&& 1) = (1 : Int32)) → KT G q (d + 1) zk_X5_doWake 47 [(0, vr o), (5, vi (l5 + 1))] [] x P) ∧ ((((x.1 (o + 20) 6) >>> (l5 &&& 31 : Int32)) &&& 1) = (1 : Int32) → KT G q d zk_X5_set 0 [(0, vr o), (1, vi l5), (2, vi 5), (3, vi 1)] [] x (rv (fun x3 => KT G q (d + 1) zk_X5_doWake 47 [(0, vr o), (5, vi (l5 + 1))] [] x3 P))))))) :
    KT G q (d + 1) zk_X5_doWake 47 [(0, vr o), (5, vi l5)] [] x P := by
  refine T_iload 1 (dk dtk_X5_doWake 26 rfl) rfl ?_
  refine T_aload_n 0 (dk dtk_X5_doWake 27 rfl) rfl rfl ?_
  refine T_getR o 0 60 (dk dtk_X5_doWake 28 rfl) kfl_X5_11 (kk_M0 ho) (kl_M0 hq ho) (by decide) rfl (kr_M_0 ho) ?_
  refine T_getI 60 10 (dk dtk_X5_doWake 29 rfl) kfl_X5_67 kk_60 (kl_60 hq) (by decide) rfl ?_
  refine T_icmp_ge 89 (dk dtk_X5_doWake 30 rfl) (by decide) (fun c1 => ?_) (fun c1 => ?_)
  · have h := h.1 c1
    refine T_iconst (v := 0) (dk dtk_X5_doWake 47 rfl) (by decide +kernel) ?_
    exact KT_iret (dk dtk_X5_doWake 48 rfl) rfl rfl h
  · have h := h.2 c1
    refine T_aload_n 0 (dk dtk_X5_doWake 31 rfl) rfl rfl ?_
    refine T_getR o 2 (o + 20) (dk dtk_X5_doWake 32 rfl) kfl_X5_25 (kk_M0 ho) (kl_M0 hq ho) (by decide) rfl (kr_M_2 ho) ?_
    refine T_getI (o + 20) 6 (dk dtk_X5_doWake 33 rfl) kfl_X5_255 (kk_D0 (kiM_D ho)) (kl_D0 hq (kiM_D ho)) (by decide) rfl ?_
    refine T_iload 1 (dk dtk_X5_doWake 34 rfl) rfl ?_
    refine T_ishr (dk dtk_X5_doWake 35 rfl) ?_
    refine T_iconst (v := 1) (dk dtk_X5_doWake 36 rfl) (by decide +kernel) ?_
    refine T_iand (dk dtk_X5_doWake 37 rfl) ?_
    refine T_iconst (v := 1) (dk dtk_X5_doWake 38 rfl) (by decide +kernel) ?_
    refine T_icmp_ne 83 (dk dtk_X5_doWake 39 rfl) (by decide) (fun c2 => ?_) (fun c2 => ?_)
    · have h := h.1 c2
      refine T_iinc (v := l5 + 1) (lv2 := [(5, vi (l5 + 1)), (0, vr o)]) 1 (dk dtk_X5_doWake 45 rfl) rfl rfl (by decide) rfl ?_
      refine T_goto 47 (dk dtk_X5_doWake 46 rfl) (by decide) ?_
      exact T_sub [1, 0] rfl h
    · have h := h.2 c2
      refine T_aload_n 0 (dk dtk_X5_doWake 40 rfl) rfl rfl ?_
      refine T_iload 1 (dk dtk_X5_doWake 41 rfl) rfl ?_
      refine T_iconst (v := 5) (dk dtk_X5_doWake 42 rfl) (by decide +kernel) ?_
      refine T_iconst (v := 1) (dk dtk_X5_doWake 43 rfl) (by decide +kernel) ?_
      refine KC_Vv [vi l5, vi 5, vi 1] [] rfl (dk dtk_X5_doWake 44 rfl) kcv_X5_117 rfl (kk_M0 ho) rfl (kl_M0 hq ho) (Nat.le_of_ble_eq_true rfl) (Nat.le_of_ble_eq_true rfl) (gok_i (av_c (gkr (kl_M0 hq ho)) (av_c rfl av_n)) as_n) rfl h (fun x3 h => ?_)
      refine T_iinc (v := l5 + 1) (lv2 := [(5, vi (l5 + 1)), (0, vr o)]) 1 (dk dtk_X5_doWake 45 rfl) rfl rfl (by decide) rfl ?_
      refine T_goto 47 (dk dtk_X5_doWake 46 rfl) (by decide) ?_
      exact T_sub [1, 0] rfl h
set_option maxRecDepth 100000 in
theorem dtk_X5_doCallOrBack : dck cX5_doCallOrBack [(0, .aload_n 0, 1), (1, .getfield 11, 3), (4, .aload_n 0, 1), (5, .getfield 21, 3), (8, .getfield 160, 3), (11, .iload_n 2, 1), (12, .iaload, 1), (13, .aload_n 0, 1), (14, .getfield 29, 3), (17, .aload_n 0, 1), (18, .iload_n 1, 1), (19, .invokevirtual 142, 3), (22, .iload_n 1, 1), (23, .invokevirtual 145, 3), (26, .istore 4, 2), (28, .aload_n 0, 1), (29, .getfield 11, 3), (32, .getfield 149, 3), (35, .ifCond .eq 5, 3), (38, .iconst 1, 1), (39, .ireturn, 1), (40, .aload_n 0, 1), (41, .iload_n 1, 1), (42, .bipush 6, 2), (44, .invokevirtual 90, 3), (47, .ifCond .eq 7, 3), (50, .iconst 1, 1), (51, .goto 4, 3), (54, .iconst 0, 1), (55, .istore 5, 2), (57, .iload 5, 2), (59, .iload_n 3, 1), (60, .bipush 13, 2), (62, .if_icmp .ne 7, 3), (65, .iconst 1, 1), (66, .goto 4, 3), (69, .iconst 0, 1), (70, .if_icmp .ne 6, 3), (73, .bipush 8, 2), (75, .ireturn, 1), (76, .aload_n 0, 1), (77, .iload_n 1, 1), (78, .bipush 6, 2), (80, .iload_n 3, 1), (81, .bipush 13, 2), (83, .if_icmp .ne 17, 3), (86, .aload_n 0, 1), (87, .getfield 21, 3), (90, .getfield 136, 3), (93, .iload_n 2, 1), (94, .iaload, 1), (95, .iconst 1, 1), (96, .iadd, 1), (97, .goto 4, 3), (100, .iconst 0, 1), (101, .invokevirtual 117, 3), (104, .aload_n 0, 1), (105, .getfield 25, 3), (108, .iload 4, 2), (110, .putfield 252, 3), (113, .iconst 0, 1), (114, .ireturn, 1)] = true := by decide +kernel
set_option maxRecDepth 100000 in
set_option maxHeartbeats 4000000 in
theorem kg_X5_doCallOrBack_0 {G : kG} {q : kP} {d : Nat} {x : gd} {P : Option gv → gd → Prop} (hq : kV q) {o : Nat} (ho : kiM q o) (l1 : Int32) (l2 : Int32) (l3 : Int32)
    (h : vp_in l2 400 ∧ KT G q d zk_X5_localsAt 0 [(0, vr o), (1, vi l1)] [] x (ri (fun r3 x2 => KT G q d zk_X0_work 0 [(0, vr 60), (1, vi (x.1 88 (l2 : Int32).toNatClampNeg)), (2, vr (o + 5)), (3, vi r3), (4, vi l1)] [] x2 (ri (fun r5 x4 => (((x4.1 60 5) = (0 : Int32) → KT G q d zk_X5_get 0 [(0, vr o), (1, vi l1), (2, vi 6)] [] x4 (ri (fun r8 x7 => ((r8 = (0 : Int32) → KT G q (d + 1) zk_X5_doCallOrBack 55 [(0, vr o), (1, vi l1), (2, vi l2), (3, vi l3), (4, vi r5)] [vi 0] x7 P) ∧ (¬ (r8 = (0 : Int32)) → KT G q (d + 1) zk_X5_doCallOrBack 55 [(0, vr o), (1, vi l1), (2, vi l2), (3, vi l3), (4, vi r5)] [vi 1] x7 P))))) ∧ (¬ ((x4.1 60 5) = (0 : Int32)) → P (some (vi 1)) x4))))))) :
    KT G q (d + 1) zk_X5_doCallOrBack 0 [(0, vr o), (1, vi l1), (2, vi l2), (3, vi l3)] [] x P := by
  refine T_aload_n 0 (dk dtk_X5_doCallOrBack 0 rfl) rfl rfl ?_
  refine T_getR o 0 60 (dk dtk_X5_doCallOrBack 1 rfl) kfl_X5_11 (kk_M0 ho) (kl_M0 hq ho) (by decide) rfl (kr_M_0 ho) ?_
  refine T_aload_n 0 (dk dtk_X5_doCallOrBack 2 rfl) rfl rfl ?_
  refine T_getR o 1 80 (dk dtk_X5_doCallOrBack 3 rfl) kfl_X5_21 (kk_M0 ho) (kl_M0 hq ho) (by decide) rfl (kr_M_1 ho) ?_
  refine T_getR 80 7 88 (dk dtk_X5_doCallOrBack 4 rfl) kfl_X5_160 kk_80 (kl_80 hq) (by decide) rfl kr_80_7 ?_
  refine T_iload_n 2 (dk dtk_X5_doCallOrBack 5 rfl) rfl rfl ?_
  obtain ⟨h1, h⟩ := h
  refine T_iald 88 400 (dk dtk_X5_doCallOrBack 6 rfl) kk_88 (kl_88 hq) h1 ?_
  refine T_aload_n 0 (dk dtk_X5_doCallOrBack 7 rfl) rfl rfl ?_
  refine T_getR o 4 (o + 5) (dk dtk_X5_doCallOrBack 8 rfl) kfl_X5_29 (kk_M0 ho) (kl_M0 hq ho) (by decide) rfl (kr_M_4 ho) ?_
  refine T_aload_n 0 (dk dtk_X5_doCallOrBack 9 rfl) rfl rfl ?_
  refine T_iload_n 1 (dk dtk_X5_doCallOrBack 10 rfl) rfl rfl ?_
  refine KC_Vi [vi l1] [vr (o + 5), vi (x.1 88 (l2 : Int32).toNatClampNeg), vr 60] rfl (dk dtk_X5_doCallOrBack 11 rfl) kcv_X5_142 rfl (kk_M0 ho) rfl (kl_M0 hq ho) (Nat.le_of_ble_eq_true rfl) (Nat.le_of_ble_eq_true rfl) (gok_i (av_c (gkr (kl_M0 hq ho)) (av_c rfl (av_c rfl (av_c rfl av_n)))) (as_c (gkr (kl_M5 hq ho)) (as_c rfl (as_c (gkr (kl_60 hq)) as_n)))) rfl h (fun r3 x2 h => ?_)
  refine T_iload_n 1 (dk dtk_X5_doCallOrBack 12 rfl) rfl rfl ?_
  refine KC_Vi [vi (x.1 88 (l2 : Int32).toNatClampNeg), vr (o + 5), vi r3, vi l1] [] rfl (dk dtk_X5_doCallOrBack 13 rfl) kcv_X5_145 rfl kk_60 rfl (kl_60 hq) (Nat.le_of_ble_eq_true rfl) (Nat.le_of_ble_eq_true rfl) (gok_i (av_c (gkr (kl_M0 hq ho)) (av_c rfl (av_c rfl (av_c rfl av_n)))) as_n) rfl h (fun r5 x4 h => ?_)
  refine T_istore (lv2 := [(4, vi r5), (0, vr o), (1, vi l1), (2, vi l2), (3, vi l3)]) (dk dtk_X5_doCallOrBack 14 rfl) (by decide) rfl ?_
  refine T_aload_n 1 (dk dtk_X5_doCallOrBack 15 rfl) rfl rfl ?_
  refine T_getR o 0 60 (dk dtk_X5_doCallOrBack 16 rfl) kfl_X5_11 (kk_M0 ho) (kl_M0 hq ho) (by decide) rfl (kr_M_0 ho) ?_
  refine T_getI 60 5 (dk dtk_X5_doCallOrBack 17 rfl) kfl_X5_149 kk_60 (kl_60 hq) (by decide) rfl ?_
  refine T_if_eq 40 (dk dtk_X5_doCallOrBack 18 rfl) (by decide) (fun c6 => ?_) (fun c6 => ?_)
  · have h := h.1 c6
    refine T_aload_n 1 (dk dtk_X5_doCallOrBack 21 rfl) rfl rfl ?_
    refine T_iload_n 2 (dk dtk_X5_doCallOrBack 22 rfl) rfl rfl ?_
    refine T_bipush (v := 6) (dk dtk_X5_doCallOrBack 23 rfl) (by decide +kernel) ?_
    refine KC_Vi [vi l1, vi 6] [] rfl (dk dtk_X5_doCallOrBack 24 rfl) kcv_X5_90 rfl (kk_M0 ho) rfl (kl_M0 hq ho) (Nat.le_of_ble_eq_true rfl) (Nat.le_of_ble_eq_true rfl) (gok_i (av_c rfl (av_c (gkr (kl_M0 hq ho)) (av_c rfl (av_c rfl (av_c rfl av_n))))) as_n) rfl h (fun r8 x7 h => ?_)
    refine T_if_eq 54 (dk dtk_X5_doCallOrBack 25 rfl) (by decide) (fun c9 => ?_) (fun c9 => ?_)
    · have h := h.1 c9
      refine T_iconst (v := 0) (dk dtk_X5_doCallOrBack 28 rfl) (by decide +kernel) ?_
      exact T_sub [1, 2, 3, 4, 0] rfl h
    · have h := h.2 c9
      refine T_iconst (v := 1) (dk dtk_X5_doCallOrBack 26 rfl) (by decide +kernel) ?_
      refine T_goto 55 (dk dtk_X5_doCallOrBack 27 rfl) (by decide) ?_
      exact T_sub [1, 2, 3, 4, 0] rfl h
  · have h := h.2 c6
    refine T_iconst (v := 1) (dk dtk_X5_doCallOrBack 19 rfl) (by decide +kernel) ?_
    exact KT_iret (dk dtk_X5_doCallOrBack 20 rfl) rfl rfl h
set_option maxRecDepth 100000 in
set_option maxHeartbeats 4000000 in
theorem kg_X5_doCallOrBack_55 {G : kG} {q : kP} {d : Nat} {x : gd} {P : Option gv → gd → Prop} (hq : kV q) {o : Nat} (ho : kiM q o) (l1 : Int32) (l2 : Int32) (l3 : Int32) (l4 : Int32) (s0 : Int32)
    (h : ((¬ (l3 = (13 : Int32)) → KT G q (d + 1) zk_X5_doCallOrBack 70 [(0, vr o), (1, vi l1), (2, vi l2), (3, vi l3), (4, vi l4)] [vi 0, vi s0] x P) ∧ (l3 = (13 : Int32) → KT G q (d + 1) zk_X5_doCallOrBack 70 [(0, vr o), (1, vi l1), (2, vi l2), (3, vi l3), (4, vi l4)] [vi 1, vi s0] x P))) :
    KT G q (d + 1) zk_X5_doCallOrBack 55 [(0, vr o), (1, vi l1), (2, vi l2), (3, vi l3), (4, vi l4)] [vi s0] x P := by
  refine T_istore (lv2 := [(5, vi s0), (0, vr o), (1, vi l1), (2, vi l2), (3, vi l3), (4, vi l4)]) (dk dtk_X5_doCallOrBack 29 rfl) (by decide) rfl ?_
  refine T_iload 0 (dk dtk_X5_doCallOrBack 30 rfl) rfl ?_
  refine T_iload_n 4 (dk dtk_X5_doCallOrBack 31 rfl) rfl rfl ?_
  refine T_bipush (v := 13) (dk dtk_X5_doCallOrBack 32 rfl) (by decide +kernel) ?_
  refine T_icmp_ne 69 (dk dtk_X5_doCallOrBack 33 rfl) (by decide) (fun c1 => ?_) (fun c1 => ?_)
  · have h := h.1 c1
    refine T_iconst (v := 0) (dk dtk_X5_doCallOrBack 36 rfl) (by decide +kernel) ?_
    exact T_sub [1, 2, 3, 4, 5] rfl h
  · have h := h.2 c1
    refine T_iconst (v := 1) (dk dtk_X5_doCallOrBack 34 rfl) (by decide +kernel) ?_
    refine T_goto 70 (dk dtk_X5_doCallOrBack 35 rfl) (by decide) ?_
    exact T_sub [1, 2, 3, 4, 5] rfl h
set_option maxRecDepth 100000 in
set_option maxHeartbeats 4000000 in
theorem kg_X5_doCallOrBack_70 {G : kG} {q : kP} {d : Nat} {x : gd} {P : Option gv → gd → Prop} (hq : kV q) {o : Nat} (ho : kiM q o) (l1 : Int32) (l2 : Int32) (l3 : Int32) (l4 : Int32) (s0 : Int32) (s1 : Int32)
    (h : ((¬ (s1 = s0) → ((¬ (l3 = (13 : Int32)) → KT G q (d + 1) zk_X5_doCallOrBack 101 [(0, vr o), (4, vi l4)] [vi 0, vi 6, vi l1, vr o] x P) ∧ (l3 = (13 : Int32) → vp_in l2 400 ∧ KT G q (d + 1) zk_X5_doCallOrBack 101 [(0, vr o), (4, vi l4)] [vi ((x.1 85 (l2 : Int32).toNatClampNeg) + 1), vi 6, vi l1, vr o] x P))) ∧ (s1 = s0 → P (some (vi 8)) x))) :
    KT G q (d + 1) zk_X5_doCallOrBack 70 [(0, vr o), (1, vi l1), (2, vi l2), (3, vi l3), (4, vi l4)] [vi s0, vi s1] x P := by
  refine T_icmp_ne 76 (dk dtk_X5_doCallOrBack 37 rfl) (by decide) (fun c1 => ?_) (fun c1 => ?_)
  · have h := h.1 c1
    refine T_aload_n 0 (dk dtk_X5_doCallOrBack 40 rfl) rfl rfl ?_
    refine T_iload_n 1 (dk dtk_X5_doCallOrBack 41 rfl) rfl rfl ?_
    refine T_bipush (v := 6) (dk dtk_X5_doCallOrBack 42 rfl) (by decide +kernel) ?_
    refine T_iload_n 3 (dk dtk_X5_doCallOrBack 43 rfl) rfl rfl ?_
    refine T_bipush (v := 13) (dk dtk_X5_doCallOrBack 44 rfl) (by decide +kernel) ?_
    refine T_icmp_ne 100 (dk dtk_X5_doCallOrBack 45 rfl) (by decide) (fun c2 => ?_) (fun c2 => ?_)
    · have h := h.1 c2
      refine T_iconst (v := 0) (dk dtk_X5_doCallOrBack 54 rfl) (by decide +kernel) ?_
      exact T_sub [0, 4] rfl h
    · have h := h.2 c2
      refine T_aload_n 0 (dk dtk_X5_doCallOrBack 46 rfl) rfl rfl ?_
      refine T_getR o 1 80 (dk dtk_X5_doCallOrBack 47 rfl) kfl_X5_21 (kk_M0 ho) (kl_M0 hq ho) (by decide) rfl (kr_M_1 ho) ?_
      refine T_getR 80 4 85 (dk dtk_X5_doCallOrBack 48 rfl) kfl_X5_136 kk_80 (kl_80 hq) (by decide) rfl kr_80_4 ?_
      refine T_iload_n 2 (dk dtk_X5_doCallOrBack 49 rfl) rfl rfl ?_
      obtain ⟨h3, h⟩ := h
      refine T_iald 85 400 (dk dtk_X5_doCallOrBack 50 rfl) kk_85 (kl_85 hq) h3 ?_
      refine T_iconst (v := 1) (dk dtk_X5_doCallOrBack 51 rfl) (by decide +kernel) ?_
      refine T_iadd (dk dtk_X5_doCallOrBack 52 rfl) ?_
      refine T_goto 101 (dk dtk_X5_doCallOrBack 53 rfl) (by decide) ?_
      exact T_sub [0, 4] rfl h
  · have h := h.2 c1
    refine T_bipush (v := 8) (dk dtk_X5_doCallOrBack 38 rfl) (by decide +kernel) ?_
    exact KT_iret (dk dtk_X5_doCallOrBack 39 rfl) rfl rfl h
set_option maxRecDepth 100000 in
set_option maxHeartbeats 4000000 in
theorem kg_X5_doCallOrBack_101 {G : kG} {q : kP} {d : Nat} {x : gd} {P : Option gv → gd → Prop} (hq : kV q) {o : Nat} (ho : kiM q o) (l4 : Int32) (s0 : Int32) (s1 : Int32) (s2 : Int32)
    (h : KT G q d zk_X5_set 0 [(0, vr o), (1, vi s2), (2, vi s1), (3, vi s0)] [] x (rv (fun x1 => (∀ x2 : gd, x2 = si x1 (o + 20) 4 l4 → P (some (vi 0)) x2)))) :
    KT G q (d + 1) zk_X5_doCallOrBack 101 [(0, vr o), (4, vi l4)] [vi s0, vi s1, vi s2, vr o] x P := by
  refine KC_Vv [vi s2, vi s1, vi s0] [] rfl (dk dtk_X5_doCallOrBack 55 rfl) kcv_X5_117 rfl (kk_M0 ho) rfl (kl_M0 hq ho) (Nat.le_of_ble_eq_true rfl) (Nat.le_of_ble_eq_true rfl) (gok_i (av_c (gkr (kl_M0 hq ho)) (av_c rfl av_n)) as_n) rfl h (fun x1 h => ?_)
  refine T_aload_n 0 (dk dtk_X5_doCallOrBack 56 rfl) rfl rfl ?_
  refine T_getR o 2 (o + 20) (dk dtk_X5_doCallOrBack 57 rfl) kfl_X5_25 (kk_M0 ho) (kl_M0 hq ho) (by decide) rfl (kr_M_2 ho) ?_
  refine T_iload 1 (dk dtk_X5_doCallOrBack 58 rfl) rfl ?_
  obtain ⟨x2, ex2⟩ : ∃ z, z = si x1 (o + 20) 4 l4 := ⟨_, rfl⟩
  have h := h x2 ex2
  refine T_putI (o + 20) 4 (dk dtk_X5_doCallOrBack 59 rfl) kfl_X5_252 (kk_D0 (kiM_D ho)) (kl_D0 hq (kiM_D ho)) (by decide) rfl ⟨rfl, rfl⟩ ?_
  rw [← ex2]
  refine T_iconst (v := 0) (dk dtk_X5_doCallOrBack 60 rfl) (by decide +kernel) ?_
  exact KT_iret (dk dtk_X5_doCallOrBack 61 rfl) rfl rfl h
set_option maxRecDepth 100000 in
theorem dtk_X5_rouse : dck cX5_rouse [(0, .aload_n 0, 1), (1, .iload_n 1, 1), (2, .iconst 0, 1), (3, .iconst 1, 1), (4, .invokevirtual 117, 3), (7, .aload_n 0, 1), (8, .iload_n 1, 1), (9, .iconst 2, 1), (10, .aload_n 0, 1), (11, .getfield 11, 3), (14, .getfield 258, 3), (17, .iload_n 1, 1), (18, .iaload, 1), (19, .invokevirtual 117, 3), (22, .aload_n 0, 1), (23, .iload_n 1, 1), (24, .invokevirtual 205, 3), (27, .return_, 1)] = true := by decide +kernel
set_option maxRecDepth 100000 in
set_option maxHeartbeats 4000000 in
theorem kg_X5_rouse_0 {G : kG} {q : kP} {d : Nat} {x : gd} {P : Option gv → gd → Prop} (hq : kV q) {o : Nat} (ho : kiM q o) (l1 : Int32)
    (h : KT G q d zk_X5_set 0 [(0, vr o), (1, vi l1), (2, vi 0), (3, vi 1)] [] x (rv (fun x1 => vp_in l1 6 ∧ KT G q d zk_X5_set 0 [(0, vr o), (1, vi l1), (2, vi 2), (3, vi (x1.1 72 (l1 : Int32).toNatClampNeg))] [] x1 (rv (fun x3 => KT G q d zk_X5_settle 0 [(0, vr o), (1, vi l1)] [] x3 (rv (fun x4 => P none x4))))))) :
    KT G q (d + 1) zk_X5_rouse 0 [(0, vr o), (1, vi l1)] [] x P := by
  refine T_aload_n 0 (dk dtk_X5_rouse 0 rfl) rfl rfl ?_
  refine T_iload_n 1 (dk dtk_X5_rouse 1 rfl) rfl rfl ?_
  refine T_iconst (v := 0) (dk dtk_X5_rouse 2 rfl) (by decide +kernel) ?_
  refine T_iconst (v := 1) (dk dtk_X5_rouse 3 rfl) (by decide +kernel) ?_
  refine KC_Vv [vi l1, vi 0, vi 1] [] rfl (dk dtk_X5_rouse 4 rfl) kcv_X5_117 rfl (kk_M0 ho) rfl (kl_M0 hq ho) (Nat.le_of_ble_eq_true rfl) (Nat.le_of_ble_eq_true rfl) (gok_i (av_c (gkr (kl_M0 hq ho)) (av_c rfl av_n)) as_n) rfl h (fun x1 h => ?_)
  refine T_aload_n 0 (dk dtk_X5_rouse 5 rfl) rfl rfl ?_
  refine T_iload_n 1 (dk dtk_X5_rouse 6 rfl) rfl rfl ?_
  refine T_iconst (v := 2) (dk dtk_X5_rouse 7 rfl) (by decide +kernel) ?_
  refine T_aload_n 0 (dk dtk_X5_rouse 8 rfl) rfl rfl ?_
  refine T_getR o 0 60 (dk dtk_X5_rouse 9 rfl) kfl_X5_11 (kk_M0 ho) (kl_M0 hq ho) (by decide) rfl (kr_M_0 ho) ?_
  refine T_getR 60 11 72 (dk dtk_X5_rouse 10 rfl) kfl_X5_258 kk_60 (kl_60 hq) (by decide) rfl kr_60_11 ?_
  refine T_iload_n 1 (dk dtk_X5_rouse 11 rfl) rfl rfl ?_
  obtain ⟨h2, h⟩ := h
  refine T_iald 72 6 (dk dtk_X5_rouse 12 rfl) kk_72 (kl_72 hq) h2 ?_
  refine KC_Vv [vi l1, vi 2, vi (x1.1 72 (l1 : Int32).toNatClampNeg)] [] rfl (dk dtk_X5_rouse 13 rfl) kcv_X5_117 rfl (kk_M0 ho) rfl (kl_M0 hq ho) (Nat.le_of_ble_eq_true rfl) (Nat.le_of_ble_eq_true rfl) (gok_i (av_c (gkr (kl_M0 hq ho)) (av_c rfl av_n)) as_n) rfl h (fun x3 h => ?_)
  refine T_aload_n 0 (dk dtk_X5_rouse 14 rfl) rfl rfl ?_
  refine T_iload_n 1 (dk dtk_X5_rouse 15 rfl) rfl rfl ?_
  refine T_sub (lv2 := []) [] rfl ?_
  refine KC_Vv [vi l1] [] rfl (dk dtk_X5_rouse 16 rfl) kcv_X5_205 rfl (kk_M0 ho) rfl (kl_M0 hq ho) (Nat.le_of_ble_eq_true rfl) (Nat.le_of_ble_eq_true rfl) (gok_i av_n as_n) rfl h (fun x4 h => ?_)
  exact KT_vret (dk dtk_X5_rouse 17 rfl) rfl h
set_option maxRecDepth 100000 in
theorem dtk_X5_settle : dck cX5_settle [(0, .iconst 0, 1), (1, .istore_n 2, 1), (2, .iconst 0, 1), (3, .istore_n 3, 1), (4, .iload_n 3, 1), (5, .ldc_w 261, 3), (8, .if_icmp .ge 92, 3), (11, .aload_n 0, 1), (12, .iload_n 1, 1), (13, .invokevirtual 94, 3), (16, .ifCond .eq 84, 3), (19, .aload_n 0, 1), (20, .iload_n 1, 1), (21, .iconst 2, 1), (22, .invokevirtual 90, 3), (25, .istore 4, 2), (27, .aload_n 0, 1), (28, .getfield 21, 3), (31, .getfield 127, 3), (34, .iload 4, 2), (36, .iaload, 1), (37, .istore 5, 2), (39, .iload 5, 2), (41, .bipush 16, 2), (43, .if_icmp .ge 6, 3), (46, .goto 54, 3), (49, .iload 5, 2), (51, .bipush 20, 2), (53, .if_icmp .ge 6, 3), (56, .iinc 2 1, 3), (59, .iload_n 2, 1), (60, .sipush 300, 3), (63, .if_icmp .le 8, 3), (66, .bipush 6, 2), (68, .goto 12, 3), (71, .aload_n 0, 1), (72, .iload_n 1, 1), (73, .iload 4, 2), (75, .iload 5, 2), (77, .invokevirtual 262, 3), (80, .istore 6, 2), (82, .iload 6, 2), (84, .ifCond .eq 10, 3), (87, .aload_n 0, 1), (88, .iload_n 1, 1), (89, .iload 6, 2), (91, .invokevirtual 202, 3), (94, .iinc 3 1, 3), (97, .goto (-93), 3), (100, .aload_n 0, 1), (101, .iload_n 1, 1), (102, .invokevirtual 265, 3), (105, .return_, 1)] = true := by decide +kernel
set_option maxRecDepth 100000 in
set_option maxHeartbeats 4000000 in
theorem kg_X5_settle_0 {G : kG} {q : kP} {d : Nat} {x : gd} {P : Option gv → gd → Prop} (hq : kV q) {o : Nat} (ho : kiM q o) (l1 : Int32)
    (h : KT G q (d + 1) zk_X5_settle 4 [(0, vr o), (1, vi l1), (2, vi 0), (3, vi 0)] [] x P) :
    KT G q (d + 1) zk_X5_settle 0 [(0, vr o), (1, vi l1)] [] x P := by
  refine T_iconst (v := 0) (dk dtk_X5_settle 0 rfl) (by decide +kernel) ?_
  refine T_istore_n (lv2 := [(2, vi 0), (0, vr o), (1, vi l1)]) (dk dtk_X5_settle 1 rfl) rfl (by decide) rfl ?_
  refine T_iconst (v := 0) (dk dtk_X5_settle 2 rfl) (by decide +kernel) ?_
  refine T_istore_n (lv2 := [(3, vi 0), (2, vi 0), (0, vr o), (1, vi l1)]) (dk dtk_X5_settle 3 rfl) rfl (by decide) rfl ?_
  exact T_sub [2, 3, 1, 0] rfl h
set_option maxRecDepth 100000 in
set_option maxHeartbeats 4000000 in
theorem kg_X5_settle_4 {G : kG} {q : kP} {d : Nat} {x : gd} {P : Option gv → gd → Prop} (hq : kV q) {o : Nat} (ho : kiM q o) (l1 : Int32) (l2 : Int32) (l3 : Int32)
    (h : (((1000000 : Int32) ≤ l3 → KT G q (d + 1) zk_X5_settle 100 [(0, vr o), (1, vi l1)] [] x P) ∧ (¬ ((1000000 : Int32) ≤ l3) → KT G q d zk_X5_isGoing 0 [(0, vr o), (1, vi l1)] [] x (ri (fun r3 x2 => ((r3 = (0 : Int32) → KT G q (d + 1) zk_X5_settle 100 [(0, vr o), (1, vi l1)] [] x2 P) ∧ (¬ (r3 = (0 : Int32)) → KT G q d zk_X5_get 0 [(0, vr o), (1, vi l1), (2, vi 2)] [] x2 (ri (fun r6 x5 => vp_in r6 400 ∧ (((16 : Int32) ≤ (x5.1 81 (r6 : Int32).toNatClampNeg) → (((20 : Int32) ≤ (x5.1 81 (r6 : Int32).toNatClampNeg) → KT G q (d + 1) zk_X5_settle 59 [(0, vr o), (1, vi l1), (2, vi l2), (3, vi l3), (4, vi r6), (5, vi (x5.1 81 (r6 : Int32).toNatClampNeg))] [] x5 P) ∧ (¬ ((20 : Int32) ≤ (x5.1 81 (r6 : Int32).toNatClampNeg)) → KT G q (d + 1) zk_X5_settle 59 [(0, vr o), (1, vi l1), (2, vi (l2 + 1)), (3, vi l3), (4, vi r6), (5, vi (x5.1 81 (r6 : Int32).toNatClampNeg))] [] x5 P))) ∧ (¬ ((16 : Int32) ≤ (x5.1 81 (r6 : Int32).toNatClampNeg)) → KT G q (d + 1) zk_X5_settle 100 [(0, vr o), (1, vi l1)] [] x5 P))))))))))) :
    KT G q (d + 1) zk_X5_settle 4 [(0, vr o), (1, vi l1), (2, vi l2), (3, vi l3)] [] x P := by
  refine T_iload_n 3 (dk dtk_X5_settle 4 rfl) rfl rfl ?_
  refine T_ldcw (v := 1000000) (dk dtk_X5_settle 5 rfl) kkc_X5_261 ?_
  refine T_icmp_ge 100 (dk dtk_X5_settle 6 rfl) (by decide) (fun c1 => ?_) (fun c1 => ?_)
  · have h := h.1 c1
    exact T_sub [0, 1] rfl h
  · have h := h.2 c1
    refine T_aload_n 0 (dk dtk_X5_settle 7 rfl) rfl rfl ?_
    refine T_iload_n 1 (dk dtk_X5_settle 8 rfl) rfl rfl ?_
    refine KC_Vi [vi l1] [] rfl (dk dtk_X5_settle 9 rfl) kcv_X5_94 rfl (kk_M0 ho) rfl (kl_M0 hq ho) (Nat.le_of_ble_eq_true rfl) (Nat.le_of_ble_eq_true rfl) (gok_i (av_c (gkr (kl_M0 hq ho)) (av_c rfl (av_c rfl (av_c rfl av_n)))) as_n) rfl h (fun r3 x2 h => ?_)
    refine T_if_eq 100 (dk dtk_X5_settle 10 rfl) (by decide) (fun c4 => ?_) (fun c4 => ?_)
    · have h := h.1 c4
      exact T_sub [0, 1] rfl h
    · have h := h.2 c4
      refine T_aload_n 0 (dk dtk_X5_settle 11 rfl) rfl rfl ?_
      refine T_iload_n 1 (dk dtk_X5_settle 12 rfl) rfl rfl ?_
      refine T_iconst (v := 2) (dk dtk_X5_settle 13 rfl) (by decide +kernel) ?_
      refine KC_Vi [vi l1, vi 2] [] rfl (dk dtk_X5_settle 14 rfl) kcv_X5_90 rfl (kk_M0 ho) rfl (kl_M0 hq ho) (Nat.le_of_ble_eq_true rfl) (Nat.le_of_ble_eq_true rfl) (gok_i (av_c (gkr (kl_M0 hq ho)) (av_c rfl (av_c rfl (av_c rfl av_n)))) as_n) rfl h (fun r6 x5 h => ?_)
      refine T_istore (lv2 := [(4, vi r6), (0, vr o), (1, vi l1), (2, vi l2), (3, vi l3)]) (dk dtk_X5_settle 15 rfl) (by decide) rfl ?_
      refine T_aload_n 1 (dk dtk_X5_settle 16 rfl) rfl rfl ?_
      refine T_getR o 1 80 (dk dtk_X5_settle 17 rfl) kfl_X5_21 (kk_M0 ho) (kl_M0 hq ho) (by decide) rfl (kr_M_1 ho) ?_
      refine T_getR 80 0 81 (dk dtk_X5_settle 18 rfl) kfl_X5_127 kk_80 (kl_80 hq) (by decide) rfl kr_80_0 ?_
      refine T_iload 0 (dk dtk_X5_settle 19 rfl) rfl ?_
      obtain ⟨h7, h⟩ := h
      refine T_iald 81 400 (dk dtk_X5_settle 20 rfl) kk_81 (kl_81 hq) h7 ?_
      refine T_istore (lv2 := [(5, vi (x5.1 81 (r6 : Int32).toNatClampNeg)), (4, vi r6), (0, vr o), (1, vi l1), (2, vi l2), (3, vi l3)]) (dk dtk_X5_settle 21 rfl) (by decide) rfl ?_
      refine T_iload 0 (dk dtk_X5_settle 22 rfl) rfl ?_
      refine T_bipush (v := 16) (dk dtk_X5_settle 23 rfl) (by decide +kernel) ?_
      refine T_icmp_ge 49 (dk dtk_X5_settle 24 rfl) (by decide) (fun c8 => ?_) (fun c8 => ?_)
      · have h := h.1 c8
        refine T_iload 0 (dk dtk_X5_settle 26 rfl) rfl ?_
        refine T_bipush (v := 20) (dk dtk_X5_settle 27 rfl) (by decide +kernel) ?_
        refine T_icmp_ge 59 (dk dtk_X5_settle 28 rfl) (by decide) (fun c9 => ?_) (fun c9 => ?_)
        · have h := h.1 c9
          exact T_sub [2, 3, 4, 5, 1, 0] rfl h
        · have h := h.2 c9
          refine T_iinc (v := l2 + 1) (lv2 := [(2, vi (l2 + 1)), (5, vi (x5.1 81 (r6 : Int32).toNatClampNeg)), (4, vi r6), (0, vr o), (1, vi l1), (3, vi l3)]) 4 (dk dtk_X5_settle 29 rfl) rfl rfl (by decide) rfl ?_
          exact T_sub [3, 4, 0, 5, 2, 1] rfl h
      · have h := h.2 c8
        refine T_goto 100 (dk dtk_X5_settle 25 rfl) (by decide) ?_
        exact T_sub [2, 3] rfl h
set_option maxRecDepth 100000 in
set_option maxHeartbeats 4000000 in
theorem kg_X5_settle_59 {G : kG} {q : kP} {d : Nat} {x : gd} {P : Option gv → gd → Prop} (hq : kV q) {o : Nat} (ho : kiM q o) (l1 : Int32) (l2 : Int32) (l3 : Int32) (l4 : Int32) (l5 : Int32)
    (h : ((l2 ≤ (300 : Int32) → KT G q d zk_X5_ownFailure 0 [(0, vr o), (1, vi l1), (2, vi l4), (3, vi l5)] [] x (ri (fun r3 x2 => KT G q (d + 1) zk_X5_settle 80 [(0, vr o), (1, vi l1), (2, vi l2), (3, vi l3)] [vi r3] x2 P))) ∧ (¬ (l2 ≤ (300 : Int32)) → KT G q (d + 1) zk_X5_settle 80 [(0, vr o), (1, vi l1), (2, vi l2), (3, vi l3)] [vi 6] x P))) :
    KT G q (d + 1) zk_X5_settle 59 [(0, vr o), (1, vi l1), (2, vi l2), (3, vi l3), (4, vi l4), (5, vi l5)] [] x P := by
  refine T_iload_n 2 (dk dtk_X5_settle 30 rfl) rfl rfl ?_
  refine T_sipush (v := 300) (dk dtk_X5_settle 31 rfl) (by decide +kernel) ?_
  refine T_icmp_le 71 (dk dtk_X5_settle 32 rfl) (by decide) (fun c1 => ?_) (fun c1 => ?_)
  · have h := h.1 c1
    refine T_aload_n 0 (dk dtk_X5_settle 35 rfl) rfl rfl ?_
    refine T_iload_n 1 (dk dtk_X5_settle 36 rfl) rfl rfl ?_
    refine T_iload 4 (dk dtk_X5_settle 37 rfl) rfl ?_
    refine T_iload 5 (dk dtk_X5_settle 38 rfl) rfl ?_
    refine T_sub (lv2 := [(0, vr o), (1, vi l1), (2, vi l2), (3, vi l3)]) [0, 1, 2, 3] rfl ?_
    refine KC_Vi [vi l1, vi l4, vi l5] [] rfl (dk dtk_X5_settle 39 rfl) kcv_X5_262 rfl (kk_M0 ho) rfl (kl_M0 hq ho) (Nat.le_of_ble_eq_true rfl) (Nat.le_of_ble_eq_true rfl) (gok_i (av_c (gkr (kl_M0 hq ho)) (av_c rfl (av_c rfl (av_c rfl av_n)))) as_n) rfl h (fun r3 x2 h => ?_)
    exact h
  · have h := h.2 c1
    refine T_bipush (v := 6) (dk dtk_X5_settle 33 rfl) (by decide +kernel) ?_
    refine T_goto 80 (dk dtk_X5_settle 34 rfl) (by decide) ?_
    exact T_sub [0, 1, 2, 3] rfl h
set_option maxRecDepth 100000 in
set_option maxHeartbeats 4000000 in
theorem kg_X5_settle_80 {G : kG} {q : kP} {d : Nat} {x : gd} {P : Option gv → gd → Prop} (hq : kV q) {o : Nat} (ho : kiM q o) (l1 : Int32) (l2 : Int32) (l3 : Int32) (s0 : Int32)
    (h : ((s0 = (0 : Int32) → KT G q (d + 1) zk_X5_settle 4 [(0, vr o), (1, vi l1), (2, vi l2), (3, vi (l3 + 1))] [] x P) ∧ (¬ (s0 = (0 : Int32)) → KT G q d zk_X5_fail 0 [(0, vr o), (1, vi l1), (2, vi s0)] [] x (rv (fun x2 => KT G q (d + 1) zk_X5_settle 4 [(0, vr o), (1, vi l1), (2, vi l2), (3, vi (l3 + 1))] [] x2 P))))) :
    KT G q (d + 1) zk_X5_settle 80 [(0, vr o), (1, vi l1), (2, vi l2), (3, vi l3)] [vi s0] x P := by
  refine T_istore (lv2 := [(6, vi s0), (0, vr o), (1, vi l1), (2, vi l2), (3, vi l3)]) (dk dtk_X5_settle 40 rfl) (by decide) rfl ?_
  refine T_iload 0 (dk dtk_X5_settle 41 rfl) rfl ?_
  refine T_if_eq 94 (dk dtk_X5_settle 42 rfl) (by decide) (fun c1 => ?_) (fun c1 => ?_)
  · have h := h.1 c1
    refine T_iinc (v := l3 + 1) (lv2 := [(3, vi (l3 + 1)), (6, vi s0), (0, vr o), (1, vi l1), (2, vi l2)]) 4 (dk dtk_X5_settle 47 rfl) rfl rfl (by decide) rfl ?_
    refine T_goto 4 (dk dtk_X5_settle 48 rfl) (by decide) ?_
    exact T_sub [2, 3, 4, 0] rfl h
  · have h := h.2 c1
    refine T_aload_n 1 (dk dtk_X5_settle 43 rfl) rfl rfl ?_
    refine T_iload_n 2 (dk dtk_X5_settle 44 rfl) rfl rfl ?_
    refine T_iload 0 (dk dtk_X5_settle 45 rfl) rfl ?_
    refine T_sub (lv2 := [(0, vr o), (1, vi l1), (2, vi l2), (3, vi l3)]) [1, 2, 3, 4] rfl ?_
    refine KC_Vv [vi l1, vi s0] [] rfl (dk dtk_X5_settle 46 rfl) kcv_X5_202 rfl (kk_M0 ho) rfl (kl_M0 hq ho) (Nat.le_of_ble_eq_true rfl) (Nat.le_of_ble_eq_true rfl) (gok_i (av_c (gkr (kl_M0 hq ho)) (av_c rfl (av_c rfl (av_c rfl av_n)))) as_n) rfl h (fun x2 h => ?_)
    refine T_iinc (v := l3 + 1) (lv2 := [(3, vi (l3 + 1)), (0, vr o), (1, vi l1), (2, vi l2)]) 3 (dk dtk_X5_settle 47 rfl) rfl rfl (by decide) rfl ?_
    refine T_goto 4 (dk dtk_X5_settle 48 rfl) (by decide) ?_
    exact T_sub [1, 2, 3, 0] rfl h
set_option maxRecDepth 100000 in
set_option maxHeartbeats 4000000 in
theorem kg_X5_settle_100 {G : kG} {q : kP} {d : Nat} {x : gd} {P : Option gv → gd → Prop} (hq : kV q) {o : Nat} (ho : kiM q o) (l1 : Int32)
    (h : KT G q d zk_X5_blankUnknown 0 [(0, vr o), (1, vi l1)] [] x (rv (fun x1 => P none x1))) :
    KT G q (d + 1) zk_X5_settle 100 [(0, vr o), (1, vi l1)] [] x P := by
  refine T_aload_n 0 (dk dtk_X5_settle 49 rfl) rfl rfl ?_
  refine T_iload_n 1 (dk dtk_X5_settle 50 rfl) rfl rfl ?_
  refine T_sub (lv2 := []) [] rfl ?_
  refine KC_Vv [vi l1] [] rfl (dk dtk_X5_settle 51 rfl) kcv_X5_265 rfl (kk_M0 ho) rfl (kl_M0 hq ho) (Nat.le_of_ble_eq_true rfl) (Nat.le_of_ble_eq_true rfl) (gok_i av_n as_n) rfl h (fun x1 h => ?_)
  exact KT_vret (dk dtk_X5_settle 52 rfl) rfl h
set_option maxRecDepth 100000 in
theorem dtk_X5_ownFailure : dck cX5_ownFailure [(0, .iload_n 3, 1), (1, .bipush 21, 2), (3, .if_icmp .eq 9, 3), (6, .iload_n 3, 1), (7, .bipush 19, 2), (9, .if_icmp .ne 19, 3), (12, .aload_n 0, 1), (13, .iload_n 1, 1), (14, .iconst 0, 1), (15, .iconst 2, 1), (16, .invokevirtual 117, 3), (19, .aload_n 0, 1), (20, .iload_n 1, 1), (21, .iconst 2, 1), (22, .iconst 0, 1), (23, .invokevirtual 117, 3), (26, .iconst 0, 1), (27, .ireturn, 1), (28, .iload_n 3, 1), (29, .bipush 20, 2), (31, .if_icmp .ne 20, 3), (34, .aload_n 0, 1), (35, .iload_n 1, 1), (36, .iconst 2, 1), (37, .aload_n 0, 1), (38, .getfield 21, 3), (41, .getfield 182, 3), (44, .iload_n 2, 1), (45, .iaload, 1), (46, .invokevirtual 117, 3), (49, .iconst 0, 1), (50, .ireturn, 1), (51, .aload_n 0, 1), (52, .getfield 11, 3), (55, .aload_n 0, 1), (56, .getfield 21, 3), (59, .getfield 160, 3), (62, .iload_n 2, 1), (63, .iaload, 1), (64, .aload_n 0, 1), (65, .getfield 29, 3), (68, .aload_n 0, 1), (69, .iload_n 1, 1), (70, .invokevirtual 142, 3), (73, .iload_n 1, 1), (74, .invokevirtual 145, 3), (77, .istore 4, 2), (79, .aload_n 0, 1), (80, .getfield 11, 3), (83, .getfield 149, 3), (86, .ifCond .eq 5, 3), (89, .iconst 1, 1), (90, .ireturn, 1), (91, .iload_n 3, 1), (92, .bipush 18, 2), (94, .if_icmp .ne 10, 3), (97, .iload 4, 2), (99, .ifCond .ne 5, 3), (102, .iconst 5, 1), (103, .ireturn, 1), (104, .iload_n 3, 1), (105, .bipush 16, 2), (107, .if_icmp .ne 22, 3), (110, .aload_n 0, 1), (111, .iload_n 1, 1), (112, .bipush 8, 2), (114, .aload_n 0, 1), (115, .getfield 21, 3), (118, .getfield 182, 3), (121, .iload_n 2, 1), (122, .iaload, 1), (123, .iadd, 1), (124, .iload 4, 2), (126, .invokevirtual 117, 3), (129, .aload_n 0, 1), (130, .iload_n 1, 1), (131, .iconst 2, 1), (132, .iload_n 3, 1), (133, .bipush 17, 2), (135, .if_icmp .ne 20, 3), (138, .iload 4, 2), (140, .ifCond .ne 15, 3), (143, .aload_n 0, 1), (144, .getfield 21, 3), (147, .getfield 182, 3), (150, .iload_n 2, 1), (151, .iaload, 1), (152, .goto 6, 3), (155, .iload_n 2, 1), (156, .iconst 1, 1), (157, .iadd, 1), (158, .invokevirtual 117, 3), (161, .iconst 0, 1), (162, .ireturn, 1)] = true := by decide +kernel
set_option maxRecDepth 100000 in
set_option maxHeartbeats 4000000 in
theorem kg_X5_ownFailure_0 {G : kG} {q : kP} {d : Nat} {x : gd} {P : Option gv → gd → Prop} (hq : kV q) {o : Nat} (ho : kiM q o) (l1 : Int32) (l2 : Int32) (l3 : Int32)
    (h : ((l3 = (21 : Int32) → KT G q (d + 1) zk_X5_ownFailure 12 [(0, vr o), (1, vi l1)] [] x P) ∧ (¬ (l3 = (21 : Int32)) → ((¬ (l3 = (19 : Int32)) → ((¬ (l3 = (20 : Int32)) → vp_in l2 400 ∧ KT G q d zk_X5_localsAt 0 [(0, vr o), (1, vi l1)] [] x (ri (fun r6 x5 => KT G q d zk_X0_work 0 [(0, vr 60), (1, vi (x.1 88 (l2 : Int32).toNatClampNeg)), (2, vr (o + 5)), (3, vi r6), (4, vi l1)] [] x5 (ri (fun r8 x7 => (((x7.1 60 5) = (0 : Int32) → ((¬ (l3 = (18 : Int32)) → KT G q (d + 1) zk_X5_ownFailure 104 [(0, vr o), (1, vi l1), (2, vi l2), (3, vi l3), (4, vi r8)] [] x7 P) ∧ (l3 = (18 : Int32) → ((¬ (r8 = (0 : Int32)) → KT G q (d + 1) zk_X5_ownFailure 104 [(0, vr o), (1, vi l1), (2, vi l2), (3, vi l3), (4, vi r8)] [] x7 P) ∧ (r8 = (0 : Int32) → P (some (vi 5)) x7))))) ∧ (¬ ((x7.1 60 5) = (0 : Int32)) → P (some (vi 1)) x7))))))) ∧ (l3 = (20 : Int32) → vp_in l2 400 ∧ KT G q d zk_X5_set 0 [(0, vr o), (1, vi l1), (2, vi 2), (3, vi (x.1 84 (l2 : Int32).toNatClampNeg))] [] x (rv (fun x13 => P (some (vi 0)) x13))))) ∧ (l3 = (19 : Int32) → KT G q (d + 1) zk_X5_ownFailure 12 [(0, vr o), (1, vi l1)] [] x P))))) :
    KT G q (d + 1) zk_X5_ownFailure 0 [(0, vr o), (1, vi l1), (2, vi l2), (3, vi l3)] [] x P := by
  refine T_iload_n 3 (dk dtk_X5_ownFailure 0 rfl) rfl rfl ?_
  refine T_bipush (v := 21) (dk dtk_X5_ownFailure 1 rfl) (by decide +kernel) ?_
  refine T_icmp_eq 12 (dk dtk_X5_ownFailure 2 rfl) (by decide) (fun c1 => ?_) (fun c1 => ?_)
  · have h := h.1 c1
    exact T_sub [0, 1] rfl h
  · have h := h.2 c1
    refine T_iload_n 3 (dk dtk_X5_ownFailure 3 rfl) rfl rfl ?_
    refine T_bipush (v := 19) (dk dtk_X5_ownFailure 4 rfl) (by decide +kernel) ?_
    refine T_icmp_ne 28 (dk dtk_X5_ownFailure 5 rfl) (by decide) (fun c2 => ?_) (fun c2 => ?_)
    · have h := h.1 c2
      refine T_iload_n 3 (dk dtk_X5_ownFailure 18 rfl) rfl rfl ?_
      refine T_bipush (v := 20) (dk dtk_X5_ownFailure 19 rfl) (by decide +kernel) ?_
      refine T_icmp_ne 51 (dk dtk_X5_ownFailure 20 rfl) (by decide) (fun c3 => ?_) (fun c3 => ?_)
      · have h := h.1 c3
        refine T_aload_n 0 (dk dtk_X5_ownFailure 32 rfl) rfl rfl ?_
        refine T_getR o 0 60 (dk dtk_X5_ownFailure 33 rfl) kfl_X5_11 (kk_M0 ho) (kl_M0 hq ho) (by decide) rfl (kr_M_0 ho) ?_
        refine T_aload_n 0 (dk dtk_X5_ownFailure 34 rfl) rfl rfl ?_
        refine T_getR o 1 80 (dk dtk_X5_ownFailure 35 rfl) kfl_X5_21 (kk_M0 ho) (kl_M0 hq ho) (by decide) rfl (kr_M_1 ho) ?_
        refine T_getR 80 7 88 (dk dtk_X5_ownFailure 36 rfl) kfl_X5_160 kk_80 (kl_80 hq) (by decide) rfl kr_80_7 ?_
        refine T_iload_n 2 (dk dtk_X5_ownFailure 37 rfl) rfl rfl ?_
        obtain ⟨h4, h⟩ := h
        refine T_iald 88 400 (dk dtk_X5_ownFailure 38 rfl) kk_88 (kl_88 hq) h4 ?_
        refine T_aload_n 0 (dk dtk_X5_ownFailure 39 rfl) rfl rfl ?_
        refine T_getR o 4 (o + 5) (dk dtk_X5_ownFailure 40 rfl) kfl_X5_29 (kk_M0 ho) (kl_M0 hq ho) (by decide) rfl (kr_M_4 ho) ?_
        refine T_aload_n 0 (dk dtk_X5_ownFailure 41 rfl) rfl rfl ?_
        refine T_iload_n 1 (dk dtk_X5_ownFailure 42 rfl) rfl rfl ?_
        refine KC_Vi [vi l1] [vr (o + 5), vi (x.1 88 (l2 : Int32).toNatClampNeg), vr 60] rfl (dk dtk_X5_ownFailure 43 rfl) kcv_X5_142 rfl (kk_M0 ho) rfl (kl_M0 hq ho) (Nat.le_of_ble_eq_true rfl) (Nat.le_of_ble_eq_true rfl) (gok_i (av_c (gkr (kl_M0 hq ho)) (av_c rfl (av_c rfl (av_c rfl av_n)))) (as_c (gkr (kl_M5 hq ho)) (as_c rfl (as_c (gkr (kl_60 hq)) as_n)))) rfl h (fun r6 x5 h => ?_)
        refine T_iload_n 1 (dk dtk_X5_ownFailure 44 rfl) rfl rfl ?_
        refine KC_Vi [vi (x.1 88 (l2 : Int32).toNatClampNeg), vr (o + 5), vi r6, vi l1] [] rfl (dk dtk_X5_ownFailure 45 rfl) kcv_X5_145 rfl kk_60 rfl (kl_60 hq) (Nat.le_of_ble_eq_true rfl) (Nat.le_of_ble_eq_true rfl) (gok_i (av_c (gkr (kl_M0 hq ho)) (av_c rfl (av_c rfl (av_c rfl av_n)))) as_n) rfl h (fun r8 x7 h => ?_)
        refine T_istore (lv2 := [(4, vi r8), (0, vr o), (1, vi l1), (2, vi l2), (3, vi l3)]) (dk dtk_X5_ownFailure 46 rfl) (by decide) rfl ?_
        refine T_aload_n 1 (dk dtk_X5_ownFailure 47 rfl) rfl rfl ?_
        refine T_getR o 0 60 (dk dtk_X5_ownFailure 48 rfl) kfl_X5_11 (kk_M0 ho) (kl_M0 hq ho) (by decide) rfl (kr_M_0 ho) ?_
        refine T_getI 60 5 (dk dtk_X5_ownFailure 49 rfl) kfl_X5_149 kk_60 (kl_60 hq) (by decide) rfl ?_
        refine T_if_eq 91 (dk dtk_X5_ownFailure 50 rfl) (by decide) (fun c9 => ?_) (fun c9 => ?_)
        · have h := h.1 c9
          refine T_iload_n 4 (dk dtk_X5_ownFailure 53 rfl) rfl rfl ?_
          refine T_bipush (v := 18) (dk dtk_X5_ownFailure 54 rfl) (by decide +kernel) ?_
          refine T_icmp_ne 104 (dk dtk_X5_ownFailure 55 rfl) (by decide) (fun c10 => ?_) (fun c10 => ?_)
          · have h := h.1 c10
            exact T_sub [1, 2, 3, 4, 0] rfl h
          · have h := h.2 c10
            refine T_iload 0 (dk dtk_X5_ownFailure 56 rfl) rfl ?_
            refine T_if_ne 104 (dk dtk_X5_ownFailure 57 rfl) (by decide) (fun c11 => ?_) (fun c11 => ?_)
            · have h := h.1 c11
              exact T_sub [1, 2, 3, 4, 0] rfl h
            · have h := h.2 c11
              refine T_iconst (v := 5) (dk dtk_X5_ownFailure 58 rfl) (by decide +kernel) ?_
              exact KT_iret (dk dtk_X5_ownFailure 59 rfl) rfl rfl h
        · have h := h.2 c9
          refine T_iconst (v := 1) (dk dtk_X5_ownFailure 51 rfl) (by decide +kernel) ?_
          exact KT_iret (dk dtk_X5_ownFailure 52 rfl) rfl rfl h
      · have h := h.2 c3
        refine T_aload_n 0 (dk dtk_X5_ownFailure 21 rfl) rfl rfl ?_
        refine T_iload_n 1 (dk dtk_X5_ownFailure 22 rfl) rfl rfl ?_
        refine T_iconst (v := 2) (dk dtk_X5_ownFailure 23 rfl) (by decide +kernel) ?_
        refine T_aload_n 0 (dk dtk_X5_ownFailure 24 rfl) rfl rfl ?_
        refine T_getR o 1 80 (dk dtk_X5_ownFailure 25 rfl) kfl_X5_21 (kk_M0 ho) (kl_M0 hq ho) (by decide) rfl (kr_M_1 ho) ?_
        refine T_getR 80 3 84 (dk dtk_X5_ownFailure 26 rfl) kfl_X5_182 kk_80 (kl_80 hq) (by decide) rfl kr_80_3 ?_
        refine T_iload_n 2 (dk dtk_X5_ownFailure 27 rfl) rfl rfl ?_
        obtain ⟨h12, h⟩ := h
        refine T_iald 84 400 (dk dtk_X5_ownFailure 28 rfl) kk_84 (kl_84 hq) h12 ?_
        refine T_sub (lv2 := []) [] rfl ?_
        refine KC_Vv [vi l1, vi 2, vi (x.1 84 (l2 : Int32).toNatClampNeg)] [] rfl (dk dtk_X5_ownFailure 29 rfl) kcv_X5_117 rfl (kk_M0 ho) rfl (kl_M0 hq ho) (Nat.le_of_ble_eq_true rfl) (Nat.le_of_ble_eq_true rfl) (gok_i av_n as_n) rfl h (fun x13 h => ?_)
        refine T_iconst (v := 0) (dk dtk_X5_ownFailure 30 rfl) (by decide +kernel) ?_
        exact KT_iret (dk dtk_X5_ownFailure 31 rfl) rfl rfl h
    · have h := h.2 c2
      exact T_sub [0, 1] rfl h
set_option maxRecDepth 100000 in
set_option maxHeartbeats 4000000 in
theorem kg_X5_ownFailure_12 {G : kG} {q : kP} {d : Nat} {x : gd} {P : Option gv → gd → Prop} (hq : kV q) {o : Nat} (ho : kiM q o) (l1 : Int32)
    (h : KT G q d zk_X5_set 0 [(0, vr o), (1, vi l1), (2, vi 0), (3, vi 2)] [] x (rv (fun x1 => KT G q d zk_X5_set 0 [(0, vr o), (1, vi l1), (2, vi 2), (3, vi 0)] [] x1 (rv (fun x2 => P (some (vi 0)) x2))))) :
    KT G q (d + 1) zk_X5_ownFailure 12 [(0, vr o), (1, vi l1)] [] x P := by
  refine T_aload_n 0 (dk dtk_X5_ownFailure 6 rfl) rfl rfl ?_
  refine T_iload_n 1 (dk dtk_X5_ownFailure 7 rfl) rfl rfl ?_
  refine T_iconst (v := 0) (dk dtk_X5_ownFailure 8 rfl) (by decide +kernel) ?_
  refine T_iconst (v := 2) (dk dtk_X5_ownFailure 9 rfl) (by decide +kernel) ?_
  refine KC_Vv [vi l1, vi 0, vi 2] [] rfl (dk dtk_X5_ownFailure 10 rfl) kcv_X5_117 rfl (kk_M0 ho) rfl (kl_M0 hq ho) (Nat.le_of_ble_eq_true rfl) (Nat.le_of_ble_eq_true rfl) (gok_i (av_c (gkr (kl_M0 hq ho)) (av_c rfl av_n)) as_n) rfl h (fun x1 h => ?_)
  refine T_aload_n 0 (dk dtk_X5_ownFailure 11 rfl) rfl rfl ?_
  refine T_iload_n 1 (dk dtk_X5_ownFailure 12 rfl) rfl rfl ?_
  refine T_iconst (v := 2) (dk dtk_X5_ownFailure 13 rfl) (by decide +kernel) ?_
  refine T_iconst (v := 0) (dk dtk_X5_ownFailure 14 rfl) (by decide +kernel) ?_
  refine T_sub (lv2 := []) [] rfl ?_
  refine KC_Vv [vi l1, vi 2, vi 0] [] rfl (dk dtk_X5_ownFailure 15 rfl) kcv_X5_117 rfl (kk_M0 ho) rfl (kl_M0 hq ho) (Nat.le_of_ble_eq_true rfl) (Nat.le_of_ble_eq_true rfl) (gok_i av_n as_n) rfl h (fun x2 h => ?_)
  refine T_iconst (v := 0) (dk dtk_X5_ownFailure 16 rfl) (by decide +kernel) ?_
  exact KT_iret (dk dtk_X5_ownFailure 17 rfl) rfl rfl h
set_option maxRecDepth 100000 in
set_option maxHeartbeats 4000000 in
theorem kg_X5_ownFailure_104 {G : kG} {q : kP} {d : Nat} {x : gd} {P : Option gv → gd → Prop} (hq : kV q) {o : Nat} (ho : kiM q o) (l1 : Int32) (l2 : Int32) (l3 : Int32) (l4 : Int32)
    (h : ((¬ (l3 = (16 : Int32)) → KT G q (d + 1) zk_X5_ownFailure 129 [(0, vr o), (1, vi l1), (2, vi l2), (3, vi l3), (4, vi l4)] [] x P) ∧ (l3 = (16 : Int32) → vp_in l2 400 ∧ KT G q d zk_X5_set 0 [(0, vr o), (1, vi l1), (2, vi (8 + (x.1 84 (l2 : Int32).toNatClampNeg))), (3, vi l4)] [] x (rv (fun x3 => KT G q (d + 1) zk_X5_ownFailure 129 [(0, vr o), (1, vi l1), (2, vi l2), (3, vi l3), (4, vi l4)] [] x3 P))))) :
    KT G q (d + 1) zk_X5_ownFailure 104 [(0, vr o), (1, vi l1), (2, vi l2), (3, vi l3), (4, vi l4)] [] x P := by
  refine T_iload_n 3 (dk dtk_X5_ownFailure 60 rfl) rfl rfl ?_
  refine T_bipush (v := 16) (dk dtk_X5_ownFailure 61 rfl) (by decide +kernel) ?_
  refine T_icmp_ne 129 (dk dtk_X5_ownFailure 62 rfl) (by decide) (fun c1 => ?_) (fun c1 => ?_)
  · have h := h.1 c1
    exact h
  · have h := h.2 c1
    refine T_aload_n 0 (dk dtk_X5_ownFailure 63 rfl) rfl rfl ?_
    refine T_iload_n 1 (dk dtk_X5_ownFailure 64 rfl) rfl rfl ?_
    refine T_bipush (v := 8) (dk dtk_X5_ownFailure 65 rfl) (by decide +kernel) ?_
    refine T_aload_n 0 (dk dtk_X5_ownFailure 66 rfl) rfl rfl ?_
    refine T_getR o 1 80 (dk dtk_X5_ownFailure 67 rfl) kfl_X5_21 (kk_M0 ho) (kl_M0 hq ho) (by decide) rfl (kr_M_1 ho) ?_
    refine T_getR 80 3 84 (dk dtk_X5_ownFailure 68 rfl) kfl_X5_182 kk_80 (kl_80 hq) (by decide) rfl kr_80_3 ?_
    refine T_iload_n 2 (dk dtk_X5_ownFailure 69 rfl) rfl rfl ?_
    obtain ⟨h2, h⟩ := h
    refine T_iald 84 400 (dk dtk_X5_ownFailure 70 rfl) kk_84 (kl_84 hq) h2 ?_
    refine T_iadd (dk dtk_X5_ownFailure 71 rfl) ?_
    refine T_iload 4 (dk dtk_X5_ownFailure 72 rfl) rfl ?_
    refine KC_Vv [vi l1, vi (8 + (x.1 84 (l2 : Int32).toNatClampNeg)), vi l4] [] rfl (dk dtk_X5_ownFailure 73 rfl) kcv_X5_117 rfl (kk_M0 ho) rfl (kl_M0 hq ho) (Nat.le_of_ble_eq_true rfl) (Nat.le_of_ble_eq_true rfl) (gok_i (av_c (gkr (kl_M0 hq ho)) (av_c rfl (av_c rfl (av_c rfl (av_c rfl av_n))))) as_n) rfl h (fun x3 h => ?_)
    exact h
set_option maxRecDepth 100000 in
set_option maxHeartbeats 4000000 in
theorem kg_X5_ownFailure_129 {G : kG} {q : kP} {d : Nat} {x : gd} {P : Option gv → gd → Prop} (hq : kV q) {o : Nat} (ho : kiM q o) (l1 : Int32) (l2 : Int32) (l3 : Int32) (l4 : Int32)
    (h : ((¬ (l3 = (17 : Int32)) → KT G q (d + 1) zk_X5_ownFailure 158 [] [vi (l2 + 1), vi 2, vi l1, vr o] x P) ∧ (l3 = (17 : Int32) → ((¬ (l4 = (0 : Int32)) → KT G q (d + 1) zk_X5_ownFailure 158 [] [vi (l2 + 1), vi 2, vi l1, vr o] x P) ∧ (l4 = (0 : Int32) → vp_in l2 400 ∧ KT G q (d + 1) zk_X5_ownFailure 158 [] [vi (x.1 84 (l2 : Int32).toNatClampNeg), vi 2, vi l1, vr o] x P))))) :
    KT G q (d + 1) zk_X5_ownFailure 129 [(0, vr o), (1, vi l1), (2, vi l2), (3, vi l3), (4, vi l4)] [] x P := by
  refine T_aload_n 0 (dk dtk_X5_ownFailure 74 rfl) rfl rfl ?_
  refine T_iload_n 1 (dk dtk_X5_ownFailure 75 rfl) rfl rfl ?_
  refine T_iconst (v := 2) (dk dtk_X5_ownFailure 76 rfl) (by decide +kernel) ?_
  refine T_iload_n 3 (dk dtk_X5_ownFailure 77 rfl) rfl rfl ?_
  refine T_bipush (v := 17) (dk dtk_X5_ownFailure 78 rfl) (by decide +kernel) ?_
  refine T_icmp_ne 155 (dk dtk_X5_ownFailure 79 rfl) (by decide) (fun c1 => ?_) (fun c1 => ?_)
  · have h := h.1 c1
    refine T_iload_n 2 (dk dtk_X5_ownFailure 88 rfl) rfl rfl ?_
    refine T_iconst (v := 1) (dk dtk_X5_ownFailure 89 rfl) (by decide +kernel) ?_
    refine T_iadd (dk dtk_X5_ownFailure 90 rfl) ?_
    exact T_sub [] rfl h
  · have h := h.2 c1
    refine T_iload 4 (dk dtk_X5_ownFailure 80 rfl) rfl ?_
    refine T_if_ne 155 (dk dtk_X5_ownFailure 81 rfl) (by decide) (fun c2 => ?_) (fun c2 => ?_)
    · have h := h.1 c2
      refine T_iload_n 2 (dk dtk_X5_ownFailure 88 rfl) rfl rfl ?_
      refine T_iconst (v := 1) (dk dtk_X5_ownFailure 89 rfl) (by decide +kernel) ?_
      refine T_iadd (dk dtk_X5_ownFailure 90 rfl) ?_
      exact T_sub [] rfl h
    · have h := h.2 c2
      refine T_aload_n 0 (dk dtk_X5_ownFailure 82 rfl) rfl rfl ?_
      refine T_getR o 1 80 (dk dtk_X5_ownFailure 83 rfl) kfl_X5_21 (kk_M0 ho) (kl_M0 hq ho) (by decide) rfl (kr_M_1 ho) ?_
      refine T_getR 80 3 84 (dk dtk_X5_ownFailure 84 rfl) kfl_X5_182 kk_80 (kl_80 hq) (by decide) rfl kr_80_3 ?_
      refine T_iload_n 2 (dk dtk_X5_ownFailure 85 rfl) rfl rfl ?_
      obtain ⟨h3, h⟩ := h
      refine T_iald 84 400 (dk dtk_X5_ownFailure 86 rfl) kk_84 (kl_84 hq) h3 ?_
      refine T_goto 158 (dk dtk_X5_ownFailure 87 rfl) (by decide) ?_
      exact T_sub [] rfl h
set_option maxRecDepth 100000 in
set_option maxHeartbeats 4000000 in
theorem kg_X5_ownFailure_158 {G : kG} {q : kP} {d : Nat} {x : gd} {P : Option gv → gd → Prop} (hq : kV q) {o : Nat} (ho : kiM q o) (s0 : Int32) (s1 : Int32) (s2 : Int32)
    (h : KT G q d zk_X5_set 0 [(0, vr o), (1, vi s2), (2, vi s1), (3, vi s0)] [] x (rv (fun x1 => P (some (vi 0)) x1))) :
    KT G q (d + 1) zk_X5_ownFailure 158 [] [vi s0, vi s1, vi s2, vr o] x P := by
  refine KC_Vv [vi s2, vi s1, vi s0] [] rfl (dk dtk_X5_ownFailure 91 rfl) kcv_X5_117 rfl (kk_M0 ho) rfl (kl_M0 hq ho) (Nat.le_of_ble_eq_true rfl) (Nat.le_of_ble_eq_true rfl) (gok_i av_n as_n) rfl h (fun x1 h => ?_)
  refine T_iconst (v := 0) (dk dtk_X5_ownFailure 92 rfl) (by decide +kernel) ?_
  exact KT_iret (dk dtk_X5_ownFailure 93 rfl) rfl rfl h
set_option maxRecDepth 100000 in
theorem dtk_X5_fail : dck cX5_fail [(0, .aload_n 0, 1), (1, .iload_n 1, 1), (2, .iconst 0, 1), (3, .iconst 3, 1), (4, .invokevirtual 117, 3), (7, .aload_n 0, 1), (8, .iload_n 1, 1), (9, .iconst 1, 1), (10, .iload_n 2, 1), (11, .invokevirtual 117, 3), (14, .return_, 1)] = true := by decide +kernel
set_option maxRecDepth 100000 in
set_option maxHeartbeats 4000000 in
theorem kg_X5_fail_0 {G : kG} {q : kP} {d : Nat} {x : gd} {P : Option gv → gd → Prop} (hq : kV q) {o : Nat} (ho : kiM q o) (l1 : Int32) (l2 : Int32)
    (h : KT G q d zk_X5_set 0 [(0, vr o), (1, vi l1), (2, vi 0), (3, vi 3)] [] x (rv (fun x1 => KT G q d zk_X5_set 0 [(0, vr o), (1, vi l1), (2, vi 1), (3, vi l2)] [] x1 (rv (fun x2 => P none x2))))) :
    KT G q (d + 1) zk_X5_fail 0 [(0, vr o), (1, vi l1), (2, vi l2)] [] x P := by
  refine T_aload_n 0 (dk dtk_X5_fail 0 rfl) rfl rfl ?_
  refine T_iload_n 1 (dk dtk_X5_fail 1 rfl) rfl rfl ?_
  refine T_iconst (v := 0) (dk dtk_X5_fail 2 rfl) (by decide +kernel) ?_
  refine T_iconst (v := 3) (dk dtk_X5_fail 3 rfl) (by decide +kernel) ?_
  refine KC_Vv [vi l1, vi 0, vi 3] [] rfl (dk dtk_X5_fail 4 rfl) kcv_X5_117 rfl (kk_M0 ho) rfl (kl_M0 hq ho) (Nat.le_of_ble_eq_true rfl) (Nat.le_of_ble_eq_true rfl) (gok_i (av_c (gkr (kl_M0 hq ho)) (av_c rfl (av_c rfl av_n))) as_n) rfl h (fun x1 h => ?_)
  refine T_aload_n 0 (dk dtk_X5_fail 5 rfl) rfl rfl ?_
  refine T_iload_n 1 (dk dtk_X5_fail 6 rfl) rfl rfl ?_
  refine T_iconst (v := 1) (dk dtk_X5_fail 7 rfl) (by decide +kernel) ?_
  refine T_iload_n 2 (dk dtk_X5_fail 8 rfl) rfl rfl ?_
  refine T_sub (lv2 := []) [] rfl ?_
  refine KC_Vv [vi l1, vi 1, vi l2] [] rfl (dk dtk_X5_fail 9 rfl) kcv_X5_117 rfl (kk_M0 ho) rfl (kl_M0 hq ho) (Nat.le_of_ble_eq_true rfl) (Nat.le_of_ble_eq_true rfl) (gok_i av_n as_n) rfl h (fun x2 h => ?_)
  exact KT_vret (dk dtk_X5_fail 10 rfl) rfl h
set_option maxRecDepth 100000 in
theorem dtk_X5_mix : dck cX5_mix [(0, .aload_n 0, 1), (1, .iconst 0, 1), (2, .iconst 0, 1), (3, .aload_n 0, 1), (4, .getfield 55, 3), (7, .invokevirtual 268, 3), (10, .istore_n 1, 1), (11, .iconst 0, 1), (12, .istore_n 2, 1), (13, .iload_n 2, 1), (14, .aload_n 0, 1), (15, .getfield 11, 3), (18, .getfield 67, 3), (21, .if_icmp .ge 31, 3), (24, .aload_n 0, 1), (25, .iload_n 1, 1), (26, .aload_n 0, 1), (27, .getfield 55, 3), (30, .iload_n 2, 1), (31, .aload_n 0, 1), (32, .getfield 64, 3), (35, .imul, 1), (36, .iadd, 1), (37, .aload_n 0, 1), (38, .iload_n 2, 1), (39, .invokevirtual 271, 3), (42, .invokevirtual 268, 3), (45, .istore_n 1, 1), (46, .iinc 2 1, 3), (49, .goto (-36), 3), (52, .iload_n 1, 1), (53, .ireturn, 1)] = true := by decide +kernel
set_option maxRecDepth 100000 in
set_option maxHeartbeats 4000000 in
theorem kg_X5_mix_0 {G : kG} {q : kP} {d : Nat} {x : gd} {P : Option gv → gd → Prop} (hq : kV q) {o : Nat} (ho : kiM q o)
    (h : KT G q d zk_X5_mixPart 0 [(0, vr o), (1, vi 0), (2, vi 0), (3, vi (x.1 o 7))] [] x (ri (fun r2 x1 => KT G q (d + 1) zk_X5_mix 13 [(0, vr o), (1, vi r2), (2, vi 0)] [] x1 P))) :
    KT G q (d + 1) zk_X5_mix 0 [(0, vr o)] [] x P := by
  refine T_aload_n 0 (dk dtk_X5_mix 0 rfl) rfl rfl ?_
  refine T_iconst (v := 0) (dk dtk_X5_mix 1 rfl) (by decide +kernel) ?_
  refine T_iconst (v := 0) (dk dtk_X5_mix 2 rfl) (by decide +kernel) ?_
  refine T_aload_n 0 (dk dtk_X5_mix 3 rfl) rfl rfl ?_
  refine T_getI o 7 (dk dtk_X5_mix 4 rfl) kfl_X5_55 (kk_M0 ho) (kl_M0 hq ho) (by decide) rfl ?_
  refine KC_Vi [vi 0, vi 0, vi (x.1 o 7)] [] rfl (dk dtk_X5_mix 5 rfl) kcv_X5_268 rfl (kk_M0 ho) rfl (kl_M0 hq ho) (Nat.le_of_ble_eq_true rfl) (Nat.le_of_ble_eq_true rfl) (gok_i (av_c (gkr (kl_M0 hq ho)) av_n) as_n) rfl h (fun r2 x1 h => ?_)
  refine T_istore_n (lv2 := [(1, vi r2), (0, vr o)]) (dk dtk_X5_mix 6 rfl) rfl (by decide) rfl ?_
  refine T_iconst (v := 0) (dk dtk_X5_mix 7 rfl) (by decide +kernel) ?_
  refine T_istore_n (lv2 := [(2, vi 0), (1, vi r2), (0, vr o)]) (dk dtk_X5_mix 8 rfl) rfl (by decide) rfl ?_
  exact T_sub [2, 1, 0] rfl h
set_option maxRecDepth 100000 in
set_option maxHeartbeats 4000000 in
theorem kg_X5_mix_13 {G : kG} {q : kP} {d : Nat} {x : gd} {P : Option gv → gd → Prop} (hq : kV q) {o : Nat} (ho : kiM q o) (l1 : Int32) (l2 : Int32)
    (h : (((x.1 60 10) ≤ l2 → P (some (vi l1)) x) ∧ (¬ ((x.1 60 10) ≤ l2) → KT G q d zk_X5_usedOf 0 [(0, vr o), (1, vi l2)] [] x (ri (fun r3 x2 => KT G q d zk_X5_mixPart 0 [(0, vr o), (1, vi l1), (2, vi ((x.1 o 7) + (l2 * (x.1 o 8)))), (3, vi r3)] [] x2 (ri (fun r5 x4 => KT G q (d + 1) zk_X5_mix 13 [(0, vr o), (1, vi r5), (2, vi (l2 + 1))] [] x4 P))))))) :
    KT G q (d + 1) zk_X5_mix 13 [(0, vr o), (1, vi l1), (2, vi l2)] [] x P := by
  refine T_iload_n 2 (dk dtk_X5_mix 9 rfl) rfl rfl ?_
  refine T_aload_n 0 (dk dtk_X5_mix 10 rfl) rfl rfl ?_
  refine T_getR o 0 60 (dk dtk_X5_mix 11 rfl) kfl_X5_11 (kk_M0 ho) (kl_M0 hq ho) (by decide) rfl (kr_M_0 ho) ?_
  refine T_getI 60 10 (dk dtk_X5_mix 12 rfl) kfl_X5_67 kk_60 (kl_60 hq) (by decide) rfl ?_
  refine T_icmp_ge 52 (dk dtk_X5_mix 13 rfl) (by decide) (fun c1 => ?_) (fun c1 => ?_)
  · have h := h.1 c1
    refine T_iload_n 1 (dk dtk_X5_mix 30 rfl) rfl rfl ?_
    exact KT_iret (dk dtk_X5_mix 31 rfl) rfl rfl h
  · have h := h.2 c1
    refine T_aload_n 0 (dk dtk_X5_mix 14 rfl) rfl rfl ?_
    refine T_iload_n 1 (dk dtk_X5_mix 15 rfl) rfl rfl ?_
    refine T_aload_n 0 (dk dtk_X5_mix 16 rfl) rfl rfl ?_
    refine T_getI o 7 (dk dtk_X5_mix 17 rfl) kfl_X5_55 (kk_M0 ho) (kl_M0 hq ho) (by decide) rfl ?_
    refine T_iload_n 2 (dk dtk_X5_mix 18 rfl) rfl rfl ?_
    refine T_aload_n 0 (dk dtk_X5_mix 19 rfl) rfl rfl ?_
    refine T_getI o 8 (dk dtk_X5_mix 20 rfl) kfl_X5_64 (kk_M0 ho) (kl_M0 hq ho) (by decide) rfl ?_
    refine T_imul (dk dtk_X5_mix 21 rfl) ?_
    refine T_iadd (dk dtk_X5_mix 22 rfl) ?_
    refine T_aload_n 0 (dk dtk_X5_mix 23 rfl) rfl rfl ?_
    refine T_iload_n 2 (dk dtk_X5_mix 24 rfl) rfl rfl ?_
    refine T_sub (lv2 := [(0, vr o), (2, vi l2)]) [0, 2] rfl ?_
    refine KC_Vi [vi l2] [vi ((x.1 o 7) + (l2 * (x.1 o 8))), vi l1, vr o] rfl (dk dtk_X5_mix 25 rfl) kcv_X5_271 rfl (kk_M0 ho) rfl (kl_M0 hq ho) (Nat.le_of_ble_eq_true rfl) (Nat.le_of_ble_eq_true rfl) (gok_i (av_c (gkr (kl_M0 hq ho)) (av_c rfl av_n)) (as_c rfl (as_c rfl (as_c (gkr (kl_M0 hq ho)) as_n)))) rfl h (fun r3 x2 h => ?_)
    refine KC_Vi [vi l1, vi ((x.1 o 7) + (l2 * (x.1 o 8))), vi r3] [] rfl (dk dtk_X5_mix 26 rfl) kcv_X5_268 rfl (kk_M0 ho) rfl (kl_M0 hq ho) (Nat.le_of_ble_eq_true rfl) (Nat.le_of_ble_eq_true rfl) (gok_i (av_c (gkr (kl_M0 hq ho)) (av_c rfl av_n)) as_n) rfl h (fun r5 x4 h => ?_)
    refine T_istore_n (lv2 := [(1, vi r5), (0, vr o), (2, vi l2)]) (dk dtk_X5_mix 27 rfl) rfl (by decide) rfl ?_
    refine T_iinc (v := l2 + 1) (lv2 := [(2, vi (l2 + 1)), (1, vi r5), (0, vr o)]) 2 (dk dtk_X5_mix 28 rfl) rfl rfl (by decide) rfl ?_
    refine T_goto 13 (dk dtk_X5_mix 29 rfl) (by decide) ?_
    exact T_sub [2, 1, 0] rfl h
set_option maxRecDepth 100000 in
theorem dtk_X5_mixPart : dck cX5_mixPart [(0, .iload_n 1, 1), (1, .istore 4, 2), (3, .iload_n 2, 1), (4, .istore 5, 2), (6, .iload 5, 2), (8, .iload_n 2, 1), (9, .iload_n 3, 1), (10, .iadd, 1), (11, .if_icmp .ge 35, 3), (14, .iload 4, 2), (16, .aload_n 0, 1), (17, .getfield 29, 3), (20, .iload 5, 2), (22, .iaload, 1), (23, .ixor, 1), (24, .ldc_w 274, 3), (27, .imul, 1), (28, .istore 4, 2), (30, .iload 4, 2), (32, .iload 4, 2), (34, .bipush 15, 2), (36, .iushr, 1), (37, .ixor, 1), (38, .istore 4, 2), (40, .iinc 5 1, 3), (43, .goto (-37), 3), (46, .iload 4, 2), (48, .ireturn, 1)] = true := by decide +kernel
set_option maxRecDepth 100000 in
set_option maxHeartbeats 4000000 in
theorem kg_X5_mixPart_0 {G : kG} {q : kP} {d : Nat} {x : gd} {P : Option gv → gd → Prop} (hq : kV q) {o : Nat} (ho : kiM q o) (l1 : Int32) (l2 : Int32) (l3 : Int32)
    (h : KT G q d zk_X5_mixPart 6 [(0, vr o), (2, vi l2), (3, vi l3), (4, vi l1), (5, vi l2)] [] x P) :
    KT G q d zk_X5_mixPart 0 [(0, vr o), (1, vi l1), (2, vi l2), (3, vi l3)] [] x P := by
  refine T_iload_n 1 (dk dtk_X5_mixPart 0 rfl) rfl rfl ?_
  refine T_istore (lv2 := [(4, vi l1), (0, vr o), (1, vi l1), (2, vi l2), (3, vi l3)]) (dk dtk_X5_mixPart 1 rfl) (by decide) rfl ?_
  refine T_iload_n 3 (dk dtk_X5_mixPart 2 rfl) rfl rfl ?_
  refine T_istore (lv2 := [(5, vi l2), (4, vi l1), (0, vr o), (1, vi l1), (2, vi l2), (3, vi l3)]) (dk dtk_X5_mixPart 3 rfl) (by decide) rfl ?_
  exact T_sub [2, 4, 5, 1, 0] rfl h
set_option maxRecDepth 100000 in
set_option maxHeartbeats 4000000 in
theorem kg_X5_mixPart_6 {G : kG} {q : kP} {d : Nat} {x : gd} {P : Option gv → gd → Prop} (hq : kV q) {o : Nat} (ho : kiM q o) (l2 : Int32) (l3 : Int32) (l4 : Int32) (l5 : Int32)
    (h : (((l2 + l3) ≤ l5 → P (some (vi l4)) x) ∧ (¬ ((l2 + l3) ≤ l5) → vp_in l5 228 ∧ KT G q d zk_X5_mixPart 6 [(0, vr o), (2, vi l2), (3, vi l3), (4, vi (((l4 ^^^ (x.1 (o + 5) (l5 : Int32).toNatClampNeg)) * 16777619) ^^^ ((((l4 ^^^ (x.1 (o + 5) (l5 : Int32).toNatClampNeg)) * 16777619 : Int32).toUInt32 >>> ((15 : Int32).toUInt32 &&& Int32.toUInt32 31)).toInt32))), (5, vi (l5 + 1))] [] x P))) :
    KT G q d zk_X5_mixPart 6 [(0, vr o), (2, vi l2), (3, vi l3), (4, vi l4), (5, vi l5)] [] x P := by
  refine T_iload 4 (dk dtk_X5_mixPart 4 rfl) rfl ?_
  refine T_iload_n 1 (dk dtk_X5_mixPart 5 rfl) rfl rfl ?_
  refine T_iload_n 2 (dk dtk_X5_mixPart 6 rfl) rfl rfl ?_
  refine T_iadd (dk dtk_X5_mixPart 7 rfl) ?_
  refine T_icmp_ge 46 (dk dtk_X5_mixPart 8 rfl) (by decide) (fun c1 => ?_) (fun c1 => ?_)
  · have h := h.1 c1
    refine T_iload 3 (dk dtk_X5_mixPart 26 rfl) rfl ?_
    exact KT_iret (dk dtk_X5_mixPart 27 rfl) rfl rfl h
  · have h := h.2 c1
    refine T_iload 3 (dk dtk_X5_mixPart 9 rfl) rfl ?_
    refine T_aload_n 0 (dk dtk_X5_mixPart 10 rfl) rfl rfl ?_
    refine T_getR o 4 (o + 5) (dk dtk_X5_mixPart 11 rfl) kfl_X5_29 (kk_M0 ho) (kl_M0 hq ho) (by decide) rfl (kr_M_4 ho) ?_
    refine T_iload 4 (dk dtk_X5_mixPart 12 rfl) rfl ?_
    obtain ⟨h2, h⟩ := h
    refine T_iald (o + 5) 228 (dk dtk_X5_mixPart 13 rfl) (kk_M5 ho) (kl_M5 hq ho) h2 ?_
    refine T_ixor (dk dtk_X5_mixPart 14 rfl) ?_
    refine T_ldcw (v := 16777619) (dk dtk_X5_mixPart 15 rfl) kkc_X5_274 ?_
    refine T_imul (dk dtk_X5_mixPart 16 rfl) ?_
    refine T_istore (lv2 := [(4, vi ((l4 ^^^ (x.1 (o + 5) (l5 : Int32).toNatClampNeg)) * 16777619)), (0, vr o), (2, vi l2), (3, vi l3), (5, vi l5)]) (dk dtk_X5_mixPart 17 rfl) (by decide) rfl ?_
    refine T_iload 0 (dk dtk_X5_mixPart 18 rfl) rfl ?_
    refine T_iload 0 (dk dtk_X5_mixPart 19 rfl) rfl ?_
    refine T_bipush (v := 15) (dk dtk_X5_mixPart 20 rfl) (by decide +kernel) ?_
    refine T_iushr (dk dtk_X5_mixPart 21 rfl) ?_
    refine T_ixor (dk dtk_X5_mixPart 22 rfl) ?_
    refine T_istore (lv2 := [(4, vi (((l4 ^^^ (x.1 (o + 5) (l5 : Int32).toNatClampNeg)) * 16777619) ^^^ ((((l4 ^^^ (x.1 (o + 5) (l5 : Int32).toNatClampNeg)) * 16777619 : Int32).toUInt32 >>> ((15 : Int32).toUInt32 &&& Int32.toUInt32 31)).toInt32))), (0, vr o), (2, vi l2), (3, vi l3), (5, vi l5)]) (dk dtk_X5_mixPart 23 rfl) (by decide) rfl ?_
    refine T_iinc (v := l5 + 1) (lv2 := [(5, vi (l5 + 1)), (4, vi (((l4 ^^^ (x.1 (o + 5) (l5 : Int32).toNatClampNeg)) * 16777619) ^^^ ((((l4 ^^^ (x.1 (o + 5) (l5 : Int32).toNatClampNeg)) * 16777619 : Int32).toUInt32 >>> ((15 : Int32).toUInt32 &&& Int32.toUInt32 31)).toInt32))), (0, vr o), (2, vi l2), (3, vi l3)]) 4 (dk dtk_X5_mixPart 24 rfl) rfl rfl (by decide) rfl ?_
    refine T_goto 6 (dk dtk_X5_mixPart 25 rfl) (by decide) ?_
    exact T_sub [2, 3, 4, 1, 0] rfl h
set_option maxRecDepth 100000 in
theorem dtk_X5_usedOf : dck cX5_usedOf [(0, .aload_n 0, 1), (1, .getfield 61, 3), (4, .iconst 2, 1), (5, .aload_n 0, 1), (6, .iload_n 1, 1), (7, .bipush 7, 2), (9, .invokevirtual 90, 3), (12, .imul, 1), (13, .iadd, 1), (14, .ireturn, 1)] = true := by decide +kernel
set_option maxRecDepth 100000 in
set_option maxHeartbeats 4000000 in
theorem kg_X5_usedOf_0 {G : kG} {q : kP} {d : Nat} {x : gd} {P : Option gv → gd → Prop} (hq : kV q) {o : Nat} (ho : kiM q o) (l1 : Int32)
    (h : KT G q d zk_X5_get 0 [(0, vr o), (1, vi l1), (2, vi 7)] [] x (ri (fun r2 x1 => P (some (vi ((x.1 o 9) + (2 * r2)))) x1))) :
    KT G q (d + 1) zk_X5_usedOf 0 [(0, vr o), (1, vi l1)] [] x P := by
  refine T_aload_n 0 (dk dtk_X5_usedOf 0 rfl) rfl rfl ?_
  refine T_getI o 9 (dk dtk_X5_usedOf 1 rfl) kfl_X5_61 (kk_M0 ho) (kl_M0 hq ho) (by decide) rfl ?_
  refine T_iconst (v := 2) (dk dtk_X5_usedOf 2 rfl) (by decide +kernel) ?_
  refine T_aload_n 0 (dk dtk_X5_usedOf 3 rfl) rfl rfl ?_
  refine T_iload_n 1 (dk dtk_X5_usedOf 4 rfl) rfl rfl ?_
  refine T_bipush (v := 7) (dk dtk_X5_usedOf 5 rfl) (by decide +kernel) ?_
  refine T_sub (lv2 := []) [] rfl ?_
  refine KC_Vi [vi l1, vi 7] [vi 2, vi (x.1 o 9)] rfl (dk dtk_X5_usedOf 6 rfl) kcv_X5_90 rfl (kk_M0 ho) rfl (kl_M0 hq ho) (Nat.le_of_ble_eq_true rfl) (Nat.le_of_ble_eq_true rfl) (gok_i av_n (as_c rfl (as_c rfl as_n))) rfl h (fun r2 x1 h => ?_)
  refine T_imul (dk dtk_X5_usedOf 7 rfl) ?_
  refine T_iadd (dk dtk_X5_usedOf 8 rfl) ?_
  exact KT_iret (dk dtk_X5_usedOf 9 rfl) rfl rfl h
end
section
set_option maxRecDepth 100000 in
theorem dtk_X5_isSame : dck cX5_isSame [(0, .aload_n 0, 1), (1, .aload_n 1, 1), (2, .iconst 0, 1), (3, .aload_n 0, 1), (4, .getfield 55, 3), (7, .invokevirtual 275, 3), (10, .istore_n 2, 1), (11, .iconst 0, 1), (12, .istore_n 3, 1), (13, .iload_n 3, 1), (14, .aload_n 0, 1), (15, .getfield 11, 3), (18, .getfield 67, 3), (21, .if_icmp .ge 35, 3), (24, .iload_n 2, 1), (25, .ifCond .eq 31, 3), (28, .aload_n 0, 1), (29, .aload_n 1, 1), (30, .aload_n 0, 1), (31, .getfield 55, 3), (34, .iload_n 3, 1), (35, .aload_n 0, 1), (36, .getfield 64, 3), (39, .imul, 1), (40, .iadd, 1), (41, .aload_n 0, 1), (42, .iload_n 3, 1), (43, .invokevirtual 271, 3), (46, .invokevirtual 275, 3), (49, .istore_n 2, 1), (50, .iinc 3 1, 3), (53, .goto (-40), 3), (56, .iload_n 2, 1), (57, .ireturn, 1)] = true := by decide +kernel
set_option maxRecDepth 100000 in
set_option maxHeartbeats 4000000 in
theorem kg_X5_isSame_0 {G : kG} {q : kP} {d : Nat} {x : gd} {P : Option gv → gd → Prop} (hq : kV q) {o : Nat} (ho : kiM q o) {a1 n1 : Nat} (ka1 : kK a1 = .inr (.int, n1)) (ma1 : a1 ∈ (kf q).2.1)
    (h : KT G q d zk_X5_isSamePart 0 [(0, vr o), (1, vr a1), (2, vi 0), (3, vi (x.1 o 7))] [] x (ri (fun r2 x1 => KT G q (d + 1) zk_X5_isSame 13 [(0, vr o), (1, vr a1), (2, vi r2), (3, vi 0)] [] x1 P))) :
    KT G q (d + 1) zk_X5_isSame 0 [(0, vr o), (1, vr a1)] [] x P := by
  refine T_aload_n 0 (dk dtk_X5_isSame 0 rfl) rfl rfl ?_
  refine T_aload_n 1 (dk dtk_X5_isSame 1 rfl) rfl rfl ?_
  refine T_iconst (v := 0) (dk dtk_X5_isSame 2 rfl) (by decide +kernel) ?_
  refine T_aload_n 0 (dk dtk_X5_isSame 3 rfl) rfl rfl ?_
  refine T_getI o 7 (dk dtk_X5_isSame 4 rfl) kfl_X5_55 (kk_M0 ho) (kl_M0 hq ho) (by decide) rfl ?_
  refine KC_Vi [vr a1, vi 0, vi (x.1 o 7)] [] rfl (dk dtk_X5_isSame 5 rfl) kcv_X5_275 rfl (kk_M0 ho) rfl (kl_M0 hq ho) (Nat.le_of_ble_eq_true rfl) (Nat.le_of_ble_eq_true rfl) (gok_i (av_c (gkr (kl_M0 hq ho)) (av_c (gkr ma1) av_n)) as_n) rfl h (fun r2 x1 h => ?_)
  refine T_istore_n (lv2 := [(2, vi r2), (0, vr o), (1, vr a1)]) (dk dtk_X5_isSame 6 rfl) rfl (by decide) rfl ?_
  refine T_iconst (v := 0) (dk dtk_X5_isSame 7 rfl) (by decide +kernel) ?_
  refine T_istore_n (lv2 := [(3, vi 0), (2, vi r2), (0, vr o), (1, vr a1)]) (dk dtk_X5_isSame 8 rfl) rfl (by decide) rfl ?_
  exact T_sub [2, 3, 1, 0] rfl h
set_option maxRecDepth 100000 in
set_option maxHeartbeats 4000000 in
theorem kg_X5_isSame_13 {G : kG} {q : kP} {d : Nat} {x : gd} {P : Option gv → gd → Prop} (hq : kV q) {o : Nat} (ho : kiM q o) {a1 n1 : Nat} (ka1 : kK a1 = .inr (.int, n1)) (ma1 : a1 ∈ (kf q).2.1) (l2 : Int32) (l3 : Int32)
    (h : (((x.1 60 10) ≤ l3 → gbool l2 ∧ P (some (vi l2)) x) ∧ (¬ ((x.1 60 10) ≤ l3) → ((l2 = (0 : Int32) → gbool l2 ∧ P (some (vi l2)) x) ∧ (¬ (l2 = (0 : Int32)) → KT G q d zk_X5_usedOf 0 [(0, vr o), (1, vi l3)] [] x (ri (fun r4 x3 => KT G q d zk_X5_isSamePart 0 [(0, vr o), (1, vr a1), (2, vi ((x.1 o 7) + (l3 * (x.1 o 8)))), (3, vi r4)] [] x3 (ri (fun r6 x5 => KT G q (d + 1) zk_X5_isSame 13 [(0, vr o), (1, vr a1), (2, vi r6), (3, vi (l3 + 1))] [] x5 P))))))))) :
    KT G q (d + 1) zk_X5_isSame 13 [(0, vr o), (1, vr a1), (2, vi l2), (3, vi l3)] [] x P := by
  refine T_iload_n 3 (dk dtk_X5_isSame 9 rfl) rfl rfl ?_
  refine T_aload_n 0 (dk dtk_X5_isSame 10 rfl) rfl rfl ?_
  refine T_getR o 0 60 (dk dtk_X5_isSame 11 rfl) kfl_X5_11 (kk_M0 ho) (kl_M0 hq ho) (by decide) rfl (kr_M_0 ho) ?_
  refine T_getI 60 10 (dk dtk_X5_isSame 12 rfl) kfl_X5_67 kk_60 (kl_60 hq) (by decide) rfl ?_
  refine T_icmp_ge 56 (dk dtk_X5_isSame 13 rfl) (by decide) (fun c1 => ?_) (fun c1 => ?_)
  · have h := h.1 c1
    refine T_iload_n 2 (dk dtk_X5_isSame 32 rfl) rfl rfl ?_
    exact KT_iret (dk dtk_X5_isSame 33 rfl) rfl h.1.1 h.2
  · have h := h.2 c1
    refine T_iload_n 2 (dk dtk_X5_isSame 14 rfl) rfl rfl ?_
    refine T_if_eq 56 (dk dtk_X5_isSame 15 rfl) (by decide) (fun c2 => ?_) (fun c2 => ?_)
    · have h := h.1 c2
      refine T_iload_n 2 (dk dtk_X5_isSame 32 rfl) rfl rfl ?_
      exact KT_iret (dk dtk_X5_isSame 33 rfl) rfl h.1.1 h.2
    · have h := h.2 c2
      refine T_aload_n 0 (dk dtk_X5_isSame 16 rfl) rfl rfl ?_
      refine T_aload_n 1 (dk dtk_X5_isSame 17 rfl) rfl rfl ?_
      refine T_aload_n 0 (dk dtk_X5_isSame 18 rfl) rfl rfl ?_
      refine T_getI o 7 (dk dtk_X5_isSame 19 rfl) kfl_X5_55 (kk_M0 ho) (kl_M0 hq ho) (by decide) rfl ?_
      refine T_iload_n 3 (dk dtk_X5_isSame 20 rfl) rfl rfl ?_
      refine T_aload_n 0 (dk dtk_X5_isSame 21 rfl) rfl rfl ?_
      refine T_getI o 8 (dk dtk_X5_isSame 22 rfl) kfl_X5_64 (kk_M0 ho) (kl_M0 hq ho) (by decide) rfl ?_
      refine T_imul (dk dtk_X5_isSame 23 rfl) ?_
      refine T_iadd (dk dtk_X5_isSame 24 rfl) ?_
      refine T_aload_n 0 (dk dtk_X5_isSame 25 rfl) rfl rfl ?_
      refine T_iload_n 3 (dk dtk_X5_isSame 26 rfl) rfl rfl ?_
      refine T_sub (lv2 := [(0, vr o), (1, vr a1), (3, vi l3)]) [0, 1, 3] rfl ?_
      refine KC_Vi [vi l3] [vi ((x.1 o 7) + (l3 * (x.1 o 8))), vr a1, vr o] rfl (dk dtk_X5_isSame 27 rfl) kcv_X5_271 rfl (kk_M0 ho) rfl (kl_M0 hq ho) (Nat.le_of_ble_eq_true rfl) (Nat.le_of_ble_eq_true rfl) (gok_i (av_c (gkr (kl_M0 hq ho)) (av_c (gkr ma1) (av_c rfl av_n))) (as_c rfl (as_c (gkr ma1) (as_c (gkr (kl_M0 hq ho)) as_n)))) rfl h (fun r4 x3 h => ?_)
      refine KC_Vi [vr a1, vi ((x.1 o 7) + (l3 * (x.1 o 8))), vi r4] [] rfl (dk dtk_X5_isSame 28 rfl) kcv_X5_275 rfl (kk_M0 ho) rfl (kl_M0 hq ho) (Nat.le_of_ble_eq_true rfl) (Nat.le_of_ble_eq_true rfl) (gok_i (av_c (gkr (kl_M0 hq ho)) (av_c (gkr ma1) (av_c rfl av_n))) as_n) rfl h (fun r6 x5 h => ?_)
      refine T_istore_n (lv2 := [(2, vi r6), (0, vr o), (1, vr a1), (3, vi l3)]) (dk dtk_X5_isSame 29 rfl) rfl (by decide) rfl ?_
      refine T_iinc (v := l3 + 1) (lv2 := [(3, vi (l3 + 1)), (2, vi r6), (0, vr o), (1, vr a1)]) 3 (dk dtk_X5_isSame 30 rfl) rfl rfl (by decide) rfl ?_
      refine T_goto 13 (dk dtk_X5_isSame 31 rfl) (by decide) ?_
      exact T_sub [2, 3, 1, 0] rfl h
set_option maxRecDepth 100000 in
theorem dtk_X5_isSamePart : dck cX5_isSamePart [(0, .iload_n 2, 1), (1, .istore 4, 2), (3, .iload 4, 2), (5, .iload_n 2, 1), (6, .iload_n 3, 1), (7, .iadd, 1), (8, .if_icmp .ge 25, 3), (11, .aload_n 0, 1), (12, .getfield 29, 3), (15, .iload 4, 2), (17, .iaload, 1), (18, .aload_n 1, 1), (19, .iload 4, 2), (21, .iaload, 1), (22, .if_icmp .eq 5, 3), (25, .iconst 0, 1), (26, .ireturn, 1), (27, .iinc 4 1, 3), (30, .goto (-27), 3), (33, .iconst 1, 1), (34, .ireturn, 1)] = true := by decide +kernel
set_option maxRecDepth 100000 in
set_option maxHeartbeats 4000000 in
theorem kg_X5_isSamePart_0 {G : kG} {q : kP} {d : Nat} {x : gd} {P : Option gv → gd → Prop} (hq : kV q) {o : Nat} (ho : kiM q o) {a1 n1 : Nat} (ka1 : kK a1 = .inr (.int, n1)) (ma1 : a1 ∈ (kf q).2.1) (l2 : Int32) (l3 : Int32)
    (h : KT G q d zk_X5_isSamePart 3 [(0, vr o), (1, vr a1), (2, vi l2), (3, vi l3), (4, vi l2)] [] x P) :
    KT G q d zk_X5_isSamePart 0 [(0, vr o), (1, vr a1), (2, vi l2), (3, vi l3)] [] x P := by
  refine T_iload_n 2 (dk dtk_X5_isSamePart 0 rfl) rfl rfl ?_
  refine T_istore (lv2 := [(4, vi l2), (0, vr o), (1, vr a1), (2, vi l2), (3, vi l3)]) (dk dtk_X5_isSamePart 1 rfl) (by decide) rfl ?_
  exact T_sub [1, 2, 3, 4, 0] rfl h
set_option maxRecDepth 100000 in
set_option maxHeartbeats 4000000 in
theorem kg_X5_isSamePart_3 {G : kG} {q : kP} {d : Nat} {x : gd} {P : Option gv → gd → Prop} (hq : kV q) {o : Nat} (ho : kiM q o) {a1 n1 : Nat} (ka1 : kK a1 = .inr (.int, n1)) (ma1 : a1 ∈ (kf q).2.1) (l2 : Int32) (l3 : Int32) (l4 : Int32)
    (h : (((l2 + l3) ≤ l4 → P (some (vi 1)) x) ∧ (¬ ((l2 + l3) ≤ l4) → vp_in l4 228 ∧ vp_in l4 n1 ∧ (((x.1 (o + 5) (l4 : Int32).toNatClampNeg) = (x.1 a1 (l4 : Int32).toNatClampNeg) → KT G q d zk_X5_isSamePart 3 [(0, vr o), (1, vr a1), (2, vi l2), (3, vi l3), (4, vi (l4 + 1))] [] x P) ∧ (¬ ((x.1 (o + 5) (l4 : Int32).toNatClampNeg) = (x.1 a1 (l4 : Int32).toNatClampNeg)) → P (some (vi 0)) x))))) :
    KT G q d zk_X5_isSamePart 3 [(0, vr o), (1, vr a1), (2, vi l2), (3, vi l3), (4, vi l4)] [] x P := by
  refine T_iload 4 (dk dtk_X5_isSamePart 2 rfl) rfl ?_
  refine T_iload_n 2 (dk dtk_X5_isSamePart 3 rfl) rfl rfl ?_
  refine T_iload_n 3 (dk dtk_X5_isSamePart 4 rfl) rfl rfl ?_
  refine T_iadd (dk dtk_X5_isSamePart 5 rfl) ?_
  refine T_icmp_ge 33 (dk dtk_X5_isSamePart 6 rfl) (by decide) (fun c1 => ?_) (fun c1 => ?_)
  · have h := h.1 c1
    refine T_iconst (v := 1) (dk dtk_X5_isSamePart 19 rfl) (by decide +kernel) ?_
    exact KT_iret (dk dtk_X5_isSamePart 20 rfl) rfl rfl h
  · have h := h.2 c1
    refine T_aload_n 0 (dk dtk_X5_isSamePart 7 rfl) rfl rfl ?_
    refine T_getR o 4 (o + 5) (dk dtk_X5_isSamePart 8 rfl) kfl_X5_29 (kk_M0 ho) (kl_M0 hq ho) (by decide) rfl (kr_M_4 ho) ?_
    refine T_iload 4 (dk dtk_X5_isSamePart 9 rfl) rfl ?_
    obtain ⟨h2, h⟩ := h
    refine T_iald (o + 5) 228 (dk dtk_X5_isSamePart 10 rfl) (kk_M5 ho) (kl_M5 hq ho) h2 ?_
    refine T_aload_n 1 (dk dtk_X5_isSamePart 11 rfl) rfl rfl ?_
    refine T_iload 4 (dk dtk_X5_isSamePart 12 rfl) rfl ?_
    obtain ⟨h3, h⟩ := h
    refine T_iald a1 n1 (dk dtk_X5_isSamePart 13 rfl) ka1 ma1 h3 ?_
    refine T_icmp_eq 27 (dk dtk_X5_isSamePart 14 rfl) (by decide) (fun c4 => ?_) (fun c4 => ?_)
    · have h := h.1 c4
      refine T_iinc (v := l4 + 1) (lv2 := [(4, vi (l4 + 1)), (0, vr o), (1, vr a1), (2, vi l2), (3, vi l3)]) 4 (dk dtk_X5_isSamePart 17 rfl) rfl rfl (by decide) rfl ?_
      refine T_goto 3 (dk dtk_X5_isSamePart 18 rfl) (by decide) ?_
      exact T_sub [1, 2, 3, 4, 0] rfl h
    · have h := h.2 c4
      refine T_iconst (v := 0) (dk dtk_X5_isSamePart 15 rfl) (by decide +kernel) ?_
      exact KT_iret (dk dtk_X5_isSamePart 16 rfl) rfl rfl h
set_option maxRecDepth 100000 in
theorem dtk_X5_blankUnknown : dck cX5_blankUnknown [(0, .aload_n 0, 1), (1, .iload_n 1, 1), (2, .invokevirtual 279, 3), (5, .istore_n 2, 1), (6, .iload_n 2, 1), (7, .aload_n 0, 1), (8, .getfield 11, 3), (11, .getfield 58, 3), (14, .if_icmp .ge 19, 3), (17, .aload_n 0, 1), (18, .iload_n 1, 1), (19, .bipush 8, 2), (21, .iload_n 2, 1), (22, .iadd, 1), (23, .iconst 0, 1), (24, .invokevirtual 117, 3), (27, .iinc 2 1, 3), (30, .goto (-24), 3), (33, .return_, 1)] = true := by decide +kernel
set_option maxRecDepth 100000 in
set_option maxHeartbeats 4000000 in
theorem kg_X5_blankUnknown_0 {G : kG} {q : kP} {d : Nat} {x : gd} {P : Option gv → gd → Prop} (hq : kV q) {o : Nat} (ho : kiM q o) (l1 : Int32)
    (h : KT G q d zk_X5_known 0 [(0, vr o), (1, vi l1)] [] x (ri (fun r2 x1 => KT G q (d + 1) zk_X5_blankUnknown 6 [(0, vr o), (1, vi l1), (2, vi r2)] [] x1 P))) :
    KT G q (d + 1) zk_X5_blankUnknown 0 [(0, vr o), (1, vi l1)] [] x P := by
  refine T_aload_n 0 (dk dtk_X5_blankUnknown 0 rfl) rfl rfl ?_
  refine T_iload_n 1 (dk dtk_X5_blankUnknown 1 rfl) rfl rfl ?_
  refine KC_Vi [vi l1] [] rfl (dk dtk_X5_blankUnknown 2 rfl) kcv_X5_279 rfl (kk_M0 ho) rfl (kl_M0 hq ho) (Nat.le_of_ble_eq_true rfl) (Nat.le_of_ble_eq_true rfl) (gok_i (av_c (gkr (kl_M0 hq ho)) (av_c rfl av_n)) as_n) rfl h (fun r2 x1 h => ?_)
  refine T_istore_n (lv2 := [(2, vi r2), (0, vr o), (1, vi l1)]) (dk dtk_X5_blankUnknown 3 rfl) rfl (by decide) rfl ?_
  exact T_sub [1, 2, 0] rfl h
set_option maxRecDepth 100000 in
set_option maxHeartbeats 4000000 in
theorem kg_X5_blankUnknown_6 {G : kG} {q : kP} {d : Nat} {x : gd} {P : Option gv → gd → Prop} (hq : kV q) {o : Nat} (ho : kiM q o) (l1 : Int32) (l2 : Int32)
    (h : (((x.1 60 13) ≤ l2 → P none x) ∧ (¬ ((x.1 60 13) ≤ l2) → KT G q d zk_X5_set 0 [(0, vr o), (1, vi l1), (2, vi (8 + l2)), (3, vi 0)] [] x (rv (fun x2 => KT G q (d + 1) zk_X5_blankUnknown 6 [(0, vr o), (1, vi l1), (2, vi (l2 + 1))] [] x2 P))))) :
    KT G q (d + 1) zk_X5_blankUnknown 6 [(0, vr o), (1, vi l1), (2, vi l2)] [] x P := by
  refine T_iload_n 2 (dk dtk_X5_blankUnknown 4 rfl) rfl rfl ?_
  refine T_aload_n 0 (dk dtk_X5_blankUnknown 5 rfl) rfl rfl ?_
  refine T_getR o 0 60 (dk dtk_X5_blankUnknown 6 rfl) kfl_X5_11 (kk_M0 ho) (kl_M0 hq ho) (by decide) rfl (kr_M_0 ho) ?_
  refine T_getI 60 13 (dk dtk_X5_blankUnknown 7 rfl) kfl_X5_58 kk_60 (kl_60 hq) (by decide) rfl ?_
  refine T_icmp_ge 33 (dk dtk_X5_blankUnknown 8 rfl) (by decide) (fun c1 => ?_) (fun c1 => ?_)
  · have h := h.1 c1
    exact KT_vret (dk dtk_X5_blankUnknown 18 rfl) rfl h
  · have h := h.2 c1
    refine T_aload_n 0 (dk dtk_X5_blankUnknown 9 rfl) rfl rfl ?_
    refine T_iload_n 1 (dk dtk_X5_blankUnknown 10 rfl) rfl rfl ?_
    refine T_bipush (v := 8) (dk dtk_X5_blankUnknown 11 rfl) (by decide +kernel) ?_
    refine T_iload_n 2 (dk dtk_X5_blankUnknown 12 rfl) rfl rfl ?_
    refine T_iadd (dk dtk_X5_blankUnknown 13 rfl) ?_
    refine T_iconst (v := 0) (dk dtk_X5_blankUnknown 14 rfl) (by decide +kernel) ?_
    refine KC_Vv [vi l1, vi (8 + l2), vi 0] [] rfl (dk dtk_X5_blankUnknown 15 rfl) kcv_X5_117 rfl (kk_M0 ho) rfl (kl_M0 hq ho) (Nat.le_of_ble_eq_true rfl) (Nat.le_of_ble_eq_true rfl) (gok_i (av_c (gkr (kl_M0 hq ho)) (av_c rfl (av_c rfl av_n))) as_n) rfl h (fun x2 h => ?_)
    refine T_iinc (v := l2 + 1) (lv2 := [(2, vi (l2 + 1)), (0, vr o), (1, vi l1)]) 2 (dk dtk_X5_blankUnknown 16 rfl) rfl rfl (by decide) rfl ?_
    refine T_goto 6 (dk dtk_X5_blankUnknown 17 rfl) (by decide) ?_
    exact T_sub [1, 2, 0] rfl h
set_option maxRecDepth 100000 in
theorem dtk_X4_clear : dck cX4_clear [(0, .aload_n 0, 1), (1, .iconst 0, 1), (2, .putfield 61, 3), (5, .aload_n 0, 1), (6, .iconst 0, 1), (7, .putfield 65, 3), (10, .aload_n 0, 1), (11, .iconst 0, 1), (12, .putfield 68, 3), (15, .aload_n 0, 1), (16, .getfield 46, 3), (19, .iconst (-1), 1), (20, .invokestatic 71, 3), (23, .aload_n 0, 1), (24, .getfield 49, 3), (27, .iconst 0, 1), (28, .invokestatic 71, 3), (31, .aload_n 0, 1), (32, .getfield 52, 3), (35, .iconst 0, 1), (36, .invokestatic 71, 3), (39, .aload_n 0, 1), (40, .getfield 55, 3), (43, .iconst 0, 1), (44, .invokestatic 71, 3), (47, .aload_n 0, 1), (48, .getfield 58, 3), (51, .iconst 0, 1), (52, .invokestatic 71, 3), (55, .return_, 1)] = true := by decide +kernel
set_option maxRecDepth 100000 in
set_option maxHeartbeats 4000000 in
theorem kg_X4_clear_0 {G : kG} {q : kP} {d : Nat} {x : gd} {P : Option gv → gd → Prop} (hq : kV q) 
    (h : (∀ x1 : gd, x1 = si x 160 2 0 → (∀ x2 : gd, x2 = si x1 160 3 0 → (∀ x3 : gd, x3 = si x2 160 4 0 → (∀ x4 : gd, x4 = sfl x3 174 (-1) 6 → (∀ x5 : gd, x5 = sfl x4 175 0 36 → (∀ x6 : gd, x6 = sfl x5 176 0 36 → (∀ x7 : gd, x7 = sfl x6 177 0 144 → (∀ x8 : gd, x8 = sfl x7 178 0 36 → P none x8))))))))) :
    KT G q (d + 1) zk_X4_clear 0 [(0, vr 160)] [] x P := by
  refine T_aload_n 0 (dk dtk_X4_clear 0 rfl) rfl rfl ?_
  refine T_iconst (v := 0) (dk dtk_X4_clear 1 rfl) (by decide +kernel) ?_
  obtain ⟨x1, ex1⟩ : ∃ z, z = si x 160 2 0 := ⟨_, rfl⟩
  have h := h x1 ex1
  refine T_putI 160 2 (dk dtk_X4_clear 2 rfl) kfl_X4_61 kk_160 (kl_160 hq) (by decide) rfl ⟨rfl, rfl⟩ ?_
  rw [← ex1]
  refine T_aload_n 0 (dk dtk_X4_clear 3 rfl) rfl rfl ?_
  refine T_iconst (v := 0) (dk dtk_X4_clear 4 rfl) (by decide +kernel) ?_
  obtain ⟨x2, ex2⟩ : ∃ z, z = si x1 160 3 0 := ⟨_, rfl⟩
  have h := h x2 ex2
  refine T_putI 160 3 (dk dtk_X4_clear 5 rfl) kfl_X4_65 kk_160 (kl_160 hq) (by decide) rfl ⟨rfl, rfl⟩ ?_
  rw [← ex2]
  refine T_aload_n 0 (dk dtk_X4_clear 6 rfl) rfl rfl ?_
  refine T_iconst (v := 0) (dk dtk_X4_clear 7 rfl) (by decide +kernel) ?_
  obtain ⟨x3, ex3⟩ : ∃ z, z = si x2 160 4 0 := ⟨_, rfl⟩
  have h := h x3 ex3
  refine T_putI 160 4 (dk dtk_X4_clear 8 rfl) kfl_X4_68 kk_160 (kl_160 hq) (by decide) rfl ⟨rfl, rfl⟩ ?_
  rw [← ex3]
  refine T_aload_n 0 (dk dtk_X4_clear 9 rfl) rfl rfl ?_
  refine T_getR 160 13 174 (dk dtk_X4_clear 10 rfl) kfl_X4_46 kk_160 (kl_160 hq) (by decide) rfl kr_160_13 ?_
  refine T_iconst (v := (-1)) (dk dtk_X4_clear 11 rfl) (by decide +kernel) ?_
  refine KC_Sv (F := fun z => z = sfl x3 174 (-1) 6) [vr 174, vi (-1)] [] rfl (dk dtk_X4_clear 12 rfl) kcs_X4_71 rfl (Nat.le_of_ble_eq_true rfl) (Nat.le_of_ble_eq_true rfl) (gok_i (av_c (gkr (kl_160 hq)) av_n) as_n) rfl (tj_fill 174 6 (-1) kk_174 (kl_174 hq) (by decide) ⟨rfl, none, rfl, rfl, rfl⟩) (fun x4 ex4 => ?_)
  have h := h x4 ex4
  refine T_aload_n 0 (dk dtk_X4_clear 13 rfl) rfl rfl ?_
  refine T_getR 160 14 175 (dk dtk_X4_clear 14 rfl) kfl_X4_49 kk_160 (kl_160 hq) (by decide) rfl kr_160_14 ?_
  refine T_iconst (v := 0) (dk dtk_X4_clear 15 rfl) (by decide +kernel) ?_
  refine KC_Sv (F := fun z => z = sfl x4 175 0 36) [vr 175, vi 0] [] rfl (dk dtk_X4_clear 16 rfl) kcs_X4_71 rfl (Nat.le_of_ble_eq_true rfl) (Nat.le_of_ble_eq_true rfl) (gok_i (av_c (gkr (kl_160 hq)) av_n) as_n) rfl (tj_fill 175 36 0 kk_175 (kl_175 hq) (by decide) ⟨rfl, none, rfl, rfl, rfl⟩) (fun x5 ex5 => ?_)
  have h := h x5 ex5
  refine T_aload_n 0 (dk dtk_X4_clear 17 rfl) rfl rfl ?_
  refine T_getR 160 15 176 (dk dtk_X4_clear 18 rfl) kfl_X4_52 kk_160 (kl_160 hq) (by decide) rfl kr_160_15 ?_
  refine T_iconst (v := 0) (dk dtk_X4_clear 19 rfl) (by decide +kernel) ?_
  refine KC_Sv (F := fun z => z = sfl x5 176 0 36) [vr 176, vi 0] [] rfl (dk dtk_X4_clear 20 rfl) kcs_X4_71 rfl (Nat.le_of_ble_eq_true rfl) (Nat.le_of_ble_eq_true rfl) (gok_i (av_c (gkr (kl_160 hq)) av_n) as_n) rfl (tj_fill 176 36 0 kk_176 (kl_176 hq) (by decide) ⟨rfl, none, rfl, rfl, rfl⟩) (fun x6 ex6 => ?_)
  have h := h x6 ex6
  refine T_aload_n 0 (dk dtk_X4_clear 21 rfl) rfl rfl ?_
  refine T_getR 160 16 177 (dk dtk_X4_clear 22 rfl) kfl_X4_55 kk_160 (kl_160 hq) (by decide) rfl kr_160_16 ?_
  refine T_iconst (v := 0) (dk dtk_X4_clear 23 rfl) (by decide +kernel) ?_
  refine KC_Sv (F := fun z => z = sfl x6 177 0 144) [vr 177, vi 0] [] rfl (dk dtk_X4_clear 24 rfl) kcs_X4_71 rfl (Nat.le_of_ble_eq_true rfl) (Nat.le_of_ble_eq_true rfl) (gok_i (av_c (gkr (kl_160 hq)) av_n) as_n) rfl (tj_fill 177 144 0 kk_177 (kl_177 hq) (by decide) ⟨rfl, none, rfl, rfl, rfl⟩) (fun x7 ex7 => ?_)
  have h := h x7 ex7
  refine T_aload_n 0 (dk dtk_X4_clear 25 rfl) rfl rfl ?_
  refine T_getR 160 17 178 (dk dtk_X4_clear 26 rfl) kfl_X4_58 kk_160 (kl_160 hq) (by decide) rfl kr_160_17 ?_
  refine T_iconst (v := 0) (dk dtk_X4_clear 27 rfl) (by decide +kernel) ?_
  refine T_sub (lv2 := []) [] rfl ?_
  refine KC_Sv (F := fun z => z = sfl x7 178 0 36) [vr 178, vi 0] [] rfl (dk dtk_X4_clear 28 rfl) kcs_X4_71 rfl (Nat.le_of_ble_eq_true rfl) (Nat.le_of_ble_eq_true rfl) (gok_i av_n as_n) rfl (tj_fill 178 36 0 kk_178 (kl_178 hq) (by decide) ⟨rfl, none, rfl, rfl, rfl⟩) (fun x8 ex8 => ?_)
  have h := h x8 ex8
  exact KT_vret (dk dtk_X4_clear 29 rfl) rfl h
set_option maxRecDepth 100000 in
theorem dtk_X4_note : dck cX4_note [(0, .aload_n 0, 1), (1, .getfield 61, 3), (4, .sipush 400, 3), (7, .if_icmp .lt 4, 3), (10, .return_, 1), (11, .aload_n 0, 1), (12, .getfield 17, 3), (15, .aload_n 0, 1), (16, .getfield 61, 3), (19, .iload_n 1, 1), (20, .iastore, 1), (21, .aload_n 0, 1), (22, .dup, 1), (23, .getfield 61, 3), (26, .iconst 1, 1), (27, .iadd, 1), (28, .putfield 61, 3), (31, .aload_n 2, 1), (32, .getfield 77, 3), (35, .iconst (-1), 1), (36, .if_icmp .ne 4, 3), (39, .return_, 1), (40, .aload_n 0, 1), (41, .getfield 65, 3), (44, .istore_n 3, 1), (45, .aload_n 0, 1), (46, .dup, 1), (47, .getfield 65, 3), (50, .iconst 1, 1), (51, .iadd, 1), (52, .putfield 65, 3), (55, .aload_n 0, 1), (56, .getfield 21, 3), (59, .iload_n 3, 1), (60, .aload_n 2, 1), (61, .getfield 77, 3), (64, .iastore, 1), (65, .aload_n 0, 1), (66, .getfield 24, 3), (69, .iload_n 3, 1), (70, .aload_n 2, 1), (71, .getfield 81, 3), (74, .iastore, 1), (75, .aload_n 0, 1), (76, .getfield 27, 3), (79, .iload_n 3, 1), (80, .aload_n 2, 1), (81, .getfield 83, 3), (84, .iastore, 1), (85, .aload_n 0, 1), (86, .getfield 30, 3), (89, .iload_n 3, 1), (90, .aload_n 2, 1), (91, .getfield 85, 3), (94, .iastore, 1), (95, .aload_n 0, 1), (96, .getfield 33, 3), (99, .iload_n 3, 1), (100, .aload_n 2, 1), (101, .getfield 87, 3), (104, .iastore, 1), (105, .aload_n 0, 1), (106, .getfield 36, 3), (109, .iload_n 3, 1), (110, .aload_n 2, 1), (111, .getfield 89, 3), (114, .bastore, 1), (115, .aload_n 2, 1), (116, .getfield 81, 3), (119, .bipush 13, 2), (121, .if_icmp .ne 20, 3), (124, .aload_n 2, 1), (125, .getfield 89, 3), (128, .ifCond .ne 13, 3), (131, .aload_n 0, 1), (132, .dup, 1), (133, .getfield 68, 3), (136, .iconst 1, 1), (137, .iadd, 1), (138, .putfield 68, 3), (141, .aload_n 0, 1), (142, .iload_n 3, 1), (143, .invokevirtual 94, 3), (146, .aload_n 2, 1), (147, .getfield 89, 3), (150, .ifCond .ne 12, 3), (153, .aload_n 0, 1), (154, .iload_n 3, 1), (155, .aload_n 2, 1), (156, .getfield 98, 3), (159, .invokevirtual 101, 3), (162, .aload_n 0, 1), (163, .getfield 40, 3), (166, .iload_n 3, 1), (167, .iload_n 3, 1), (168, .ifCond .ne 7, 3), (171, .iconst 0, 1), (172, .goto 11, 3), (175, .aload_n 0, 1), (176, .getfield 40, 3), (179, .iload_n 3, 1), (180, .iconst 1, 1), (181, .isub, 1), (182, .iaload, 1), (183, .aload_n 0, 1), (184, .iload_n 3, 1), (185, .invokevirtual 105, 3), (188, .iadd, 1), (189, .iastore, 1), (190, .return_, 1)] = true := by decide +kernel
set_option maxRecDepth 100000 in
set_option maxHeartbeats 4000000 in
theorem kg_X4_note_0 {G : kG} {q : kP} {d : Nat} {x : gd} {P : Option gv → gd → Prop} (hq : kV q) (l1 : Int32)
    (h : (((x.1 160 2) < (400 : Int32) → vp_in (x.1 160 2) 400 ∧ (∀ x3 : gd, x3 = si x 162 (x.1 160 2 : Int32).toNatClampNeg l1 → (∀ x4 : gd, x4 = si x3 160 2 ((x3.1 160 2) + 1) → ((¬ ((x4.1 140 0) = (-1 : Int32)) → (∀ x6 : gd, x6 = si x4 160 3 ((x4.1 160 3) + 1) → vp_in (x4.1 160 3) 400 ∧ (∀ x8 : gd, x8 = si x6 166 (x4.1 160 3 : Int32).toNatClampNeg (x6.1 140 0) → vp_in (x4.1 160 3) 400 ∧ (∀ x10 : gd, x10 = si x8 167 (x4.1 160 3 : Int32).toNatClampNeg (x8.1 140 1) → vp_in (x4.1 160 3) 400 ∧ (∀ x12 : gd, x12 = si x10 168 (x4.1 160 3 : Int32).toNatClampNeg (x10.1 140 2) → vp_in (x4.1 160 3) 400 ∧ (∀ x14 : gd, x14 = si x12 169 (x4.1 160 3 : Int32).toNatClampNeg (x12.1 140 3) → vp_in (x4.1 160 3) 400 ∧ (∀ x16 : gd, x16 = si x14 170 (x4.1 160 3 : Int32).toNatClampNeg (x14.1 140 4) → vp_in (x4.1 160 3) 400 ∧ (∀ x18 : gd, x18 = si x16 171 (x4.1 160 3 : Int32).toNatClampNeg (vp_nar .boolean (x16.1 140 5)) → ((¬ ((x18.1 140 1) = (13 : Int32)) → KT G q (d + 1) zk_X4_note 141 [(0, vr 160), (2, vr 140), (3, vi (x4.1 160 3))] [] x18 P) ∧ ((x18.1 140 1) = (13 : Int32) → ((¬ ((x18.1 140 5) = (0 : Int32)) → KT G q (d + 1) zk_X4_note 141 [(0, vr 160), (2, vr 140), (3, vi (x4.1 160 3))] [] x18 P) ∧ ((x18.1 140 5) = (0 : Int32) → (∀ x21 : gd, x21 = si x18 160 4 ((x18.1 160 4) + 1) → KT G q (d + 1) zk_X4_note 141 [(0, vr 160), (2, vr 140), (3, vi (x4.1 160 3))] [] x21 P))))))))))))) ∧ ((x4.1 140 0) = (-1 : Int32) → P none x4))))) ∧ (¬ ((x.1 160 2) < (400 : Int32)) → P none x))) :
    KT G q (d + 1) zk_X4_note 0 [(0, vr 160), (1, vi l1), (2, vr 140)] [] x P := by
  refine T_aload_n 0 (dk dtk_X4_note 0 rfl) rfl rfl ?_
  refine T_getI 160 2 (dk dtk_X4_note 1 rfl) kfl_X4_61 kk_160 (kl_160 hq) (by decide) rfl ?_
  refine T_sipush (v := 400) (dk dtk_X4_note 2 rfl) (by decide +kernel) ?_
  refine T_icmp_lt 11 (dk dtk_X4_note 3 rfl) (by decide) (fun c1 => ?_) (fun c1 => ?_)
  · have h := h.1 c1
    refine T_aload_n 0 (dk dtk_X4_note 5 rfl) rfl rfl ?_
    refine T_getR 160 1 162 (dk dtk_X4_note 6 rfl) kfl_X4_17 kk_160 (kl_160 hq) (by decide) rfl kr_160_1 ?_
    refine T_aload_n 0 (dk dtk_X4_note 7 rfl) rfl rfl ?_
    refine T_getI 160 2 (dk dtk_X4_note 8 rfl) kfl_X4_61 kk_160 (kl_160 hq) (by decide) rfl ?_
    refine T_iload_n 1 (dk dtk_X4_note 9 rfl) rfl rfl ?_
    obtain ⟨h2, h⟩ := h
    obtain ⟨x3, ex3⟩ : ∃ z, z = si x 162 (x.1 160 2 : Int32).toNatClampNeg l1 := ⟨_, rfl⟩
    have h := h x3 ex3
    refine T_iast 162 400 (dk dtk_X4_note 10 rfl) kk_162 (kl_162 hq) h2 ?_
    rw [← ex3]
    refine T_aload_n 0 (dk dtk_X4_note 11 rfl) rfl rfl ?_
    refine T_dup (dk dtk_X4_note 12 rfl) rfl ?_
    refine T_getI 160 2 (dk dtk_X4_note 13 rfl) kfl_X4_61 kk_160 (kl_160 hq) (by decide) rfl ?_
    refine T_iconst (v := 1) (dk dtk_X4_note 14 rfl) (by decide +kernel) ?_
    refine T_iadd (dk dtk_X4_note 15 rfl) ?_
    obtain ⟨x4, ex4⟩ : ∃ z, z = si x3 160 2 ((x3.1 160 2) + 1) := ⟨_, rfl⟩
    have h := h x4 ex4
    refine T_putI 160 2 (dk dtk_X4_note 16 rfl) kfl_X4_61 kk_160 (kl_160 hq) (by decide) rfl ⟨rfl, rfl⟩ ?_
    rw [← ex4]
    refine T_aload_n 2 (dk dtk_X4_note 17 rfl) rfl rfl ?_
    refine T_getI 140 0 (dk dtk_X4_note 18 rfl) kfl_X4_77 kk_140 (kl_140 hq) (by decide) rfl ?_
    refine T_iconst (v := (-1)) (dk dtk_X4_note 19 rfl) (by decide +kernel) ?_
    refine T_icmp_ne 40 (dk dtk_X4_note 20 rfl) (by decide) (fun c5 => ?_) (fun c5 => ?_)
    · have h := h.1 c5
      refine T_aload_n 0 (dk dtk_X4_note 22 rfl) rfl rfl ?_
      refine T_getI 160 3 (dk dtk_X4_note 23 rfl) kfl_X4_65 kk_160 (kl_160 hq) (by decide) rfl ?_
      refine T_istore_n (lv2 := [(3, vi (x4.1 160 3)), (0, vr 160), (1, vi l1), (2, vr 140)]) (dk dtk_X4_note 24 rfl) rfl (by decide) rfl ?_
      refine T_aload_n 1 (dk dtk_X4_note 25 rfl) rfl rfl ?_
      refine T_dup (dk dtk_X4_note 26 rfl) rfl ?_
      refine T_getI 160 3 (dk dtk_X4_note 27 rfl) kfl_X4_65 kk_160 (kl_160 hq) (by decide) rfl ?_
      refine T_iconst (v := 1) (dk dtk_X4_note 28 rfl) (by decide +kernel) ?_
      refine T_iadd (dk dtk_X4_note 29 rfl) ?_
      obtain ⟨x6, ex6⟩ : ∃ z, z = si x4 160 3 ((x4.1 160 3) + 1) := ⟨_, rfl⟩
      have h := h x6 ex6
      refine T_putI 160 3 (dk dtk_X4_note 30 rfl) kfl_X4_65 kk_160 (kl_160 hq) (by decide) rfl ⟨rfl, rfl⟩ ?_
      rw [← ex6]
      refine T_aload_n 1 (dk dtk_X4_note 31 rfl) rfl rfl ?_
      refine T_getR 160 5 166 (dk dtk_X4_note 32 rfl) kfl_X4_21 kk_160 (kl_160 hq) (by decide) rfl kr_160_5 ?_
      refine T_iload_n 0 (dk dtk_X4_note 33 rfl) rfl rfl ?_
      refine T_aload_n 3 (dk dtk_X4_note 34 rfl) rfl rfl ?_
      refine T_getI 140 0 (dk dtk_X4_note 35 rfl) kfl_X4_77 kk_140 (kl_140 hq) (by decide) rfl ?_
      obtain ⟨h7, h⟩ := h
      obtain ⟨x8, ex8⟩ : ∃ z, z = si x6 166 (x4.1 160 3 : Int32).toNatClampNeg (x6.1 140 0) := ⟨_, rfl⟩
      have h := h x8 ex8
      refine T_iast 166 400 (dk dtk_X4_note 36 rfl) kk_166 (kl_166 hq) h7 ?_
      rw [← ex8]
      refine T_aload_n 1 (dk dtk_X4_note 37 rfl) rfl rfl ?_
      refine T_getR 160 6 167 (dk dtk_X4_note 38 rfl) kfl_X4_24 kk_160 (kl_160 hq) (by decide) rfl kr_160_6 ?_
      refine T_iload_n 0 (dk dtk_X4_note 39 rfl) rfl rfl ?_
      refine T_aload_n 3 (dk dtk_X4_note 40 rfl) rfl rfl ?_
      refine T_getI 140 1 (dk dtk_X4_note 41 rfl) kfl_X4_81 kk_140 (kl_140 hq) (by decide) rfl ?_
      obtain ⟨h9, h⟩ := h
      obtain ⟨x10, ex10⟩ : ∃ z, z = si x8 167 (x4.1 160 3 : Int32).toNatClampNeg (x8.1 140 1) := ⟨_, rfl⟩
      have h := h x10 ex10
      refine T_iast 167 400 (dk dtk_X4_note 42 rfl) kk_167 (kl_167 hq) h9 ?_
      rw [← ex10]
      refine T_aload_n 1 (dk dtk_X4_note 43 rfl) rfl rfl ?_
      refine T_getR 160 7 168 (dk dtk_X4_note 44 rfl) kfl_X4_27 kk_160 (kl_160 hq) (by decide) rfl kr_160_7 ?_
      refine T_iload_n 0 (dk dtk_X4_note 45 rfl) rfl rfl ?_
      refine T_aload_n 3 (dk dtk_X4_note 46 rfl) rfl rfl ?_
      refine T_getI 140 2 (dk dtk_X4_note 47 rfl) kfl_X4_83 kk_140 (kl_140 hq) (by decide) rfl ?_
      obtain ⟨h11, h⟩ := h
      obtain ⟨x12, ex12⟩ : ∃ z, z = si x10 168 (x4.1 160 3 : Int32).toNatClampNeg (x10.1 140 2) := ⟨_, rfl⟩
      have h := h x12 ex12
      refine T_iast 168 400 (dk dtk_X4_note 48 rfl) kk_168 (kl_168 hq) h11 ?_
      rw [← ex12]
      refine T_aload_n 1 (dk dtk_X4_note 49 rfl) rfl rfl ?_
      refine T_getR 160 8 169 (dk dtk_X4_note 50 rfl) kfl_X4_30 kk_160 (kl_160 hq) (by decide) rfl kr_160_8 ?_
      refine T_iload_n 0 (dk dtk_X4_note 51 rfl) rfl rfl ?_
      refine T_aload_n 3 (dk dtk_X4_note 52 rfl) rfl rfl ?_
      refine T_getI 140 3 (dk dtk_X4_note 53 rfl) kfl_X4_85 kk_140 (kl_140 hq) (by decide) rfl ?_
      obtain ⟨h13, h⟩ := h
      obtain ⟨x14, ex14⟩ : ∃ z, z = si x12 169 (x4.1 160 3 : Int32).toNatClampNeg (x12.1 140 3) := ⟨_, rfl⟩
      have h := h x14 ex14
      refine T_iast 169 400 (dk dtk_X4_note 54 rfl) kk_169 (kl_169 hq) h13 ?_
      rw [← ex14]
      refine T_aload_n 1 (dk dtk_X4_note 55 rfl) rfl rfl ?_
      refine T_getR 160 9 170 (dk dtk_X4_note 56 rfl) kfl_X4_33 kk_160 (kl_160 hq) (by decide) rfl kr_160_9 ?_
      refine T_iload_n 0 (dk dtk_X4_note 57 rfl) rfl rfl ?_
      refine T_aload_n 3 (dk dtk_X4_note 58 rfl) rfl rfl ?_
      refine T_getI 140 4 (dk dtk_X4_note 59 rfl) kfl_X4_87 kk_140 (kl_140 hq) (by decide) rfl ?_
      obtain ⟨h15, h⟩ := h
      obtain ⟨x16, ex16⟩ : ∃ z, z = si x14 170 (x4.1 160 3 : Int32).toNatClampNeg (x14.1 140 4) := ⟨_, rfl⟩
      have h := h x16 ex16
      refine T_iast 170 400 (dk dtk_X4_note 60 rfl) kk_170 (kl_170 hq) h15 ?_
      rw [← ex16]
      refine T_aload_n 1 (dk dtk_X4_note 61 rfl) rfl rfl ?_
      refine T_getR 160 10 171 (dk dtk_X4_note 62 rfl) kfl_X4_36 kk_160 (kl_160 hq) (by decide) rfl kr_160_10 ?_
      refine T_iload_n 0 (dk dtk_X4_note 63 rfl) rfl rfl ?_
      refine T_aload_n 3 (dk dtk_X4_note 64 rfl) rfl rfl ?_
      refine T_getI 140 5 (dk dtk_X4_note 65 rfl) kfl_X4_89 kk_140 (kl_140 hq) (by decide) rfl ?_
      obtain ⟨h17, h⟩ := h
      obtain ⟨x18, ex18⟩ : ∃ z, z = si x16 171 (x4.1 160 3 : Int32).toNatClampNeg (vp_nar .boolean (x16.1 140 5)) := ⟨_, rfl⟩
      have h := h x18 ex18
      refine T_zast 171 400 (dk dtk_X4_note 66 rfl) kk_171 (kl_171 hq) h17 ?_
      rw [← ex18]
      refine T_aload_n 3 (dk dtk_X4_note 67 rfl) rfl rfl ?_
      refine T_getI 140 1 (dk dtk_X4_note 68 rfl) kfl_X4_81 kk_140 (kl_140 hq) (by decide) rfl ?_
      refine T_bipush (v := 13) (dk dtk_X4_note 69 rfl) (by decide +kernel) ?_
      refine T_icmp_ne 141 (dk dtk_X4_note 70 rfl) (by decide) (fun c19 => ?_) (fun c19 => ?_)
      · have h := h.1 c19
        exact T_sub [1, 3, 0] rfl h
      · have h := h.2 c19
        refine T_aload_n 3 (dk dtk_X4_note 71 rfl) rfl rfl ?_
        refine T_getI 140 5 (dk dtk_X4_note 72 rfl) kfl_X4_89 kk_140 (kl_140 hq) (by decide) rfl ?_
        refine T_if_ne 141 (dk dtk_X4_note 73 rfl) (by decide) (fun c20 => ?_) (fun c20 => ?_)
        · have h := h.1 c20
          exact T_sub [1, 3, 0] rfl h
        · have h := h.2 c20
          refine T_aload_n 1 (dk dtk_X4_note 74 rfl) rfl rfl ?_
          refine T_dup (dk dtk_X4_note 75 rfl) rfl ?_
          refine T_getI 160 4 (dk dtk_X4_note 76 rfl) kfl_X4_68 kk_160 (kl_160 hq) (by decide) rfl ?_
          refine T_iconst (v := 1) (dk dtk_X4_note 77 rfl) (by decide +kernel) ?_
          refine T_iadd (dk dtk_X4_note 78 rfl) ?_
          obtain ⟨x21, ex21⟩ : ∃ z, z = si x18 160 4 ((x18.1 160 4) + 1) := ⟨_, rfl⟩
          have h := h x21 ex21
          refine T_putI 160 4 (dk dtk_X4_note 79 rfl) kfl_X4_68 kk_160 (kl_160 hq) (by decide) rfl ⟨rfl, rfl⟩ ?_
          rw [← ex21]
          exact T_sub [1, 3, 0] rfl h
    · have h := h.2 c5
      exact KT_vret (dk dtk_X4_note 21 rfl) rfl h
  · have h := h.2 c1
    exact KT_vret (dk dtk_X4_note 4 rfl) rfl h
set_option maxRecDepth 100000 in
set_option maxHeartbeats 4000000 in
theorem kg_X4_note_141 {G : kG} {q : kP} {d : Nat} {x : gd} {P : Option gv → gd → Prop} (hq : kV q) (l3 : Int32)
    (h : KT G q d zk_X4_setClock 0 [(0, vr 160), (1, vi l3)] [] x (rv (fun x1 => ((¬ ((x1.1 140 5) = (0 : Int32)) → KT G q (d + 1) zk_X4_note 162 [(0, vr 160), (3, vi l3)] [] x1 P) ∧ ((x1.1 140 5) = (0 : Int32) → KT G q d zk_X4_handOn 0 [(0, vr 160), (1, vi l3), (2, vi (x1.1 140 6))] [] x1 (rv (fun x3 => KT G q (d + 1) zk_X4_note 162 [(0, vr 160), (3, vi l3)] [] x3 P))))))) :
    KT G q (d + 1) zk_X4_note 141 [(0, vr 160), (2, vr 140), (3, vi l3)] [] x P := by
  refine T_aload_n 0 (dk dtk_X4_note 80 rfl) rfl rfl ?_
  refine T_iload_n 2 (dk dtk_X4_note 81 rfl) rfl rfl ?_
  refine KC_Vv [vi l3] [] rfl (dk dtk_X4_note 82 rfl) kcv_X4_94 rfl kk_160 rfl (kl_160 hq) (Nat.le_of_ble_eq_true rfl) (Nat.le_of_ble_eq_true rfl) (gok_i (av_c (gkr (kl_160 hq)) (av_c (gkr (kl_140 hq)) (av_c rfl av_n))) as_n) rfl h (fun x1 h => ?_)
  refine T_aload_n 1 (dk dtk_X4_note 83 rfl) rfl rfl ?_
  refine T_getI 140 5 (dk dtk_X4_note 84 rfl) kfl_X4_89 kk_140 (kl_140 hq) (by decide) rfl ?_
  refine T_if_ne 162 (dk dtk_X4_note 85 rfl) (by decide) (fun c2 => ?_) (fun c2 => ?_)
  · have h := h.1 c2
    exact T_sub [0, 2] rfl h
  · have h := h.2 c2
    refine T_aload_n 0 (dk dtk_X4_note 86 rfl) rfl rfl ?_
    refine T_iload_n 2 (dk dtk_X4_note 87 rfl) rfl rfl ?_
    refine T_aload_n 1 (dk dtk_X4_note 88 rfl) rfl rfl ?_
    refine T_getI 140 6 (dk dtk_X4_note 89 rfl) kfl_X4_98 kk_140 (kl_140 hq) (by decide) rfl ?_
    refine T_sub (lv2 := [(0, vr 160), (3, vi l3)]) [0, 2] rfl ?_
    refine KC_Vv [vi l3, vi (x1.1 140 6)] [] rfl (dk dtk_X4_note 90 rfl) kcv_X4_101 rfl kk_160 rfl (kl_160 hq) (Nat.le_of_ble_eq_true rfl) (Nat.le_of_ble_eq_true rfl) (gok_i (av_c (gkr (kl_160 hq)) (av_c rfl av_n)) as_n) rfl h (fun x3 h => ?_)
    exact h
set_option maxRecDepth 100000 in
set_option maxHeartbeats 4000000 in
theorem kg_X4_note_162 {G : kG} {q : kP} {d : Nat} {x : gd} {P : Option gv → gd → Prop} (hq : kV q) (l3 : Int32)
    (h : ((¬ (l3 = (0 : Int32)) → vp_in (l3 - 1) 400 ∧ KT G q (d + 1) zk_X4_note 183 [(0, vr 160), (3, vi l3)] [vi (x.1 172 (l3 - 1 : Int32).toNatClampNeg), vi l3, vr 172] x P) ∧ (l3 = (0 : Int32) → KT G q (d + 1) zk_X4_note 183 [(0, vr 160), (3, vi l3)] [vi 0, vi l3, vr 172] x P))) :
    KT G q (d + 1) zk_X4_note 162 [(0, vr 160), (3, vi l3)] [] x P := by
  refine T_aload_n 0 (dk dtk_X4_note 91 rfl) rfl rfl ?_
  refine T_getR 160 11 172 (dk dtk_X4_note 92 rfl) kfl_X4_40 kk_160 (kl_160 hq) (by decide) rfl kr_160_11 ?_
  refine T_iload_n 1 (dk dtk_X4_note 93 rfl) rfl rfl ?_
  refine T_iload_n 1 (dk dtk_X4_note 94 rfl) rfl rfl ?_
  refine T_if_ne 175 (dk dtk_X4_note 95 rfl) (by decide) (fun c1 => ?_) (fun c1 => ?_)
  · have h := h.1 c1
    refine T_aload_n 0 (dk dtk_X4_note 98 rfl) rfl rfl ?_
    refine T_getR 160 11 172 (dk dtk_X4_note 99 rfl) kfl_X4_40 kk_160 (kl_160 hq) (by decide) rfl kr_160_11 ?_
    refine T_iload_n 1 (dk dtk_X4_note 100 rfl) rfl rfl ?_
    refine T_iconst (v := 1) (dk dtk_X4_note 101 rfl) (by decide +kernel) ?_
    refine T_isub (dk dtk_X4_note 102 rfl) ?_
    obtain ⟨h2, h⟩ := h
    refine T_iald 172 400 (dk dtk_X4_note 103 rfl) kk_172 (kl_172 hq) h2 ?_
    exact h
  · have h := h.2 c1
    refine T_iconst (v := 0) (dk dtk_X4_note 96 rfl) (by decide +kernel) ?_
    refine T_goto 183 (dk dtk_X4_note 97 rfl) (by decide) ?_
    exact h
set_option maxRecDepth 100000 in
set_option maxHeartbeats 4000000 in
theorem kg_X4_note_183 {G : kG} {q : kP} {d : Nat} {x : gd} {P : Option gv → gd → Prop} (hq : kV q) (l3 : Int32) (s0 : Int32) (s1 : Int32)
    (h : KT G q d zk_X4_racesOf 0 [(0, vr 160), (1, vi l3)] [] x (ri (fun r2 x1 => vp_in s1 400 ∧ (∀ x4 : gd, x4 = si x1 172 (s1 : Int32).toNatClampNeg (s0 + r2) → P none x4)))) :
    KT G q (d + 1) zk_X4_note 183 [(0, vr 160), (3, vi l3)] [vi s0, vi s1, vr 172] x P := by
  refine T_aload_n 0 (dk dtk_X4_note 104 rfl) rfl rfl ?_
  refine T_iload_n 1 (dk dtk_X4_note 105 rfl) rfl rfl ?_
  refine T_sub (lv2 := []) [] rfl ?_
  refine KC_Vi [vi l3] [vi s0, vi s1, vr 172] rfl (dk dtk_X4_note 106 rfl) kcv_X4_105 rfl kk_160 rfl (kl_160 hq) (Nat.le_of_ble_eq_true rfl) (Nat.le_of_ble_eq_true rfl) (gok_i av_n (as_c rfl (as_c rfl (as_c (gkr (kl_172 hq)) as_n)))) rfl h (fun r2 x1 h => ?_)
  refine T_iadd (dk dtk_X4_note 107 rfl) ?_
  obtain ⟨h3, h⟩ := h
  obtain ⟨x4, ex4⟩ : ∃ z, z = si x1 172 (s1 : Int32).toNatClampNeg (s0 + r2) := ⟨_, rfl⟩
  have h := h x4 ex4
  refine T_iast 172 400 (dk dtk_X4_note 108 rfl) kk_172 (kl_172 hq) h3 ?_
  rw [← ex4]
  exact KT_vret (dk dtk_X4_note 109 rfl) rfl h
set_option maxRecDepth 100000 in
theorem dtk_X4_setClock : dck cX4_setClock [(0, .aload_n 0, 1), (1, .getfield 21, 3), (4, .iload_n 1, 1), (5, .iaload, 1), (6, .istore_n 2, 1), (7, .iconst 0, 1), (8, .istore_n 3, 1), (9, .iload_n 3, 1), (10, .bipush 6, 2), (12, .if_icmp .ge 21, 3), (15, .aload_n 0, 1), (16, .getfield 43, 3), (19, .iload_n 1, 1), (20, .bipush 6, 2), (22, .imul, 1), (23, .iload_n 3, 1), (24, .iadd, 1), (25, .iconst 0, 1), (26, .iastore, 1), (27, .iinc 3 1, 3), (30, .goto (-21), 3), (33, .aload_n 0, 1), (34, .getfield 46, 3), (37, .iload_n 2, 1), (38, .iaload, 1), (39, .iconst (-1), 1), (40, .if_icmp .ne 19, 3), (43, .aload_n 0, 1), (44, .getfield 43, 3), (47, .iload_n 1, 1), (48, .aload_n 0, 1), (49, .getfield 49, 3), (52, .iload_n 2, 1), (53, .invokestatic 109, 3), (56, .goto 21, 3), (59, .aload_n 0, 1), (60, .getfield 43, 3), (63, .iload_n 1, 1), (64, .aload_n 0, 1), (65, .getfield 43, 3), (68, .aload_n 0, 1), (69, .getfield 46, 3), (72, .iload_n 2, 1), (73, .iaload, 1), (74, .invokestatic 109, 3), (77, .aload_n 0, 1), (78, .getfield 36, 3), (81, .iload_n 1, 1), (82, .baload, 1), (83, .ifCond .ne 8, 3), (86, .aload_n 0, 1), (87, .iload_n 1, 1), (88, .invokevirtual 113, 3), (91, .aload_n 0, 1), (92, .getfield 43, 3), (95, .iload_n 1, 1), (96, .bipush 6, 2), (98, .imul, 1), (99, .iload_n 2, 1), (100, .iadd, 1), (101, .dup2, 1), (102, .iaload, 1), (103, .iconst 1, 1), (104, .iadd, 1), (105, .iastore, 1), (106, .aload_n 0, 1), (107, .getfield 46, 3), (110, .iload_n 2, 1), (111, .iload_n 1, 1), (112, .iastore, 1), (113, .return_, 1)] = true := by decide +kernel
set_option maxRecDepth 100000 in
set_option maxHeartbeats 4000000 in
theorem kg_X4_setClock_0 {G : kG} {q : kP} {d : Nat} {x : gd} {P : Option gv → gd → Prop} (hq : kV q) (l1 : Int32)
    (h : vp_in l1 400 ∧ KT G q (d + 1) zk_X4_setClock 9 [(0, vr 160), (1, vi l1), (2, vi (x.1 166 (l1 : Int32).toNatClampNeg)), (3, vi 0)] [] x P) :
    KT G q (d + 1) zk_X4_setClock 0 [(0, vr 160), (1, vi l1)] [] x P := by
  refine T_aload_n 0 (dk dtk_X4_setClock 0 rfl) rfl rfl ?_
  refine T_getR 160 5 166 (dk dtk_X4_setClock 1 rfl) kfl_X4_21 kk_160 (kl_160 hq) (by decide) rfl kr_160_5 ?_
  refine T_iload_n 1 (dk dtk_X4_setClock 2 rfl) rfl rfl ?_
  obtain ⟨h1, h⟩ := h
  refine T_iald 166 400 (dk dtk_X4_setClock 3 rfl) kk_166 (kl_166 hq) h1 ?_
  refine T_istore_n (lv2 := [(2, vi (x.1 166 (l1 : Int32).toNatClampNeg)), (0, vr 160), (1, vi l1)]) (dk dtk_X4_setClock 4 rfl) rfl (by decide) rfl ?_
  refine T_iconst (v := 0) (dk dtk_X4_setClock 5 rfl) (by decide +kernel) ?_
  refine T_istore_n (lv2 := [(3, vi 0), (2, vi (x.1 166 (l1 : Int32).toNatClampNeg)), (0, vr 160), (1, vi l1)]) (dk dtk_X4_setClock 6 rfl) rfl (by decide) rfl ?_
  exact T_sub [2, 3, 1, 0] rfl h
set_option maxRecDepth 100000 in
set_option maxHeartbeats 4000000 in
theorem kg_X4_setClock_9 {G : kG} {q : kP} {d : Nat} {x : gd} {P : Option gv → gd → Prop} (hq : kV q) (l1 : Int32) (l2 : Int32) (l3 : Int32)
    (h : (((6 : Int32) ≤ l3 → vp_in l2 6 ∧ ((¬ ((x.1 174 (l2 : Int32).toNatClampNeg) = (-1 : Int32)) → vp_in l2 6 ∧ KT G q d zk_X4_join 0 [(0, vr 173), (1, vi l1), (2, vr 173), (3, vi (x.1 174 (l2 : Int32).toNatClampNeg))] [] x (rv (fun x5 => KT G q (d + 1) zk_X4_setClock 77 [(0, vr 160), (1, vi l1), (2, vi l2)] [] x5 P))) ∧ ((x.1 174 (l2 : Int32).toNatClampNeg) = (-1 : Int32) → KT G q d zk_X4_join 0 [(0, vr 173), (1, vi l1), (2, vr 175), (3, vi l2)] [] x (rv (fun x6 => KT G q (d + 1) zk_X4_setClock 77 [(0, vr 160), (1, vi l1), (2, vi l2)] [] x6 P))))) ∧ (¬ ((6 : Int32) ≤ l3) → vp_in ((l1 * 6) + l3) 2400 ∧ (∀ x8 : gd, x8 = si x 173 ((l1 * 6) + l3 : Int32).toNatClampNeg 0 → KT G q (d + 1) zk_X4_setClock 9 [(0, vr 160), (1, vi l1), (2, vi l2), (3, vi (l3 + 1))] [] x8 P)))) :
    KT G q (d + 1) zk_X4_setClock 9 [(0, vr 160), (1, vi l1), (2, vi l2), (3, vi l3)] [] x P := by
  refine T_iload_n 3 (dk dtk_X4_setClock 7 rfl) rfl rfl ?_
  refine T_bipush (v := 6) (dk dtk_X4_setClock 8 rfl) (by decide +kernel) ?_
  refine T_icmp_ge 33 (dk dtk_X4_setClock 9 rfl) (by decide) (fun c1 => ?_) (fun c1 => ?_)
  · have h := h.1 c1
    refine T_aload_n 0 (dk dtk_X4_setClock 21 rfl) rfl rfl ?_
    refine T_getR 160 13 174 (dk dtk_X4_setClock 22 rfl) kfl_X4_46 kk_160 (kl_160 hq) (by decide) rfl kr_160_13 ?_
    refine T_iload_n 2 (dk dtk_X4_setClock 23 rfl) rfl rfl ?_
    obtain ⟨h2, h⟩ := h
    refine T_iald 174 6 (dk dtk_X4_setClock 24 rfl) kk_174 (kl_174 hq) h2 ?_
    refine T_iconst (v := (-1)) (dk dtk_X4_setClock 25 rfl) (by decide +kernel) ?_
    refine T_icmp_ne 59 (dk dtk_X4_setClock 26 rfl) (by decide) (fun c3 => ?_) (fun c3 => ?_)
    · have h := h.1 c3
      refine T_aload_n 0 (dk dtk_X4_setClock 35 rfl) rfl rfl ?_
      refine T_getR 160 12 173 (dk dtk_X4_setClock 36 rfl) kfl_X4_43 kk_160 (kl_160 hq) (by decide) rfl kr_160_12 ?_
      refine T_iload_n 1 (dk dtk_X4_setClock 37 rfl) rfl rfl ?_
      refine T_aload_n 0 (dk dtk_X4_setClock 38 rfl) rfl rfl ?_
      refine T_getR 160 12 173 (dk dtk_X4_setClock 39 rfl) kfl_X4_43 kk_160 (kl_160 hq) (by decide) rfl kr_160_12 ?_
      refine T_aload_n 0 (dk dtk_X4_setClock 40 rfl) rfl rfl ?_
      refine T_getR 160 13 174 (dk dtk_X4_setClock 41 rfl) kfl_X4_46 kk_160 (kl_160 hq) (by decide) rfl kr_160_13 ?_
      refine T_iload_n 2 (dk dtk_X4_setClock 42 rfl) rfl rfl ?_
      obtain ⟨h4, h⟩ := h
      refine T_iald 174 6 (dk dtk_X4_setClock 43 rfl) kk_174 (kl_174 hq) h4 ?_
      refine T_sub (lv2 := [(0, vr 160), (1, vi l1), (2, vi l2)]) [0, 1, 2] rfl ?_
      refine KC_Sv [vr 173, vi l1, vr 173, vi (x.1 174 (l2 : Int32).toNatClampNeg)] [] rfl (dk dtk_X4_setClock 44 rfl) kcs_X4_109 rfl (Nat.le_of_ble_eq_true rfl) (Nat.le_of_ble_eq_true rfl) (gok_i (av_c (gkr (kl_160 hq)) (av_c rfl (av_c rfl av_n))) as_n) rfl h (fun x5 h => ?_)
      exact h
    · have h := h.2 c3
      refine T_aload_n 0 (dk dtk_X4_setClock 27 rfl) rfl rfl ?_
      refine T_getR 160 12 173 (dk dtk_X4_setClock 28 rfl) kfl_X4_43 kk_160 (kl_160 hq) (by decide) rfl kr_160_12 ?_
      refine T_iload_n 1 (dk dtk_X4_setClock 29 rfl) rfl rfl ?_
      refine T_aload_n 0 (dk dtk_X4_setClock 30 rfl) rfl rfl ?_
      refine T_getR 160 14 175 (dk dtk_X4_setClock 31 rfl) kfl_X4_49 kk_160 (kl_160 hq) (by decide) rfl kr_160_14 ?_
      refine T_iload_n 2 (dk dtk_X4_setClock 32 rfl) rfl rfl ?_
      refine T_sub (lv2 := [(0, vr 160), (1, vi l1), (2, vi l2)]) [0, 1, 2] rfl ?_
      refine KC_Sv [vr 173, vi l1, vr 175, vi l2] [] rfl (dk dtk_X4_setClock 33 rfl) kcs_X4_109 rfl (Nat.le_of_ble_eq_true rfl) (Nat.le_of_ble_eq_true rfl) (gok_i (av_c (gkr (kl_160 hq)) (av_c rfl (av_c rfl av_n))) as_n) rfl h (fun x6 h => ?_)
      refine T_goto 77 (dk dtk_X4_setClock 34 rfl) (by decide) ?_
      exact h
  · have h := h.2 c1
    refine T_aload_n 0 (dk dtk_X4_setClock 10 rfl) rfl rfl ?_
    refine T_getR 160 12 173 (dk dtk_X4_setClock 11 rfl) kfl_X4_43 kk_160 (kl_160 hq) (by decide) rfl kr_160_12 ?_
    refine T_iload_n 1 (dk dtk_X4_setClock 12 rfl) rfl rfl ?_
    refine T_bipush (v := 6) (dk dtk_X4_setClock 13 rfl) (by decide +kernel) ?_
    refine T_imul (dk dtk_X4_setClock 14 rfl) ?_
    refine T_iload_n 3 (dk dtk_X4_setClock 15 rfl) rfl rfl ?_
    refine T_iadd (dk dtk_X4_setClock 16 rfl) ?_
    refine T_iconst (v := 0) (dk dtk_X4_setClock 17 rfl) (by decide +kernel) ?_
    obtain ⟨h7, h⟩ := h
    obtain ⟨x8, ex8⟩ : ∃ z, z = si x 173 ((l1 * 6) + l3 : Int32).toNatClampNeg 0 := ⟨_, rfl⟩
    have h := h x8 ex8
    refine T_iast 173 2400 (dk dtk_X4_setClock 18 rfl) kk_173 (kl_173 hq) h7 ?_
    rw [← ex8]
    refine T_iinc (v := l3 + 1) (lv2 := [(3, vi (l3 + 1)), (0, vr 160), (1, vi l1), (2, vi l2)]) 3 (dk dtk_X4_setClock 19 rfl) rfl rfl (by decide) rfl ?_
    refine T_goto 9 (dk dtk_X4_setClock 20 rfl) (by decide) ?_
    exact T_sub [1, 2, 3, 0] rfl h
set_option maxRecDepth 100000 in
set_option maxHeartbeats 4000000 in
theorem kg_X4_setClock_77 {G : kG} {q : kP} {d : Nat} {x : gd} {P : Option gv → gd → Prop} (hq : kV q) (l1 : Int32) (l2 : Int32)
    (h : vp_in l1 400 ∧ ((¬ ((x.1 171 (l1 : Int32).toNatClampNeg) = (0 : Int32)) → KT G q (d + 1) zk_X4_setClock 91 [(0, vr 160), (1, vi l1), (2, vi l2)] [] x P) ∧ ((x.1 171 (l1 : Int32).toNatClampNeg) = (0 : Int32) → KT G q d zk_X4_takeOver 0 [(0, vr 160), (1, vi l1)] [] x (rv (fun x3 => KT G q (d + 1) zk_X4_setClock 91 [(0, vr 160), (1, vi l1), (2, vi l2)] [] x3 P))))) :
    KT G q (d + 1) zk_X4_setClock 77 [(0, vr 160), (1, vi l1), (2, vi l2)] [] x P := by
  refine T_aload_n 0 (dk dtk_X4_setClock 45 rfl) rfl rfl ?_
  refine T_getR 160 10 171 (dk dtk_X4_setClock 46 rfl) kfl_X4_36 kk_160 (kl_160 hq) (by decide) rfl kr_160_10 ?_
  refine T_iload_n 1 (dk dtk_X4_setClock 47 rfl) rfl rfl ?_
  obtain ⟨h1, h⟩ := h
  refine T_zald 171 400 (dk dtk_X4_setClock 48 rfl) kk_171 (kl_171 hq) h1 ?_
  refine T_if_ne 91 (dk dtk_X4_setClock 49 rfl) (by decide) (fun c2 => ?_) (fun c2 => ?_)
  · have h := h.1 c2
    exact h
  · have h := h.2 c2
    refine T_aload_n 0 (dk dtk_X4_setClock 50 rfl) rfl rfl ?_
    refine T_iload_n 1 (dk dtk_X4_setClock 51 rfl) rfl rfl ?_
    refine KC_Vv [vi l1] [] rfl (dk dtk_X4_setClock 52 rfl) kcv_X4_113 rfl kk_160 rfl (kl_160 hq) (Nat.le_of_ble_eq_true rfl) (Nat.le_of_ble_eq_true rfl) (gok_i (av_c (gkr (kl_160 hq)) (av_c rfl (av_c rfl av_n))) as_n) rfl h (fun x3 h => ?_)
    exact h
set_option maxRecDepth 100000 in
set_option maxHeartbeats 4000000 in
theorem kg_X4_setClock_91 {G : kG} {q : kP} {d : Nat} {x : gd} {P : Option gv → gd → Prop} (hq : kV q) (l1 : Int32) (l2 : Int32)
    (h : vp_in ((l1 * 6) + l2) 2400 ∧ vp_in ((l1 * 6) + l2) 2400 ∧ (∀ x3 : gd, x3 = si x 173 ((l1 * 6) + l2 : Int32).toNatClampNeg ((x.1 173 ((l1 * 6) + l2 : Int32).toNatClampNeg) + 1) → vp_in l2 6 ∧ (∀ x5 : gd, x5 = si x3 174 (l2 : Int32).toNatClampNeg l1 → P none x5))) :
    KT G q (d + 1) zk_X4_setClock 91 [(0, vr 160), (1, vi l1), (2, vi l2)] [] x P := by
  refine T_aload_n 0 (dk dtk_X4_setClock 53 rfl) rfl rfl ?_
  refine T_getR 160 12 173 (dk dtk_X4_setClock 54 rfl) kfl_X4_43 kk_160 (kl_160 hq) (by decide) rfl kr_160_12 ?_
  refine T_iload_n 1 (dk dtk_X4_setClock 55 rfl) rfl rfl ?_
  refine T_bipush (v := 6) (dk dtk_X4_setClock 56 rfl) (by decide +kernel) ?_
  refine T_imul (dk dtk_X4_setClock 57 rfl) ?_
  refine T_iload_n 2 (dk dtk_X4_setClock 58 rfl) rfl rfl ?_
  refine T_iadd (dk dtk_X4_setClock 59 rfl) ?_
  refine T_dup2 (dk dtk_X4_setClock 60 rfl) rfl rfl ?_
  obtain ⟨h1, h⟩ := h
  refine T_iald 173 2400 (dk dtk_X4_setClock 61 rfl) kk_173 (kl_173 hq) h1 ?_
  refine T_iconst (v := 1) (dk dtk_X4_setClock 62 rfl) (by decide +kernel) ?_
  refine T_iadd (dk dtk_X4_setClock 63 rfl) ?_
  obtain ⟨h2, h⟩ := h
  obtain ⟨x3, ex3⟩ : ∃ z, z = si x 173 ((l1 * 6) + l2 : Int32).toNatClampNeg ((x.1 173 ((l1 * 6) + l2 : Int32).toNatClampNeg) + 1) := ⟨_, rfl⟩
  have h := h x3 ex3
  refine T_iast 173 2400 (dk dtk_X4_setClock 64 rfl) kk_173 (kl_173 hq) h2 ?_
  rw [← ex3]
  refine T_aload_n 0 (dk dtk_X4_setClock 65 rfl) rfl rfl ?_
  refine T_getR 160 13 174 (dk dtk_X4_setClock 66 rfl) kfl_X4_46 kk_160 (kl_160 hq) (by decide) rfl kr_160_13 ?_
  refine T_iload_n 2 (dk dtk_X4_setClock 67 rfl) rfl rfl ?_
  refine T_iload_n 1 (dk dtk_X4_setClock 68 rfl) rfl rfl ?_
  obtain ⟨h4, h⟩ := h
  obtain ⟨x5, ex5⟩ : ∃ z, z = si x3 174 (l2 : Int32).toNatClampNeg l1 := ⟨_, rfl⟩
  have h := h x5 ex5
  refine T_iast 174 6 (dk dtk_X4_setClock 69 rfl) kk_174 (kl_174 hq) h4 ?_
  rw [← ex5]
  exact KT_vret (dk dtk_X4_setClock 70 rfl) rfl h
set_option maxRecDepth 100000 in
theorem dtk_X4_takeOver : dck cX4_takeOver [(0, .aload_n 0, 1), (1, .getfield 27, 3), (4, .iload_n 1, 1), (5, .iaload, 1), (6, .istore_n 2, 1), (7, .aload_n 0, 1), (8, .getfield 24, 3), (11, .iload_n 1, 1), (12, .iaload, 1), (13, .tableswitch 188 0 15 #[160, 188, 160, 160, 160, 144, 188, 188, 188, 188, 79, 188, 188, 188, 188, 110], 79), (92, .aload_n 0, 1), (93, .getfield 46, 3), (96, .iload_n 2, 1), (97, .iaload, 1), (98, .iconst (-1), 1), (99, .if_icmp .eq 102, 3), (102, .aload_n 0, 1), (103, .getfield 43, 3), (106, .iload_n 1, 1), (107, .aload_n 0, 1), (108, .getfield 43, 3), (111, .aload_n 0, 1), (112, .getfield 46, 3), (115, .iload_n 2, 1), (116, .iaload, 1), (117, .invokestatic 109, 3), (120, .goto 81, 3), (123, .aload_n 0, 1), (124, .getfield 43, 3), (127, .iload_n 1, 1), (128, .aload_n 0, 1), (129, .getfield 58, 3), (132, .aload_n 0, 1), (133, .getfield 21, 3), (136, .iload_n 1, 1), (137, .iaload, 1), (138, .invokestatic 109, 3), (141, .aload_n 0, 1), (142, .getfield 43, 3), (145, .iload_n 1, 1), (146, .aload_n 0, 1), (147, .getfield 52, 3), (150, .iload_n 2, 1), (151, .invokestatic 109, 3), (154, .goto 47, 3), (157, .aload_n 0, 1), (158, .getfield 43, 3), (161, .iload_n 1, 1), (162, .aload_n 0, 1), (163, .getfield 52, 3), (166, .iload_n 2, 1), (167, .invokestatic 109, 3), (170, .goto 31, 3), (173, .aload_n 0, 1), (174, .getfield 11, 3), (177, .getfield 116, 3), (180, .iload_n 2, 1), (181, .baload, 1), (182, .ifCond .eq 19, 3), (185, .aload_n 0, 1), (186, .getfield 43, 3), (189, .iload_n 1, 1), (190, .aload_n 0, 1), (191, .getfield 55, 3), (194, .iload_n 2, 1), (195, .invokestatic 109, 3), (198, .goto 3, 3), (201, .return_, 1)] = true := by decide +kernel
set_option maxRecDepth 100000 in
set_option maxHeartbeats 4000000 in
theorem kg_X4_takeOver_0 {G : kG} {q : kP} {d : Nat} {x : gd} {P : Option gv → gd → Prop} (hq : kV q) (l1 : Int32)
    (h : vp_in l1 400 ∧ vp_in l1 400 ∧ ((((x.1 167 (l1 : Int32).toNatClampNeg) = 10) → vp_in (x.1 168 (l1 : Int32).toNatClampNeg) 6 ∧ (((x.1 174 (x.1 168 (l1 : Int32).toNatClampNeg : Int32).toNatClampNeg) = (-1 : Int32) → P none x) ∧ (¬ ((x.1 174 (x.1 168 (l1 : Int32).toNatClampNeg : Int32).toNatClampNeg) = (-1 : Int32)) → vp_in (x.1 168 (l1 : Int32).toNatClampNeg) 6 ∧ KT G q d zk_X4_join 0 [(0, vr 173), (1, vi l1), (2, vr 173), (3, vi (x.1 174 (x.1 168 (l1 : Int32).toNatClampNeg : Int32).toNatClampNeg))] [] x (rv (fun x7 => P none x7))))) ∧ (((x.1 167 (l1 : Int32).toNatClampNeg) = 15) → vp_in l1 400 ∧ KT G q d zk_X4_join 0 [(0, vr 173), (1, vi l1), (2, vr 178), (3, vi (x.1 166 (l1 : Int32).toNatClampNeg))] [] x (rv (fun x10 => KT G q d zk_X4_join 0 [(0, vr 173), (1, vi l1), (2, vr 176), (3, vi (x.1 168 (l1 : Int32).toNatClampNeg))] [] x10 (rv (fun x11 => P none x11))))) ∧ (((x.1 167 (l1 : Int32).toNatClampNeg) = 5) → KT G q d zk_X4_join 0 [(0, vr 173), (1, vi l1), (2, vr 176), (3, vi (x.1 168 (l1 : Int32).toNatClampNeg))] [] x (rv (fun x13 => P none x13))) ∧ (((x.1 167 (l1 : Int32).toNatClampNeg) = 0 ∨ (x.1 167 (l1 : Int32).toNatClampNeg) = 2 ∨ (x.1 167 (l1 : Int32).toNatClampNeg) = 3 ∨ (x.1 167 (l1 : Int32).toNatClampNeg) = 4) → vp_in (x.1 168 (l1 : Int32).toNatClampNeg) 24 ∧ (((x.1 69 (x.1 168 (l1 : Int32).toNatClampNeg : Int32).toNatClampNeg) = (0 : Int32) → P none x) ∧ (¬ ((x.1 69 (x.1 168 (l1 : Int32).toNatClampNeg : Int32).toNatClampNeg) = (0 : Int32)) → KT G q d zk_X4_join 0 [(0, vr 173), (1, vi l1), (2, vr 177), (3, vi (x.1 168 (l1 : Int32).toNatClampNeg))] [] x (rv (fun x17 => P none x17))))) ∧ ((∀ k ∈ [(10 : Int32), (15 : Int32), (5 : Int32), (0 : Int32), (2 : Int32), (3 : Int32), (4 : Int32)], ¬ (x.1 167 (l1 : Int32).toNatClampNeg) = k) → P none x))) :
    KT G q (d + 1) zk_X4_takeOver 0 [(0, vr 160), (1, vi l1)] [] x P := by
  refine T_aload_n 0 (dk dtk_X4_takeOver 0 rfl) rfl rfl ?_
  refine T_getR 160 7 168 (dk dtk_X4_takeOver 1 rfl) kfl_X4_27 kk_160 (kl_160 hq) (by decide) rfl kr_160_7 ?_
  refine T_iload_n 1 (dk dtk_X4_takeOver 2 rfl) rfl rfl ?_
  obtain ⟨h1, h⟩ := h
  refine T_iald 168 400 (dk dtk_X4_takeOver 3 rfl) kk_168 (kl_168 hq) h1 ?_
  refine T_istore_n (lv2 := [(2, vi (x.1 168 (l1 : Int32).toNatClampNeg)), (0, vr 160), (1, vi l1)]) (dk dtk_X4_takeOver 4 rfl) rfl (by decide) rfl ?_
  refine T_aload_n 1 (dk dtk_X4_takeOver 5 rfl) rfl rfl ?_
  refine T_getR 160 6 167 (dk dtk_X4_takeOver 6 rfl) kfl_X4_24 kk_160 (kl_160 hq) (by decide) rfl kr_160_6 ?_
  refine T_iload_n 2 (dk dtk_X4_takeOver 7 rfl) rfl rfl ?_
  obtain ⟨h2, h⟩ := h
  refine T_iald 167 400 (dk dtk_X4_takeOver 8 rfl) kk_167 (kl_167 hq) h2 ?_
  by_cases c3 : (x.1 167 (l1 : Int32).toNatClampNeg) = 10
  · have h := h.1 c3
    refine T_table 79 92 (dk dtk_X4_takeOver 9 rfl) (by decide) (by rw [c3]; decide +kernel) (by decide) ?_
    refine T_aload_n 1 (dk dtk_X4_takeOver 10 rfl) rfl rfl ?_
    refine T_getR 160 13 174 (dk dtk_X4_takeOver 11 rfl) kfl_X4_46 kk_160 (kl_160 hq) (by decide) rfl kr_160_13 ?_
    refine T_iload_n 0 (dk dtk_X4_takeOver 12 rfl) rfl rfl ?_
    obtain ⟨h4, h⟩ := h
    refine T_iald 174 6 (dk dtk_X4_takeOver 13 rfl) kk_174 (kl_174 hq) h4 ?_
    refine T_iconst (v := (-1)) (dk dtk_X4_takeOver 14 rfl) (by decide +kernel) ?_
    refine T_icmp_eq 201 (dk dtk_X4_takeOver 15 rfl) (by decide) (fun c5 => ?_) (fun c5 => ?_)
    · have h := h.1 c5
      exact KT_vret (dk dtk_X4_takeOver 67 rfl) rfl h
    · have h := h.2 c5
      refine T_aload_n 1 (dk dtk_X4_takeOver 16 rfl) rfl rfl ?_
      refine T_getR 160 12 173 (dk dtk_X4_takeOver 17 rfl) kfl_X4_43 kk_160 (kl_160 hq) (by decide) rfl kr_160_12 ?_
      refine T_iload_n 2 (dk dtk_X4_takeOver 18 rfl) rfl rfl ?_
      refine T_aload_n 1 (dk dtk_X4_takeOver 19 rfl) rfl rfl ?_
      refine T_getR 160 12 173 (dk dtk_X4_takeOver 20 rfl) kfl_X4_43 kk_160 (kl_160 hq) (by decide) rfl kr_160_12 ?_
      refine T_aload_n 1 (dk dtk_X4_takeOver 21 rfl) rfl rfl ?_
      refine T_getR 160 13 174 (dk dtk_X4_takeOver 22 rfl) kfl_X4_46 kk_160 (kl_160 hq) (by decide) rfl kr_160_13 ?_
      refine T_iload_n 0 (dk dtk_X4_takeOver 23 rfl) rfl rfl ?_
      obtain ⟨h6, h⟩ := h
      refine T_iald 174 6 (dk dtk_X4_takeOver 24 rfl) kk_174 (kl_174 hq) h6 ?_
      refine T_sub (lv2 := []) [] rfl ?_
      refine KC_Sv [vr 173, vi l1, vr 173, vi (x.1 174 (x.1 168 (l1 : Int32).toNatClampNeg : Int32).toNatClampNeg)] [] rfl (dk dtk_X4_takeOver 25 rfl) kcs_X4_109 rfl (Nat.le_of_ble_eq_true rfl) (Nat.le_of_ble_eq_true rfl) (gok_i av_n as_n) rfl h (fun x7 h => ?_)
      refine T_goto 201 (dk dtk_X4_takeOver 26 rfl) (by decide) ?_
      exact KT_vret (dk dtk_X4_takeOver 67 rfl) rfl h
  · have h := h.2
    by_cases c8 : (x.1 167 (l1 : Int32).toNatClampNeg) = 15
    · have h := h.1 c8
      refine T_table 110 123 (dk dtk_X4_takeOver 9 rfl) (by decide) (by rw [c8]; decide +kernel) (by decide) ?_
      refine T_aload_n 1 (dk dtk_X4_takeOver 27 rfl) rfl rfl ?_
      refine T_getR 160 12 173 (dk dtk_X4_takeOver 28 rfl) kfl_X4_43 kk_160 (kl_160 hq) (by decide) rfl kr_160_12 ?_
      refine T_iload_n 2 (dk dtk_X4_takeOver 29 rfl) rfl rfl ?_
      refine T_aload_n 1 (dk dtk_X4_takeOver 30 rfl) rfl rfl ?_
      refine T_getR 160 17 178 (dk dtk_X4_takeOver 31 rfl) kfl_X4_58 kk_160 (kl_160 hq) (by decide) rfl kr_160_17 ?_
      refine T_aload_n 1 (dk dtk_X4_takeOver 32 rfl) rfl rfl ?_
      refine T_getR 160 5 166 (dk dtk_X4_takeOver 33 rfl) kfl_X4_21 kk_160 (kl_160 hq) (by decide) rfl kr_160_5 ?_
      refine T_iload_n 2 (dk dtk_X4_takeOver 34 rfl) rfl rfl ?_
      obtain ⟨h9, h⟩ := h
      refine T_iald 166 400 (dk dtk_X4_takeOver 35 rfl) kk_166 (kl_166 hq) h9 ?_
      refine KC_Sv [vr 173, vi l1, vr 178, vi (x.1 166 (l1 : Int32).toNatClampNeg)] [] rfl (dk dtk_X4_takeOver 36 rfl) kcs_X4_109 rfl (Nat.le_of_ble_eq_true rfl) (Nat.le_of_ble_eq_true rfl) (gok_i (av_c rfl (av_c (gkr (kl_160 hq)) (av_c rfl av_n))) as_n) rfl h (fun x10 h => ?_)
      refine T_aload_n 1 (dk dtk_X4_takeOver 37 rfl) rfl rfl ?_
      refine T_getR 160 12 173 (dk dtk_X4_takeOver 38 rfl) kfl_X4_43 kk_160 (kl_160 hq) (by decide) rfl kr_160_12 ?_
      refine T_iload_n 2 (dk dtk_X4_takeOver 39 rfl) rfl rfl ?_
      refine T_aload_n 1 (dk dtk_X4_takeOver 40 rfl) rfl rfl ?_
      refine T_getR 160 15 176 (dk dtk_X4_takeOver 41 rfl) kfl_X4_52 kk_160 (kl_160 hq) (by decide) rfl kr_160_15 ?_
      refine T_iload_n 0 (dk dtk_X4_takeOver 42 rfl) rfl rfl ?_
      refine T_sub (lv2 := []) [] rfl ?_
      refine KC_Sv [vr 173, vi l1, vr 176, vi (x.1 168 (l1 : Int32).toNatClampNeg)] [] rfl (dk dtk_X4_takeOver 43 rfl) kcs_X4_109 rfl (Nat.le_of_ble_eq_true rfl) (Nat.le_of_ble_eq_true rfl) (gok_i av_n as_n) rfl h (fun x11 h => ?_)
      refine T_goto 201 (dk dtk_X4_takeOver 44 rfl) (by decide) ?_
      exact KT_vret (dk dtk_X4_takeOver 67 rfl) rfl h
    · have h := h.2
      by_cases c12 : (x.1 167 (l1 : Int32).toNatClampNeg) = 5
      · have h := h.1 c12
        refine T_table 144 157 (dk dtk_X4_takeOver 9 rfl) (by decide) (by rw [c12]; decide +kernel) (by decide) ?_
        refine T_aload_n 1 (dk dtk_X4_takeOver 45 rfl) rfl rfl ?_
        refine T_getR 160 12 173 (dk dtk_X4_takeOver 46 rfl) kfl_X4_43 kk_160 (kl_160 hq) (by decide) rfl kr_160_12 ?_
        refine T_iload_n 2 (dk dtk_X4_takeOver 47 rfl) rfl rfl ?_
        refine T_aload_n 1 (dk dtk_X4_takeOver 48 rfl) rfl rfl ?_
        refine T_getR 160 15 176 (dk dtk_X4_takeOver 49 rfl) kfl_X4_52 kk_160 (kl_160 hq) (by decide) rfl kr_160_15 ?_
        refine T_iload_n 0 (dk dtk_X4_takeOver 50 rfl) rfl rfl ?_
        refine T_sub (lv2 := []) [] rfl ?_
        refine KC_Sv [vr 173, vi l1, vr 176, vi (x.1 168 (l1 : Int32).toNatClampNeg)] [] rfl (dk dtk_X4_takeOver 51 rfl) kcs_X4_109 rfl (Nat.le_of_ble_eq_true rfl) (Nat.le_of_ble_eq_true rfl) (gok_i av_n as_n) rfl h (fun x13 h => ?_)
        refine T_goto 201 (dk dtk_X4_takeOver 52 rfl) (by decide) ?_
        exact KT_vret (dk dtk_X4_takeOver 67 rfl) rfl h
      · have h := h.2
        by_cases c14 : (x.1 167 (l1 : Int32).toNatClampNeg) = 0 ∨ (x.1 167 (l1 : Int32).toNatClampNeg) = 2 ∨ (x.1 167 (l1 : Int32).toNatClampNeg) = 3 ∨ (x.1 167 (l1 : Int32).toNatClampNeg) = 4
        · have h := h.1 c14
          refine T_table 160 173 (dk dtk_X4_takeOver 9 rfl) (by decide) (by rcases c14 with q9 | q9 | q9 | q9 <;> rw [q9] <;> decide +kernel) (by decide) ?_
          refine T_aload_n 1 (dk dtk_X4_takeOver 53 rfl) rfl rfl ?_
          refine T_getR 160 0 60 (dk dtk_X4_takeOver 54 rfl) kfl_X4_11 kk_160 (kl_160 hq) (by decide) rfl kr_160_0 ?_
          refine T_getR 60 8 69 (dk dtk_X4_takeOver 55 rfl) kfl_X4_116 kk_60 (kl_60 hq) (by decide) rfl kr_60_8 ?_
          refine T_iload_n 0 (dk dtk_X4_takeOver 56 rfl) rfl rfl ?_
          obtain ⟨h15, h⟩ := h
          refine T_zald 69 24 (dk dtk_X4_takeOver 57 rfl) kk_69 (kl_69 hq) h15 ?_
          refine T_if_eq 201 (dk dtk_X4_takeOver 58 rfl) (by decide) (fun c16 => ?_) (fun c16 => ?_)
          · have h := h.1 c16
            exact KT_vret (dk dtk_X4_takeOver 67 rfl) rfl h
          · have h := h.2 c16
            refine T_aload_n 1 (dk dtk_X4_takeOver 59 rfl) rfl rfl ?_
            refine T_getR 160 12 173 (dk dtk_X4_takeOver 60 rfl) kfl_X4_43 kk_160 (kl_160 hq) (by decide) rfl kr_160_12 ?_
            refine T_iload_n 2 (dk dtk_X4_takeOver 61 rfl) rfl rfl ?_
            refine T_aload_n 1 (dk dtk_X4_takeOver 62 rfl) rfl rfl ?_
            refine T_getR 160 16 177 (dk dtk_X4_takeOver 63 rfl) kfl_X4_55 kk_160 (kl_160 hq) (by decide) rfl kr_160_16 ?_
            refine T_iload_n 0 (dk dtk_X4_takeOver 64 rfl) rfl rfl ?_
            refine T_sub (lv2 := []) [] rfl ?_
            refine KC_Sv [vr 173, vi l1, vr 177, vi (x.1 168 (l1 : Int32).toNatClampNeg)] [] rfl (dk dtk_X4_takeOver 65 rfl) kcs_X4_109 rfl (Nat.le_of_ble_eq_true rfl) (Nat.le_of_ble_eq_true rfl) (gok_i av_n as_n) rfl h (fun x17 h => ?_)
            refine T_goto 201 (dk dtk_X4_takeOver 66 rfl) (by decide) ?_
            exact KT_vret (dk dtk_X4_takeOver 67 rfl) rfl h
        · have h := h.2
          have n18 : ∀ k ∈ [(10 : Int32), (15 : Int32), (5 : Int32), (0 : Int32), (2 : Int32), (3 : Int32), (4 : Int32)], ¬ (x.1 167 (l1 : Int32).toNatClampNeg) = k := (gno c3 (gno c8 (gno c12 (gno (fun q9 => c14 (Or.inl q9)) (gno (fun q9 => c14 (Or.inr (Or.inl q9))) (gno (fun q9 => c14 (Or.inr (Or.inr (Or.inl q9)))) (gno (fun q9 => c14 (Or.inr (Or.inr (Or.inr (q9))))) gno0)))))))
          have h := h n18
          refine T_table 188 201 (dk dtk_X4_takeOver 9 rfl) (by decide) (gtab_d [(10 : Int32), (15 : Int32), (5 : Int32), (0 : Int32), (2 : Int32), (3 : Int32), (4 : Int32)] (by decide +kernel) n18) (by decide) ?_
          exact KT_vret (dk dtk_X4_takeOver 67 rfl) rfl h
end
section
set_option maxRecDepth 100000 in
theorem dtk_X4_handOn : dck cX4_handOn [(0, .aload_n 0, 1), (1, .getfield 27, 3), (4, .iload_n 1, 1), (5, .iaload, 1), (6, .istore_n 3, 1), (7, .aload_n 0, 1), (8, .getfield 24, 3), (11, .iload_n 1, 1), (12, .iaload, 1), (13, .tableswitch 154 1 9 #[126, 126, 126, 126, 154, 67, 67, 83, 51], 51), (64, .aload_n 0, 1), (65, .getfield 49, 3), (68, .iload_n 3, 1), (69, .aload_n 0, 1), (70, .getfield 43, 3), (73, .iload_n 1, 1), (74, .invokestatic 109, 3), (77, .goto 90, 3), (80, .aload_n 0, 1), (81, .getfield 52, 3), (84, .iload_n 3, 1), (85, .aload_n 0, 1), (86, .getfield 43, 3), (89, .iload_n 1, 1), (90, .invokestatic 109, 3), (93, .goto 74, 3), (96, .iconst 0, 1), (97, .istore 4, 2), (99, .iload 4, 2), (101, .bipush 6, 2), (103, .if_icmp .ge 33, 3), (106, .iload_n 2, 1), (107, .iload 4, 2), (109, .ishr, 1), (110, .iconst 1, 1), (111, .iand, 1), (112, .iconst 1, 1), (113, .if_icmp .ne 17, 3), (116, .aload_n 0, 1), (117, .getfield 58, 3), (120, .iload 4, 2), (122, .aload_n 0, 1), (123, .getfield 43, 3), (126, .iload_n 1, 1), (127, .invokestatic 109, 3), (130, .iinc 4 1, 3), (133, .goto (-34), 3), (136, .goto 31, 3), (139, .aload_n 0, 1), (140, .getfield 11, 3), (143, .getfield 116, 3), (146, .iload_n 3, 1), (147, .baload, 1), (148, .ifCond .eq 19, 3), (151, .aload_n 0, 1), (152, .getfield 55, 3), (155, .iload_n 3, 1), (156, .aload_n 0, 1), (157, .getfield 43, 3), (160, .iload_n 1, 1), (161, .invokestatic 109, 3), (164, .goto 3, 3), (167, .return_, 1)] = true := by decide +kernel
set_option maxRecDepth 100000 in
set_option maxHeartbeats 4000000 in
theorem kg_X4_handOn_0 {G : kG} {q : kP} {d : Nat} {x : gd} {P : Option gv → gd → Prop} (hq : kV q) (l1 : Int32) (l2 : Int32)
    (h : vp_in l1 400 ∧ vp_in l1 400 ∧ ((((x.1 167 (l1 : Int32).toNatClampNeg) = 9) → KT G q d zk_X4_join 0 [(0, vr 175), (1, vi (x.1 168 (l1 : Int32).toNatClampNeg)), (2, vr 173), (3, vi l1)] [] x (rv (fun x4 => P none x4))) ∧ (((x.1 167 (l1 : Int32).toNatClampNeg) = 6 ∨ (x.1 167 (l1 : Int32).toNatClampNeg) = 7) → KT G q d zk_X4_join 0 [(0, vr 176), (1, vi (x.1 168 (l1 : Int32).toNatClampNeg)), (2, vr 173), (3, vi l1)] [] x (rv (fun x6 => P none x6))) ∧ (((x.1 167 (l1 : Int32).toNatClampNeg) = 8) → KT G q (d + 1) zk_X4_handOn 99 [(0, vr 160), (1, vi l1), (2, vi l2), (4, vi 0)] [] x P) ∧ (((x.1 167 (l1 : Int32).toNatClampNeg) = 1 ∨ (x.1 167 (l1 : Int32).toNatClampNeg) = 2 ∨ (x.1 167 (l1 : Int32).toNatClampNeg) = 3 ∨ (x.1 167 (l1 : Int32).toNatClampNeg) = 4) → vp_in (x.1 168 (l1 : Int32).toNatClampNeg) 24 ∧ (((x.1 69 (x.1 168 (l1 : Int32).toNatClampNeg : Int32).toNatClampNeg) = (0 : Int32) → P none x) ∧ (¬ ((x.1 69 (x.1 168 (l1 : Int32).toNatClampNeg : Int32).toNatClampNeg) = (0 : Int32)) → KT G q d zk_X4_join 0 [(0, vr 177), (1, vi (x.1 168 (l1 : Int32).toNatClampNeg)), (2, vr 173), (3, vi l1)] [] x (rv (fun x11 => P none x11))))) ∧ ((∀ k ∈ [(9 : Int32), (6 : Int32), (7 : Int32), (8 : Int32), (1 : Int32), (2 : Int32), (3 : Int32), (4 : Int32)], ¬ (x.1 167 (l1 : Int32).toNatClampNeg) = k) → P none x))) :
    KT G q (d + 1) zk_X4_handOn 0 [(0, vr 160), (1, vi l1), (2, vi l2)] [] x P := by
  refine T_aload_n 0 (dk dtk_X4_handOn 0 rfl) rfl rfl ?_
  refine T_getR 160 7 168 (dk dtk_X4_handOn 1 rfl) kfl_X4_27 kk_160 (kl_160 hq) (by decide) rfl kr_160_7 ?_
  refine T_iload_n 1 (dk dtk_X4_handOn 2 rfl) rfl rfl ?_
  obtain ⟨h1, h⟩ := h
  refine T_iald 168 400 (dk dtk_X4_handOn 3 rfl) kk_168 (kl_168 hq) h1 ?_
  refine T_istore_n (lv2 := [(3, vi (x.1 168 (l1 : Int32).toNatClampNeg)), (0, vr 160), (1, vi l1), (2, vi l2)]) (dk dtk_X4_handOn 4 rfl) rfl (by decide) rfl ?_
  refine T_aload_n 1 (dk dtk_X4_handOn 5 rfl) rfl rfl ?_
  refine T_getR 160 6 167 (dk dtk_X4_handOn 6 rfl) kfl_X4_24 kk_160 (kl_160 hq) (by decide) rfl kr_160_6 ?_
  refine T_iload_n 2 (dk dtk_X4_handOn 7 rfl) rfl rfl ?_
  obtain ⟨h2, h⟩ := h
  refine T_iald 167 400 (dk dtk_X4_handOn 8 rfl) kk_167 (kl_167 hq) h2 ?_
  by_cases c3 : (x.1 167 (l1 : Int32).toNatClampNeg) = 9
  · have h := h.1 c3
    refine T_table 51 64 (dk dtk_X4_handOn 9 rfl) (by decide) (by rw [c3]; decide +kernel) (by decide) ?_
    refine T_aload_n 1 (dk dtk_X4_handOn 10 rfl) rfl rfl ?_
    refine T_getR 160 14 175 (dk dtk_X4_handOn 11 rfl) kfl_X4_49 kk_160 (kl_160 hq) (by decide) rfl kr_160_14 ?_
    refine T_iload_n 0 (dk dtk_X4_handOn 12 rfl) rfl rfl ?_
    refine T_aload_n 1 (dk dtk_X4_handOn 13 rfl) rfl rfl ?_
    refine T_getR 160 12 173 (dk dtk_X4_handOn 14 rfl) kfl_X4_43 kk_160 (kl_160 hq) (by decide) rfl kr_160_12 ?_
    refine T_iload_n 2 (dk dtk_X4_handOn 15 rfl) rfl rfl ?_
    refine T_sub (lv2 := []) [] rfl ?_
    refine KC_Sv [vr 175, vi (x.1 168 (l1 : Int32).toNatClampNeg), vr 173, vi l1] [] rfl (dk dtk_X4_handOn 16 rfl) kcs_X4_109 rfl (Nat.le_of_ble_eq_true rfl) (Nat.le_of_ble_eq_true rfl) (gok_i av_n as_n) rfl h (fun x4 h => ?_)
    refine T_goto 167 (dk dtk_X4_handOn 17 rfl) (by decide) ?_
    exact KT_vret (dk dtk_X4_handOn 62 rfl) rfl h
  · have h := h.2
    by_cases c5 : (x.1 167 (l1 : Int32).toNatClampNeg) = 6 ∨ (x.1 167 (l1 : Int32).toNatClampNeg) = 7
    · have h := h.1 c5
      refine T_table 67 80 (dk dtk_X4_handOn 9 rfl) (by decide) (by rcases c5 with q9 | q9 <;> rw [q9] <;> decide +kernel) (by decide) ?_
      refine T_aload_n 1 (dk dtk_X4_handOn 18 rfl) rfl rfl ?_
      refine T_getR 160 15 176 (dk dtk_X4_handOn 19 rfl) kfl_X4_52 kk_160 (kl_160 hq) (by decide) rfl kr_160_15 ?_
      refine T_iload_n 0 (dk dtk_X4_handOn 20 rfl) rfl rfl ?_
      refine T_aload_n 1 (dk dtk_X4_handOn 21 rfl) rfl rfl ?_
      refine T_getR 160 12 173 (dk dtk_X4_handOn 22 rfl) kfl_X4_43 kk_160 (kl_160 hq) (by decide) rfl kr_160_12 ?_
      refine T_iload_n 2 (dk dtk_X4_handOn 23 rfl) rfl rfl ?_
      refine T_sub (lv2 := []) [] rfl ?_
      refine KC_Sv [vr 176, vi (x.1 168 (l1 : Int32).toNatClampNeg), vr 173, vi l1] [] rfl (dk dtk_X4_handOn 24 rfl) kcs_X4_109 rfl (Nat.le_of_ble_eq_true rfl) (Nat.le_of_ble_eq_true rfl) (gok_i av_n as_n) rfl h (fun x6 h => ?_)
      refine T_goto 167 (dk dtk_X4_handOn 25 rfl) (by decide) ?_
      exact KT_vret (dk dtk_X4_handOn 62 rfl) rfl h
    · have h := h.2
      by_cases c7 : (x.1 167 (l1 : Int32).toNatClampNeg) = 8
      · have h := h.1 c7
        refine T_table 83 96 (dk dtk_X4_handOn 9 rfl) (by decide) (by rw [c7]; decide +kernel) (by decide) ?_
        refine T_iconst (v := 0) (dk dtk_X4_handOn 26 rfl) (by decide +kernel) ?_
        refine T_istore (lv2 := [(4, vi 0), (3, vi (x.1 168 (l1 : Int32).toNatClampNeg)), (0, vr 160), (1, vi l1), (2, vi l2)]) (dk dtk_X4_handOn 27 rfl) (by decide) rfl ?_
        exact T_sub [2, 3, 4, 0] rfl h
      · have h := h.2
        by_cases c8 : (x.1 167 (l1 : Int32).toNatClampNeg) = 1 ∨ (x.1 167 (l1 : Int32).toNatClampNeg) = 2 ∨ (x.1 167 (l1 : Int32).toNatClampNeg) = 3 ∨ (x.1 167 (l1 : Int32).toNatClampNeg) = 4
        · have h := h.1 c8
          refine T_table 126 139 (dk dtk_X4_handOn 9 rfl) (by decide) (by rcases c8 with q9 | q9 | q9 | q9 <;> rw [q9] <;> decide +kernel) (by decide) ?_
          refine T_aload_n 1 (dk dtk_X4_handOn 48 rfl) rfl rfl ?_
          refine T_getR 160 0 60 (dk dtk_X4_handOn 49 rfl) kfl_X4_11 kk_160 (kl_160 hq) (by decide) rfl kr_160_0 ?_
          refine T_getR 60 8 69 (dk dtk_X4_handOn 50 rfl) kfl_X4_116 kk_60 (kl_60 hq) (by decide) rfl kr_60_8 ?_
          refine T_iload_n 0 (dk dtk_X4_handOn 51 rfl) rfl rfl ?_
          obtain ⟨h9, h⟩ := h
          refine T_zald 69 24 (dk dtk_X4_handOn 52 rfl) kk_69 (kl_69 hq) h9 ?_
          refine T_if_eq 167 (dk dtk_X4_handOn 53 rfl) (by decide) (fun c10 => ?_) (fun c10 => ?_)
          · have h := h.1 c10
            exact KT_vret (dk dtk_X4_handOn 62 rfl) rfl h
          · have h := h.2 c10
            refine T_aload_n 1 (dk dtk_X4_handOn 54 rfl) rfl rfl ?_
            refine T_getR 160 16 177 (dk dtk_X4_handOn 55 rfl) kfl_X4_55 kk_160 (kl_160 hq) (by decide) rfl kr_160_16 ?_
            refine T_iload_n 0 (dk dtk_X4_handOn 56 rfl) rfl rfl ?_
            refine T_aload_n 1 (dk dtk_X4_handOn 57 rfl) rfl rfl ?_
            refine T_getR 160 12 173 (dk dtk_X4_handOn 58 rfl) kfl_X4_43 kk_160 (kl_160 hq) (by decide) rfl kr_160_12 ?_
            refine T_iload_n 2 (dk dtk_X4_handOn 59 rfl) rfl rfl ?_
            refine T_sub (lv2 := []) [] rfl ?_
            refine KC_Sv [vr 177, vi (x.1 168 (l1 : Int32).toNatClampNeg), vr 173, vi l1] [] rfl (dk dtk_X4_handOn 60 rfl) kcs_X4_109 rfl (Nat.le_of_ble_eq_true rfl) (Nat.le_of_ble_eq_true rfl) (gok_i av_n as_n) rfl h (fun x11 h => ?_)
            refine T_goto 167 (dk dtk_X4_handOn 61 rfl) (by decide) ?_
            exact KT_vret (dk dtk_X4_handOn 62 rfl) rfl h
        · have h := h.2
          have n12 : ∀ k ∈ [(9 : Int32), (6 : Int32), (7 : Int32), (8 : Int32), (1 : Int32), (2 : Int32), (3 : Int32), (4 : Int32)], ¬ (x.1 167 (l1 : Int32).toNatClampNeg) = k := (gno c3 (gno (fun q9 => c5 (Or.inl q9)) (gno (fun q9 => c5 (Or.inr (q9))) (gno c7 (gno (fun q9 => c8 (Or.inl q9)) (gno (fun q9 => c8 (Or.inr (Or.inl q9))) (gno (fun q9 => c8 (Or.inr (Or.inr (Or.inl q9)))) (gno (fun q9 => c8 (Or.inr (Or.inr (Or.inr (q9))))) gno0))))))))
          have h := h n12
          refine T_table 154 167 (dk dtk_X4_handOn 9 rfl) (by decide) (gtab_d [(9 : Int32), (6 : Int32), (7 : Int32), (8 : Int32), (1 : Int32), (2 : Int32), (3 : Int32), (4 : Int32)] (by decide +kernel) n12) (by decide) ?_
          exact KT_vret (dk dtk_X4_handOn 62 rfl) rfl h
set_option maxRecDepth 100000 in
set_option maxHeartbeats 4000000 in
theorem kg_X4_handOn_99 {G : kG} {q : kP} {d : Nat} {x : gd} {P : Option gv → gd → Prop} (hq : kV q) (l1 : Int32) (l2 : Int32) (l4 : Int32)
    (h : (((6 : Int32) ≤ l4 → P none x) ∧ (¬ ((6 : Int32) ≤ l4) → ((¬ (((l2 >>> (l4 &&& 31 : Int32)) &&& 1) = (1 : Int32)) → KT G q (d + 1) zk_X4_handOn 99 [(0, vr 160), (1, vi l1), (2, vi l2), (4, vi (l4 + 1))] [] x P) ∧ (((l2 >>> (l4 &&& 31 : Int32)) &&& 1) = (1 : Int32) → KT G q d zk_X4_join 0 [(0, vr 178), (1, vi l4), (2, vr 173), (3, vi l1)] [] x (rv (fun x3 => KT G q (d + 1) zk_X4_handOn 99 [(0, vr 160), (1, vi l1), (2, vi l2), (4, vi (l4 + 1))] [] x3 P))))))) :
    KT G q (d + 1) zk_X4_handOn 99 [(0, vr 160), (1, vi l1), (2, vi l2), (4, vi l4)] [] x P := by
  refine T_iload 3 (dk dtk_X4_handOn 28 rfl) rfl ?_
  refine T_bipush (v := 6) (dk dtk_X4_handOn 29 rfl) (by decide +kernel) ?_
  refine T_icmp_ge 136 (dk dtk_X4_handOn 30 rfl) (by decide) (fun c1 => ?_) (fun c1 => ?_)
  · have h := h.1 c1
    refine T_goto 167 (dk dtk_X4_handOn 47 rfl) (by decide) ?_
    exact KT_vret (dk dtk_X4_handOn 62 rfl) rfl h
  · have h := h.2 c1
    refine T_iload_n 2 (dk dtk_X4_handOn 31 rfl) rfl rfl ?_
    refine T_iload 3 (dk dtk_X4_handOn 32 rfl) rfl ?_
    refine T_ishr (dk dtk_X4_handOn 33 rfl) ?_
    refine T_iconst (v := 1) (dk dtk_X4_handOn 34 rfl) (by decide +kernel) ?_
    refine T_iand (dk dtk_X4_handOn 35 rfl) ?_
    refine T_iconst (v := 1) (dk dtk_X4_handOn 36 rfl) (by decide +kernel) ?_
    refine T_icmp_ne 130 (dk dtk_X4_handOn 37 rfl) (by decide) (fun c2 => ?_) (fun c2 => ?_)
    · have h := h.1 c2
      refine T_iinc (v := l4 + 1) (lv2 := [(4, vi (l4 + 1)), (0, vr 160), (1, vi l1), (2, vi l2)]) 3 (dk dtk_X4_handOn 45 rfl) rfl rfl (by decide) rfl ?_
      refine T_goto 99 (dk dtk_X4_handOn 46 rfl) (by decide) ?_
      exact T_sub [1, 2, 3, 0] rfl h
    · have h := h.2 c2
      refine T_aload_n 0 (dk dtk_X4_handOn 38 rfl) rfl rfl ?_
      refine T_getR 160 17 178 (dk dtk_X4_handOn 39 rfl) kfl_X4_58 kk_160 (kl_160 hq) (by decide) rfl kr_160_17 ?_
      refine T_iload 3 (dk dtk_X4_handOn 40 rfl) rfl ?_
      refine T_aload_n 0 (dk dtk_X4_handOn 41 rfl) rfl rfl ?_
      refine T_getR 160 12 173 (dk dtk_X4_handOn 42 rfl) kfl_X4_43 kk_160 (kl_160 hq) (by decide) rfl kr_160_12 ?_
      refine T_iload_n 1 (dk dtk_X4_handOn 43 rfl) rfl rfl ?_
      refine KC_Sv [vr 178, vi l4, vr 173, vi l1] [] rfl (dk dtk_X4_handOn 44 rfl) kcs_X4_109 rfl (Nat.le_of_ble_eq_true rfl) (Nat.le_of_ble_eq_true rfl) (gok_i (av_c (gkr (kl_160 hq)) (av_c rfl (av_c rfl (av_c rfl av_n)))) as_n) rfl h (fun x3 h => ?_)
      refine T_iinc (v := l4 + 1) (lv2 := [(4, vi (l4 + 1)), (0, vr 160), (1, vi l1), (2, vi l2)]) 3 (dk dtk_X4_handOn 45 rfl) rfl rfl (by decide) rfl ?_
      refine T_goto 99 (dk dtk_X4_handOn 46 rfl) (by decide) ?_
      exact T_sub [1, 2, 3, 0] rfl h
set_option maxRecDepth 100000 in
theorem dtk_X4_join : dck cX4_join [(0, .iconst 0, 1), (1, .istore 4, 2), (3, .iload 4, 2), (5, .bipush 6, 2), (7, .if_icmp .ge 38, 3), (10, .iload_n 1, 1), (11, .bipush 6, 2), (13, .imul, 1), (14, .iload 4, 2), (16, .iadd, 1), (17, .istore 5, 2), (19, .aload_n 0, 1), (20, .iload 5, 2), (22, .aload_n 0, 1), (23, .iload 5, 2), (25, .iaload, 1), (26, .aload_n 2, 1), (27, .iload_n 3, 1), (28, .bipush 6, 2), (30, .imul, 1), (31, .iload 4, 2), (33, .iadd, 1), (34, .iaload, 1), (35, .invokestatic 119, 3), (38, .iastore, 1), (39, .iinc 4 1, 3), (42, .goto (-39), 3), (45, .return_, 1)] = true := by decide +kernel
set_option maxRecDepth 100000 in
set_option maxHeartbeats 4000000 in
theorem kg_X4_join_0 {G : kG} {q : kP} {d : Nat} {x : gd} {P : Option gv → gd → Prop} (hq : kV q) {a0 n0 : Nat} (ka0 : kK a0 = .inr (.int, n0)) (ma0 : a0 ∈ (kf q).2.1) {a2 n2 : Nat} (ka2 : kK a2 = .inr (.int, n2)) (ma2 : a2 ∈ (kf q).2.1) (l1 : Int32) (l3 : Int32)
    (h : KT G q (d + 1) zk_X4_join 3 [(0, vr a0), (1, vi l1), (2, vr a2), (3, vi l3), (4, vi 0)] [] x P) :
    KT G q (d + 1) zk_X4_join 0 [(0, vr a0), (1, vi l1), (2, vr a2), (3, vi l3)] [] x P := by
  refine T_iconst (v := 0) (dk dtk_X4_join 0 rfl) (by decide +kernel) ?_
  refine T_istore (lv2 := [(4, vi 0), (0, vr a0), (1, vi l1), (2, vr a2), (3, vi l3)]) (dk dtk_X4_join 1 rfl) (by decide) rfl ?_
  exact T_sub [1, 2, 3, 4, 0] rfl h
set_option maxRecDepth 100000 in
set_option maxHeartbeats 4000000 in
theorem kg_X4_join_3 {G : kG} {q : kP} {d : Nat} {x : gd} {P : Option gv → gd → Prop} (hq : kV q) {a0 n0 : Nat} (ka0 : kK a0 = .inr (.int, n0)) (ma0 : a0 ∈ (kf q).2.1) {a2 n2 : Nat} (ka2 : kK a2 = .inr (.int, n2)) (ma2 : a2 ∈ (kf q).2.1) (l1 : Int32) (l3 : Int32) (l4 : Int32)
    (h : (((6 : Int32) ≤ l4 → P none x) ∧ (¬ ((6 : Int32) ≤ l4) → vp_in ((l1 * 6) + l4) n0 ∧ vp_in ((l3 * 6) + l4) n2 ∧ (∀ r5 : Int32, (r5.toInt = Int32.toInt (x.1 a0 ((l1 * 6) + l4 : Int32).toNatClampNeg) ∨ r5.toInt = Int32.toInt (x.1 a2 ((l3 * 6) + l4 : Int32).toNatClampNeg)) → Int32.toInt (x.1 a0 ((l1 * 6) + l4 : Int32).toNatClampNeg) ≤ r5.toInt → Int32.toInt (x.1 a2 ((l3 * 6) + l4 : Int32).toNatClampNeg) ≤ r5.toInt → vp_in ((l1 * 6) + l4) n0 ∧ (∀ x10 : gd, x10 = si x a0 ((l1 * 6) + l4 : Int32).toNatClampNeg r5 → KT G q (d + 1) zk_X4_join 3 [(0, vr a0), (1, vi l1), (2, vr a2), (3, vi l3), (4, vi (l4 + 1))] [] x10 P))))) :
    KT G q (d + 1) zk_X4_join 3 [(0, vr a0), (1, vi l1), (2, vr a2), (3, vi l3), (4, vi l4)] [] x P := by
  refine T_iload 4 (dk dtk_X4_join 2 rfl) rfl ?_
  refine T_bipush (v := 6) (dk dtk_X4_join 3 rfl) (by decide +kernel) ?_
  refine T_icmp_ge 45 (dk dtk_X4_join 4 rfl) (by decide) (fun c1 => ?_) (fun c1 => ?_)
  · have h := h.1 c1
    exact KT_vret (dk dtk_X4_join 27 rfl) rfl h
  · have h := h.2 c1
    refine T_iload_n 1 (dk dtk_X4_join 5 rfl) rfl rfl ?_
    refine T_bipush (v := 6) (dk dtk_X4_join 6 rfl) (by decide +kernel) ?_
    refine T_imul (dk dtk_X4_join 7 rfl) ?_
    refine T_iload 4 (dk dtk_X4_join 8 rfl) rfl ?_
    refine T_iadd (dk dtk_X4_join 9 rfl) ?_
    refine T_istore (lv2 := [(5, vi ((l1 * 6) + l4)), (0, vr a0), (1, vi l1), (2, vr a2), (3, vi l3), (4, vi l4)]) (dk dtk_X4_join 10 rfl) (by decide) rfl ?_
    refine T_aload_n 1 (dk dtk_X4_join 11 rfl) rfl rfl ?_
    refine T_iload 0 (dk dtk_X4_join 12 rfl) rfl ?_
    refine T_aload_n 1 (dk dtk_X4_join 13 rfl) rfl rfl ?_
    refine T_iload 0 (dk dtk_X4_join 14 rfl) rfl ?_
    obtain ⟨h2, h⟩ := h
    refine T_iald a0 n0 (dk dtk_X4_join 15 rfl) ka0 ma0 h2 ?_
    refine T_aload_n 3 (dk dtk_X4_join 16 rfl) rfl rfl ?_
    refine T_iload_n 4 (dk dtk_X4_join 17 rfl) rfl rfl ?_
    refine T_bipush (v := 6) (dk dtk_X4_join 18 rfl) (by decide +kernel) ?_
    refine T_imul (dk dtk_X4_join 19 rfl) ?_
    refine T_iload 5 (dk dtk_X4_join 20 rfl) rfl ?_
    refine T_iadd (dk dtk_X4_join 21 rfl) ?_
    obtain ⟨h3, h⟩ := h
    refine T_iald a2 n2 (dk dtk_X4_join 22 rfl) ka2 ma2 h3 ?_
    refine T_sub (lv2 := [(0, vr a0), (1, vi l1), (2, vr a2), (3, vi l3), (4, vi l4)]) [1, 2, 3, 4, 5] rfl ?_
    refine T_max (dk dtk_X4_join 23 rfl) kmx_X4_119 (by omega) (Nat.le_of_ble_eq_true rfl) (fun r5 h6 h7 h8 => ?_)
    have h := h r5 h6 h7 h8
    obtain ⟨h9, h⟩ := h
    obtain ⟨x10, ex10⟩ : ∃ z, z = si x a0 ((l1 * 6) + l4 : Int32).toNatClampNeg r5 := ⟨_, rfl⟩
    have h := h x10 ex10
    refine T_iast a0 n0 (dk dtk_X4_join 24 rfl) ka0 ma0 h9 ?_
    rw [← ex10]
    refine T_iinc (v := l4 + 1) (lv2 := [(4, vi (l4 + 1)), (0, vr a0), (1, vi l1), (2, vr a2), (3, vi l3)]) 4 (dk dtk_X4_join 25 rfl) rfl rfl (by decide) rfl ?_
    refine T_goto 3 (dk dtk_X4_join 26 rfl) (by decide) ?_
    exact T_sub [1, 2, 3, 4, 0] rfl h
set_option maxRecDepth 100000 in
theorem dtk_X4_isBefore : dck cX4_isBefore [(0, .aload_n 0, 1), (1, .getfield 21, 3), (4, .iload_n 1, 1), (5, .iaload, 1), (6, .istore_n 3, 1), (7, .iload_n 1, 1), (8, .iload_n 2, 1), (9, .if_icmp .eq 32, 3), (12, .aload_n 0, 1), (13, .getfield 43, 3), (16, .iload_n 2, 1), (17, .bipush 6, 2), (19, .imul, 1), (20, .iload_n 3, 1), (21, .iadd, 1), (22, .iaload, 1), (23, .aload_n 0, 1), (24, .getfield 43, 3), (27, .iload_n 1, 1), (28, .bipush 6, 2), (30, .imul, 1), (31, .iload_n 3, 1), (32, .iadd, 1), (33, .iaload, 1), (34, .if_icmp .lt 7, 3), (37, .iconst 1, 1), (38, .goto 4, 3), (41, .iconst 0, 1), (42, .ireturn, 1)] = true := by decide +kernel
set_option maxRecDepth 100000 in
set_option maxHeartbeats 4000000 in
theorem kg_X4_isBefore_0 {G : kG} {q : kP} {d : Nat} {x : gd} {P : Option gv → gd → Prop} (hq : kV q) (l1 : Int32) (l2 : Int32)
    (h : vp_in l1 400 ∧ ((l1 = l2 → P (some (vi 0)) x) ∧ (¬ (l1 = l2) → vp_in ((l2 * 6) + (x.1 166 (l1 : Int32).toNatClampNeg)) 2400 ∧ vp_in ((l1 * 6) + (x.1 166 (l1 : Int32).toNatClampNeg)) 2400 ∧ (((x.1 173 ((l2 * 6) + (x.1 166 (l1 : Int32).toNatClampNeg) : Int32).toNatClampNeg) < (x.1 173 ((l1 * 6) + (x.1 166 (l1 : Int32).toNatClampNeg) : Int32).toNatClampNeg) → P (some (vi 0)) x) ∧ (¬ ((x.1 173 ((l2 * 6) + (x.1 166 (l1 : Int32).toNatClampNeg) : Int32).toNatClampNeg) < (x.1 173 ((l1 * 6) + (x.1 166 (l1 : Int32).toNatClampNeg) : Int32).toNatClampNeg)) → P (some (vi 1)) x))))) :
    KT G q d zk_X4_isBefore 0 [(0, vr 160), (1, vi l1), (2, vi l2)] [] x P := by
  refine T_aload_n 0 (dk dtk_X4_isBefore 0 rfl) rfl rfl ?_
  refine T_getR 160 5 166 (dk dtk_X4_isBefore 1 rfl) kfl_X4_21 kk_160 (kl_160 hq) (by decide) rfl kr_160_5 ?_
  refine T_iload_n 1 (dk dtk_X4_isBefore 2 rfl) rfl rfl ?_
  obtain ⟨h1, h⟩ := h
  refine T_iald 166 400 (dk dtk_X4_isBefore 3 rfl) kk_166 (kl_166 hq) h1 ?_
  refine T_istore_n (lv2 := [(3, vi (x.1 166 (l1 : Int32).toNatClampNeg)), (0, vr 160), (1, vi l1), (2, vi l2)]) (dk dtk_X4_isBefore 4 rfl) rfl (by decide) rfl ?_
  refine T_iload_n 2 (dk dtk_X4_isBefore 5 rfl) rfl rfl ?_
  refine T_iload_n 3 (dk dtk_X4_isBefore 6 rfl) rfl rfl ?_
  refine T_icmp_eq 41 (dk dtk_X4_isBefore 7 rfl) (by decide) (fun c2 => ?_) (fun c2 => ?_)
  · have h := h.1 c2
    refine T_iconst (v := 0) (dk dtk_X4_isBefore 27 rfl) (by decide +kernel) ?_
    exact KT_iret (dk dtk_X4_isBefore 28 rfl) rfl rfl h
  · have h := h.2 c2
    refine T_aload_n 1 (dk dtk_X4_isBefore 8 rfl) rfl rfl ?_
    refine T_getR 160 12 173 (dk dtk_X4_isBefore 9 rfl) kfl_X4_43 kk_160 (kl_160 hq) (by decide) rfl kr_160_12 ?_
    refine T_iload_n 3 (dk dtk_X4_isBefore 10 rfl) rfl rfl ?_
    refine T_bipush (v := 6) (dk dtk_X4_isBefore 11 rfl) (by decide +kernel) ?_
    refine T_imul (dk dtk_X4_isBefore 12 rfl) ?_
    refine T_iload_n 0 (dk dtk_X4_isBefore 13 rfl) rfl rfl ?_
    refine T_iadd (dk dtk_X4_isBefore 14 rfl) ?_
    obtain ⟨h3, h⟩ := h
    refine T_iald 173 2400 (dk dtk_X4_isBefore 15 rfl) kk_173 (kl_173 hq) h3 ?_
    refine T_aload_n 1 (dk dtk_X4_isBefore 16 rfl) rfl rfl ?_
    refine T_getR 160 12 173 (dk dtk_X4_isBefore 17 rfl) kfl_X4_43 kk_160 (kl_160 hq) (by decide) rfl kr_160_12 ?_
    refine T_iload_n 2 (dk dtk_X4_isBefore 18 rfl) rfl rfl ?_
    refine T_bipush (v := 6) (dk dtk_X4_isBefore 19 rfl) (by decide +kernel) ?_
    refine T_imul (dk dtk_X4_isBefore 20 rfl) ?_
    refine T_iload_n 0 (dk dtk_X4_isBefore 21 rfl) rfl rfl ?_
    refine T_iadd (dk dtk_X4_isBefore 22 rfl) ?_
    obtain ⟨h4, h⟩ := h
    refine T_iald 173 2400 (dk dtk_X4_isBefore 23 rfl) kk_173 (kl_173 hq) h4 ?_
    refine T_icmp_lt 41 (dk dtk_X4_isBefore 24 rfl) (by decide) (fun c5 => ?_) (fun c5 => ?_)
    · have h := h.1 c5
      refine T_iconst (v := 0) (dk dtk_X4_isBefore 27 rfl) (by decide +kernel) ?_
      exact KT_iret (dk dtk_X4_isBefore 28 rfl) rfl rfl h
    · have h := h.2 c5
      refine T_iconst (v := 1) (dk dtk_X4_isBefore 25 rfl) (by decide +kernel) ?_
      refine T_goto 42 (dk dtk_X4_isBefore 26 rfl) (by decide) ?_
      exact KT_iret (dk dtk_X4_isBefore 28 rfl) rfl rfl h
set_option maxRecDepth 100000 in
theorem dtk_X4_races : dck cX4_races [(0, .aload_n 0, 1), (1, .getfield 65, 3), (4, .ifCond .ne 7, 3), (7, .iconst 0, 1), (8, .goto 14, 3), (11, .aload_n 0, 1), (12, .getfield 40, 3), (15, .aload_n 0, 1), (16, .getfield 65, 3), (19, .iconst 1, 1), (20, .isub, 1), (21, .iaload, 1), (22, .ireturn, 1)] = true := by decide +kernel
set_option maxRecDepth 100000 in
set_option maxHeartbeats 4000000 in
theorem kg_X4_races_0 {G : kG} {q : kP} {d : Nat} {x : gd} {P : Option gv → gd → Prop} (hq : kV q) 
    (h : ((¬ ((x.1 160 3) = (0 : Int32)) → vp_in ((x.1 160 3) - 1) 400 ∧ P (some (vi (x.1 172 ((x.1 160 3) - 1 : Int32).toNatClampNeg))) x) ∧ ((x.1 160 3) = (0 : Int32) → P (some (vi 0)) x))) :
    KT G q d zk_X4_races 0 [(0, vr 160)] [] x P := by
  refine T_aload_n 0 (dk dtk_X4_races 0 rfl) rfl rfl ?_
  refine T_getI 160 3 (dk dtk_X4_races 1 rfl) kfl_X4_65 kk_160 (kl_160 hq) (by decide) rfl ?_
  refine T_if_ne 11 (dk dtk_X4_races 2 rfl) (by decide) (fun c1 => ?_) (fun c1 => ?_)
  · have h := h.1 c1
    refine T_aload_n 0 (dk dtk_X4_races 5 rfl) rfl rfl ?_
    refine T_getR 160 11 172 (dk dtk_X4_races 6 rfl) kfl_X4_40 kk_160 (kl_160 hq) (by decide) rfl kr_160_11 ?_
    refine T_aload_n 0 (dk dtk_X4_races 7 rfl) rfl rfl ?_
    refine T_getI 160 3 (dk dtk_X4_races 8 rfl) kfl_X4_65 kk_160 (kl_160 hq) (by decide) rfl ?_
    refine T_iconst (v := 1) (dk dtk_X4_races 9 rfl) (by decide +kernel) ?_
    refine T_isub (dk dtk_X4_races 10 rfl) ?_
    obtain ⟨h2, h⟩ := h
    refine T_iald 172 400 (dk dtk_X4_races 11 rfl) kk_172 (kl_172 hq) h2 ?_
    exact KT_iret (dk dtk_X4_races 12 rfl) rfl rfl h
  · have h := h.2 c1
    refine T_iconst (v := 0) (dk dtk_X4_races 3 rfl) (by decide +kernel) ?_
    refine T_goto 22 (dk dtk_X4_races 4 rfl) (by decide) ?_
    exact KT_iret (dk dtk_X4_races 12 rfl) rfl rfl h
set_option maxRecDepth 100000 in
theorem dtk_X4_laterOfRace : dck cX4_laterOfRace [(0, .iconst 0, 1), (1, .istore_n 2, 1), (2, .iload_n 2, 1), (3, .aload_n 0, 1), (4, .getfield 65, 3), (7, .if_icmp .ge 21, 3), (10, .aload_n 0, 1), (11, .getfield 40, 3), (14, .iload_n 2, 1), (15, .iaload, 1), (16, .iload_n 1, 1), (17, .if_icmp .le 5, 3), (20, .iload_n 2, 1), (21, .ireturn, 1), (22, .iinc 2 1, 3), (25, .goto (-23), 3), (28, .iconst (-1), 1), (29, .ireturn, 1)] = true := by decide +kernel
set_option maxRecDepth 100000 in
set_option maxHeartbeats 4000000 in
theorem kg_X4_laterOfRace_0 {G : kG} {q : kP} {d : Nat} {x : gd} {P : Option gv → gd → Prop} (hq : kV q) (l1 : Int32)
    (h : KT G q d zk_X4_laterOfRace 2 [(0, vr 160), (1, vi l1), (2, vi 0)] [] x P) :
    KT G q d zk_X4_laterOfRace 0 [(0, vr 160), (1, vi l1)] [] x P := by
  refine T_iconst (v := 0) (dk dtk_X4_laterOfRace 0 rfl) (by decide +kernel) ?_
  refine T_istore_n (lv2 := [(2, vi 0), (0, vr 160), (1, vi l1)]) (dk dtk_X4_laterOfRace 1 rfl) rfl (by decide) rfl ?_
  exact T_sub [1, 2, 0] rfl h
set_option maxRecDepth 100000 in
set_option maxHeartbeats 4000000 in
theorem kg_X4_laterOfRace_2 {G : kG} {q : kP} {d : Nat} {x : gd} {P : Option gv → gd → Prop} (hq : kV q) (l1 : Int32) (l2 : Int32)
    (h : (((x.1 160 3) ≤ l2 → P (some (vi (-1))) x) ∧ (¬ ((x.1 160 3) ≤ l2) → vp_in l2 400 ∧ (((x.1 172 (l2 : Int32).toNatClampNeg) ≤ l1 → KT G q d zk_X4_laterOfRace 2 [(0, vr 160), (1, vi l1), (2, vi (l2 + 1))] [] x P) ∧ (¬ ((x.1 172 (l2 : Int32).toNatClampNeg) ≤ l1) → P (some (vi l2)) x))))) :
    KT G q d zk_X4_laterOfRace 2 [(0, vr 160), (1, vi l1), (2, vi l2)] [] x P := by
  refine T_iload_n 2 (dk dtk_X4_laterOfRace 2 rfl) rfl rfl ?_
  refine T_aload_n 0 (dk dtk_X4_laterOfRace 3 rfl) rfl rfl ?_
  refine T_getI 160 3 (dk dtk_X4_laterOfRace 4 rfl) kfl_X4_65 kk_160 (kl_160 hq) (by decide) rfl ?_
  refine T_icmp_ge 28 (dk dtk_X4_laterOfRace 5 rfl) (by decide) (fun c1 => ?_) (fun c1 => ?_)
  · have h := h.1 c1
    refine T_iconst (v := (-1)) (dk dtk_X4_laterOfRace 16 rfl) (by decide +kernel) ?_
    exact KT_iret (dk dtk_X4_laterOfRace 17 rfl) rfl rfl h
  · have h := h.2 c1
    refine T_aload_n 0 (dk dtk_X4_laterOfRace 6 rfl) rfl rfl ?_
    refine T_getR 160 11 172 (dk dtk_X4_laterOfRace 7 rfl) kfl_X4_40 kk_160 (kl_160 hq) (by decide) rfl kr_160_11 ?_
    refine T_iload_n 2 (dk dtk_X4_laterOfRace 8 rfl) rfl rfl ?_
    obtain ⟨h2, h⟩ := h
    refine T_iald 172 400 (dk dtk_X4_laterOfRace 9 rfl) kk_172 (kl_172 hq) h2 ?_
    refine T_iload_n 1 (dk dtk_X4_laterOfRace 10 rfl) rfl rfl ?_
    refine T_icmp_le 22 (dk dtk_X4_laterOfRace 11 rfl) (by decide) (fun c3 => ?_) (fun c3 => ?_)
    · have h := h.1 c3
      refine T_iinc (v := l2 + 1) (lv2 := [(2, vi (l2 + 1)), (0, vr 160), (1, vi l1)]) 2 (dk dtk_X4_laterOfRace 14 rfl) rfl rfl (by decide) rfl ?_
      refine T_goto 2 (dk dtk_X4_laterOfRace 15 rfl) (by decide) ?_
      exact T_sub [1, 2, 0] rfl h
    · have h := h.2 c3
      refine T_iload_n 2 (dk dtk_X4_laterOfRace 12 rfl) rfl rfl ?_
      exact KT_iret (dk dtk_X4_laterOfRace 13 rfl) rfl rfl h
set_option maxRecDepth 100000 in
theorem dtk_X4_earlierOfRace : dck cX4_earlierOfRace [(0, .iload_n 1, 1), (1, .iload_n 2, 1), (2, .ifCond .le 14, 3), (5, .aload_n 0, 1), (6, .getfield 40, 3), (9, .iload_n 2, 1), (10, .iconst 1, 1), (11, .isub, 1), (12, .iaload, 1), (13, .goto 4, 3), (16, .iconst 0, 1), (17, .isub, 1), (18, .istore_n 3, 1), (19, .iconst 0, 1), (20, .istore 4, 2), (22, .iload 4, 2), (24, .iload_n 2, 1), (25, .if_icmp .ge 29, 3), (28, .aload_n 0, 1), (29, .iload 4, 2), (31, .iload_n 2, 1), (32, .invokevirtual 125, 3), (35, .ifCond .eq 13, 3), (38, .iload_n 3, 1), (39, .ifCond .ne 6, 3), (42, .iload 4, 2), (44, .ireturn, 1), (45, .iinc 3 (-1), 3), (48, .iinc 4 1, 3), (51, .goto (-29), 3), (54, .iconst (-1), 1), (55, .ireturn, 1)] = true := by decide +kernel
set_option maxRecDepth 100000 in
set_option maxHeartbeats 4000000 in
theorem kg_X4_earlierOfRace_0 {G : kG} {q : kP} {d : Nat} {x : gd} {P : Option gv → gd → Prop} (hq : kV q) (l1 : Int32) (l2 : Int32)
    (h : ((l2 ≤ (0 : Int32) → KT G q (d + 1) zk_X4_earlierOfRace 22 [(0, vr 160), (2, vi l2), (3, vi (l1 - 0)), (4, vi 0)] [] x P) ∧ (¬ (l2 ≤ (0 : Int32)) → vp_in (l2 - 1) 400 ∧ KT G q (d + 1) zk_X4_earlierOfRace 22 [(0, vr 160), (2, vi l2), (3, vi (l1 - (x.1 172 (l2 - 1 : Int32).toNatClampNeg))), (4, vi 0)] [] x P))) :
    KT G q (d + 1) zk_X4_earlierOfRace 0 [(0, vr 160), (1, vi l1), (2, vi l2)] [] x P := by
  refine T_iload_n 1 (dk dtk_X4_earlierOfRace 0 rfl) rfl rfl ?_
  refine T_iload_n 2 (dk dtk_X4_earlierOfRace 1 rfl) rfl rfl ?_
  refine T_if_le 16 (dk dtk_X4_earlierOfRace 2 rfl) (by decide) (fun c1 => ?_) (fun c1 => ?_)
  · have h := h.1 c1
    refine T_iconst (v := 0) (dk dtk_X4_earlierOfRace 10 rfl) (by decide +kernel) ?_
    refine T_isub (dk dtk_X4_earlierOfRace 11 rfl) ?_
    refine T_istore_n (lv2 := [(3, vi (l1 - 0)), (0, vr 160), (1, vi l1), (2, vi l2)]) (dk dtk_X4_earlierOfRace 12 rfl) rfl (by decide) rfl ?_
    refine T_iconst (v := 0) (dk dtk_X4_earlierOfRace 13 rfl) (by decide +kernel) ?_
    refine T_istore (lv2 := [(4, vi 0), (3, vi (l1 - 0)), (0, vr 160), (1, vi l1), (2, vi l2)]) (dk dtk_X4_earlierOfRace 14 rfl) (by decide) rfl ?_
    exact T_sub [2, 4, 1, 0] rfl h
  · have h := h.2 c1
    refine T_aload_n 0 (dk dtk_X4_earlierOfRace 3 rfl) rfl rfl ?_
    refine T_getR 160 11 172 (dk dtk_X4_earlierOfRace 4 rfl) kfl_X4_40 kk_160 (kl_160 hq) (by decide) rfl kr_160_11 ?_
    refine T_iload_n 2 (dk dtk_X4_earlierOfRace 5 rfl) rfl rfl ?_
    refine T_iconst (v := 1) (dk dtk_X4_earlierOfRace 6 rfl) (by decide +kernel) ?_
    refine T_isub (dk dtk_X4_earlierOfRace 7 rfl) ?_
    obtain ⟨h2, h⟩ := h
    refine T_iald 172 400 (dk dtk_X4_earlierOfRace 8 rfl) kk_172 (kl_172 hq) h2 ?_
    refine T_goto 17 (dk dtk_X4_earlierOfRace 9 rfl) (by decide) ?_
    refine T_isub (dk dtk_X4_earlierOfRace 11 rfl) ?_
    refine T_istore_n (lv2 := [(3, vi (l1 - (x.1 172 (l2 - 1 : Int32).toNatClampNeg))), (0, vr 160), (1, vi l1), (2, vi l2)]) (dk dtk_X4_earlierOfRace 12 rfl) rfl (by decide) rfl ?_
    refine T_iconst (v := 0) (dk dtk_X4_earlierOfRace 13 rfl) (by decide +kernel) ?_
    refine T_istore (lv2 := [(4, vi 0), (3, vi (l1 - (x.1 172 (l2 - 1 : Int32).toNatClampNeg))), (0, vr 160), (1, vi l1), (2, vi l2)]) (dk dtk_X4_earlierOfRace 14 rfl) (by decide) rfl ?_
    exact T_sub [2, 4, 1, 0] rfl h
set_option maxRecDepth 100000 in
set_option maxHeartbeats 4000000 in
theorem kg_X4_earlierOfRace_22 {G : kG} {q : kP} {d : Nat} {x : gd} {P : Option gv → gd → Prop} (hq : kV q) (l2 : Int32) (l3 : Int32) (l4 : Int32)
    (h : ((l2 ≤ l4 → P (some (vi (-1))) x) ∧ (¬ (l2 ≤ l4) → KT G q d zk_X4_isRace 0 [(0, vr 160), (1, vi l4), (2, vi l2)] [] x (ri (fun r3 x2 => ((r3 = (0 : Int32) → KT G q (d + 1) zk_X4_earlierOfRace 22 [(0, vr 160), (2, vi l2), (3, vi l3), (4, vi (l4 + 1))] [] x2 P) ∧ (¬ (r3 = (0 : Int32)) → ((¬ (l3 = (0 : Int32)) → KT G q (d + 1) zk_X4_earlierOfRace 22 [(0, vr 160), (2, vi l2), (3, vi (l3 + (-1))), (4, vi (l4 + 1))] [] x2 P) ∧ (l3 = (0 : Int32) → P (some (vi l4)) x2))))))))) :
    KT G q (d + 1) zk_X4_earlierOfRace 22 [(0, vr 160), (2, vi l2), (3, vi l3), (4, vi l4)] [] x P := by
  refine T_iload 3 (dk dtk_X4_earlierOfRace 15 rfl) rfl ?_
  refine T_iload_n 1 (dk dtk_X4_earlierOfRace 16 rfl) rfl rfl ?_
  refine T_icmp_ge 54 (dk dtk_X4_earlierOfRace 17 rfl) (by decide) (fun c1 => ?_) (fun c1 => ?_)
  · have h := h.1 c1
    refine T_iconst (v := (-1)) (dk dtk_X4_earlierOfRace 30 rfl) (by decide +kernel) ?_
    exact KT_iret (dk dtk_X4_earlierOfRace 31 rfl) rfl rfl h
  · have h := h.2 c1
    refine T_aload_n 0 (dk dtk_X4_earlierOfRace 18 rfl) rfl rfl ?_
    refine T_iload 3 (dk dtk_X4_earlierOfRace 19 rfl) rfl ?_
    refine T_iload_n 1 (dk dtk_X4_earlierOfRace 20 rfl) rfl rfl ?_
    refine KC_Vi [vi l4, vi l2] [] rfl (dk dtk_X4_earlierOfRace 21 rfl) kcv_X4_125 rfl kk_160 rfl (kl_160 hq) (Nat.le_of_ble_eq_true rfl) (Nat.le_of_ble_eq_true rfl) (gok_i (av_c (gkr (kl_160 hq)) (av_c rfl (av_c rfl (av_c rfl av_n)))) as_n) rfl h (fun r3 x2 h => ?_)
    refine T_if_eq 48 (dk dtk_X4_earlierOfRace 22 rfl) (by decide) (fun c4 => ?_) (fun c4 => ?_)
    · have h := h.1 c4
      refine T_iinc (v := l4 + 1) (lv2 := [(4, vi (l4 + 1)), (0, vr 160), (2, vi l2), (3, vi l3)]) 3 (dk dtk_X4_earlierOfRace 28 rfl) rfl rfl (by decide) rfl ?_
      refine T_goto 22 (dk dtk_X4_earlierOfRace 29 rfl) (by decide) ?_
      exact T_sub [1, 2, 3, 0] rfl h
    · have h := h.2 c4
      refine T_iload_n 2 (dk dtk_X4_earlierOfRace 23 rfl) rfl rfl ?_
      refine T_if_ne 45 (dk dtk_X4_earlierOfRace 24 rfl) (by decide) (fun c5 => ?_) (fun c5 => ?_)
      · have h := h.1 c5
        refine T_iinc (v := l3 + (-1)) (lv2 := [(3, vi (l3 + (-1))), (0, vr 160), (2, vi l2), (4, vi l4)]) 2 (dk dtk_X4_earlierOfRace 27 rfl) rfl rfl (by decide) rfl ?_
        refine T_iinc (v := l4 + 1) (lv2 := [(4, vi (l4 + 1)), (3, vi (l3 + (-1))), (0, vr 160), (2, vi l2)]) 3 (dk dtk_X4_earlierOfRace 28 rfl) rfl rfl (by decide) rfl ?_
        refine T_goto 22 (dk dtk_X4_earlierOfRace 29 rfl) (by decide) ?_
        exact T_sub [2, 3, 1, 0] rfl h
      · have h := h.2 c5
        refine T_iload 3 (dk dtk_X4_earlierOfRace 25 rfl) rfl ?_
        exact KT_iret (dk dtk_X4_earlierOfRace 26 rfl) rfl rfl h
set_option maxRecDepth 100000 in
theorem dtk_X4_racesOf : dck cX4_racesOf [(0, .aload_n 0, 1), (1, .iload_n 1, 1), (2, .invokevirtual 129, 3), (5, .ifCond .ne 5, 3), (8, .iconst 0, 1), (9, .ireturn, 1), (10, .iconst 0, 1), (11, .istore_n 2, 1), (12, .iconst 0, 1), (13, .istore_n 3, 1), (14, .iload_n 3, 1), (15, .iload_n 1, 1), (16, .if_icmp .ge 21, 3), (19, .aload_n 0, 1), (20, .iload_n 3, 1), (21, .iload_n 1, 1), (22, .invokevirtual 125, 3), (25, .ifCond .eq 6, 3), (28, .iinc 2 1, 3), (31, .iinc 3 1, 3), (34, .goto (-20), 3), (37, .iload_n 2, 1), (38, .ireturn, 1)] = true := by decide +kernel
set_option maxRecDepth 100000 in
set_option maxHeartbeats 4000000 in
theorem kg_X4_racesOf_0 {G : kG} {q : kP} {d : Nat} {x : gd} {P : Option gv → gd → Prop} (hq : kV q) (l1 : Int32)
    (h : KT G q d zk_X4_mayRace 0 [(0, vr 160), (1, vi l1)] [] x (ri (fun r2 x1 => ((¬ (r2 = (0 : Int32)) → KT G q (d + 1) zk_X4_racesOf 14 [(0, vr 160), (1, vi l1), (2, vi 0), (3, vi 0)] [] x1 P) ∧ (r2 = (0 : Int32) → P (some (vi 0)) x1))))) :
    KT G q (d + 1) zk_X4_racesOf 0 [(0, vr 160), (1, vi l1)] [] x P := by
  refine T_aload_n 0 (dk dtk_X4_racesOf 0 rfl) rfl rfl ?_
  refine T_iload_n 1 (dk dtk_X4_racesOf 1 rfl) rfl rfl ?_
  refine KC_Vi [vi l1] [] rfl (dk dtk_X4_racesOf 2 rfl) kcv_X4_129 rfl kk_160 rfl (kl_160 hq) (Nat.le_of_ble_eq_true rfl) (Nat.le_of_ble_eq_true rfl) (gok_i (av_c (gkr (kl_160 hq)) (av_c rfl av_n)) as_n) rfl h (fun r2 x1 h => ?_)
  refine T_if_ne 10 (dk dtk_X4_racesOf 3 rfl) (by decide) (fun c3 => ?_) (fun c3 => ?_)
  · have h := h.1 c3
    refine T_iconst (v := 0) (dk dtk_X4_racesOf 6 rfl) (by decide +kernel) ?_
    refine T_istore_n (lv2 := [(2, vi 0), (0, vr 160), (1, vi l1)]) (dk dtk_X4_racesOf 7 rfl) rfl (by decide) rfl ?_
    refine T_iconst (v := 0) (dk dtk_X4_racesOf 8 rfl) (by decide +kernel) ?_
    refine T_istore_n (lv2 := [(3, vi 0), (2, vi 0), (0, vr 160), (1, vi l1)]) (dk dtk_X4_racesOf 9 rfl) rfl (by decide) rfl ?_
    exact T_sub [2, 3, 1, 0] rfl h
  · have h := h.2 c3
    refine T_iconst (v := 0) (dk dtk_X4_racesOf 4 rfl) (by decide +kernel) ?_
    exact KT_iret (dk dtk_X4_racesOf 5 rfl) rfl rfl h
set_option maxRecDepth 100000 in
set_option maxHeartbeats 4000000 in
theorem kg_X4_racesOf_14 {G : kG} {q : kP} {d : Nat} {x : gd} {P : Option gv → gd → Prop} (hq : kV q) (l1 : Int32) (l2 : Int32) (l3 : Int32)
    (h : ((l1 ≤ l3 → P (some (vi l2)) x) ∧ (¬ (l1 ≤ l3) → KT G q d zk_X4_isRace 0 [(0, vr 160), (1, vi l3), (2, vi l1)] [] x (ri (fun r3 x2 => ((r3 = (0 : Int32) → KT G q (d + 1) zk_X4_racesOf 14 [(0, vr 160), (1, vi l1), (2, vi l2), (3, vi (l3 + 1))] [] x2 P) ∧ (¬ (r3 = (0 : Int32)) → KT G q (d + 1) zk_X4_racesOf 14 [(0, vr 160), (1, vi l1), (2, vi (l2 + 1)), (3, vi (l3 + 1))] [] x2 P))))))) :
    KT G q (d + 1) zk_X4_racesOf 14 [(0, vr 160), (1, vi l1), (2, vi l2), (3, vi l3)] [] x P := by
  refine T_iload_n 3 (dk dtk_X4_racesOf 10 rfl) rfl rfl ?_
  refine T_iload_n 1 (dk dtk_X4_racesOf 11 rfl) rfl rfl ?_
  refine T_icmp_ge 37 (dk dtk_X4_racesOf 12 rfl) (by decide) (fun c1 => ?_) (fun c1 => ?_)
  · have h := h.1 c1
    refine T_iload_n 2 (dk dtk_X4_racesOf 21 rfl) rfl rfl ?_
    exact KT_iret (dk dtk_X4_racesOf 22 rfl) rfl rfl h
  · have h := h.2 c1
    refine T_aload_n 0 (dk dtk_X4_racesOf 13 rfl) rfl rfl ?_
    refine T_iload_n 3 (dk dtk_X4_racesOf 14 rfl) rfl rfl ?_
    refine T_iload_n 1 (dk dtk_X4_racesOf 15 rfl) rfl rfl ?_
    refine KC_Vi [vi l3, vi l1] [] rfl (dk dtk_X4_racesOf 16 rfl) kcv_X4_125 rfl kk_160 rfl (kl_160 hq) (Nat.le_of_ble_eq_true rfl) (Nat.le_of_ble_eq_true rfl) (gok_i (av_c (gkr (kl_160 hq)) (av_c rfl (av_c rfl (av_c rfl av_n)))) as_n) rfl h (fun r3 x2 h => ?_)
    refine T_if_eq 31 (dk dtk_X4_racesOf 17 rfl) (by decide) (fun c4 => ?_) (fun c4 => ?_)
    · have h := h.1 c4
      refine T_iinc (v := l3 + 1) (lv2 := [(3, vi (l3 + 1)), (0, vr 160), (1, vi l1), (2, vi l2)]) 3 (dk dtk_X4_racesOf 19 rfl) rfl rfl (by decide) rfl ?_
      refine T_goto 14 (dk dtk_X4_racesOf 20 rfl) (by decide) ?_
      exact T_sub [1, 2, 3, 0] rfl h
    · have h := h.2 c4
      refine T_iinc (v := l2 + 1) (lv2 := [(2, vi (l2 + 1)), (0, vr 160), (1, vi l1), (3, vi l3)]) 2 (dk dtk_X4_racesOf 18 rfl) rfl rfl (by decide) rfl ?_
      refine T_iinc (v := l3 + 1) (lv2 := [(3, vi (l3 + 1)), (2, vi (l2 + 1)), (0, vr 160), (1, vi l1)]) 3 (dk dtk_X4_racesOf 19 rfl) rfl rfl (by decide) rfl ?_
      refine T_goto 14 (dk dtk_X4_racesOf 20 rfl) (by decide) ?_
      exact T_sub [2, 3, 1, 0] rfl h
set_option maxRecDepth 100000 in
theorem dtk_X4_mayRace : dck cX4_mayRace [(0, .aload_n 0, 1), (1, .getfield 24, 3), (4, .iload_n 1, 1), (5, .iaload, 1), (6, .iconst 4, 1), (7, .if_icmp .gt 33, 3), (10, .aload_n 0, 1), (11, .getfield 36, 3), (14, .iload_n 1, 1), (15, .baload, 1), (16, .ifCond .ne 24, 3), (19, .aload_n 0, 1), (20, .getfield 11, 3), (23, .getfield 116, 3), (26, .aload_n 0, 1), (27, .getfield 27, 3), (30, .iload_n 1, 1), (31, .iaload, 1), (32, .baload, 1), (33, .ifCond .ne 7, 3), (36, .iconst 1, 1), (37, .goto 4, 3), (40, .iconst 0, 1), (41, .ireturn, 1)] = true := by decide +kernel
set_option maxRecDepth 100000 in
set_option maxHeartbeats 4000000 in
theorem kg_X4_mayRace_0 {G : kG} {q : kP} {d : Nat} {x : gd} {P : Option gv → gd → Prop} (hq : kV q) (l1 : Int32)
    (h : vp_in l1 400 ∧ (((4 : Int32) < (x.1 167 (l1 : Int32).toNatClampNeg) → P (some (vi 0)) x) ∧ (¬ ((4 : Int32) < (x.1 167 (l1 : Int32).toNatClampNeg)) → vp_in l1 400 ∧ ((¬ ((x.1 171 (l1 : Int32).toNatClampNeg) = (0 : Int32)) → P (some (vi 0)) x) ∧ ((x.1 171 (l1 : Int32).toNatClampNeg) = (0 : Int32) → vp_in l1 400 ∧ vp_in (x.1 168 (l1 : Int32).toNatClampNeg) 24 ∧ ((¬ ((x.1 69 (x.1 168 (l1 : Int32).toNatClampNeg : Int32).toNatClampNeg) = (0 : Int32)) → P (some (vi 0)) x) ∧ ((x.1 69 (x.1 168 (l1 : Int32).toNatClampNeg : Int32).toNatClampNeg) = (0 : Int32) → P (some (vi 1)) x))))))) :
    KT G q d zk_X4_mayRace 0 [(0, vr 160), (1, vi l1)] [] x P := by
  refine T_aload_n 0 (dk dtk_X4_mayRace 0 rfl) rfl rfl ?_
  refine T_getR 160 6 167 (dk dtk_X4_mayRace 1 rfl) kfl_X4_24 kk_160 (kl_160 hq) (by decide) rfl kr_160_6 ?_
  refine T_iload_n 1 (dk dtk_X4_mayRace 2 rfl) rfl rfl ?_
  obtain ⟨h1, h⟩ := h
  refine T_iald 167 400 (dk dtk_X4_mayRace 3 rfl) kk_167 (kl_167 hq) h1 ?_
  refine T_iconst (v := 4) (dk dtk_X4_mayRace 4 rfl) (by decide +kernel) ?_
  refine T_icmp_gt 40 (dk dtk_X4_mayRace 5 rfl) (by decide) (fun c2 => ?_) (fun c2 => ?_)
  · have h := h.1 c2
    refine T_iconst (v := 0) (dk dtk_X4_mayRace 22 rfl) (by decide +kernel) ?_
    exact KT_iret (dk dtk_X4_mayRace 23 rfl) rfl rfl h
  · have h := h.2 c2
    refine T_aload_n 0 (dk dtk_X4_mayRace 6 rfl) rfl rfl ?_
    refine T_getR 160 10 171 (dk dtk_X4_mayRace 7 rfl) kfl_X4_36 kk_160 (kl_160 hq) (by decide) rfl kr_160_10 ?_
    refine T_iload_n 1 (dk dtk_X4_mayRace 8 rfl) rfl rfl ?_
    obtain ⟨h3, h⟩ := h
    refine T_zald 171 400 (dk dtk_X4_mayRace 9 rfl) kk_171 (kl_171 hq) h3 ?_
    refine T_if_ne 40 (dk dtk_X4_mayRace 10 rfl) (by decide) (fun c4 => ?_) (fun c4 => ?_)
    · have h := h.1 c4
      refine T_iconst (v := 0) (dk dtk_X4_mayRace 22 rfl) (by decide +kernel) ?_
      exact KT_iret (dk dtk_X4_mayRace 23 rfl) rfl rfl h
    · have h := h.2 c4
      refine T_aload_n 0 (dk dtk_X4_mayRace 11 rfl) rfl rfl ?_
      refine T_getR 160 0 60 (dk dtk_X4_mayRace 12 rfl) kfl_X4_11 kk_160 (kl_160 hq) (by decide) rfl kr_160_0 ?_
      refine T_getR 60 8 69 (dk dtk_X4_mayRace 13 rfl) kfl_X4_116 kk_60 (kl_60 hq) (by decide) rfl kr_60_8 ?_
      refine T_aload_n 0 (dk dtk_X4_mayRace 14 rfl) rfl rfl ?_
      refine T_getR 160 7 168 (dk dtk_X4_mayRace 15 rfl) kfl_X4_27 kk_160 (kl_160 hq) (by decide) rfl kr_160_7 ?_
      refine T_iload_n 1 (dk dtk_X4_mayRace 16 rfl) rfl rfl ?_
      obtain ⟨h5, h⟩ := h
      refine T_iald 168 400 (dk dtk_X4_mayRace 17 rfl) kk_168 (kl_168 hq) h5 ?_
      obtain ⟨h6, h⟩ := h
      refine T_zald 69 24 (dk dtk_X4_mayRace 18 rfl) kk_69 (kl_69 hq) h6 ?_
      refine T_if_ne 40 (dk dtk_X4_mayRace 19 rfl) (by decide) (fun c7 => ?_) (fun c7 => ?_)
      · have h := h.1 c7
        refine T_iconst (v := 0) (dk dtk_X4_mayRace 22 rfl) (by decide +kernel) ?_
        exact KT_iret (dk dtk_X4_mayRace 23 rfl) rfl rfl h
      · have h := h.2 c7
        refine T_iconst (v := 1) (dk dtk_X4_mayRace 20 rfl) (by decide +kernel) ?_
        refine T_goto 41 (dk dtk_X4_mayRace 21 rfl) (by decide) ?_
        exact KT_iret (dk dtk_X4_mayRace 23 rfl) rfl rfl h
set_option maxRecDepth 100000 in
theorem dtk_X4_isRace : dck cX4_isRace [(0, .aload_n 0, 1), (1, .getfield 27, 3), (4, .iload_n 1, 1), (5, .iaload, 1), (6, .aload_n 0, 1), (7, .getfield 27, 3), (10, .iload_n 2, 1), (11, .iaload, 1), (12, .if_icmp .ne 57, 3), (15, .aload_n 0, 1), (16, .getfield 21, 3), (19, .iload_n 1, 1), (20, .iaload, 1), (21, .aload_n 0, 1), (22, .getfield 21, 3), (25, .iload_n 2, 1), (26, .iaload, 1), (27, .if_icmp .eq 42, 3), (30, .aload_n 0, 1), (31, .iload_n 1, 1), (32, .invokevirtual 129, 3), (35, .ifCond .eq 34, 3), (38, .aload_n 0, 1), (39, .getfield 24, 3), (42, .iload_n 1, 1), (43, .iaload, 1), (44, .aload_n 0, 1), (45, .getfield 24, 3), (48, .iload_n 2, 1), (49, .iaload, 1), (50, .invokestatic 133, 3), (53, .ifCond .eq 16, 3), (56, .aload_n 0, 1), (57, .iload_n 1, 1), (58, .iload_n 2, 1), (59, .invokevirtual 136, 3), (62, .ifCond .ne 7, 3), (65, .iconst 1, 1), (66, .goto 4, 3), (69, .iconst 0, 1), (70, .ireturn, 1)] = true := by decide +kernel
set_option maxRecDepth 100000 in
set_option maxHeartbeats 4000000 in
theorem kg_X4_isRace_0 {G : kG} {q : kP} {d : Nat} {x : gd} {P : Option gv → gd → Prop} (hq : kV q) (l1 : Int32) (l2 : Int32)
    (h : vp_in l1 400 ∧ vp_in l2 400 ∧ ((¬ ((x.1 168 (l1 : Int32).toNatClampNeg) = (x.1 168 (l2 : Int32).toNatClampNeg)) → P (some (vi 0)) x) ∧ ((x.1 168 (l1 : Int32).toNatClampNeg) = (x.1 168 (l2 : Int32).toNatClampNeg) → vp_in l1 400 ∧ vp_in l2 400 ∧ (((x.1 166 (l1 : Int32).toNatClampNeg) = (x.1 166 (l2 : Int32).toNatClampNeg) → P (some (vi 0)) x) ∧ (¬ ((x.1 166 (l1 : Int32).toNatClampNeg) = (x.1 166 (l2 : Int32).toNatClampNeg)) → KT G q d zk_X4_mayRace 0 [(0, vr 160), (1, vi l1)] [] x (ri (fun r8 x7 => ((r8 = (0 : Int32) → P (some (vi 0)) x7) ∧ (¬ (r8 = (0 : Int32)) → vp_in l1 400 ∧ vp_in l2 400 ∧ KT G q d zk_X4_sortsRace 0 [(0, vi (x7.1 167 (l1 : Int32).toNatClampNeg)), (1, vi (x7.1 167 (l2 : Int32).toNatClampNeg))] [] x7 (ri (fun r13 x12 => ((r13 = (0 : Int32) → P (some (vi 0)) x12) ∧ (¬ (r13 = (0 : Int32)) → KT G q d zk_X4_isBefore 0 [(0, vr 160), (1, vi l1), (2, vi l2)] [] x12 (ri (fun r16 x15 => ((¬ (r16 = (0 : Int32)) → P (some (vi 0)) x15) ∧ (r16 = (0 : Int32) → P (some (vi 1)) x15))))))))))))))))) :
    KT G q (d + 1) zk_X4_isRace 0 [(0, vr 160), (1, vi l1), (2, vi l2)] [] x P := by
  refine T_aload_n 0 (dk dtk_X4_isRace 0 rfl) rfl rfl ?_
  refine T_getR 160 7 168 (dk dtk_X4_isRace 1 rfl) kfl_X4_27 kk_160 (kl_160 hq) (by decide) rfl kr_160_7 ?_
  refine T_iload_n 1 (dk dtk_X4_isRace 2 rfl) rfl rfl ?_
  obtain ⟨h1, h⟩ := h
  refine T_iald 168 400 (dk dtk_X4_isRace 3 rfl) kk_168 (kl_168 hq) h1 ?_
  refine T_aload_n 0 (dk dtk_X4_isRace 4 rfl) rfl rfl ?_
  refine T_getR 160 7 168 (dk dtk_X4_isRace 5 rfl) kfl_X4_27 kk_160 (kl_160 hq) (by decide) rfl kr_160_7 ?_
  refine T_iload_n 2 (dk dtk_X4_isRace 6 rfl) rfl rfl ?_
  obtain ⟨h2, h⟩ := h
  refine T_iald 168 400 (dk dtk_X4_isRace 7 rfl) kk_168 (kl_168 hq) h2 ?_
  refine T_icmp_ne 69 (dk dtk_X4_isRace 8 rfl) (by decide) (fun c3 => ?_) (fun c3 => ?_)
  · have h := h.1 c3
    refine T_iconst (v := 0) (dk dtk_X4_isRace 39 rfl) (by decide +kernel) ?_
    exact KT_iret (dk dtk_X4_isRace 40 rfl) rfl rfl h
  · have h := h.2 c3
    refine T_aload_n 0 (dk dtk_X4_isRace 9 rfl) rfl rfl ?_
    refine T_getR 160 5 166 (dk dtk_X4_isRace 10 rfl) kfl_X4_21 kk_160 (kl_160 hq) (by decide) rfl kr_160_5 ?_
    refine T_iload_n 1 (dk dtk_X4_isRace 11 rfl) rfl rfl ?_
    obtain ⟨h4, h⟩ := h
    refine T_iald 166 400 (dk dtk_X4_isRace 12 rfl) kk_166 (kl_166 hq) h4 ?_
    refine T_aload_n 0 (dk dtk_X4_isRace 13 rfl) rfl rfl ?_
    refine T_getR 160 5 166 (dk dtk_X4_isRace 14 rfl) kfl_X4_21 kk_160 (kl_160 hq) (by decide) rfl kr_160_5 ?_
    refine T_iload_n 2 (dk dtk_X4_isRace 15 rfl) rfl rfl ?_
    obtain ⟨h5, h⟩ := h
    refine T_iald 166 400 (dk dtk_X4_isRace 16 rfl) kk_166 (kl_166 hq) h5 ?_
    refine T_icmp_eq 69 (dk dtk_X4_isRace 17 rfl) (by decide) (fun c6 => ?_) (fun c6 => ?_)
    · have h := h.1 c6
      refine T_iconst (v := 0) (dk dtk_X4_isRace 39 rfl) (by decide +kernel) ?_
      exact KT_iret (dk dtk_X4_isRace 40 rfl) rfl rfl h
    · have h := h.2 c6
      refine T_aload_n 0 (dk dtk_X4_isRace 18 rfl) rfl rfl ?_
      refine T_iload_n 1 (dk dtk_X4_isRace 19 rfl) rfl rfl ?_
      refine KC_Vi [vi l1] [] rfl (dk dtk_X4_isRace 20 rfl) kcv_X4_129 rfl kk_160 rfl (kl_160 hq) (Nat.le_of_ble_eq_true rfl) (Nat.le_of_ble_eq_true rfl) (gok_i (av_c (gkr (kl_160 hq)) (av_c rfl (av_c rfl av_n))) as_n) rfl h (fun r8 x7 h => ?_)
      refine T_if_eq 69 (dk dtk_X4_isRace 21 rfl) (by decide) (fun c9 => ?_) (fun c9 => ?_)
      · have h := h.1 c9
        refine T_iconst (v := 0) (dk dtk_X4_isRace 39 rfl) (by decide +kernel) ?_
        exact KT_iret (dk dtk_X4_isRace 40 rfl) rfl rfl h
      · have h := h.2 c9
        refine T_aload_n 0 (dk dtk_X4_isRace 22 rfl) rfl rfl ?_
        refine T_getR 160 6 167 (dk dtk_X4_isRace 23 rfl) kfl_X4_24 kk_160 (kl_160 hq) (by decide) rfl kr_160_6 ?_
        refine T_iload_n 1 (dk dtk_X4_isRace 24 rfl) rfl rfl ?_
        obtain ⟨h10, h⟩ := h
        refine T_iald 167 400 (dk dtk_X4_isRace 25 rfl) kk_167 (kl_167 hq) h10 ?_
        refine T_aload_n 0 (dk dtk_X4_isRace 26 rfl) rfl rfl ?_
        refine T_getR 160 6 167 (dk dtk_X4_isRace 27 rfl) kfl_X4_24 kk_160 (kl_160 hq) (by decide) rfl kr_160_6 ?_
        refine T_iload_n 2 (dk dtk_X4_isRace 28 rfl) rfl rfl ?_
        obtain ⟨h11, h⟩ := h
        refine T_iald 167 400 (dk dtk_X4_isRace 29 rfl) kk_167 (kl_167 hq) h11 ?_
        refine KC_Si [vi (x7.1 167 (l1 : Int32).toNatClampNeg), vi (x7.1 167 (l2 : Int32).toNatClampNeg)] [] rfl (dk dtk_X4_isRace 30 rfl) kcs_X4_133 rfl (Nat.le_of_ble_eq_true rfl) (Nat.le_of_ble_eq_true rfl) (gok_i (av_c (gkr (kl_160 hq)) (av_c rfl (av_c rfl av_n))) as_n) rfl h (fun r13 x12 h => ?_)
        refine T_if_eq 69 (dk dtk_X4_isRace 31 rfl) (by decide) (fun c14 => ?_) (fun c14 => ?_)
        · have h := h.1 c14
          refine T_iconst (v := 0) (dk dtk_X4_isRace 39 rfl) (by decide +kernel) ?_
          exact KT_iret (dk dtk_X4_isRace 40 rfl) rfl rfl h
        · have h := h.2 c14
          refine T_aload_n 0 (dk dtk_X4_isRace 32 rfl) rfl rfl ?_
          refine T_iload_n 1 (dk dtk_X4_isRace 33 rfl) rfl rfl ?_
          refine T_iload_n 2 (dk dtk_X4_isRace 34 rfl) rfl rfl ?_
          refine T_sub (lv2 := []) [] rfl ?_
          refine KC_Vi [vi l1, vi l2] [] rfl (dk dtk_X4_isRace 35 rfl) kcv_X4_136 rfl kk_160 rfl (kl_160 hq) (Nat.le_of_ble_eq_true rfl) (Nat.le_of_ble_eq_true rfl) (gok_i av_n as_n) rfl h (fun r16 x15 h => ?_)
          refine T_if_ne 69 (dk dtk_X4_isRace 36 rfl) (by decide) (fun c17 => ?_) (fun c17 => ?_)
          · have h := h.1 c17
            refine T_iconst (v := 0) (dk dtk_X4_isRace 39 rfl) (by decide +kernel) ?_
            exact KT_iret (dk dtk_X4_isRace 40 rfl) rfl rfl h
          · have h := h.2 c17
            refine T_iconst (v := 1) (dk dtk_X4_isRace 37 rfl) (by decide +kernel) ?_
            refine T_goto 70 (dk dtk_X4_isRace 38 rfl) (by decide) ?_
            exact KT_iret (dk dtk_X4_isRace 40 rfl) rfl rfl h
set_option maxRecDepth 100000 in
theorem dtk_X4_sortsRace : dck cX4_sortsRace [(0, .iload_n 0, 1), (1, .ifCond .ne 11, 3), (4, .iload_n 1, 1), (5, .ifCond .ne 7, 3), (8, .iconst 1, 1), (9, .goto 4, 3), (12, .iconst 0, 1), (13, .istore_n 2, 1), (14, .iload_n 0, 1), (15, .iconst 2, 1), (16, .if_icmp .lt 12, 3), (19, .iload_n 1, 1), (20, .iconst 2, 1), (21, .if_icmp .lt 7, 3), (24, .iconst 1, 1), (25, .goto 4, 3), (28, .iconst 0, 1), (29, .istore_n 3, 1), (30, .iload_n 2, 1), (31, .ifCond .ne 11, 3), (34, .iload_n 3, 1), (35, .ifCond .ne 7, 3), (38, .iconst 1, 1), (39, .goto 4, 3), (42, .iconst 0, 1), (43, .ireturn, 1)] = true := by decide +kernel
set_option maxRecDepth 100000 in
set_option maxHeartbeats 4000000 in
theorem kg_X4_sortsRace_0 {G : kG} {q : kP} {d : Nat} {x : gd} {P : Option gv → gd → Prop} (hq : kV q) (l0 : Int32) (l1 : Int32)
    (h : ((¬ (l0 = (0 : Int32)) → KT G q d zk_X4_sortsRace 13 [(0, vi l0), (1, vi l1)] [vi 0] x P) ∧ (l0 = (0 : Int32) → ((¬ (l1 = (0 : Int32)) → KT G q d zk_X4_sortsRace 13 [(0, vi l0), (1, vi l1)] [vi 0] x P) ∧ (l1 = (0 : Int32) → KT G q d zk_X4_sortsRace 13 [(0, vi l0), (1, vi l1)] [vi 1] x P))))) :
    KT G q d zk_X4_sortsRace 0 [(0, vi l0), (1, vi l1)] [] x P := by
  refine T_iload_n 0 (dk dtk_X4_sortsRace 0 rfl) rfl rfl ?_
  refine T_if_ne 12 (dk dtk_X4_sortsRace 1 rfl) (by decide) (fun c1 => ?_) (fun c1 => ?_)
  · have h := h.1 c1
    refine T_iconst (v := 0) (dk dtk_X4_sortsRace 6 rfl) (by decide +kernel) ?_
    exact h
  · have h := h.2 c1
    refine T_iload_n 1 (dk dtk_X4_sortsRace 2 rfl) rfl rfl ?_
    refine T_if_ne 12 (dk dtk_X4_sortsRace 3 rfl) (by decide) (fun c2 => ?_) (fun c2 => ?_)
    · have h := h.1 c2
      refine T_iconst (v := 0) (dk dtk_X4_sortsRace 6 rfl) (by decide +kernel) ?_
      exact h
    · have h := h.2 c2
      refine T_iconst (v := 1) (dk dtk_X4_sortsRace 4 rfl) (by decide +kernel) ?_
      refine T_goto 13 (dk dtk_X4_sortsRace 5 rfl) (by decide) ?_
      exact h
set_option maxRecDepth 100000 in
set_option maxHeartbeats 4000000 in
theorem kg_X4_sortsRace_13 {G : kG} {q : kP} {d : Nat} {x : gd} {P : Option gv → gd → Prop} (hq : kV q) (l0 : Int32) (l1 : Int32) (s0 : Int32)
    (h : ((l0 < (2 : Int32) → KT G q d zk_X4_sortsRace 29 [(2, vi s0)] [vi 0] x P) ∧ (¬ (l0 < (2 : Int32)) → ((l1 < (2 : Int32) → KT G q d zk_X4_sortsRace 29 [(2, vi s0)] [vi 0] x P) ∧ (¬ (l1 < (2 : Int32)) → KT G q d zk_X4_sortsRace 29 [(2, vi s0)] [vi 1] x P))))) :
    KT G q d zk_X4_sortsRace 13 [(0, vi l0), (1, vi l1)] [vi s0] x P := by
  refine T_istore_n (lv2 := [(2, vi s0), (0, vi l0), (1, vi l1)]) (dk dtk_X4_sortsRace 7 rfl) rfl (by decide) rfl ?_
  refine T_iload_n 1 (dk dtk_X4_sortsRace 8 rfl) rfl rfl ?_
  refine T_iconst (v := 2) (dk dtk_X4_sortsRace 9 rfl) (by decide +kernel) ?_
  refine T_icmp_lt 28 (dk dtk_X4_sortsRace 10 rfl) (by decide) (fun c1 => ?_) (fun c1 => ?_)
  · have h := h.1 c1
    refine T_iconst (v := 0) (dk dtk_X4_sortsRace 16 rfl) (by decide +kernel) ?_
    exact T_sub [0] rfl h
  · have h := h.2 c1
    refine T_iload_n 2 (dk dtk_X4_sortsRace 11 rfl) rfl rfl ?_
    refine T_iconst (v := 2) (dk dtk_X4_sortsRace 12 rfl) (by decide +kernel) ?_
    refine T_icmp_lt 28 (dk dtk_X4_sortsRace 13 rfl) (by decide) (fun c2 => ?_) (fun c2 => ?_)
    · have h := h.1 c2
      refine T_iconst (v := 0) (dk dtk_X4_sortsRace 16 rfl) (by decide +kernel) ?_
      exact T_sub [0] rfl h
    · have h := h.2 c2
      refine T_iconst (v := 1) (dk dtk_X4_sortsRace 14 rfl) (by decide +kernel) ?_
      refine T_goto 29 (dk dtk_X4_sortsRace 15 rfl) (by decide) ?_
      exact T_sub [0] rfl h
set_option maxRecDepth 100000 in
set_option maxHeartbeats 4000000 in
theorem kg_X4_sortsRace_29 {G : kG} {q : kP} {d : Nat} {x : gd} {P : Option gv → gd → Prop} (hq : kV q) (l2 : Int32) (s0 : Int32)
    (h : ((¬ (l2 = (0 : Int32)) → P (some (vi 0)) x) ∧ (l2 = (0 : Int32) → ((¬ (s0 = (0 : Int32)) → P (some (vi 0)) x) ∧ (s0 = (0 : Int32) → P (some (vi 1)) x))))) :
    KT G q d zk_X4_sortsRace 29 [(2, vi l2)] [vi s0] x P := by
  refine T_istore_n (lv2 := [(3, vi s0), (2, vi l2)]) (dk dtk_X4_sortsRace 17 rfl) rfl (by decide) rfl ?_
  refine T_iload_n 1 (dk dtk_X4_sortsRace 18 rfl) rfl rfl ?_
  refine T_if_ne 42 (dk dtk_X4_sortsRace 19 rfl) (by decide) (fun c1 => ?_) (fun c1 => ?_)
  · have h := h.1 c1
    refine T_iconst (v := 0) (dk dtk_X4_sortsRace 24 rfl) (by decide +kernel) ?_
    exact KT_iret (dk dtk_X4_sortsRace 25 rfl) rfl rfl h
  · have h := h.2 c1
    refine T_iload_n 0 (dk dtk_X4_sortsRace 20 rfl) rfl rfl ?_
    refine T_if_ne 42 (dk dtk_X4_sortsRace 21 rfl) (by decide) (fun c2 => ?_) (fun c2 => ?_)
    · have h := h.1 c2
      refine T_iconst (v := 0) (dk dtk_X4_sortsRace 24 rfl) (by decide +kernel) ?_
      exact KT_iret (dk dtk_X4_sortsRace 25 rfl) rfl rfl h
    · have h := h.2 c2
      refine T_iconst (v := 1) (dk dtk_X4_sortsRace 22 rfl) (by decide +kernel) ?_
      refine T_goto 43 (dk dtk_X4_sortsRace 23 rfl) (by decide) ?_
      exact KT_iret (dk dtk_X4_sortsRace 25 rfl) rfl rfl h
set_option maxRecDepth 100000 in
theorem dtk_X3_take : dck cX3_take [(0, .aload_n 0, 1), (1, .iconst 0, 1), (2, .putfield 40, 3), (5, .aload_n 0, 1), (6, .iconst 0, 1), (7, .putfield 44, 3), (10, .aload_n 0, 1), (11, .getfield 32, 3), (14, .iconst (-1), 1), (15, .invokestatic 47, 3), (18, .iconst 0, 1), (19, .istore_n 2, 1), (20, .iload_n 2, 1), (21, .aload_n 1, 1), (22, .getfield 53, 3), (25, .if_icmp .ge 97, 3), (28, .aload_n 1, 1), (29, .getfield 58, 3), (32, .iload_n 2, 1), (33, .iaload, 1), (34, .istore_n 3, 1), (35, .aload_n 1, 1), (36, .getfield 61, 3), (39, .iload_n 2, 1), (40, .baload, 1), (41, .ifCond .ne 75, 3), (44, .iload_n 3, 1), (45, .bipush 13, 2), (47, .if_icmp .eq 12, 3), (50, .iload_n 3, 1), (51, .bipush 14, 2), (53, .if_icmp .eq 6, 3), (56, .goto 60, 3), (59, .iload_n 3, 1), (60, .bipush 13, 2), (62, .if_icmp .ne 28, 3), (65, .aload_n 0, 1), (66, .aload_n 1, 1), (67, .getfield 67, 3), (70, .iload_n 2, 1), (71, .iaload, 1), (72, .aload_n 1, 1), (73, .getfield 70, 3), (76, .iload_n 2, 1), (77, .iaload, 1), (78, .aload_n 1, 1), (79, .getfield 73, 3), (82, .iload_n 2, 1), (83, .iaload, 1), (84, .invokevirtual 76, 3), (87, .goto 19, 3), (90, .aload_n 0, 1), (91, .aload_n 1, 1), (92, .getfield 67, 3), (95, .iload_n 2, 1), (96, .iaload, 1), (97, .aload_n 1, 1), (98, .getfield 73, 3), (101, .iload_n 2, 1), (102, .iaload, 1), (103, .invokevirtual 80, 3), (106, .aload_n 0, 1), (107, .dup, 1), (108, .getfield 44, 3), (111, .iconst 1, 1), (112, .iadd, 1), (113, .putfield 44, 3), (116, .iinc 2 1, 3), (119, .goto (-99), 3), (122, .return_, 1)] = true := by decide +kernel
set_option maxRecDepth 100000 in
set_option maxHeartbeats 4000000 in
theorem kg_X3_take_0 {G : kG} {q : kP} {d : Nat} {x : gd} {P : Option gv → gd → Prop} (hq : kV q) (hh : q.hi = true)
    (h : (∀ x1 : gd, x1 = si x 180 6 0 → (∀ x2 : gd, x2 = si x1 180 7 0 → (∀ x3 : gd, x3 = sfl x2 189 (-1) 6 → KT G q (d + 1) zk_X3_take 20 [(0, vr 180), (1, vr 160), (2, vi 0)] [] x3 P)))) :
    KT G q (d + 1) zk_X3_take 0 [(0, vr 180), (1, vr 160)] [] x P := by
  refine T_aload_n 0 (dk dtk_X3_take 0 rfl) rfl rfl ?_
  refine T_iconst (v := 0) (dk dtk_X3_take 1 rfl) (by decide +kernel) ?_
  obtain ⟨x1, ex1⟩ : ∃ z, z = si x 180 6 0 := ⟨_, rfl⟩
  have h := h x1 ex1
  refine T_putI 180 6 (dk dtk_X3_take 2 rfl) kfl_X3_40 kk_180 (kl_180 hq hh) (by decide) rfl ⟨rfl, rfl⟩ ?_
  rw [← ex1]
  refine T_aload_n 0 (dk dtk_X3_take 3 rfl) rfl rfl ?_
  refine T_iconst (v := 0) (dk dtk_X3_take 4 rfl) (by decide +kernel) ?_
  obtain ⟨x2, ex2⟩ : ∃ z, z = si x1 180 7 0 := ⟨_, rfl⟩
  have h := h x2 ex2
  refine T_putI 180 7 (dk dtk_X3_take 5 rfl) kfl_X3_44 kk_180 (kl_180 hq hh) (by decide) rfl ⟨rfl, rfl⟩ ?_
  rw [← ex2]
  refine T_aload_n 0 (dk dtk_X3_take 6 rfl) rfl rfl ?_
  refine T_getR 180 8 189 (dk dtk_X3_take 7 rfl) kfl_X3_32 kk_180 (kl_180 hq hh) (by decide) rfl kr_180_8 ?_
  refine T_iconst (v := (-1)) (dk dtk_X3_take 8 rfl) (by decide +kernel) ?_
  refine KC_Sv (F := fun z => z = sfl x2 189 (-1) 6) [vr 189, vi (-1)] [] rfl (dk dtk_X3_take 9 rfl) kcs_X3_47 rfl (Nat.le_of_ble_eq_true rfl) (Nat.le_of_ble_eq_true rfl) (gok_i (av_c (gkr (kl_180 hq hh)) (av_c (gkr (kl_160 hq)) av_n)) as_n) rfl (tj_fill 189 6 (-1) kk_189 (kl_189 hq hh) (by decide) ⟨rfl, none, rfl, rfl, rfl⟩) (fun x3 ex3 => ?_)
  have h := h x3 ex3
  refine T_iconst (v := 0) (dk dtk_X3_take 10 rfl) (by decide +kernel) ?_
  refine T_istore_n (lv2 := [(2, vi 0), (0, vr 180), (1, vr 160)]) (dk dtk_X3_take 11 rfl) rfl (by decide) rfl ?_
  exact T_sub [1, 2, 0] rfl h
set_option maxRecDepth 100000 in
set_option maxHeartbeats 4000000 in
theorem kg_X3_take_20 {G : kG} {q : kP} {d : Nat} {x : gd} {P : Option gv → gd → Prop} (hq : kV q) (hh : q.hi = true) (l2 : Int32)
    (h : (((x.1 160 3) ≤ l2 → P none x) ∧ (¬ ((x.1 160 3) ≤ l2) → vp_in l2 400 ∧ vp_in l2 400 ∧ ((¬ ((x.1 171 (l2 : Int32).toNatClampNeg) = (0 : Int32)) → KT G q (d + 1) zk_X3_take 20 [(0, vr 180), (1, vr 160), (2, vi (l2 + 1))] [] x P) ∧ ((x.1 171 (l2 : Int32).toNatClampNeg) = (0 : Int32) → (((x.1 167 (l2 : Int32).toNatClampNeg) = (13 : Int32) → KT G q (d + 1) zk_X3_take 59 [(0, vr 180), (1, vr 160), (2, vi l2), (3, vi (x.1 167 (l2 : Int32).toNatClampNeg))] [] x P) ∧ (¬ ((x.1 167 (l2 : Int32).toNatClampNeg) = (13 : Int32)) → (((x.1 167 (l2 : Int32).toNatClampNeg) = (14 : Int32) → KT G q (d + 1) zk_X3_take 59 [(0, vr 180), (1, vr 160), (2, vi l2), (3, vi (x.1 167 (l2 : Int32).toNatClampNeg))] [] x P) ∧ (¬ ((x.1 167 (l2 : Int32).toNatClampNeg) = (14 : Int32)) → KT G q (d + 1) zk_X3_take 20 [(0, vr 180), (1, vr 160), (2, vi (l2 + 1))] [] x P))))))))) :
    KT G q (d + 1) zk_X3_take 20 [(0, vr 180), (1, vr 160), (2, vi l2)] [] x P := by
  refine T_iload_n 2 (dk dtk_X3_take 12 rfl) rfl rfl ?_
  refine T_aload_n 1 (dk dtk_X3_take 13 rfl) rfl rfl ?_
  refine T_getI 160 3 (dk dtk_X3_take 14 rfl) kfl_X3_53 kk_160 (kl_160 hq) (by decide) rfl ?_
  refine T_icmp_ge 122 (dk dtk_X3_take 15 rfl) (by decide) (fun c1 => ?_) (fun c1 => ?_)
  · have h := h.1 c1
    exact KT_vret (dk dtk_X3_take 69 rfl) rfl h
  · have h := h.2 c1
    refine T_aload_n 1 (dk dtk_X3_take 16 rfl) rfl rfl ?_
    refine T_getR 160 6 167 (dk dtk_X3_take 17 rfl) kfl_X3_58 kk_160 (kl_160 hq) (by decide) rfl kr_160_6 ?_
    refine T_iload_n 2 (dk dtk_X3_take 18 rfl) rfl rfl ?_
    obtain ⟨h2, h⟩ := h
    refine T_iald 167 400 (dk dtk_X3_take 19 rfl) kk_167 (kl_167 hq) h2 ?_
    refine T_istore_n (lv2 := [(3, vi (x.1 167 (l2 : Int32).toNatClampNeg)), (0, vr 180), (1, vr 160), (2, vi l2)]) (dk dtk_X3_take 20 rfl) rfl (by decide) rfl ?_
    refine T_aload_n 2 (dk dtk_X3_take 21 rfl) rfl rfl ?_
    refine T_getR 160 10 171 (dk dtk_X3_take 22 rfl) kfl_X3_61 kk_160 (kl_160 hq) (by decide) rfl kr_160_10 ?_
    refine T_iload_n 3 (dk dtk_X3_take 23 rfl) rfl rfl ?_
    obtain ⟨h3, h⟩ := h
    refine T_zald 171 400 (dk dtk_X3_take 24 rfl) kk_171 (kl_171 hq) h3 ?_
    refine T_if_ne 116 (dk dtk_X3_take 25 rfl) (by decide) (fun c4 => ?_) (fun c4 => ?_)
    · have h := h.1 c4
      refine T_iinc (v := l2 + 1) (lv2 := [(2, vi (l2 + 1)), (3, vi (x.1 167 (l2 : Int32).toNatClampNeg)), (0, vr 180), (1, vr 160)]) 3 (dk dtk_X3_take 67 rfl) rfl rfl (by decide) rfl ?_
      refine T_goto 20 (dk dtk_X3_take 68 rfl) (by decide) ?_
      exact T_sub [2, 3, 0] rfl h
    · have h := h.2 c4
      refine T_iload_n 0 (dk dtk_X3_take 26 rfl) rfl rfl ?_
      refine T_bipush (v := 13) (dk dtk_X3_take 27 rfl) (by decide +kernel) ?_
      refine T_icmp_eq 59 (dk dtk_X3_take 28 rfl) (by decide) (fun c5 => ?_) (fun c5 => ?_)
      · have h := h.1 c5
        exact T_sub [1, 2, 3, 0] rfl h
      · have h := h.2 c5
        refine T_iload_n 0 (dk dtk_X3_take 29 rfl) rfl rfl ?_
        refine T_bipush (v := 14) (dk dtk_X3_take 30 rfl) (by decide +kernel) ?_
        refine T_icmp_eq 59 (dk dtk_X3_take 31 rfl) (by decide) (fun c6 => ?_) (fun c6 => ?_)
        · have h := h.1 c6
          exact T_sub [1, 2, 3, 0] rfl h
        · have h := h.2 c6
          refine T_goto 116 (dk dtk_X3_take 32 rfl) (by decide) ?_
          refine T_iinc (v := l2 + 1) (lv2 := [(2, vi (l2 + 1)), (3, vi (x.1 167 (l2 : Int32).toNatClampNeg)), (0, vr 180), (1, vr 160)]) 3 (dk dtk_X3_take 67 rfl) rfl rfl (by decide) rfl ?_
          refine T_goto 20 (dk dtk_X3_take 68 rfl) (by decide) ?_
          exact T_sub [2, 3, 0] rfl h
set_option maxRecDepth 100000 in
set_option maxHeartbeats 4000000 in
theorem kg_X3_take_59 {G : kG} {q : kP} {d : Nat} {x : gd} {P : Option gv → gd → Prop} (hq : kV q) (hh : q.hi = true) (l2 : Int32) (l3 : Int32)
    (h : ((¬ (l3 = (13 : Int32)) → vp_in l2 400 ∧ vp_in l2 400 ∧ KT G q d zk_X3_endCall 0 [(0, vr 180), (1, vi (x.1 166 (l2 : Int32).toNatClampNeg)), (2, vi (x.1 170 (l2 : Int32).toNatClampNeg))] [] x (rv (fun x4 => (∀ x5 : gd, x5 = si x4 180 7 ((x4.1 180 7) + 1) → KT G q (d + 1) zk_X3_take 20 [(0, vr 180), (1, vr 160), (2, vi (l2 + 1))] [] x5 P)))) ∧ (l3 = (13 : Int32) → vp_in l2 400 ∧ vp_in l2 400 ∧ vp_in l2 400 ∧ KT G q d zk_X3_beginCall 0 [(0, vr 180), (1, vi (x.1 166 (l2 : Int32).toNatClampNeg)), (2, vi (x.1 168 (l2 : Int32).toNatClampNeg)), (3, vi (x.1 170 (l2 : Int32).toNatClampNeg))] [] x (rv (fun x9 => (∀ x10 : gd, x10 = si x9 180 7 ((x9.1 180 7) + 1) → KT G q (d + 1) zk_X3_take 20 [(0, vr 180), (1, vr 160), (2, vi (l2 + 1))] [] x10 P)))))) :
    KT G q (d + 1) zk_X3_take 59 [(0, vr 180), (1, vr 160), (2, vi l2), (3, vi l3)] [] x P := by
  refine T_iload_n 3 (dk dtk_X3_take 33 rfl) rfl rfl ?_
  refine T_bipush (v := 13) (dk dtk_X3_take 34 rfl) (by decide +kernel) ?_
  refine T_icmp_ne 90 (dk dtk_X3_take 35 rfl) (by decide) (fun c1 => ?_) (fun c1 => ?_)
  · have h := h.1 c1
    refine T_aload_n 0 (dk dtk_X3_take 51 rfl) rfl rfl ?_
    refine T_aload_n 1 (dk dtk_X3_take 52 rfl) rfl rfl ?_
    refine T_getR 160 5 166 (dk dtk_X3_take 53 rfl) kfl_X3_67 kk_160 (kl_160 hq) (by decide) rfl kr_160_5 ?_
    refine T_iload_n 2 (dk dtk_X3_take 54 rfl) rfl rfl ?_
    obtain ⟨h2, h⟩ := h
    refine T_iald 166 400 (dk dtk_X3_take 55 rfl) kk_166 (kl_166 hq) h2 ?_
    refine T_aload_n 1 (dk dtk_X3_take 56 rfl) rfl rfl ?_
    refine T_getR 160 9 170 (dk dtk_X3_take 57 rfl) kfl_X3_73 kk_160 (kl_160 hq) (by decide) rfl kr_160_9 ?_
    refine T_iload_n 2 (dk dtk_X3_take 58 rfl) rfl rfl ?_
    obtain ⟨h3, h⟩ := h
    refine T_iald 170 400 (dk dtk_X3_take 59 rfl) kk_170 (kl_170 hq) h3 ?_
    refine T_sub (lv2 := [(0, vr 180), (1, vr 160), (2, vi l2)]) [0, 1, 2] rfl ?_
    refine KC_Vv [vi (x.1 166 (l2 : Int32).toNatClampNeg), vi (x.1 170 (l2 : Int32).toNatClampNeg)] [] rfl (dk dtk_X3_take 60 rfl) kcv_X3_80 rfl kk_180 rfl (kl_180 hq hh) (Nat.le_of_ble_eq_true rfl) (Nat.le_of_ble_eq_true rfl) (gok_i (av_c (gkr (kl_180 hq hh)) (av_c (gkr (kl_160 hq)) (av_c rfl av_n))) as_n) rfl h (fun x4 h => ?_)
    refine T_aload_n 0 (dk dtk_X3_take 61 rfl) rfl rfl ?_
    refine T_dup (dk dtk_X3_take 62 rfl) rfl ?_
    refine T_getI 180 7 (dk dtk_X3_take 63 rfl) kfl_X3_44 kk_180 (kl_180 hq hh) (by decide) rfl ?_
    refine T_iconst (v := 1) (dk dtk_X3_take 64 rfl) (by decide +kernel) ?_
    refine T_iadd (dk dtk_X3_take 65 rfl) ?_
    obtain ⟨x5, ex5⟩ : ∃ z, z = si x4 180 7 ((x4.1 180 7) + 1) := ⟨_, rfl⟩
    have h := h x5 ex5
    refine T_putI 180 7 (dk dtk_X3_take 66 rfl) kfl_X3_44 kk_180 (kl_180 hq hh) (by decide) rfl ⟨rfl, rfl⟩ ?_
    rw [← ex5]
    refine T_iinc (v := l2 + 1) (lv2 := [(2, vi (l2 + 1)), (0, vr 180), (1, vr 160)]) 2 (dk dtk_X3_take 67 rfl) rfl rfl (by decide) rfl ?_
    refine T_goto 20 (dk dtk_X3_take 68 rfl) (by decide) ?_
    exact T_sub [1, 2, 0] rfl h
  · have h := h.2 c1
    refine T_aload_n 0 (dk dtk_X3_take 36 rfl) rfl rfl ?_
    refine T_aload_n 1 (dk dtk_X3_take 37 rfl) rfl rfl ?_
    refine T_getR 160 5 166 (dk dtk_X3_take 38 rfl) kfl_X3_67 kk_160 (kl_160 hq) (by decide) rfl kr_160_5 ?_
    refine T_iload_n 2 (dk dtk_X3_take 39 rfl) rfl rfl ?_
    obtain ⟨h6, h⟩ := h
    refine T_iald 166 400 (dk dtk_X3_take 40 rfl) kk_166 (kl_166 hq) h6 ?_
    refine T_aload_n 1 (dk dtk_X3_take 41 rfl) rfl rfl ?_
    refine T_getR 160 7 168 (dk dtk_X3_take 42 rfl) kfl_X3_70 kk_160 (kl_160 hq) (by decide) rfl kr_160_7 ?_
    refine T_iload_n 2 (dk dtk_X3_take 43 rfl) rfl rfl ?_
    obtain ⟨h7, h⟩ := h
    refine T_iald 168 400 (dk dtk_X3_take 44 rfl) kk_168 (kl_168 hq) h7 ?_
    refine T_aload_n 1 (dk dtk_X3_take 45 rfl) rfl rfl ?_
    refine T_getR 160 9 170 (dk dtk_X3_take 46 rfl) kfl_X3_73 kk_160 (kl_160 hq) (by decide) rfl kr_160_9 ?_
    refine T_iload_n 2 (dk dtk_X3_take 47 rfl) rfl rfl ?_
    obtain ⟨h8, h⟩ := h
    refine T_iald 170 400 (dk dtk_X3_take 48 rfl) kk_170 (kl_170 hq) h8 ?_
    refine T_sub (lv2 := [(0, vr 180), (1, vr 160), (2, vi l2)]) [0, 1, 2] rfl ?_
    refine KC_Vv [vi (x.1 166 (l2 : Int32).toNatClampNeg), vi (x.1 168 (l2 : Int32).toNatClampNeg), vi (x.1 170 (l2 : Int32).toNatClampNeg)] [] rfl (dk dtk_X3_take 49 rfl) kcv_X3_76 rfl kk_180 rfl (kl_180 hq hh) (Nat.le_of_ble_eq_true rfl) (Nat.le_of_ble_eq_true rfl) (gok_i (av_c (gkr (kl_180 hq hh)) (av_c (gkr (kl_160 hq)) (av_c rfl av_n))) as_n) rfl h (fun x9 h => ?_)
    refine T_goto 106 (dk dtk_X3_take 50 rfl) (by decide) ?_
    refine T_aload_n 0 (dk dtk_X3_take 61 rfl) rfl rfl ?_
    refine T_dup (dk dtk_X3_take 62 rfl) rfl ?_
    refine T_getI 180 7 (dk dtk_X3_take 63 rfl) kfl_X3_44 kk_180 (kl_180 hq hh) (by decide) rfl ?_
    refine T_iconst (v := 1) (dk dtk_X3_take 64 rfl) (by decide +kernel) ?_
    refine T_iadd (dk dtk_X3_take 65 rfl) ?_
    obtain ⟨x10, ex10⟩ : ∃ z, z = si x9 180 7 ((x9.1 180 7) + 1) := ⟨_, rfl⟩
    have h := h x10 ex10
    refine T_putI 180 7 (dk dtk_X3_take 66 rfl) kfl_X3_44 kk_180 (kl_180 hq hh) (by decide) rfl ⟨rfl, rfl⟩ ?_
    rw [← ex10]
    refine T_iinc (v := l2 + 1) (lv2 := [(2, vi (l2 + 1)), (0, vr 180), (1, vr 160)]) 2 (dk dtk_X3_take 67 rfl) rfl rfl (by decide) rfl ?_
    refine T_goto 20 (dk dtk_X3_take 68 rfl) (by decide) ?_
    exact T_sub [1, 2, 0] rfl h
end
section
set_option maxRecDepth 100000 in
theorem dtk_X3_beginCall : dck cX3_beginCall [(0, .aload_n 0, 1), (1, .getfield 40, 3), (4, .bipush 12, 2), (6, .if_icmp .lt 4, 3), (9, .return_, 1), (10, .aload_n 0, 1), (11, .getfield 11, 3), (14, .aload_n 0, 1), (15, .getfield 40, 3), (18, .iload_n 2, 1), (19, .iastore, 1), (20, .aload_n 0, 1), (21, .getfield 15, 3), (24, .aload_n 0, 1), (25, .getfield 40, 3), (28, .iload_n 3, 1), (29, .iastore, 1), (30, .aload_n 0, 1), (31, .getfield 21, 3), (34, .aload_n 0, 1), (35, .getfield 40, 3), (38, .aload_n 0, 1), (39, .getfield 44, 3), (42, .iastore, 1), (43, .aload_n 0, 1), (44, .getfield 24, 3), (47, .aload_n 0, 1), (48, .getfield 40, 3), (51, .ldc 84, 2), (53, .iastore, 1), (54, .aload_n 0, 1), (55, .getfield 27, 3), (58, .aload_n 0, 1), (59, .getfield 40, 3), (62, .iconst 0, 1), (63, .iastore, 1), (64, .iconst 0, 1), (65, .istore 4, 2), (67, .iload 4, 2), (69, .aload_n 0, 1), (70, .getfield 40, 3), (73, .if_icmp .ge 39, 3), (76, .aload_n 0, 1), (77, .getfield 24, 3), (80, .iload 4, 2), (82, .iaload, 1), (83, .aload_n 0, 1), (84, .getfield 44, 3), (87, .if_icmp .ge 19, 3), (90, .aload_n 0, 1), (91, .getfield 27, 3), (94, .aload_n 0, 1), (95, .getfield 40, 3), (98, .dup2, 1), (99, .iaload, 1), (100, .iconst 1, 1), (101, .iload 4, 2), (103, .ishl, 1), (104, .ior, 1), (105, .iastore, 1), (106, .iinc 4 1, 3), (109, .goto (-42), 3), (112, .aload_n 0, 1), (113, .getfield 32, 3), (116, .iload_n 1, 1), (117, .aload_n 0, 1), (118, .getfield 40, 3), (121, .iastore, 1), (122, .aload_n 0, 1), (123, .dup, 1), (124, .getfield 40, 3), (127, .iconst 1, 1), (128, .iadd, 1), (129, .putfield 40, 3), (132, .return_, 1)] = true := by decide +kernel
set_option maxRecDepth 100000 in
set_option maxHeartbeats 4000000 in
theorem kg_X3_beginCall_0 {G : kG} {q : kP} {d : Nat} {x : gd} {P : Option gv → gd → Prop} (hq : kV q) (hh : q.hi = true) (l1 : Int32) (l2 : Int32) (l3 : Int32)
    (h : (((x.1 180 6) < (12 : Int32) → vp_in (x.1 180 6) 12 ∧ (∀ x3 : gd, x3 = si x 181 (x.1 180 6 : Int32).toNatClampNeg l2 → vp_in (x3.1 180 6) 12 ∧ (∀ x5 : gd, x5 = si x3 182 (x3.1 180 6 : Int32).toNatClampNeg l3 → vp_in (x5.1 180 6) 12 ∧ (∀ x7 : gd, x7 = si x5 184 (x5.1 180 6 : Int32).toNatClampNeg (x5.1 180 7) → vp_in (x7.1 180 6) 12 ∧ (∀ x9 : gd, x9 = si x7 185 (x7.1 180 6 : Int32).toNatClampNeg 1000000 → vp_in (x9.1 180 6) 12 ∧ (∀ x11 : gd, x11 = si x9 186 (x9.1 180 6 : Int32).toNatClampNeg 0 → KT G q d zk_X3_beginCall 67 [(0, vr 180), (1, vi l1), (4, vi 0)] [] x11 P)))))) ∧ (¬ ((x.1 180 6) < (12 : Int32)) → P none x))) :
    KT G q d zk_X3_beginCall 0 [(0, vr 180), (1, vi l1), (2, vi l2), (3, vi l3)] [] x P := by
  refine T_aload_n 0 (dk dtk_X3_beginCall 0 rfl) rfl rfl ?_
  refine T_getI 180 6 (dk dtk_X3_beginCall 1 rfl) kfl_X3_40 kk_180 (kl_180 hq hh) (by decide) rfl ?_
  refine T_bipush (v := 12) (dk dtk_X3_beginCall 2 rfl) (by decide +kernel) ?_
  refine T_icmp_lt 10 (dk dtk_X3_beginCall 3 rfl) (by decide) (fun c1 => ?_) (fun c1 => ?_)
  · have h := h.1 c1
    refine T_aload_n 0 (dk dtk_X3_beginCall 5 rfl) rfl rfl ?_
    refine T_getR 180 0 181 (dk dtk_X3_beginCall 6 rfl) kfl_X3_11 kk_180 (kl_180 hq hh) (by decide) rfl kr_180_0 ?_
    refine T_aload_n 0 (dk dtk_X3_beginCall 7 rfl) rfl rfl ?_
    refine T_getI 180 6 (dk dtk_X3_beginCall 8 rfl) kfl_X3_40 kk_180 (kl_180 hq hh) (by decide) rfl ?_
    refine T_iload_n 2 (dk dtk_X3_beginCall 9 rfl) rfl rfl ?_
    obtain ⟨h2, h⟩ := h
    obtain ⟨x3, ex3⟩ : ∃ z, z = si x 181 (x.1 180 6 : Int32).toNatClampNeg l2 := ⟨_, rfl⟩
    have h := h x3 ex3
    refine T_iast 181 12 (dk dtk_X3_beginCall 10 rfl) kk_181 (kl_181 hq hh) h2 ?_
    rw [← ex3]
    refine T_aload_n 0 (dk dtk_X3_beginCall 11 rfl) rfl rfl ?_
    refine T_getR 180 1 182 (dk dtk_X3_beginCall 12 rfl) kfl_X3_15 kk_180 (kl_180 hq hh) (by decide) rfl kr_180_1 ?_
    refine T_aload_n 0 (dk dtk_X3_beginCall 13 rfl) rfl rfl ?_
    refine T_getI 180 6 (dk dtk_X3_beginCall 14 rfl) kfl_X3_40 kk_180 (kl_180 hq hh) (by decide) rfl ?_
    refine T_iload_n 3 (dk dtk_X3_beginCall 15 rfl) rfl rfl ?_
    obtain ⟨h4, h⟩ := h
    obtain ⟨x5, ex5⟩ : ∃ z, z = si x3 182 (x3.1 180 6 : Int32).toNatClampNeg l3 := ⟨_, rfl⟩
    have h := h x5 ex5
    refine T_iast 182 12 (dk dtk_X3_beginCall 16 rfl) kk_182 (kl_182 hq hh) h4 ?_
    rw [← ex5]
    refine T_aload_n 0 (dk dtk_X3_beginCall 17 rfl) rfl rfl ?_
    refine T_getR 180 3 184 (dk dtk_X3_beginCall 18 rfl) kfl_X3_21 kk_180 (kl_180 hq hh) (by decide) rfl kr_180_3 ?_
    refine T_aload_n 0 (dk dtk_X3_beginCall 19 rfl) rfl rfl ?_
    refine T_getI 180 6 (dk dtk_X3_beginCall 20 rfl) kfl_X3_40 kk_180 (kl_180 hq hh) (by decide) rfl ?_
    refine T_aload_n 0 (dk dtk_X3_beginCall 21 rfl) rfl rfl ?_
    refine T_getI 180 7 (dk dtk_X3_beginCall 22 rfl) kfl_X3_44 kk_180 (kl_180 hq hh) (by decide) rfl ?_
    obtain ⟨h6, h⟩ := h
    obtain ⟨x7, ex7⟩ : ∃ z, z = si x5 184 (x5.1 180 6 : Int32).toNatClampNeg (x5.1 180 7) := ⟨_, rfl⟩
    have h := h x7 ex7
    refine T_iast 184 12 (dk dtk_X3_beginCall 23 rfl) kk_184 (kl_184 hq hh) h6 ?_
    rw [← ex7]
    refine T_aload_n 0 (dk dtk_X3_beginCall 24 rfl) rfl rfl ?_
    refine T_getR 180 4 185 (dk dtk_X3_beginCall 25 rfl) kfl_X3_24 kk_180 (kl_180 hq hh) (by decide) rfl kr_180_4 ?_
    refine T_aload_n 0 (dk dtk_X3_beginCall 26 rfl) rfl rfl ?_
    refine T_getI 180 6 (dk dtk_X3_beginCall 27 rfl) kfl_X3_40 kk_180 (kl_180 hq hh) (by decide) rfl ?_
    refine T_ldc (v := 1000000) (dk dtk_X3_beginCall 28 rfl) kkc_X3_84 ?_
    obtain ⟨h8, h⟩ := h
    obtain ⟨x9, ex9⟩ : ∃ z, z = si x7 185 (x7.1 180 6 : Int32).toNatClampNeg 1000000 := ⟨_, rfl⟩
    have h := h x9 ex9
    refine T_iast 185 12 (dk dtk_X3_beginCall 29 rfl) kk_185 (kl_185 hq hh) h8 ?_
    rw [← ex9]
    refine T_aload_n 0 (dk dtk_X3_beginCall 30 rfl) rfl rfl ?_
    refine T_getR 180 5 186 (dk dtk_X3_beginCall 31 rfl) kfl_X3_27 kk_180 (kl_180 hq hh) (by decide) rfl kr_180_5 ?_
    refine T_aload_n 0 (dk dtk_X3_beginCall 32 rfl) rfl rfl ?_
    refine T_getI 180 6 (dk dtk_X3_beginCall 33 rfl) kfl_X3_40 kk_180 (kl_180 hq hh) (by decide) rfl ?_
    refine T_iconst (v := 0) (dk dtk_X3_beginCall 34 rfl) (by decide +kernel) ?_
    obtain ⟨h10, h⟩ := h
    obtain ⟨x11, ex11⟩ : ∃ z, z = si x9 186 (x9.1 180 6 : Int32).toNatClampNeg 0 := ⟨_, rfl⟩
    have h := h x11 ex11
    refine T_iast 186 12 (dk dtk_X3_beginCall 35 rfl) kk_186 (kl_186 hq hh) h10 ?_
    rw [← ex11]
    refine T_iconst (v := 0) (dk dtk_X3_beginCall 36 rfl) (by decide +kernel) ?_
    refine T_istore (lv2 := [(4, vi 0), (0, vr 180), (1, vi l1), (2, vi l2), (3, vi l3)]) (dk dtk_X3_beginCall 37 rfl) (by decide) rfl ?_
    exact T_sub [1, 2, 0] rfl h
  · have h := h.2 c1
    exact KT_vret (dk dtk_X3_beginCall 4 rfl) rfl h
set_option maxRecDepth 100000 in
set_option maxHeartbeats 4000000 in
theorem kg_X3_beginCall_67 {G : kG} {q : kP} {d : Nat} {x : gd} {P : Option gv → gd → Prop} (hq : kV q) (hh : q.hi = true) (l1 : Int32) (l4 : Int32)
    (h : (((x.1 180 6) ≤ l4 → vp_in l1 6 ∧ (∀ x3 : gd, x3 = si x 189 (l1 : Int32).toNatClampNeg (x.1 180 6) → (∀ x4 : gd, x4 = si x3 180 6 ((x3.1 180 6) + 1) → P none x4))) ∧ (¬ ((x.1 180 6) ≤ l4) → vp_in l4 12 ∧ (((x.1 180 7) ≤ (x.1 185 (l4 : Int32).toNatClampNeg) → KT G q d zk_X3_beginCall 67 [(0, vr 180), (1, vi l1), (4, vi (l4 + 1))] [] x P) ∧ (¬ ((x.1 180 7) ≤ (x.1 185 (l4 : Int32).toNatClampNeg)) → vp_in (x.1 180 6) 12 ∧ vp_in (x.1 180 6) 12 ∧ (∀ x9 : gd, x9 = si x 186 (x.1 180 6 : Int32).toNatClampNeg ((x.1 186 (x.1 180 6 : Int32).toNatClampNeg) ||| (1 <<< (l4 &&& 31 : Int32))) → KT G q d zk_X3_beginCall 67 [(0, vr 180), (1, vi l1), (4, vi (l4 + 1))] [] x9 P)))))) :
    KT G q d zk_X3_beginCall 67 [(0, vr 180), (1, vi l1), (4, vi l4)] [] x P := by
  refine T_iload 2 (dk dtk_X3_beginCall 38 rfl) rfl ?_
  refine T_aload_n 0 (dk dtk_X3_beginCall 39 rfl) rfl rfl ?_
  refine T_getI 180 6 (dk dtk_X3_beginCall 40 rfl) kfl_X3_40 kk_180 (kl_180 hq hh) (by decide) rfl ?_
  refine T_icmp_ge 112 (dk dtk_X3_beginCall 41 rfl) (by decide) (fun c1 => ?_) (fun c1 => ?_)
  · have h := h.1 c1
    refine T_aload_n 0 (dk dtk_X3_beginCall 62 rfl) rfl rfl ?_
    refine T_getR 180 8 189 (dk dtk_X3_beginCall 63 rfl) kfl_X3_32 kk_180 (kl_180 hq hh) (by decide) rfl kr_180_8 ?_
    refine T_iload_n 1 (dk dtk_X3_beginCall 64 rfl) rfl rfl ?_
    refine T_aload_n 0 (dk dtk_X3_beginCall 65 rfl) rfl rfl ?_
    refine T_getI 180 6 (dk dtk_X3_beginCall 66 rfl) kfl_X3_40 kk_180 (kl_180 hq hh) (by decide) rfl ?_
    obtain ⟨h2, h⟩ := h
    obtain ⟨x3, ex3⟩ : ∃ z, z = si x 189 (l1 : Int32).toNatClampNeg (x.1 180 6) := ⟨_, rfl⟩
    have h := h x3 ex3
    refine T_iast 189 6 (dk dtk_X3_beginCall 67 rfl) kk_189 (kl_189 hq hh) h2 ?_
    rw [← ex3]
    refine T_aload_n 0 (dk dtk_X3_beginCall 68 rfl) rfl rfl ?_
    refine T_dup (dk dtk_X3_beginCall 69 rfl) rfl ?_
    refine T_getI 180 6 (dk dtk_X3_beginCall 70 rfl) kfl_X3_40 kk_180 (kl_180 hq hh) (by decide) rfl ?_
    refine T_iconst (v := 1) (dk dtk_X3_beginCall 71 rfl) (by decide +kernel) ?_
    refine T_iadd (dk dtk_X3_beginCall 72 rfl) ?_
    obtain ⟨x4, ex4⟩ : ∃ z, z = si x3 180 6 ((x3.1 180 6) + 1) := ⟨_, rfl⟩
    have h := h x4 ex4
    refine T_putI 180 6 (dk dtk_X3_beginCall 73 rfl) kfl_X3_40 kk_180 (kl_180 hq hh) (by decide) rfl ⟨rfl, rfl⟩ ?_
    rw [← ex4]
    exact KT_vret (dk dtk_X3_beginCall 74 rfl) rfl h
  · have h := h.2 c1
    refine T_aload_n 0 (dk dtk_X3_beginCall 42 rfl) rfl rfl ?_
    refine T_getR 180 4 185 (dk dtk_X3_beginCall 43 rfl) kfl_X3_24 kk_180 (kl_180 hq hh) (by decide) rfl kr_180_4 ?_
    refine T_iload 2 (dk dtk_X3_beginCall 44 rfl) rfl ?_
    obtain ⟨h5, h⟩ := h
    refine T_iald 185 12 (dk dtk_X3_beginCall 45 rfl) kk_185 (kl_185 hq hh) h5 ?_
    refine T_aload_n 0 (dk dtk_X3_beginCall 46 rfl) rfl rfl ?_
    refine T_getI 180 7 (dk dtk_X3_beginCall 47 rfl) kfl_X3_44 kk_180 (kl_180 hq hh) (by decide) rfl ?_
    refine T_icmp_ge 106 (dk dtk_X3_beginCall 48 rfl) (by decide) (fun c6 => ?_) (fun c6 => ?_)
    · have h := h.1 c6
      refine T_iinc (v := l4 + 1) (lv2 := [(4, vi (l4 + 1)), (0, vr 180), (1, vi l1)]) 2 (dk dtk_X3_beginCall 60 rfl) rfl rfl (by decide) rfl ?_
      refine T_goto 67 (dk dtk_X3_beginCall 61 rfl) (by decide) ?_
      exact T_sub [1, 2, 0] rfl h
    · have h := h.2 c6
      refine T_aload_n 0 (dk dtk_X3_beginCall 49 rfl) rfl rfl ?_
      refine T_getR 180 5 186 (dk dtk_X3_beginCall 50 rfl) kfl_X3_27 kk_180 (kl_180 hq hh) (by decide) rfl kr_180_5 ?_
      refine T_aload_n 0 (dk dtk_X3_beginCall 51 rfl) rfl rfl ?_
      refine T_getI 180 6 (dk dtk_X3_beginCall 52 rfl) kfl_X3_40 kk_180 (kl_180 hq hh) (by decide) rfl ?_
      refine T_dup2 (dk dtk_X3_beginCall 53 rfl) rfl rfl ?_
      obtain ⟨h7, h⟩ := h
      refine T_iald 186 12 (dk dtk_X3_beginCall 54 rfl) kk_186 (kl_186 hq hh) h7 ?_
      refine T_iconst (v := 1) (dk dtk_X3_beginCall 55 rfl) (by decide +kernel) ?_
      refine T_iload 2 (dk dtk_X3_beginCall 56 rfl) rfl ?_
      refine T_ishl (dk dtk_X3_beginCall 57 rfl) ?_
      refine T_ior (dk dtk_X3_beginCall 58 rfl) ?_
      obtain ⟨h8, h⟩ := h
      obtain ⟨x9, ex9⟩ : ∃ z, z = si x 186 (x.1 180 6 : Int32).toNatClampNeg ((x.1 186 (x.1 180 6 : Int32).toNatClampNeg) ||| (1 <<< (l4 &&& 31 : Int32))) := ⟨_, rfl⟩
      have h := h x9 ex9
      refine T_iast 186 12 (dk dtk_X3_beginCall 59 rfl) kk_186 (kl_186 hq hh) h8 ?_
      rw [← ex9]
      refine T_iinc (v := l4 + 1) (lv2 := [(4, vi (l4 + 1)), (0, vr 180), (1, vi l1)]) 2 (dk dtk_X3_beginCall 60 rfl) rfl rfl (by decide) rfl ?_
      refine T_goto 67 (dk dtk_X3_beginCall 61 rfl) (by decide) ?_
      exact T_sub [1, 2, 0] rfl h
set_option maxRecDepth 100000 in
theorem dtk_X3_endCall : dck cX3_endCall [(0, .aload_n 0, 1), (1, .getfield 32, 3), (4, .iload_n 1, 1), (5, .iaload, 1), (6, .iconst (-1), 1), (7, .if_icmp .eq 37, 3), (10, .aload_n 0, 1), (11, .getfield 18, 3), (14, .aload_n 0, 1), (15, .getfield 32, 3), (18, .iload_n 1, 1), (19, .iaload, 1), (20, .iload_n 2, 1), (21, .iastore, 1), (22, .aload_n 0, 1), (23, .getfield 24, 3), (26, .aload_n 0, 1), (27, .getfield 32, 3), (30, .iload_n 1, 1), (31, .iaload, 1), (32, .aload_n 0, 1), (33, .getfield 44, 3), (36, .iastore, 1), (37, .aload_n 0, 1), (38, .getfield 32, 3), (41, .iload_n 1, 1), (42, .iconst (-1), 1), (43, .iastore, 1), (44, .return_, 1)] = true := by decide +kernel
set_option maxRecDepth 100000 in
set_option maxHeartbeats 4000000 in
theorem kg_X3_endCall_0 {G : kG} {q : kP} {d : Nat} {x : gd} {P : Option gv → gd → Prop} (hq : kV q) (hh : q.hi = true) (l1 : Int32) (l2 : Int32)
    (h : vp_in l1 6 ∧ (((x.1 189 (l1 : Int32).toNatClampNeg) = (-1 : Int32) → P none x) ∧ (¬ ((x.1 189 (l1 : Int32).toNatClampNeg) = (-1 : Int32)) → vp_in l1 6 ∧ vp_in (x.1 189 (l1 : Int32).toNatClampNeg) 12 ∧ (∀ x5 : gd, x5 = si x 183 (x.1 189 (l1 : Int32).toNatClampNeg : Int32).toNatClampNeg l2 → vp_in l1 6 ∧ vp_in (x5.1 189 (l1 : Int32).toNatClampNeg) 12 ∧ (∀ x8 : gd, x8 = si x5 185 (x5.1 189 (l1 : Int32).toNatClampNeg : Int32).toNatClampNeg (x5.1 180 7) → vp_in l1 6 ∧ (∀ x10 : gd, x10 = si x8 189 (l1 : Int32).toNatClampNeg (-1) → P none x10)))))) :
    KT G q d zk_X3_endCall 0 [(0, vr 180), (1, vi l1), (2, vi l2)] [] x P := by
  refine T_aload_n 0 (dk dtk_X3_endCall 0 rfl) rfl rfl ?_
  refine T_getR 180 8 189 (dk dtk_X3_endCall 1 rfl) kfl_X3_32 kk_180 (kl_180 hq hh) (by decide) rfl kr_180_8 ?_
  refine T_iload_n 1 (dk dtk_X3_endCall 2 rfl) rfl rfl ?_
  obtain ⟨h1, h⟩ := h
  refine T_iald 189 6 (dk dtk_X3_endCall 3 rfl) kk_189 (kl_189 hq hh) h1 ?_
  refine T_iconst (v := (-1)) (dk dtk_X3_endCall 4 rfl) (by decide +kernel) ?_
  refine T_icmp_eq 44 (dk dtk_X3_endCall 5 rfl) (by decide) (fun c2 => ?_) (fun c2 => ?_)
  · have h := h.1 c2
    exact KT_vret (dk dtk_X3_endCall 28 rfl) rfl h
  · have h := h.2 c2
    refine T_aload_n 0 (dk dtk_X3_endCall 6 rfl) rfl rfl ?_
    refine T_getR 180 2 183 (dk dtk_X3_endCall 7 rfl) kfl_X3_18 kk_180 (kl_180 hq hh) (by decide) rfl kr_180_2 ?_
    refine T_aload_n 0 (dk dtk_X3_endCall 8 rfl) rfl rfl ?_
    refine T_getR 180 8 189 (dk dtk_X3_endCall 9 rfl) kfl_X3_32 kk_180 (kl_180 hq hh) (by decide) rfl kr_180_8 ?_
    refine T_iload_n 1 (dk dtk_X3_endCall 10 rfl) rfl rfl ?_
    obtain ⟨h3, h⟩ := h
    refine T_iald 189 6 (dk dtk_X3_endCall 11 rfl) kk_189 (kl_189 hq hh) h3 ?_
    refine T_iload_n 2 (dk dtk_X3_endCall 12 rfl) rfl rfl ?_
    obtain ⟨h4, h⟩ := h
    obtain ⟨x5, ex5⟩ : ∃ z, z = si x 183 (x.1 189 (l1 : Int32).toNatClampNeg : Int32).toNatClampNeg l2 := ⟨_, rfl⟩
    have h := h x5 ex5
    refine T_iast 183 12 (dk dtk_X3_endCall 13 rfl) kk_183 (kl_183 hq hh) h4 ?_
    rw [← ex5]
    refine T_aload_n 0 (dk dtk_X3_endCall 14 rfl) rfl rfl ?_
    refine T_getR 180 4 185 (dk dtk_X3_endCall 15 rfl) kfl_X3_24 kk_180 (kl_180 hq hh) (by decide) rfl kr_180_4 ?_
    refine T_aload_n 0 (dk dtk_X3_endCall 16 rfl) rfl rfl ?_
    refine T_getR 180 8 189 (dk dtk_X3_endCall 17 rfl) kfl_X3_32 kk_180 (kl_180 hq hh) (by decide) rfl kr_180_8 ?_
    refine T_iload_n 1 (dk dtk_X3_endCall 18 rfl) rfl rfl ?_
    obtain ⟨h6, h⟩ := h
    refine T_iald 189 6 (dk dtk_X3_endCall 19 rfl) kk_189 (kl_189 hq hh) h6 ?_
    refine T_aload_n 0 (dk dtk_X3_endCall 20 rfl) rfl rfl ?_
    refine T_getI 180 7 (dk dtk_X3_endCall 21 rfl) kfl_X3_44 kk_180 (kl_180 hq hh) (by decide) rfl ?_
    obtain ⟨h7, h⟩ := h
    obtain ⟨x8, ex8⟩ : ∃ z, z = si x5 185 (x5.1 189 (l1 : Int32).toNatClampNeg : Int32).toNatClampNeg (x5.1 180 7) := ⟨_, rfl⟩
    have h := h x8 ex8
    refine T_iast 185 12 (dk dtk_X3_endCall 22 rfl) kk_185 (kl_185 hq hh) h7 ?_
    rw [← ex8]
    refine T_aload_n 0 (dk dtk_X3_endCall 23 rfl) rfl rfl ?_
    refine T_getR 180 8 189 (dk dtk_X3_endCall 24 rfl) kfl_X3_32 kk_180 (kl_180 hq hh) (by decide) rfl kr_180_8 ?_
    refine T_iload_n 1 (dk dtk_X3_endCall 25 rfl) rfl rfl ?_
    refine T_iconst (v := (-1)) (dk dtk_X3_endCall 26 rfl) (by decide +kernel) ?_
    obtain ⟨h9, h⟩ := h
    obtain ⟨x10, ex10⟩ : ∃ z, z = si x8 189 (l1 : Int32).toNatClampNeg (-1) := ⟨_, rfl⟩
    have h := h x10 ex10
    refine T_iast 189 6 (dk dtk_X3_endCall 27 rfl) kk_189 (kl_189 hq hh) h9 ?_
    rw [← ex10]
    exact KT_vret (dk dtk_X3_endCall 28 rfl) rfl h
set_option maxRecDepth 100000 in
theorem dtk_X3_fewestThatFail : dck cX3_fewestThatFail [(0, .aload_n 0, 1), (1, .iload_n 1, 1), (2, .putfield 85, 3), (5, .aload_n 0, 1), (6, .aload_n 0, 1), (7, .getfield 44, 3), (10, .invokevirtual 88, 3), (13, .ifCond .eq 5, 3), (16, .iconst (-1), 1), (17, .ireturn, 1), (18, .iconst 0, 1), (19, .istore_n 2, 1), (20, .aload_n 0, 1), (21, .getfield 44, 3), (24, .istore_n 3, 1), (25, .iconst 0, 1), (26, .istore 4, 2), (28, .iload 4, 2), (30, .ldc 84, 2), (32, .if_icmp .ge 41, 3), (35, .iload_n 3, 1), (36, .iload_n 2, 1), (37, .isub, 1), (38, .iconst 1, 1), (39, .if_icmp .le 34, 3), (42, .iload_n 2, 1), (43, .iload_n 3, 1), (44, .iadd, 1), (45, .iconst 2, 1), (46, .idiv, 1), (47, .istore 5, 2), (49, .aload_n 0, 1), (50, .iload 5, 2), (52, .invokevirtual 88, 3), (55, .ifCond .eq 9, 3), (58, .iload 5, 2), (60, .istore_n 2, 1), (61, .goto 6, 3), (64, .iload 5, 2), (66, .istore_n 3, 1), (67, .iinc 4 1, 3), (70, .goto (-42), 3), (73, .iload_n 3, 1), (74, .ireturn, 1)] = true := by decide +kernel
set_option maxRecDepth 100000 in
set_option maxHeartbeats 4000000 in
theorem kg_X3_fewestThatFail_0 {G : kG} {q : kP} {d : Nat} {x : gd} {P : Option gv → gd → Prop} (hq : kV q) (hh : q.hi = true) (l1 : Int32)
    (h : (∀ x1 : gd, x1 = si x 180 10 l1 → KT G q d zk_X3_isLinear 0 [(0, vr 180), (1, vi (x1.1 180 7))] [] x1 (ri (fun r3 x2 => ((r3 = (0 : Int32) → KT G q (d + 1) zk_X3_fewestThatFail 28 [(0, vr 180), (2, vi 0), (3, vi (x2.1 180 7)), (4, vi 0)] [] x2 P) ∧ (¬ (r3 = (0 : Int32)) → P (some (vi (-1))) x2)))))) :
    KT G q (d + 1) zk_X3_fewestThatFail 0 [(0, vr 180), (1, vi l1)] [] x P := by
  refine T_aload_n 0 (dk dtk_X3_fewestThatFail 0 rfl) rfl rfl ?_
  refine T_iload_n 1 (dk dtk_X3_fewestThatFail 1 rfl) rfl rfl ?_
  obtain ⟨x1, ex1⟩ : ∃ z, z = si x 180 10 l1 := ⟨_, rfl⟩
  have h := h x1 ex1
  refine T_putI 180 10 (dk dtk_X3_fewestThatFail 2 rfl) kfl_X3_85 kk_180 (kl_180 hq hh) (by decide) rfl ⟨rfl, rfl⟩ ?_
  rw [← ex1]
  refine T_aload_n 0 (dk dtk_X3_fewestThatFail 3 rfl) rfl rfl ?_
  refine T_aload_n 0 (dk dtk_X3_fewestThatFail 4 rfl) rfl rfl ?_
  refine T_getI 180 7 (dk dtk_X3_fewestThatFail 5 rfl) kfl_X3_44 kk_180 (kl_180 hq hh) (by decide) rfl ?_
  refine T_sub (lv2 := [(0, vr 180)]) [0] rfl ?_
  refine KC_Vi [vi (x1.1 180 7)] [] rfl (dk dtk_X3_fewestThatFail 6 rfl) kcv_X3_88 rfl kk_180 rfl (kl_180 hq hh) (Nat.le_of_ble_eq_true rfl) (Nat.le_of_ble_eq_true rfl) (gok_i (av_c (gkr (kl_180 hq hh)) av_n) as_n) rfl h (fun r3 x2 h => ?_)
  refine T_if_eq 18 (dk dtk_X3_fewestThatFail 7 rfl) (by decide) (fun c4 => ?_) (fun c4 => ?_)
  · have h := h.1 c4
    refine T_iconst (v := 0) (dk dtk_X3_fewestThatFail 10 rfl) (by decide +kernel) ?_
    refine T_istore_n (lv2 := [(2, vi 0), (0, vr 180)]) (dk dtk_X3_fewestThatFail 11 rfl) rfl (by decide) rfl ?_
    refine T_aload_n 1 (dk dtk_X3_fewestThatFail 12 rfl) rfl rfl ?_
    refine T_getI 180 7 (dk dtk_X3_fewestThatFail 13 rfl) kfl_X3_44 kk_180 (kl_180 hq hh) (by decide) rfl ?_
    refine T_istore_n (lv2 := [(3, vi (x2.1 180 7)), (2, vi 0), (0, vr 180)]) (dk dtk_X3_fewestThatFail 14 rfl) rfl (by decide) rfl ?_
    refine T_iconst (v := 0) (dk dtk_X3_fewestThatFail 15 rfl) (by decide +kernel) ?_
    refine T_istore (lv2 := [(4, vi 0), (3, vi (x2.1 180 7)), (2, vi 0), (0, vr 180)]) (dk dtk_X3_fewestThatFail 16 rfl) (by decide) rfl ?_
    exact T_sub [3, 2, 1, 0] rfl h
  · have h := h.2 c4
    refine T_iconst (v := (-1)) (dk dtk_X3_fewestThatFail 8 rfl) (by decide +kernel) ?_
    exact KT_iret (dk dtk_X3_fewestThatFail 9 rfl) rfl rfl h
set_option maxRecDepth 100000 in
set_option maxHeartbeats 4000000 in
theorem kg_X3_fewestThatFail_28 {G : kG} {q : kP} {d : Nat} {x : gd} {P : Option gv → gd → Prop} (hq : kV q) (hh : q.hi = true) (l2 : Int32) (l3 : Int32) (l4 : Int32)
    (h : (((1000000 : Int32) ≤ l4 → P (some (vi l3)) x) ∧ (¬ ((1000000 : Int32) ≤ l4) → (((l3 - l2) ≤ (1 : Int32) → P (some (vi l3)) x) ∧ (¬ ((l3 - l2) ≤ (1 : Int32)) → ¬ (2 : Int32) = 0 ∧ KT G q d zk_X3_isLinear 0 [(0, vr 180), (1, vi ((l2 + l3) / 2))] [] x (ri (fun r5 x4 => ((r5 = (0 : Int32) → KT G q (d + 1) zk_X3_fewestThatFail 28 [(0, vr 180), (2, vi l2), (3, vi ((l2 + l3) / 2)), (4, vi (l4 + 1))] [] x4 P) ∧ (¬ (r5 = (0 : Int32)) → KT G q (d + 1) zk_X3_fewestThatFail 28 [(0, vr 180), (2, vi ((l2 + l3) / 2)), (3, vi l3), (4, vi (l4 + 1))] [] x4 P))))))))) :
    KT G q (d + 1) zk_X3_fewestThatFail 28 [(0, vr 180), (2, vi l2), (3, vi l3), (4, vi l4)] [] x P := by
  refine T_iload 3 (dk dtk_X3_fewestThatFail 17 rfl) rfl ?_
  refine T_ldc (v := 1000000) (dk dtk_X3_fewestThatFail 18 rfl) kkc_X3_84 ?_
  refine T_icmp_ge 73 (dk dtk_X3_fewestThatFail 19 rfl) (by decide) (fun c1 => ?_) (fun c1 => ?_)
  · have h := h.1 c1
    refine T_iload_n 2 (dk dtk_X3_fewestThatFail 42 rfl) rfl rfl ?_
    exact KT_iret (dk dtk_X3_fewestThatFail 43 rfl) rfl rfl h
  · have h := h.2 c1
    refine T_iload_n 2 (dk dtk_X3_fewestThatFail 20 rfl) rfl rfl ?_
    refine T_iload_n 1 (dk dtk_X3_fewestThatFail 21 rfl) rfl rfl ?_
    refine T_isub (dk dtk_X3_fewestThatFail 22 rfl) ?_
    refine T_iconst (v := 1) (dk dtk_X3_fewestThatFail 23 rfl) (by decide +kernel) ?_
    refine T_icmp_le 73 (dk dtk_X3_fewestThatFail 24 rfl) (by decide) (fun c2 => ?_) (fun c2 => ?_)
    · have h := h.1 c2
      refine T_iload_n 2 (dk dtk_X3_fewestThatFail 42 rfl) rfl rfl ?_
      exact KT_iret (dk dtk_X3_fewestThatFail 43 rfl) rfl rfl h
    · have h := h.2 c2
      refine T_iload_n 1 (dk dtk_X3_fewestThatFail 25 rfl) rfl rfl ?_
      refine T_iload_n 2 (dk dtk_X3_fewestThatFail 26 rfl) rfl rfl ?_
      refine T_iadd (dk dtk_X3_fewestThatFail 27 rfl) ?_
      refine T_iconst (v := 2) (dk dtk_X3_fewestThatFail 28 rfl) (by decide +kernel) ?_
      obtain ⟨h3, h⟩ := h
      refine T_idiv (dk dtk_X3_fewestThatFail 29 rfl) h3 ?_
      refine T_istore (lv2 := [(5, vi ((l2 + l3) / 2)), (0, vr 180), (2, vi l2), (3, vi l3), (4, vi l4)]) (dk dtk_X3_fewestThatFail 30 rfl) (by decide) rfl ?_
      refine T_aload_n 1 (dk dtk_X3_fewestThatFail 31 rfl) rfl rfl ?_
      refine T_iload 0 (dk dtk_X3_fewestThatFail 32 rfl) rfl ?_
      refine KC_Vi [vi ((l2 + l3) / 2)] [] rfl (dk dtk_X3_fewestThatFail 33 rfl) kcv_X3_88 rfl kk_180 rfl (kl_180 hq hh) (Nat.le_of_ble_eq_true rfl) (Nat.le_of_ble_eq_true rfl) (gok_i (av_c rfl (av_c (gkr (kl_180 hq hh)) (av_c rfl (av_c rfl (av_c rfl av_n))))) as_n) rfl h (fun r5 x4 h => ?_)
      refine T_if_eq 64 (dk dtk_X3_fewestThatFail 34 rfl) (by decide) (fun c6 => ?_) (fun c6 => ?_)
      · have h := h.1 c6
        refine T_iload 0 (dk dtk_X3_fewestThatFail 38 rfl) rfl ?_
        refine T_istore_n (lv2 := [(3, vi ((l2 + l3) / 2)), (5, vi ((l2 + l3) / 2)), (0, vr 180), (2, vi l2), (4, vi l4)]) (dk dtk_X3_fewestThatFail 39 rfl) rfl (by decide) rfl ?_
        refine T_iinc (v := l4 + 1) (lv2 := [(4, vi (l4 + 1)), (3, vi ((l2 + l3) / 2)), (5, vi ((l2 + l3) / 2)), (0, vr 180), (2, vi l2)]) 4 (dk dtk_X3_fewestThatFail 40 rfl) rfl rfl (by decide) rfl ?_
        refine T_goto 28 (dk dtk_X3_fewestThatFail 41 rfl) (by decide) ?_
        exact T_sub [3, 4, 1, 0] rfl h
      · have h := h.2 c6
        refine T_iload 0 (dk dtk_X3_fewestThatFail 35 rfl) rfl ?_
        refine T_istore_n (lv2 := [(2, vi ((l2 + l3) / 2)), (5, vi ((l2 + l3) / 2)), (0, vr 180), (3, vi l3), (4, vi l4)]) (dk dtk_X3_fewestThatFail 36 rfl) rfl (by decide) rfl ?_
        refine T_goto 67 (dk dtk_X3_fewestThatFail 37 rfl) (by decide) ?_
        refine T_iinc (v := l4 + 1) (lv2 := [(4, vi (l4 + 1)), (2, vi ((l2 + l3) / 2)), (5, vi ((l2 + l3) / 2)), (0, vr 180), (3, vi l3)]) 4 (dk dtk_X3_fewestThatFail 40 rfl) rfl rfl (by decide) rfl ?_
        refine T_goto 28 (dk dtk_X3_fewestThatFail 41 rfl) (by decide) ?_
        exact T_sub [3, 1, 4, 0] rfl h
set_option maxRecDepth 100000 in
theorem dtk_X3_isLinear : dck cX3_isLinear [(0, .aload_n 0, 1), (1, .iconst 0, 1), (2, .putfield 92, 3), (5, .aload_n 0, 1), (6, .iconst 0, 1), (7, .putfield 95, 3), (10, .iconst 0, 1), (11, .istore_n 2, 1), (12, .iload_n 2, 1), (13, .aload_n 0, 1), (14, .getfield 40, 3), (17, .if_icmp .ge 53, 3), (20, .aload_n 0, 1), (21, .getfield 21, 3), (24, .iload_n 2, 1), (25, .iaload, 1), (26, .iload_n 1, 1), (27, .if_icmp .ge 15, 3), (30, .aload_n 0, 1), (31, .dup, 1), (32, .getfield 92, 3), (35, .iconst 1, 1), (36, .iload_n 2, 1), (37, .ishl, 1), (38, .ior, 1), (39, .putfield 92, 3), (42, .aload_n 0, 1), (43, .getfield 24, 3), (46, .iload_n 2, 1), (47, .iaload, 1), (48, .iload_n 1, 1), (49, .if_icmp .ge 15, 3), (52, .aload_n 0, 1), (53, .dup, 1), (54, .getfield 95, 3), (57, .iconst 1, 1), (58, .iload_n 2, 1), (59, .ishl, 1), (60, .ior, 1), (61, .putfield 95, 3), (64, .iinc 2 1, 3), (67, .goto (-55), 3), (70, .aload_n 0, 1), (71, .getfield 37, 3), (74, .iconst 0, 1), (75, .aaload, 1), (76, .iconst 0, 1), (77, .invokestatic 47, 3), (80, .aload_n 0, 1), (81, .iconst 0, 1), (82, .iconst 0, 1), (83, .invokevirtual 98, 3), (86, .ireturn, 1)] = true := by decide +kernel
set_option maxRecDepth 100000 in
set_option maxHeartbeats 4000000 in
theorem kg_X3_isLinear_0 {G : kG} {q : kP} {d : Nat} {x : gd} {P : Option gv → gd → Prop} (hq : kV q) (hh : q.hi = true) (l1 : Int32)
    (h : (∀ x1 : gd, x1 = si x 180 11 0 → (∀ x2 : gd, x2 = si x1 180 12 0 → KT G q (d + 1) zk_X3_isLinear 12 [(0, vr 180), (1, vi l1), (2, vi 0)] [] x2 P))) :
    KT G q (d + 1) zk_X3_isLinear 0 [(0, vr 180), (1, vi l1)] [] x P := by
  refine T_aload_n 0 (dk dtk_X3_isLinear 0 rfl) rfl rfl ?_
  refine T_iconst (v := 0) (dk dtk_X3_isLinear 1 rfl) (by decide +kernel) ?_
  obtain ⟨x1, ex1⟩ : ∃ z, z = si x 180 11 0 := ⟨_, rfl⟩
  have h := h x1 ex1
  refine T_putI 180 11 (dk dtk_X3_isLinear 2 rfl) kfl_X3_92 kk_180 (kl_180 hq hh) (by decide) rfl ⟨rfl, rfl⟩ ?_
  rw [← ex1]
  refine T_aload_n 0 (dk dtk_X3_isLinear 3 rfl) rfl rfl ?_
  refine T_iconst (v := 0) (dk dtk_X3_isLinear 4 rfl) (by decide +kernel) ?_
  obtain ⟨x2, ex2⟩ : ∃ z, z = si x1 180 12 0 := ⟨_, rfl⟩
  have h := h x2 ex2
  refine T_putI 180 12 (dk dtk_X3_isLinear 5 rfl) kfl_X3_95 kk_180 (kl_180 hq hh) (by decide) rfl ⟨rfl, rfl⟩ ?_
  rw [← ex2]
  refine T_iconst (v := 0) (dk dtk_X3_isLinear 6 rfl) (by decide +kernel) ?_
  refine T_istore_n (lv2 := [(2, vi 0), (0, vr 180), (1, vi l1)]) (dk dtk_X3_isLinear 7 rfl) rfl (by decide) rfl ?_
  exact T_sub [1, 2, 0] rfl h
set_option maxRecDepth 100000 in
set_option maxHeartbeats 4000000 in
theorem kg_X3_isLinear_12 {G : kG} {q : kP} {d : Nat} {x : gd} {P : Option gv → gd → Prop} (hq : kV q) (hh : q.hi = true) (l1 : Int32) (l2 : Int32)
    (h : (((x.1 180 6) ≤ l2 → vp_in 0 13 ∧ (∀ u3, u3 = (kf q).1 190 (0 : Int32).toNatClampNeg → ∃ c4, u3 = some c4 ∧ kK c4 = .inr (.int, 14) ∧ c4 ∈ (kf q).2.1 ∧ (∀ x7 : gd, x7 = sfl x c4 0 14 → KT G q d zk_X3_canGoOn 0 [(0, vr 180), (1, vi 0), (2, vi 0)] [] x7 (ri (fun r9 x8 => gbool r9 ∧ P (some (vi r9)) x8))))) ∧ (¬ ((x.1 180 6) ≤ l2) → vp_in l2 12 ∧ ((l1 ≤ (x.1 184 (l2 : Int32).toNatClampNeg) → KT G q (d + 1) zk_X3_isLinear 42 [(0, vr 180), (1, vi l1), (2, vi l2)] [] x P) ∧ (¬ (l1 ≤ (x.1 184 (l2 : Int32).toNatClampNeg)) → (∀ x12 : gd, x12 = si x 180 11 ((x.1 180 11) ||| (1 <<< (l2 &&& 31 : Int32))) → KT G q (d + 1) zk_X3_isLinear 42 [(0, vr 180), (1, vi l1), (2, vi l2)] [] x12 P)))))) :
    KT G q (d + 1) zk_X3_isLinear 12 [(0, vr 180), (1, vi l1), (2, vi l2)] [] x P := by
  refine T_iload_n 2 (dk dtk_X3_isLinear 8 rfl) rfl rfl ?_
  refine T_aload_n 0 (dk dtk_X3_isLinear 9 rfl) rfl rfl ?_
  refine T_getI 180 6 (dk dtk_X3_isLinear 10 rfl) kfl_X3_40 kk_180 (kl_180 hq hh) (by decide) rfl ?_
  refine T_icmp_ge 70 (dk dtk_X3_isLinear 11 rfl) (by decide) (fun c1 => ?_) (fun c1 => ?_)
  · have h := h.1 c1
    refine T_aload_n 0 (dk dtk_X3_isLinear 42 rfl) rfl rfl ?_
    refine T_getR 180 9 190 (dk dtk_X3_isLinear 43 rfl) kfl_X3_37 kk_180 (kl_180 hq hh) (by decide) rfl kr_180_9 ?_
    refine T_iconst (v := 0) (dk dtk_X3_isLinear 44 rfl) (by decide +kernel) ?_
    obtain ⟨h2, h⟩ := h
    obtain ⟨u3, eu3⟩ : ∃ z, z = (kf q).1 190 (0 : Int32).toNatClampNeg := ⟨_, rfl⟩
    have h := h u3 eu3
    refine T_aaldI 190 13 (dk dtk_X3_isLinear 45 rfl) kk_190 (kl_190 hq hh) h2 ?_
    rw [← eu3]
    refine T_iconst (v := 0) (dk dtk_X3_isLinear 46 rfl) (by decide +kernel) ?_
    obtain ⟨c4, rfl, g5, g6, h⟩ := h
    refine T_sub (lv2 := [(0, vr 180)]) [0] rfl ?_
    refine KC_Sv (F := fun z => z = sfl x c4 0 14) [vr c4, vi 0] [] rfl (dk dtk_X3_isLinear 47 rfl) kcs_X3_47 rfl (Nat.le_of_ble_eq_true rfl) (Nat.le_of_ble_eq_true rfl) (gok_i (av_c (gkr (kl_180 hq hh)) av_n) as_n) rfl (tj_fill c4 14 0 g5 g6 (by decide) ⟨rfl, none, rfl, rfl, rfl⟩) (fun x7 ex7 => ?_)
    have h := h x7 ex7
    refine T_aload_n 0 (dk dtk_X3_isLinear 48 rfl) rfl rfl ?_
    refine T_iconst (v := 0) (dk dtk_X3_isLinear 49 rfl) (by decide +kernel) ?_
    refine T_iconst (v := 0) (dk dtk_X3_isLinear 50 rfl) (by decide +kernel) ?_
    refine T_sub (lv2 := []) [] rfl ?_
    refine KC_Vi [vi 0, vi 0] [] rfl (dk dtk_X3_isLinear 51 rfl) kcv_X3_98 rfl kk_180 rfl (kl_180 hq hh) (Nat.le_of_ble_eq_true rfl) (Nat.le_of_ble_eq_true rfl) (gok_i av_n as_n) rfl h (fun r9 x8 h => ?_)
    exact KT_iret (dk dtk_X3_isLinear 52 rfl) rfl h.1.1 h.2
  · have h := h.2 c1
    refine T_aload_n 0 (dk dtk_X3_isLinear 12 rfl) rfl rfl ?_
    refine T_getR 180 3 184 (dk dtk_X3_isLinear 13 rfl) kfl_X3_21 kk_180 (kl_180 hq hh) (by decide) rfl kr_180_3 ?_
    refine T_iload_n 2 (dk dtk_X3_isLinear 14 rfl) rfl rfl ?_
    obtain ⟨h10, h⟩ := h
    refine T_iald 184 12 (dk dtk_X3_isLinear 15 rfl) kk_184 (kl_184 hq hh) h10 ?_
    refine T_iload_n 1 (dk dtk_X3_isLinear 16 rfl) rfl rfl ?_
    refine T_icmp_ge 42 (dk dtk_X3_isLinear 17 rfl) (by decide) (fun c11 => ?_) (fun c11 => ?_)
    · have h := h.1 c11
      exact h
    · have h := h.2 c11
      refine T_aload_n 0 (dk dtk_X3_isLinear 18 rfl) rfl rfl ?_
      refine T_dup (dk dtk_X3_isLinear 19 rfl) rfl ?_
      refine T_getI 180 11 (dk dtk_X3_isLinear 20 rfl) kfl_X3_92 kk_180 (kl_180 hq hh) (by decide) rfl ?_
      refine T_iconst (v := 1) (dk dtk_X3_isLinear 21 rfl) (by decide +kernel) ?_
      refine T_iload_n 2 (dk dtk_X3_isLinear 22 rfl) rfl rfl ?_
      refine T_ishl (dk dtk_X3_isLinear 23 rfl) ?_
      refine T_ior (dk dtk_X3_isLinear 24 rfl) ?_
      obtain ⟨x12, ex12⟩ : ∃ z, z = si x 180 11 ((x.1 180 11) ||| (1 <<< (l2 &&& 31 : Int32))) := ⟨_, rfl⟩
      have h := h x12 ex12
      refine T_putI 180 11 (dk dtk_X3_isLinear 25 rfl) kfl_X3_92 kk_180 (kl_180 hq hh) (by decide) rfl ⟨rfl, rfl⟩ ?_
      rw [← ex12]
      exact h
set_option maxRecDepth 100000 in
set_option maxHeartbeats 4000000 in
theorem kg_X3_isLinear_42 {G : kG} {q : kP} {d : Nat} {x : gd} {P : Option gv → gd → Prop} (hq : kV q) (hh : q.hi = true) (l1 : Int32) (l2 : Int32)
    (h : vp_in l2 12 ∧ ((l1 ≤ (x.1 185 (l2 : Int32).toNatClampNeg) → KT G q (d + 1) zk_X3_isLinear 12 [(0, vr 180), (1, vi l1), (2, vi (l2 + 1))] [] x P) ∧ (¬ (l1 ≤ (x.1 185 (l2 : Int32).toNatClampNeg)) → (∀ x3 : gd, x3 = si x 180 12 ((x.1 180 12) ||| (1 <<< (l2 &&& 31 : Int32))) → KT G q (d + 1) zk_X3_isLinear 12 [(0, vr 180), (1, vi l1), (2, vi (l2 + 1))] [] x3 P)))) :
    KT G q (d + 1) zk_X3_isLinear 42 [(0, vr 180), (1, vi l1), (2, vi l2)] [] x P := by
  refine T_aload_n 0 (dk dtk_X3_isLinear 26 rfl) rfl rfl ?_
  refine T_getR 180 4 185 (dk dtk_X3_isLinear 27 rfl) kfl_X3_24 kk_180 (kl_180 hq hh) (by decide) rfl kr_180_4 ?_
  refine T_iload_n 2 (dk dtk_X3_isLinear 28 rfl) rfl rfl ?_
  obtain ⟨h1, h⟩ := h
  refine T_iald 185 12 (dk dtk_X3_isLinear 29 rfl) kk_185 (kl_185 hq hh) h1 ?_
  refine T_iload_n 1 (dk dtk_X3_isLinear 30 rfl) rfl rfl ?_
  refine T_icmp_ge 64 (dk dtk_X3_isLinear 31 rfl) (by decide) (fun c2 => ?_) (fun c2 => ?_)
  · have h := h.1 c2
    refine T_iinc (v := l2 + 1) (lv2 := [(2, vi (l2 + 1)), (0, vr 180), (1, vi l1)]) 2 (dk dtk_X3_isLinear 40 rfl) rfl rfl (by decide) rfl ?_
    refine T_goto 12 (dk dtk_X3_isLinear 41 rfl) (by decide) ?_
    exact T_sub [1, 2, 0] rfl h
  · have h := h.2 c2
    refine T_aload_n 0 (dk dtk_X3_isLinear 32 rfl) rfl rfl ?_
    refine T_dup (dk dtk_X3_isLinear 33 rfl) rfl ?_
    refine T_getI 180 12 (dk dtk_X3_isLinear 34 rfl) kfl_X3_95 kk_180 (kl_180 hq hh) (by decide) rfl ?_
    refine T_iconst (v := 1) (dk dtk_X3_isLinear 35 rfl) (by decide +kernel) ?_
    refine T_iload_n 2 (dk dtk_X3_isLinear 36 rfl) rfl rfl ?_
    refine T_ishl (dk dtk_X3_isLinear 37 rfl) ?_
    refine T_ior (dk dtk_X3_isLinear 38 rfl) ?_
    obtain ⟨x3, ex3⟩ : ∃ z, z = si x 180 12 ((x.1 180 12) ||| (1 <<< (l2 &&& 31 : Int32))) := ⟨_, rfl⟩
    have h := h x3 ex3
    refine T_putI 180 12 (dk dtk_X3_isLinear 39 rfl) kfl_X3_95 kk_180 (kl_180 hq hh) (by decide) rfl ⟨rfl, rfl⟩ ?_
    rw [← ex3]
    refine T_iinc (v := l2 + 1) (lv2 := [(2, vi (l2 + 1)), (0, vr 180), (1, vi l1)]) 2 (dk dtk_X3_isLinear 40 rfl) rfl rfl (by decide) rfl ?_
    refine T_goto 12 (dk dtk_X3_isLinear 41 rfl) (by decide) ?_
    exact T_sub [1, 2, 0] rfl h
set_option maxRecDepth 100000 in
theorem dtk_X3_canGoOn : dck cX3_canGoOn [(0, .aload_n 0, 1), (1, .getfield 95, 3), (4, .iload_n 2, 1), (5, .iconst (-1), 1), (6, .ixor, 1), (7, .iand, 1), (8, .ifCond .ne 5, 3), (11, .iconst 1, 1), (12, .ireturn, 1), (13, .iload_n 1, 1), (14, .bipush 12, 2), (16, .if_icmp .lt 5, 3), (19, .iconst 0, 1), (20, .ireturn, 1), (21, .aload_n 0, 1), (22, .getfield 92, 3), (25, .iload_n 2, 1), (26, .iconst (-1), 1), (27, .ixor, 1), (28, .iand, 1), (29, .istore_n 3, 1), (30, .iconst 0, 1), (31, .istore 4, 2), (33, .iload 4, 2), (35, .aload_n 0, 1), (36, .getfield 40, 3), (39, .if_icmp .ge 138, 3), (42, .iconst 1, 1), (43, .iload 4, 2), (45, .ishl, 1), (46, .istore 5, 2), (48, .iload_n 3, 1), (49, .iload 5, 2), (51, .iand, 1), (52, .ifCond .eq 119, 3), (55, .aload_n 0, 1), (56, .getfield 27, 3), (59, .iload 4, 2), (61, .iaload, 1), (62, .iload_n 2, 1), (63, .iconst (-1), 1), (64, .ixor, 1), (65, .iand, 1), (66, .ifCond .eq 6, 3), (69, .goto 102, 3), (72, .aload_n 0, 1), (73, .getfield 37, 3), (76, .iload_n 1, 1), (77, .aaload, 1), (78, .iconst 0, 1), (79, .aload_n 0, 1), (80, .getfield 37, 3), (83, .iload_n 1, 1), (84, .iconst 1, 1), (85, .iadd, 1), (86, .aaload, 1), (87, .iconst 0, 1), (88, .bipush 14, 2), (90, .invokestatic 102, 3), (93, .aload_n 0, 1), (94, .aload_n 0, 1), (95, .getfield 37, 3), (98, .iload_n 1, 1), (99, .iconst 1, 1), (100, .iadd, 1), (101, .aaload, 1), (102, .aload_n 0, 1), (103, .getfield 11, 3), (106, .iload 4, 2), (108, .iaload, 1), (109, .aload_n 0, 1), (110, .getfield 15, 3), (113, .iload 4, 2), (115, .iaload, 1), (116, .invokevirtual 108, 3), (119, .istore 6, 2), (121, .aload_n 0, 1), (122, .getfield 95, 3), (125, .iload 5, 2), (127, .iand, 1), (128, .ifCond .eq 15, 3), (131, .iload 6, 2), (133, .aload_n 0, 1), (134, .getfield 18, 3), (137, .iload 4, 2), (139, .iaload, 1), (140, .if_icmp .ne 7, 3), (143, .iconst 1, 1), (144, .goto 4, 3), (147, .iconst 0, 1), (148, .istore 7, 2), (150, .iload 7, 2), (152, .ifCond .eq 19, 3), (155, .aload_n 0, 1), (156, .iload_n 1, 1), (157, .iconst 1, 1), (158, .iadd, 1), (159, .iload_n 2, 1), (160, .iload 5, 2), (162, .ior, 1), (163, .invokevirtual 98, 3), (166, .ifCond .eq 5, 3), (169, .iconst 1, 1), (170, .ireturn, 1), (171, .iinc 4 1, 3), (174, .goto (-141), 3), (177, .iconst 0, 1), (178, .ireturn, 1)] = true := by decide +kernel
set_option maxRecDepth 100000 in
set_option maxHeartbeats 4000000 in
theorem kg_X3_canGoOn_0 {G : kG} {q : kP} {d : Nat} {x : gd} {P : Option gv → gd → Prop} (hq : kV q) (hh : q.hi = true) (l1 : Int32) (l2 : Int32)
    (h : ((¬ (((x.1 180 12) &&& (l2 ^^^ (-1))) = (0 : Int32)) → ((l1 < (12 : Int32) → KT G q (d + 2) zk_X3_canGoOn 33 [(0, vr 180), (1, vi l1), (2, vi l2), (3, vi ((x.1 180 11) &&& (l2 ^^^ (-1)))), (4, vi 0)] [] x P) ∧ (¬ (l1 < (12 : Int32)) → P (some (vi 0)) x))) ∧ (((x.1 180 12) &&& (l2 ^^^ (-1))) = (0 : Int32) → P (some (vi 1)) x))) :
    KT G q (d + 2) zk_X3_canGoOn 0 [(0, vr 180), (1, vi l1), (2, vi l2)] [] x P := by
  refine T_aload_n 0 (dk dtk_X3_canGoOn 0 rfl) rfl rfl ?_
  refine T_getI 180 12 (dk dtk_X3_canGoOn 1 rfl) kfl_X3_95 kk_180 (kl_180 hq hh) (by decide) rfl ?_
  refine T_iload_n 2 (dk dtk_X3_canGoOn 2 rfl) rfl rfl ?_
  refine T_iconst (v := (-1)) (dk dtk_X3_canGoOn 3 rfl) (by decide +kernel) ?_
  refine T_ixor (dk dtk_X3_canGoOn 4 rfl) ?_
  refine T_iand (dk dtk_X3_canGoOn 5 rfl) ?_
  refine T_if_ne 13 (dk dtk_X3_canGoOn 6 rfl) (by decide) (fun c1 => ?_) (fun c1 => ?_)
  · have h := h.1 c1
    refine T_iload_n 1 (dk dtk_X3_canGoOn 9 rfl) rfl rfl ?_
    refine T_bipush (v := 12) (dk dtk_X3_canGoOn 10 rfl) (by decide +kernel) ?_
    refine T_icmp_lt 21 (dk dtk_X3_canGoOn 11 rfl) (by decide) (fun c2 => ?_) (fun c2 => ?_)
    · have h := h.1 c2
      refine T_aload_n 0 (dk dtk_X3_canGoOn 14 rfl) rfl rfl ?_
      refine T_getI 180 11 (dk dtk_X3_canGoOn 15 rfl) kfl_X3_92 kk_180 (kl_180 hq hh) (by decide) rfl ?_
      refine T_iload_n 2 (dk dtk_X3_canGoOn 16 rfl) rfl rfl ?_
      refine T_iconst (v := (-1)) (dk dtk_X3_canGoOn 17 rfl) (by decide +kernel) ?_
      refine T_ixor (dk dtk_X3_canGoOn 18 rfl) ?_
      refine T_iand (dk dtk_X3_canGoOn 19 rfl) ?_
      refine T_istore_n (lv2 := [(3, vi ((x.1 180 11) &&& (l2 ^^^ (-1)))), (0, vr 180), (1, vi l1), (2, vi l2)]) (dk dtk_X3_canGoOn 20 rfl) rfl (by decide) rfl ?_
      refine T_iconst (v := 0) (dk dtk_X3_canGoOn 21 rfl) (by decide +kernel) ?_
      refine T_istore (lv2 := [(4, vi 0), (3, vi ((x.1 180 11) &&& (l2 ^^^ (-1)))), (0, vr 180), (1, vi l1), (2, vi l2)]) (dk dtk_X3_canGoOn 22 rfl) (by decide) rfl ?_
      exact T_sub [2, 3, 4, 1, 0] rfl h
    · have h := h.2 c2
      refine T_iconst (v := 0) (dk dtk_X3_canGoOn 12 rfl) (by decide +kernel) ?_
      exact KT_iret (dk dtk_X3_canGoOn 13 rfl) rfl rfl h
  · have h := h.2 c1
    refine T_iconst (v := 1) (dk dtk_X3_canGoOn 7 rfl) (by decide +kernel) ?_
    exact KT_iret (dk dtk_X3_canGoOn 8 rfl) rfl rfl h
set_option maxRecDepth 100000 in
set_option maxHeartbeats 4000000 in
theorem kg_X3_canGoOn_33 {G : kG} {q : kP} {d : Nat} {x : gd} {P : Option gv → gd → Prop} (hq : kV q) (hh : q.hi = true) (l1 : Int32) (l2 : Int32) (l3 : Int32) (l4 : Int32)
    (h : (((x.1 180 6) ≤ l4 → P (some (vi 0)) x) ∧ (¬ ((x.1 180 6) ≤ l4) → (((l3 &&& (1 <<< (l4 &&& 31 : Int32))) = (0 : Int32) → KT G q (d + 2) zk_X3_canGoOn 33 [(0, vr 180), (1, vi l1), (2, vi l2), (3, vi l3), (4, vi (l4 + 1))] [] x P) ∧ (¬ ((l3 &&& (1 <<< (l4 &&& 31 : Int32))) = (0 : Int32)) → vp_in l4 12 ∧ ((((x.1 186 (l4 : Int32).toNatClampNeg) &&& (l2 ^^^ (-1))) = (0 : Int32) → vp_in l1 13 ∧ (∀ u6, u6 = (kf q).1 190 (l1 : Int32).toNatClampNeg → vp_in (l1 + 1) 13 ∧ (∀ u8, u8 = (kf q).1 190 (l1 + 1 : Int32).toNatClampNeg → ∃ c9, u6 = some c9 ∧ kK c9 = .inr (.int, 14) ∧ c9 ∈ (kf q).2.1 ∧ ∃ c12, u8 = some c12 ∧ kK c12 = .inr (.int, 14) ∧ c12 ∈ (kf q).2.1 ∧ ¬ (0 : Int32) < 0 ∧ ¬ (0 : Int32) < 0 ∧ ¬ (14 : Int32) < 0 ∧ (0 : Int32).toNatClampNeg + (14 : Int32).toNatClampNeg ≤ 14 ∧ (0 : Int32).toNatClampNeg + (14 : Int32).toNatClampNeg ≤ 14 ∧ (∀ x20 : gd, x20 = scp x c9 c12 (0 : Int32).toNatClampNeg (0 : Int32).toNatClampNeg (14 : Int32).toNatClampNeg → vp_in (l1 + 1) 13 ∧ (∀ u22, u22 = (kf q).1 190 (l1 + 1 : Int32).toNatClampNeg → vp_in l4 12 ∧ vp_in l4 12 ∧ ∃ c25, u22 = some c25 ∧ kK c25 = .inr (.int, 14) ∧ c25 ∈ (kf q).2.1 ∧ KT G q (d + 1) zk_X3_serve 0 [(0, vr 180), (1, vr c25), (2, vi (x20.1 181 (l4 : Int32).toNatClampNeg)), (3, vi (x20.1 182 (l4 : Int32).toNatClampNeg))] [] x20 (ri (fun r29 x28 => ((((x28.1 180 12) &&& (1 <<< (l4 &&& 31 : Int32))) = (0 : Int32) → KT G q (d + 2) zk_X3_canGoOn 148 [(0, vr 180), (1, vi l1), (2, vi l2), (3, vi l3), (4, vi l4), (5, vi (1 <<< (l4 &&& 31 : Int32)))] [vi 1] x28 P) ∧ (¬ (((x28.1 180 12) &&& (1 <<< (l4 &&& 31 : Int32))) = (0 : Int32)) → vp_in l4 12 ∧ ((¬ (r29 = (x28.1 183 (l4 : Int32).toNatClampNeg)) → KT G q (d + 2) zk_X3_canGoOn 148 [(0, vr 180), (1, vi l1), (2, vi l2), (3, vi l3), (4, vi l4), (5, vi (1 <<< (l4 &&& 31 : Int32)))] [vi 0] x28 P) ∧ (r29 = (x28.1 183 (l4 : Int32).toNatClampNeg) → KT G q (d + 2) zk_X3_canGoOn 148 [(0, vr 180), (1, vi l1), (2, vi l2), (3, vi l3), (4, vi l4), (5, vi (1 <<< (l4 &&& 31 : Int32)))] [vi 1] x28 P))))))))))) ∧ (¬ (((x.1 186 (l4 : Int32).toNatClampNeg) &&& (l2 ^^^ (-1))) = (0 : Int32)) → KT G q (d + 2) zk_X3_canGoOn 33 [(0, vr 180), (1, vi l1), (2, vi l2), (3, vi l3), (4, vi (l4 + 1))] [] x P))))))) :
    KT G q (d + 2) zk_X3_canGoOn 33 [(0, vr 180), (1, vi l1), (2, vi l2), (3, vi l3), (4, vi l4)] [] x P := by
  refine T_iload 4 (dk dtk_X3_canGoOn 23 rfl) rfl ?_
  refine T_aload_n 0 (dk dtk_X3_canGoOn 24 rfl) rfl rfl ?_
  refine T_getI 180 6 (dk dtk_X3_canGoOn 25 rfl) kfl_X3_40 kk_180 (kl_180 hq hh) (by decide) rfl ?_
  refine T_icmp_ge 177 (dk dtk_X3_canGoOn 26 rfl) (by decide) (fun c1 => ?_) (fun c1 => ?_)
  · have h := h.1 c1
    refine T_iconst (v := 0) (dk dtk_X3_canGoOn 106 rfl) (by decide +kernel) ?_
    exact KT_iret (dk dtk_X3_canGoOn 107 rfl) rfl rfl h
  · have h := h.2 c1
    refine T_iconst (v := 1) (dk dtk_X3_canGoOn 27 rfl) (by decide +kernel) ?_
    refine T_iload 4 (dk dtk_X3_canGoOn 28 rfl) rfl ?_
    refine T_ishl (dk dtk_X3_canGoOn 29 rfl) ?_
    refine T_istore (lv2 := [(5, vi (1 <<< (l4 &&& 31 : Int32))), (0, vr 180), (1, vi l1), (2, vi l2), (3, vi l3), (4, vi l4)]) (dk dtk_X3_canGoOn 30 rfl) (by decide) rfl ?_
    refine T_iload_n 4 (dk dtk_X3_canGoOn 31 rfl) rfl rfl ?_
    refine T_iload 0 (dk dtk_X3_canGoOn 32 rfl) rfl ?_
    refine T_iand (dk dtk_X3_canGoOn 33 rfl) ?_
    refine T_if_eq 171 (dk dtk_X3_canGoOn 34 rfl) (by decide) (fun c2 => ?_) (fun c2 => ?_)
    · have h := h.1 c2
      refine T_iinc (v := l4 + 1) (lv2 := [(4, vi (l4 + 1)), (5, vi (1 <<< (l4 &&& 31 : Int32))), (0, vr 180), (1, vi l1), (2, vi l2), (3, vi l3)]) 5 (dk dtk_X3_canGoOn 104 rfl) rfl rfl (by decide) rfl ?_
      refine T_goto 33 (dk dtk_X3_canGoOn 105 rfl) (by decide) ?_
      exact T_sub [2, 3, 4, 5, 0] rfl h
    · have h := h.2 c2
      refine T_aload_n 1 (dk dtk_X3_canGoOn 35 rfl) rfl rfl ?_
      refine T_getR 180 5 186 (dk dtk_X3_canGoOn 36 rfl) kfl_X3_27 kk_180 (kl_180 hq hh) (by decide) rfl kr_180_5 ?_
      refine T_iload 5 (dk dtk_X3_canGoOn 37 rfl) rfl ?_
      obtain ⟨h3, h⟩ := h
      refine T_iald 186 12 (dk dtk_X3_canGoOn 38 rfl) kk_186 (kl_186 hq hh) h3 ?_
      refine T_iload_n 3 (dk dtk_X3_canGoOn 39 rfl) rfl rfl ?_
      refine T_iconst (v := (-1)) (dk dtk_X3_canGoOn 40 rfl) (by decide +kernel) ?_
      refine T_ixor (dk dtk_X3_canGoOn 41 rfl) ?_
      refine T_iand (dk dtk_X3_canGoOn 42 rfl) ?_
      refine T_if_eq 72 (dk dtk_X3_canGoOn 43 rfl) (by decide) (fun c4 => ?_) (fun c4 => ?_)
      · have h := h.1 c4
        refine T_aload_n 1 (dk dtk_X3_canGoOn 45 rfl) rfl rfl ?_
        refine T_getR 180 9 190 (dk dtk_X3_canGoOn 46 rfl) kfl_X3_37 kk_180 (kl_180 hq hh) (by decide) rfl kr_180_9 ?_
        refine T_iload_n 2 (dk dtk_X3_canGoOn 47 rfl) rfl rfl ?_
        obtain ⟨h5, h⟩ := h
        obtain ⟨u6, eu6⟩ : ∃ z, z = (kf q).1 190 (l1 : Int32).toNatClampNeg := ⟨_, rfl⟩
        have h := h u6 eu6
        refine T_aaldI 190 13 (dk dtk_X3_canGoOn 48 rfl) kk_190 (kl_190 hq hh) h5 ?_
        rw [← eu6]
        refine T_iconst (v := 0) (dk dtk_X3_canGoOn 49 rfl) (by decide +kernel) ?_
        refine T_aload_n 1 (dk dtk_X3_canGoOn 50 rfl) rfl rfl ?_
        refine T_getR 180 9 190 (dk dtk_X3_canGoOn 51 rfl) kfl_X3_37 kk_180 (kl_180 hq hh) (by decide) rfl kr_180_9 ?_
        refine T_iload_n 2 (dk dtk_X3_canGoOn 52 rfl) rfl rfl ?_
        refine T_iconst (v := 1) (dk dtk_X3_canGoOn 53 rfl) (by decide +kernel) ?_
        refine T_iadd (dk dtk_X3_canGoOn 54 rfl) ?_
        obtain ⟨h7, h⟩ := h
        obtain ⟨u8, eu8⟩ : ∃ z, z = (kf q).1 190 (l1 + 1 : Int32).toNatClampNeg := ⟨_, rfl⟩
        have h := h u8 eu8
        refine T_aaldI 190 13 (dk dtk_X3_canGoOn 55 rfl) kk_190 (kl_190 hq hh) h7 ?_
        rw [← eu8]
        refine T_iconst (v := 0) (dk dtk_X3_canGoOn 56 rfl) (by decide +kernel) ?_
        refine T_bipush (v := 14) (dk dtk_X3_canGoOn 57 rfl) (by decide +kernel) ?_
        obtain ⟨c9, rfl, g10, g11, h⟩ := h
        obtain ⟨c12, rfl, g13, g14, h⟩ := h
        obtain ⟨h15, h16, h17, h18, h19, h⟩ := h
        obtain ⟨x20, ex20⟩ : ∃ z, z = scp x c9 c12 (0 : Int32).toNatClampNeg (0 : Int32).toNatClampNeg (14 : Int32).toNatClampNeg := ⟨_, rfl⟩
        have h := h x20 ex20
        refine T_copy c9 c12 14 14 (dk dtk_X3_canGoOn 58 rfl) kcy_X3_102 g10 g11 g13 g14 (by omega) (Nat.le_of_ble_eq_true rfl) h15 h16 h17 h18 h19 ?_
        rw [← ex20]
        refine T_aload_n 1 (dk dtk_X3_canGoOn 59 rfl) rfl rfl ?_
        refine T_aload_n 1 (dk dtk_X3_canGoOn 60 rfl) rfl rfl ?_
        refine T_getR 180 9 190 (dk dtk_X3_canGoOn 61 rfl) kfl_X3_37 kk_180 (kl_180 hq hh) (by decide) rfl kr_180_9 ?_
        refine T_iload_n 2 (dk dtk_X3_canGoOn 62 rfl) rfl rfl ?_
        refine T_iconst (v := 1) (dk dtk_X3_canGoOn 63 rfl) (by decide +kernel) ?_
        refine T_iadd (dk dtk_X3_canGoOn 64 rfl) ?_
        obtain ⟨h21, h⟩ := h
        obtain ⟨u22, eu22⟩ : ∃ z, z = (kf q).1 190 (l1 + 1 : Int32).toNatClampNeg := ⟨_, rfl⟩
        have h := h u22 eu22
        refine T_aaldI 190 13 (dk dtk_X3_canGoOn 65 rfl) kk_190 (kl_190 hq hh) h21 ?_
        rw [← eu22]
        refine T_aload_n 1 (dk dtk_X3_canGoOn 66 rfl) rfl rfl ?_
        refine T_getR 180 0 181 (dk dtk_X3_canGoOn 67 rfl) kfl_X3_11 kk_180 (kl_180 hq hh) (by decide) rfl kr_180_0 ?_
        refine T_iload 5 (dk dtk_X3_canGoOn 68 rfl) rfl ?_
        obtain ⟨h23, h⟩ := h
        refine T_iald 181 12 (dk dtk_X3_canGoOn 69 rfl) kk_181 (kl_181 hq hh) h23 ?_
        refine T_aload_n 1 (dk dtk_X3_canGoOn 70 rfl) rfl rfl ?_
        refine T_getR 180 1 182 (dk dtk_X3_canGoOn 71 rfl) kfl_X3_15 kk_180 (kl_180 hq hh) (by decide) rfl kr_180_1 ?_
        refine T_iload 5 (dk dtk_X3_canGoOn 72 rfl) rfl ?_
        obtain ⟨h24, h⟩ := h
        refine T_iald 182 12 (dk dtk_X3_canGoOn 73 rfl) kk_182 (kl_182 hq hh) h24 ?_
        obtain ⟨c25, rfl, g26, g27, h⟩ := h
        refine KC_Vi [vr c25, vi (x20.1 181 (l4 : Int32).toNatClampNeg), vi (x20.1 182 (l4 : Int32).toNatClampNeg)] [] rfl (dk dtk_X3_canGoOn 74 rfl) kcv_X3_108 rfl kk_180 rfl (kl_180 hq hh) (Nat.le_of_ble_eq_true rfl) (Nat.le_of_ble_eq_true rfl) (gok_i (av_c rfl (av_c (gkr (kl_180 hq hh)) (av_c rfl (av_c rfl (av_c rfl (av_c rfl av_n)))))) as_n) rfl h (fun r29 x28 h => ?_)
        refine T_istore (lv2 := [(6, vi r29), (5, vi (1 <<< (l4 &&& 31 : Int32))), (0, vr 180), (1, vi l1), (2, vi l2), (3, vi l3), (4, vi l4)]) (dk dtk_X3_canGoOn 75 rfl) (by decide) rfl ?_
        refine T_aload_n 2 (dk dtk_X3_canGoOn 76 rfl) rfl rfl ?_
        refine T_getI 180 12 (dk dtk_X3_canGoOn 77 rfl) kfl_X3_95 kk_180 (kl_180 hq hh) (by decide) rfl ?_
        refine T_iload 1 (dk dtk_X3_canGoOn 78 rfl) rfl ?_
        refine T_iand (dk dtk_X3_canGoOn 79 rfl) ?_
        refine T_if_eq 143 (dk dtk_X3_canGoOn 80 rfl) (by decide) (fun c30 => ?_) (fun c30 => ?_)
        · have h := h.1 c30
          refine T_iconst (v := 1) (dk dtk_X3_canGoOn 87 rfl) (by decide +kernel) ?_
          refine T_goto 148 (dk dtk_X3_canGoOn 88 rfl) (by decide) ?_
          exact T_sub [2, 3, 4, 5, 6, 1] rfl h
        · have h := h.2 c30
          refine T_iload 0 (dk dtk_X3_canGoOn 81 rfl) rfl ?_
          refine T_aload_n 2 (dk dtk_X3_canGoOn 82 rfl) rfl rfl ?_
          refine T_getR 180 2 183 (dk dtk_X3_canGoOn 83 rfl) kfl_X3_18 kk_180 (kl_180 hq hh) (by decide) rfl kr_180_2 ?_
          refine T_iload 6 (dk dtk_X3_canGoOn 84 rfl) rfl ?_
          obtain ⟨h31, h⟩ := h
          refine T_iald 183 12 (dk dtk_X3_canGoOn 85 rfl) kk_183 (kl_183 hq hh) h31 ?_
          refine T_icmp_ne 147 (dk dtk_X3_canGoOn 86 rfl) (by decide) (fun c32 => ?_) (fun c32 => ?_)
          · have h := h.1 c32
            refine T_iconst (v := 0) (dk dtk_X3_canGoOn 89 rfl) (by decide +kernel) ?_
            exact T_sub [2, 3, 4, 5, 6, 1] rfl h
          · have h := h.2 c32
            refine T_iconst (v := 1) (dk dtk_X3_canGoOn 87 rfl) (by decide +kernel) ?_
            refine T_goto 148 (dk dtk_X3_canGoOn 88 rfl) (by decide) ?_
            exact T_sub [2, 3, 4, 5, 6, 1] rfl h
      · have h := h.2 c4
        refine T_goto 171 (dk dtk_X3_canGoOn 44 rfl) (by decide) ?_
        refine T_iinc (v := l4 + 1) (lv2 := [(4, vi (l4 + 1)), (5, vi (1 <<< (l4 &&& 31 : Int32))), (0, vr 180), (1, vi l1), (2, vi l2), (3, vi l3)]) 5 (dk dtk_X3_canGoOn 104 rfl) rfl rfl (by decide) rfl ?_
        refine T_goto 33 (dk dtk_X3_canGoOn 105 rfl) (by decide) ?_
        exact T_sub [2, 3, 4, 5, 0] rfl h
set_option maxRecDepth 100000 in
set_option maxHeartbeats 4000000 in
theorem kg_X3_canGoOn_148 {G : kG} {q : kP} {d : Nat} {x : gd} {P : Option gv → gd → Prop} (hq : kV q) (hh : q.hi = true) (l1 : Int32) (l2 : Int32) (l3 : Int32) (l4 : Int32) (l5 : Int32) (s0 : Int32)
    (h : ((s0 = (0 : Int32) → KT G q (d + 2) zk_X3_canGoOn 33 [(0, vr 180), (1, vi l1), (2, vi l2), (3, vi l3), (4, vi (l4 + 1))] [] x P) ∧ (¬ (s0 = (0 : Int32)) → KT G q (d + 1) zk_X3_canGoOn 0 [(0, vr 180), (1, vi (l1 + 1)), (2, vi (l2 ||| l5))] [] x (ri (fun r3 x2 => ((r3 = (0 : Int32) → KT G q (d + 2) zk_X3_canGoOn 33 [(0, vr 180), (1, vi l1), (2, vi l2), (3, vi l3), (4, vi (l4 + 1))] [] x2 P) ∧ (¬ (r3 = (0 : Int32)) → P (some (vi 1)) x2))))))) :
    KT G q (d + 2) zk_X3_canGoOn 148 [(0, vr 180), (1, vi l1), (2, vi l2), (3, vi l3), (4, vi l4), (5, vi l5)] [vi s0] x P := by
  refine T_istore (lv2 := [(7, vi s0), (0, vr 180), (1, vi l1), (2, vi l2), (3, vi l3), (4, vi l4), (5, vi l5)]) (dk dtk_X3_canGoOn 90 rfl) (by decide) rfl ?_
  refine T_iload 0 (dk dtk_X3_canGoOn 91 rfl) rfl ?_
  refine T_if_eq 171 (dk dtk_X3_canGoOn 92 rfl) (by decide) (fun c1 => ?_) (fun c1 => ?_)
  · have h := h.1 c1
    refine T_iinc (v := l4 + 1) (lv2 := [(4, vi (l4 + 1)), (7, vi s0), (0, vr 180), (1, vi l1), (2, vi l2), (3, vi l3), (5, vi l5)]) 5 (dk dtk_X3_canGoOn 104 rfl) rfl rfl (by decide) rfl ?_
    refine T_goto 33 (dk dtk_X3_canGoOn 105 rfl) (by decide) ?_
    exact T_sub [2, 3, 4, 5, 0] rfl h
  · have h := h.2 c1
    refine T_aload_n 1 (dk dtk_X3_canGoOn 93 rfl) rfl rfl ?_
    refine T_iload_n 2 (dk dtk_X3_canGoOn 94 rfl) rfl rfl ?_
    refine T_iconst (v := 1) (dk dtk_X3_canGoOn 95 rfl) (by decide +kernel) ?_
    refine T_iadd (dk dtk_X3_canGoOn 96 rfl) ?_
    refine T_iload_n 3 (dk dtk_X3_canGoOn 97 rfl) rfl rfl ?_
    refine T_iload 6 (dk dtk_X3_canGoOn 98 rfl) rfl ?_
    refine T_ior (dk dtk_X3_canGoOn 99 rfl) ?_
    refine T_sub (lv2 := [(0, vr 180), (1, vi l1), (2, vi l2), (3, vi l3), (4, vi l4)]) [1, 2, 3, 4, 5] rfl ?_
    refine KC_Vi [vi (l1 + 1), vi (l2 ||| l5)] [] rfl (dk dtk_X3_canGoOn 100 rfl) kcv_X3_98 rfl kk_180 rfl (kl_180 hq hh) (Nat.le_of_ble_eq_true rfl) (Nat.le_of_ble_eq_true rfl) (gok_i (av_c (gkr (kl_180 hq hh)) (av_c rfl (av_c rfl (av_c rfl (av_c rfl av_n))))) as_n) rfl h (fun r3 x2 h => ?_)
    refine T_if_eq 171 (dk dtk_X3_canGoOn 101 rfl) (by decide) (fun c4 => ?_) (fun c4 => ?_)
    · have h := h.1 c4
      refine T_iinc (v := l4 + 1) (lv2 := [(4, vi (l4 + 1)), (0, vr 180), (1, vi l1), (2, vi l2), (3, vi l3)]) 4 (dk dtk_X3_canGoOn 104 rfl) rfl rfl (by decide) rfl ?_
      refine T_goto 33 (dk dtk_X3_canGoOn 105 rfl) (by decide) ?_
      exact T_sub [1, 2, 3, 4, 0] rfl h
    · have h := h.2 c4
      refine T_iconst (v := 1) (dk dtk_X3_canGoOn 102 rfl) (by decide +kernel) ?_
      exact KT_iret (dk dtk_X3_canGoOn 103 rfl) rfl rfl h
set_option maxRecDepth 100000 in
theorem dtk_X3_serve : dck cX3_serve [(0, .aload_n 0, 1), (1, .getfield 85, 3), (4, .ifCond .ne 10, 3), (7, .aload_n 1, 1), (8, .iload_n 2, 1), (9, .iload_n 3, 1), (10, .invokestatic 112, 3), (13, .ireturn, 1), (14, .aload_n 0, 1), (15, .getfield 85, 3), (18, .iconst 3, 1), (19, .if_icmp .ne 12, 3), (22, .aload_n 1, 1), (23, .iload_n 2, 1), (24, .iload_n 3, 1), (25, .invokestatic 115, 3), (28, .goto 10, 3), (31, .aload_n 0, 1), (32, .aload_n 1, 1), (33, .iload_n 2, 1), (34, .iload_n 3, 1), (35, .invokevirtual 118, 3), (38, .ireturn, 1)] = true := by decide +kernel
set_option maxRecDepth 100000 in
set_option maxHeartbeats 4000000 in
theorem kg_X3_serve_0 {G : kG} {q : kP} {d : Nat} {x : gd} {P : Option gv → gd → Prop} (hq : kV q) (hh : q.hi = true) {a1 n1 : Nat} (ka1 : kK a1 = .inr (.int, n1)) (ma1 : a1 ∈ (kf q).2.1) (l2 : Int32) (l3 : Int32)
    (h : ((¬ ((x.1 180 10) = (0 : Int32)) → ((¬ ((x.1 180 10) = (3 : Int32)) → KT G q d zk_X3_serveRow 0 [(0, vr 180), (1, vr a1), (2, vi l2), (3, vi l3)] [] x (ri (fun r4 x3 => P (some (vi r4)) x3))) ∧ ((x.1 180 10) = (3 : Int32) → KT G q d zk_X3_serveSet 0 [(0, vr a1), (1, vi l2), (2, vi l3)] [] x (ri (fun r6 x5 => P (some (vi r6)) x5))))) ∧ ((x.1 180 10) = (0 : Int32) → KT G q d zk_X3_serveCell 0 [(0, vr a1), (1, vi l2), (2, vi l3)] [] x (ri (fun r8 x7 => P (some (vi r8)) x7))))) :
    KT G q (d + 1) zk_X3_serve 0 [(0, vr 180), (1, vr a1), (2, vi l2), (3, vi l3)] [] x P := by
  refine T_aload_n 0 (dk dtk_X3_serve 0 rfl) rfl rfl ?_
  refine T_getI 180 10 (dk dtk_X3_serve 1 rfl) kfl_X3_85 kk_180 (kl_180 hq hh) (by decide) rfl ?_
  refine T_if_ne 14 (dk dtk_X3_serve 2 rfl) (by decide) (fun c1 => ?_) (fun c1 => ?_)
  · have h := h.1 c1
    refine T_aload_n 0 (dk dtk_X3_serve 8 rfl) rfl rfl ?_
    refine T_getI 180 10 (dk dtk_X3_serve 9 rfl) kfl_X3_85 kk_180 (kl_180 hq hh) (by decide) rfl ?_
    refine T_iconst (v := 3) (dk dtk_X3_serve 10 rfl) (by decide +kernel) ?_
    refine T_icmp_ne 31 (dk dtk_X3_serve 11 rfl) (by decide) (fun c2 => ?_) (fun c2 => ?_)
    · have h := h.1 c2
      refine T_aload_n 0 (dk dtk_X3_serve 17 rfl) rfl rfl ?_
      refine T_aload_n 1 (dk dtk_X3_serve 18 rfl) rfl rfl ?_
      refine T_iload_n 2 (dk dtk_X3_serve 19 rfl) rfl rfl ?_
      refine T_iload_n 3 (dk dtk_X3_serve 20 rfl) rfl rfl ?_
      refine T_sub (lv2 := []) [] rfl ?_
      refine KC_Vi [vr a1, vi l2, vi l3] [] rfl (dk dtk_X3_serve 21 rfl) kcv_X3_118 rfl kk_180 rfl (kl_180 hq hh) (Nat.le_of_ble_eq_true rfl) (Nat.le_of_ble_eq_true rfl) (gok_i av_n as_n) rfl h (fun r4 x3 h => ?_)
      exact KT_iret (dk dtk_X3_serve 22 rfl) rfl rfl h
    · have h := h.2 c2
      refine T_aload_n 1 (dk dtk_X3_serve 12 rfl) rfl rfl ?_
      refine T_iload_n 2 (dk dtk_X3_serve 13 rfl) rfl rfl ?_
      refine T_iload_n 3 (dk dtk_X3_serve 14 rfl) rfl rfl ?_
      refine T_sub (lv2 := []) [] rfl ?_
      refine KC_Si [vr a1, vi l2, vi l3] [] rfl (dk dtk_X3_serve 15 rfl) kcs_X3_115 rfl (Nat.le_of_ble_eq_true rfl) (Nat.le_of_ble_eq_true rfl) (gok_i av_n as_n) rfl h (fun r6 x5 h => ?_)
      refine T_goto 38 (dk dtk_X3_serve 16 rfl) (by decide) ?_
      exact KT_iret (dk dtk_X3_serve 22 rfl) rfl rfl h
  · have h := h.2 c1
    refine T_aload_n 1 (dk dtk_X3_serve 3 rfl) rfl rfl ?_
    refine T_iload_n 2 (dk dtk_X3_serve 4 rfl) rfl rfl ?_
    refine T_iload_n 3 (dk dtk_X3_serve 5 rfl) rfl rfl ?_
    refine T_sub (lv2 := []) [] rfl ?_
    refine KC_Si [vr a1, vi l2, vi l3] [] rfl (dk dtk_X3_serve 6 rfl) kcs_X3_112 rfl (Nat.le_of_ble_eq_true rfl) (Nat.le_of_ble_eq_true rfl) (gok_i av_n as_n) rfl h (fun r8 x7 h => ?_)
    exact KT_iret (dk dtk_X3_serve 7 rfl) rfl rfl h
set_option maxRecDepth 100000 in
theorem dtk_X3_serveCell : dck cX3_serveCell [(0, .aload_n 0, 1), (1, .iconst 0, 1), (2, .iaload, 1), (3, .istore_n 3, 1), (4, .iload_n 1, 1), (5, .iconst 1, 1), (6, .if_icmp .eq 18, 3), (9, .aload_n 0, 1), (10, .iconst 0, 1), (11, .iload_n 1, 1), (12, .iconst 2, 1), (13, .if_icmp .ne 9, 3), (16, .iload_n 3, 1), (17, .iload_n 2, 1), (18, .iadd, 1), (19, .goto 4, 3), (22, .iload_n 2, 1), (23, .iastore, 1), (24, .iload_n 1, 1), (25, .ifCond .ne 7, 3), (28, .iconst 0, 1), (29, .goto 4, 3), (32, .iload_n 3, 1), (33, .ireturn, 1)] = true := by decide +kernel
set_option maxRecDepth 100000 in
set_option maxHeartbeats 4000000 in
theorem kg_X3_serveCell_0 {G : kG} {q : kP} {d : Nat} {x : gd} {P : Option gv → gd → Prop} (hq : kV q) (hh : q.hi = true) {a0 n0 : Nat} (ka0 : kK a0 = .inr (.int, n0)) (ma0 : a0 ∈ (kf q).2.1) (l1 : Int32) (l2 : Int32)
    (h : vp_in 0 n0 ∧ ((l1 = (1 : Int32) → KT G q d zk_X3_serveCell 24 [(1, vi l1), (3, vi (x.1 a0 (0 : Int32).toNatClampNeg))] [] x P) ∧ (¬ (l1 = (1 : Int32)) → ((¬ (l1 = (2 : Int32)) → vp_in 0 n0 ∧ (∀ x5 : gd, x5 = si x a0 (0 : Int32).toNatClampNeg l2 → KT G q d zk_X3_serveCell 24 [(1, vi l1), (3, vi (x.1 a0 (0 : Int32).toNatClampNeg))] [] x5 P)) ∧ (l1 = (2 : Int32) → vp_in 0 n0 ∧ (∀ x7 : gd, x7 = si x a0 (0 : Int32).toNatClampNeg ((x.1 a0 (0 : Int32).toNatClampNeg) + l2) → KT G q d zk_X3_serveCell 24 [(1, vi l1), (3, vi (x.1 a0 (0 : Int32).toNatClampNeg))] [] x7 P)))))) :
    KT G q d zk_X3_serveCell 0 [(0, vr a0), (1, vi l1), (2, vi l2)] [] x P := by
  refine T_aload_n 0 (dk dtk_X3_serveCell 0 rfl) rfl rfl ?_
  refine T_iconst (v := 0) (dk dtk_X3_serveCell 1 rfl) (by decide +kernel) ?_
  obtain ⟨h1, h⟩ := h
  refine T_iald a0 n0 (dk dtk_X3_serveCell 2 rfl) ka0 ma0 h1 ?_
  refine T_istore_n (lv2 := [(3, vi (x.1 a0 (0 : Int32).toNatClampNeg)), (0, vr a0), (1, vi l1), (2, vi l2)]) (dk dtk_X3_serveCell 3 rfl) rfl (by decide) rfl ?_
  refine T_iload_n 2 (dk dtk_X3_serveCell 4 rfl) rfl rfl ?_
  refine T_iconst (v := 1) (dk dtk_X3_serveCell 5 rfl) (by decide +kernel) ?_
  refine T_icmp_eq 24 (dk dtk_X3_serveCell 6 rfl) (by decide) (fun c2 => ?_) (fun c2 => ?_)
  · have h := h.1 c2
    exact T_sub [2, 0] rfl h
  · have h := h.2 c2
    refine T_aload_n 1 (dk dtk_X3_serveCell 7 rfl) rfl rfl ?_
    refine T_iconst (v := 0) (dk dtk_X3_serveCell 8 rfl) (by decide +kernel) ?_
    refine T_iload_n 2 (dk dtk_X3_serveCell 9 rfl) rfl rfl ?_
    refine T_iconst (v := 2) (dk dtk_X3_serveCell 10 rfl) (by decide +kernel) ?_
    refine T_icmp_ne 22 (dk dtk_X3_serveCell 11 rfl) (by decide) (fun c3 => ?_) (fun c3 => ?_)
    · have h := h.1 c3
      refine T_iload_n 3 (dk dtk_X3_serveCell 16 rfl) rfl rfl ?_
      obtain ⟨h4, h⟩ := h
      obtain ⟨x5, ex5⟩ : ∃ z, z = si x a0 (0 : Int32).toNatClampNeg l2 := ⟨_, rfl⟩
      have h := h x5 ex5
      refine T_iast a0 n0 (dk dtk_X3_serveCell 17 rfl) ka0 ma0 h4 ?_
      rw [← ex5]
      exact T_sub [2, 0] rfl h
    · have h := h.2 c3
      refine T_iload_n 0 (dk dtk_X3_serveCell 12 rfl) rfl rfl ?_
      refine T_iload_n 3 (dk dtk_X3_serveCell 13 rfl) rfl rfl ?_
      refine T_iadd (dk dtk_X3_serveCell 14 rfl) ?_
      refine T_goto 23 (dk dtk_X3_serveCell 15 rfl) (by decide) ?_
      obtain ⟨h6, h⟩ := h
      obtain ⟨x7, ex7⟩ : ∃ z, z = si x a0 (0 : Int32).toNatClampNeg ((x.1 a0 (0 : Int32).toNatClampNeg) + l2) := ⟨_, rfl⟩
      have h := h x7 ex7
      refine T_iast a0 n0 (dk dtk_X3_serveCell 17 rfl) ka0 ma0 h6 ?_
      rw [← ex7]
      exact T_sub [2, 0] rfl h
set_option maxRecDepth 100000 in
set_option maxHeartbeats 4000000 in
theorem kg_X3_serveCell_24 {G : kG} {q : kP} {d : Nat} {x : gd} {P : Option gv → gd → Prop} (hq : kV q) (hh : q.hi = true) {a0 n0 : Nat} (ka0 : kK a0 = .inr (.int, n0)) (ma0 : a0 ∈ (kf q).2.1) (l1 : Int32) (l3 : Int32)
    (h : ((¬ (l1 = (0 : Int32)) → P (some (vi l3)) x) ∧ (l1 = (0 : Int32) → P (some (vi 0)) x))) :
    KT G q d zk_X3_serveCell 24 [(1, vi l1), (3, vi l3)] [] x P := by
  refine T_iload_n 0 (dk dtk_X3_serveCell 18 rfl) rfl rfl ?_
  refine T_if_ne 32 (dk dtk_X3_serveCell 19 rfl) (by decide) (fun c1 => ?_) (fun c1 => ?_)
  · have h := h.1 c1
    refine T_iload_n 1 (dk dtk_X3_serveCell 22 rfl) rfl rfl ?_
    exact KT_iret (dk dtk_X3_serveCell 23 rfl) rfl rfl h
  · have h := h.2 c1
    refine T_iconst (v := 0) (dk dtk_X3_serveCell 20 rfl) (by decide +kernel) ?_
    refine T_goto 33 (dk dtk_X3_serveCell 21 rfl) (by decide) ?_
    exact KT_iret (dk dtk_X3_serveCell 23 rfl) rfl rfl h
set_option maxRecDepth 100000 in
theorem dtk_X3_serveRow : dck cX3_serveRow [(0, .aload_n 1, 1), (1, .iconst 0, 1), (2, .iaload, 1), (3, .istore 4, 2), (5, .iload_n 2, 1), (6, .tableswitch 64 0 2 #[26, 33, 61], 26), (32, .aload_n 1, 1), (33, .iload_n 3, 1), (34, .invokestatic 121, 3), (37, .iconst 0, 1), (38, .ireturn, 1), (39, .iload 4, 2), (41, .ifCond .ne 7, 3), (44, .iconst (-1), 1), (45, .goto 21, 3), (48, .aload_n 1, 1), (49, .aload_n 0, 1), (50, .getfield 85, 3), (53, .iconst 1, 1), (54, .if_icmp .ne 8, 3), (57, .iload 4, 2), (59, .goto 4, 3), (62, .iconst 1, 1), (63, .invokestatic 124, 3), (66, .ireturn, 1), (67, .iload 4, 2), (69, .ireturn, 1), (70, .aload_n 1, 1), (71, .iconst 0, 1), (72, .iconst 0, 1), (73, .iastore, 1), (74, .iload 4, 2), (76, .ireturn, 1)] = true := by decide +kernel
set_option maxRecDepth 100000 in
set_option maxHeartbeats 4000000 in
theorem kg_X3_serveRow_0 {G : kG} {q : kP} {d : Nat} {x : gd} {P : Option gv → gd → Prop} (hq : kV q) (hh : q.hi = true) {a1 n1 : Nat} (ka1 : kK a1 = .inr (.int, n1)) (ma1 : a1 ∈ (kf q).2.1) (l2 : Int32) (l3 : Int32)
    (h : vp_in 0 n1 ∧ (((l2 = 0) → KT G q d zk_X3_append 0 [(0, vr a1), (1, vi l3)] [] x (rv (fun x3 => P (some (vi 0)) x3))) ∧ ((l2 = 1) → ((¬ ((x.1 a1 (0 : Int32).toNatClampNeg) = (0 : Int32)) → ((¬ ((x.1 180 10) = (1 : Int32)) → KT G q (d + 1) zk_X3_serveRow 63 [] [vi 1, vr a1] x P) ∧ ((x.1 180 10) = (1 : Int32) → KT G q (d + 1) zk_X3_serveRow 63 [] [vi (x.1 a1 (0 : Int32).toNatClampNeg), vr a1] x P))) ∧ ((x.1 a1 (0 : Int32).toNatClampNeg) = (0 : Int32) → P (some (vi (-1))) x))) ∧ ((l2 = 2) → P (some (vi (x.1 a1 (0 : Int32).toNatClampNeg))) x) ∧ ((∀ k ∈ [(0 : Int32), (1 : Int32), (2 : Int32)], ¬ l2 = k) → vp_in 0 n1 ∧ (∀ x10 : gd, x10 = si x a1 (0 : Int32).toNatClampNeg 0 → P (some (vi (x.1 a1 (0 : Int32).toNatClampNeg))) x10)))) :
    KT G q (d + 1) zk_X3_serveRow 0 [(0, vr 180), (1, vr a1), (2, vi l2), (3, vi l3)] [] x P := by
  refine T_aload_n 1 (dk dtk_X3_serveRow 0 rfl) rfl rfl ?_
  refine T_iconst (v := 0) (dk dtk_X3_serveRow 1 rfl) (by decide +kernel) ?_
  obtain ⟨h1, h⟩ := h
  refine T_iald a1 n1 (dk dtk_X3_serveRow 2 rfl) ka1 ma1 h1 ?_
  refine T_istore (lv2 := [(4, vi (x.1 a1 (0 : Int32).toNatClampNeg)), (0, vr 180), (1, vr a1), (2, vi l2), (3, vi l3)]) (dk dtk_X3_serveRow 3 rfl) (by decide) rfl ?_
  refine T_iload_n 3 (dk dtk_X3_serveRow 4 rfl) rfl rfl ?_
  by_cases c2 : l2 = 0
  · have h := h.1 c2
    refine T_table 26 32 (dk dtk_X3_serveRow 5 rfl) (by decide) (by rw [c2]; decide +kernel) (by decide) ?_
    refine T_aload_n 2 (dk dtk_X3_serveRow 6 rfl) rfl rfl ?_
    refine T_iload_n 4 (dk dtk_X3_serveRow 7 rfl) rfl rfl ?_
    refine T_sub (lv2 := []) [] rfl ?_
    refine KC_Sv [vr a1, vi l3] [] rfl (dk dtk_X3_serveRow 8 rfl) kcs_X3_121 rfl (Nat.le_of_ble_eq_true rfl) (Nat.le_of_ble_eq_true rfl) (gok_i av_n as_n) rfl h (fun x3 h => ?_)
    refine T_iconst (v := 0) (dk dtk_X3_serveRow 9 rfl) (by decide +kernel) ?_
    exact KT_iret (dk dtk_X3_serveRow 10 rfl) rfl rfl h
  · have h := h.2
    by_cases c4 : l2 = 1
    · have h := h.1 c4
      refine T_table 33 39 (dk dtk_X3_serveRow 5 rfl) (by decide) (by rw [c4]; decide +kernel) (by decide) ?_
      refine T_iload 0 (dk dtk_X3_serveRow 11 rfl) rfl ?_
      refine T_if_ne 48 (dk dtk_X3_serveRow 12 rfl) (by decide) (fun c5 => ?_) (fun c5 => ?_)
      · have h := h.1 c5
        refine T_aload_n 2 (dk dtk_X3_serveRow 15 rfl) rfl rfl ?_
        refine T_aload_n 1 (dk dtk_X3_serveRow 16 rfl) rfl rfl ?_
        refine T_getI 180 10 (dk dtk_X3_serveRow 17 rfl) kfl_X3_85 kk_180 (kl_180 hq hh) (by decide) rfl ?_
        refine T_iconst (v := 1) (dk dtk_X3_serveRow 18 rfl) (by decide +kernel) ?_
        refine T_icmp_ne 62 (dk dtk_X3_serveRow 19 rfl) (by decide) (fun c6 => ?_) (fun c6 => ?_)
        · have h := h.1 c6
          refine T_iconst (v := 1) (dk dtk_X3_serveRow 22 rfl) (by decide +kernel) ?_
          exact T_sub [] rfl h
        · have h := h.2 c6
          refine T_iload 0 (dk dtk_X3_serveRow 20 rfl) rfl ?_
          refine T_goto 63 (dk dtk_X3_serveRow 21 rfl) (by decide) ?_
          exact T_sub [] rfl h
      · have h := h.2 c5
        refine T_iconst (v := (-1)) (dk dtk_X3_serveRow 13 rfl) (by decide +kernel) ?_
        refine T_goto 66 (dk dtk_X3_serveRow 14 rfl) (by decide) ?_
        exact KT_iret (dk dtk_X3_serveRow 24 rfl) rfl rfl h
    · have h := h.2
      by_cases c7 : l2 = 2
      · have h := h.1 c7
        refine T_table 61 67 (dk dtk_X3_serveRow 5 rfl) (by decide) (by rw [c7]; decide +kernel) (by decide) ?_
        refine T_iload 0 (dk dtk_X3_serveRow 25 rfl) rfl ?_
        exact KT_iret (dk dtk_X3_serveRow 26 rfl) rfl rfl h
      · have h := h.2
        have n8 : ∀ k ∈ [(0 : Int32), (1 : Int32), (2 : Int32)], ¬ l2 = k := (gno c2 (gno c4 (gno c7 gno0)))
        have h := h n8
        refine T_table 64 70 (dk dtk_X3_serveRow 5 rfl) (by decide) (gtab_d [(0 : Int32), (1 : Int32), (2 : Int32)] (by decide +kernel) n8) (by decide) ?_
        refine T_aload_n 2 (dk dtk_X3_serveRow 27 rfl) rfl rfl ?_
        refine T_iconst (v := 0) (dk dtk_X3_serveRow 28 rfl) (by decide +kernel) ?_
        refine T_iconst (v := 0) (dk dtk_X3_serveRow 29 rfl) (by decide +kernel) ?_
        obtain ⟨h9, h⟩ := h
        obtain ⟨x10, ex10⟩ : ∃ z, z = si x a1 (0 : Int32).toNatClampNeg 0 := ⟨_, rfl⟩
        have h := h x10 ex10
        refine T_iast a1 n1 (dk dtk_X3_serveRow 30 rfl) ka1 ma1 h9 ?_
        rw [← ex10]
        refine T_iload 0 (dk dtk_X3_serveRow 31 rfl) rfl ?_
        exact KT_iret (dk dtk_X3_serveRow 32 rfl) rfl rfl h
set_option maxRecDepth 100000 in
set_option maxHeartbeats 4000000 in
theorem kg_X3_serveRow_63 {G : kG} {q : kP} {d : Nat} {x : gd} {P : Option gv → gd → Prop} (hq : kV q) (hh : q.hi = true) {a1 n1 : Nat} (ka1 : kK a1 = .inr (.int, n1)) (ma1 : a1 ∈ (kf q).2.1) (s0 : Int32)
    (h : KT G q d zk_X3_removeAt 0 [(0, vr a1), (1, vi s0)] [] x (ri (fun r2 x1 => P (some (vi r2)) x1))) :
    KT G q (d + 1) zk_X3_serveRow 63 [] [vi s0, vr a1] x P := by
  refine KC_Si [vr a1, vi s0] [] rfl (dk dtk_X3_serveRow 23 rfl) kcs_X3_124 rfl (Nat.le_of_ble_eq_true rfl) (Nat.le_of_ble_eq_true rfl) (gok_i av_n as_n) rfl h (fun r2 x1 h => ?_)
  exact KT_iret (dk dtk_X3_serveRow 24 rfl) rfl rfl h
end
section
set_option maxRecDepth 100000 in
theorem dtk_X3_serveSet : dck cX3_serveSet [(0, .aload_n 0, 1), (1, .iload_n 2, 1), (2, .invokestatic 128, 3), (5, .istore_n 3, 1), (6, .iload_n 1, 1), (7, .tableswitch 79 0 2 #[25, 46, 68], 25), (32, .iload_n 3, 1), (33, .iconst (-1), 1), (34, .if_icmp .ne 8, 3), (37, .aload_n 0, 1), (38, .iload_n 2, 1), (39, .invokestatic 121, 3), (42, .iload_n 3, 1), (43, .iconst (-1), 1), (44, .if_icmp .ne 7, 3), (47, .iconst 1, 1), (48, .goto 4, 3), (51, .iconst 0, 1), (52, .ireturn, 1), (53, .iload_n 3, 1), (54, .iconst (-1), 1), (55, .if_icmp .eq 9, 3), (58, .aload_n 0, 1), (59, .iload_n 3, 1), (60, .invokestatic 124, 3), (63, .pop, 1), (64, .iload_n 3, 1), (65, .iconst (-1), 1), (66, .if_icmp .ne 7, 3), (69, .iconst 0, 1), (70, .goto 4, 3), (73, .iconst 1, 1), (74, .ireturn, 1), (75, .iload_n 3, 1), (76, .iconst (-1), 1), (77, .if_icmp .ne 7, 3), (80, .iconst 0, 1), (81, .goto 4, 3), (84, .iconst 1, 1), (85, .ireturn, 1), (86, .aload_n 0, 1), (87, .iconst 0, 1), (88, .iaload, 1), (89, .ireturn, 1)] = true := by decide +kernel
set_option maxRecDepth 100000 in
set_option maxHeartbeats 4000000 in
theorem kg_X3_serveSet_0 {G : kG} {q : kP} {d : Nat} {x : gd} {P : Option gv → gd → Prop} (hq : kV q) (hh : q.hi = true) {a0 n0 : Nat} (ka0 : kK a0 = .inr (.int, n0)) (ma0 : a0 ∈ (kf q).2.1) (l1 : Int32) (l2 : Int32)
    (h : KT G q d zk_X3_find 0 [(0, vr a0), (1, vi l2)] [] x (ri (fun r2 x1 => (((l1 = 0) → ((¬ (r2 = (-1 : Int32)) → KT G q (d + 1) zk_X3_serveSet 42 [(3, vi r2)] [] x1 P) ∧ (r2 = (-1 : Int32) → KT G q d zk_X3_append 0 [(0, vr a0), (1, vi l2)] [] x1 (rv (fun x5 => KT G q (d + 1) zk_X3_serveSet 42 [(3, vi r2)] [] x5 P))))) ∧ ((l1 = 1) → ((r2 = (-1 : Int32) → KT G q (d + 1) zk_X3_serveSet 64 [(3, vi r2)] [] x1 P) ∧ (¬ (r2 = (-1 : Int32)) → KT G q d zk_X3_removeAt 0 [(0, vr a0), (1, vi r2)] [] x1 (ri (fun r9 x8 => KT G q (d + 1) zk_X3_serveSet 64 [(3, vi r2)] [] x8 P))))) ∧ ((l1 = 2) → ((¬ (r2 = (-1 : Int32)) → P (some (vi 1)) x1) ∧ (r2 = (-1 : Int32) → P (some (vi 0)) x1))) ∧ ((∀ k ∈ [(0 : Int32), (1 : Int32), (2 : Int32)], ¬ l1 = k) → vp_in 0 n0 ∧ P (some (vi (x1.1 a0 (0 : Int32).toNatClampNeg))) x1))))) :
    KT G q (d + 1) zk_X3_serveSet 0 [(0, vr a0), (1, vi l1), (2, vi l2)] [] x P := by
  refine T_aload_n 0 (dk dtk_X3_serveSet 0 rfl) rfl rfl ?_
  refine T_iload_n 2 (dk dtk_X3_serveSet 1 rfl) rfl rfl ?_
  refine KC_Si [vr a0, vi l2] [] rfl (dk dtk_X3_serveSet 2 rfl) kcs_X3_128 rfl (Nat.le_of_ble_eq_true rfl) (Nat.le_of_ble_eq_true rfl) (gok_i (av_c (gkr ma0) (av_c rfl (av_c rfl av_n))) as_n) rfl h (fun r2 x1 h => ?_)
  refine T_istore_n (lv2 := [(3, vi r2), (0, vr a0), (1, vi l1), (2, vi l2)]) (dk dtk_X3_serveSet 3 rfl) rfl (by decide) rfl ?_
  refine T_iload_n 2 (dk dtk_X3_serveSet 4 rfl) rfl rfl ?_
  by_cases c3 : l1 = 0
  · have h := h.1 c3
    refine T_table 25 32 (dk dtk_X3_serveSet 5 rfl) (by decide) (by rw [c3]; decide +kernel) (by decide) ?_
    refine T_iload_n 0 (dk dtk_X3_serveSet 6 rfl) rfl rfl ?_
    refine T_iconst (v := (-1)) (dk dtk_X3_serveSet 7 rfl) (by decide +kernel) ?_
    refine T_icmp_ne 42 (dk dtk_X3_serveSet 8 rfl) (by decide) (fun c4 => ?_) (fun c4 => ?_)
    · have h := h.1 c4
      exact T_sub [0] rfl h
    · have h := h.2 c4
      refine T_aload_n 1 (dk dtk_X3_serveSet 9 rfl) rfl rfl ?_
      refine T_iload_n 3 (dk dtk_X3_serveSet 10 rfl) rfl rfl ?_
      refine T_sub (lv2 := [(3, vi r2)]) [0] rfl ?_
      refine KC_Sv [vr a0, vi l2] [] rfl (dk dtk_X3_serveSet 11 rfl) kcs_X3_121 rfl (Nat.le_of_ble_eq_true rfl) (Nat.le_of_ble_eq_true rfl) (gok_i (av_c rfl av_n) as_n) rfl h (fun x5 h => ?_)
      exact h
  · have h := h.2
    by_cases c6 : l1 = 1
    · have h := h.1 c6
      refine T_table 46 53 (dk dtk_X3_serveSet 5 rfl) (by decide) (by rw [c6]; decide +kernel) (by decide) ?_
      refine T_iload_n 0 (dk dtk_X3_serveSet 19 rfl) rfl rfl ?_
      refine T_iconst (v := (-1)) (dk dtk_X3_serveSet 20 rfl) (by decide +kernel) ?_
      refine T_icmp_eq 64 (dk dtk_X3_serveSet 21 rfl) (by decide) (fun c7 => ?_) (fun c7 => ?_)
      · have h := h.1 c7
        exact T_sub [0] rfl h
      · have h := h.2 c7
        refine T_aload_n 1 (dk dtk_X3_serveSet 22 rfl) rfl rfl ?_
        refine T_iload_n 0 (dk dtk_X3_serveSet 23 rfl) rfl rfl ?_
        refine T_sub (lv2 := [(3, vi r2)]) [0] rfl ?_
        refine KC_Si [vr a0, vi r2] [] rfl (dk dtk_X3_serveSet 24 rfl) kcs_X3_124 rfl (Nat.le_of_ble_eq_true rfl) (Nat.le_of_ble_eq_true rfl) (gok_i (av_c rfl av_n) as_n) rfl h (fun r9 x8 h => ?_)
        refine T_pop (dk dtk_X3_serveSet 25 rfl) rfl ?_
        exact h
    · have h := h.2
      by_cases c10 : l1 = 2
      · have h := h.1 c10
        refine T_table 68 75 (dk dtk_X3_serveSet 5 rfl) (by decide) (by rw [c10]; decide +kernel) (by decide) ?_
        refine T_iload_n 0 (dk dtk_X3_serveSet 33 rfl) rfl rfl ?_
        refine T_iconst (v := (-1)) (dk dtk_X3_serveSet 34 rfl) (by decide +kernel) ?_
        refine T_icmp_ne 84 (dk dtk_X3_serveSet 35 rfl) (by decide) (fun c11 => ?_) (fun c11 => ?_)
        · have h := h.1 c11
          refine T_iconst (v := 1) (dk dtk_X3_serveSet 38 rfl) (by decide +kernel) ?_
          exact KT_iret (dk dtk_X3_serveSet 39 rfl) rfl rfl h
        · have h := h.2 c11
          refine T_iconst (v := 0) (dk dtk_X3_serveSet 36 rfl) (by decide +kernel) ?_
          refine T_goto 85 (dk dtk_X3_serveSet 37 rfl) (by decide) ?_
          exact KT_iret (dk dtk_X3_serveSet 39 rfl) rfl rfl h
      · have h := h.2
        have n12 : ∀ k ∈ [(0 : Int32), (1 : Int32), (2 : Int32)], ¬ l1 = k := (gno c3 (gno c6 (gno c10 gno0)))
        have h := h n12
        refine T_table 79 86 (dk dtk_X3_serveSet 5 rfl) (by decide) (gtab_d [(0 : Int32), (1 : Int32), (2 : Int32)] (by decide +kernel) n12) (by decide) ?_
        refine T_aload_n 1 (dk dtk_X3_serveSet 40 rfl) rfl rfl ?_
        refine T_iconst (v := 0) (dk dtk_X3_serveSet 41 rfl) (by decide +kernel) ?_
        obtain ⟨h13, h⟩ := h
        refine T_iald a0 n0 (dk dtk_X3_serveSet 42 rfl) ka0 ma0 h13 ?_
        exact KT_iret (dk dtk_X3_serveSet 43 rfl) rfl rfl h
set_option maxRecDepth 100000 in
set_option maxHeartbeats 4000000 in
theorem kg_X3_serveSet_42 {G : kG} {q : kP} {d : Nat} {x : gd} {P : Option gv → gd → Prop} (hq : kV q) (hh : q.hi = true) {a0 n0 : Nat} (ka0 : kK a0 = .inr (.int, n0)) (ma0 : a0 ∈ (kf q).2.1) (l3 : Int32)
    (h : ((¬ (l3 = (-1 : Int32)) → P (some (vi 0)) x) ∧ (l3 = (-1 : Int32) → P (some (vi 1)) x))) :
    KT G q (d + 1) zk_X3_serveSet 42 [(3, vi l3)] [] x P := by
  refine T_iload_n 0 (dk dtk_X3_serveSet 12 rfl) rfl rfl ?_
  refine T_iconst (v := (-1)) (dk dtk_X3_serveSet 13 rfl) (by decide +kernel) ?_
  refine T_icmp_ne 51 (dk dtk_X3_serveSet 14 rfl) (by decide) (fun c1 => ?_) (fun c1 => ?_)
  · have h := h.1 c1
    refine T_iconst (v := 0) (dk dtk_X3_serveSet 17 rfl) (by decide +kernel) ?_
    exact KT_iret (dk dtk_X3_serveSet 18 rfl) rfl rfl h
  · have h := h.2 c1
    refine T_iconst (v := 1) (dk dtk_X3_serveSet 15 rfl) (by decide +kernel) ?_
    refine T_goto 52 (dk dtk_X3_serveSet 16 rfl) (by decide) ?_
    exact KT_iret (dk dtk_X3_serveSet 18 rfl) rfl rfl h
set_option maxRecDepth 100000 in
set_option maxHeartbeats 4000000 in
theorem kg_X3_serveSet_64 {G : kG} {q : kP} {d : Nat} {x : gd} {P : Option gv → gd → Prop} (hq : kV q) (hh : q.hi = true) {a0 n0 : Nat} (ka0 : kK a0 = .inr (.int, n0)) (ma0 : a0 ∈ (kf q).2.1) (l3 : Int32)
    (h : ((¬ (l3 = (-1 : Int32)) → P (some (vi 1)) x) ∧ (l3 = (-1 : Int32) → P (some (vi 0)) x))) :
    KT G q (d + 1) zk_X3_serveSet 64 [(3, vi l3)] [] x P := by
  refine T_iload_n 0 (dk dtk_X3_serveSet 26 rfl) rfl rfl ?_
  refine T_iconst (v := (-1)) (dk dtk_X3_serveSet 27 rfl) (by decide +kernel) ?_
  refine T_icmp_ne 73 (dk dtk_X3_serveSet 28 rfl) (by decide) (fun c1 => ?_) (fun c1 => ?_)
  · have h := h.1 c1
    refine T_iconst (v := 1) (dk dtk_X3_serveSet 31 rfl) (by decide +kernel) ?_
    exact KT_iret (dk dtk_X3_serveSet 32 rfl) rfl rfl h
  · have h := h.2 c1
    refine T_iconst (v := 0) (dk dtk_X3_serveSet 29 rfl) (by decide +kernel) ?_
    refine T_goto 74 (dk dtk_X3_serveSet 30 rfl) (by decide) ?_
    exact KT_iret (dk dtk_X3_serveSet 32 rfl) rfl rfl h
set_option maxRecDepth 100000 in
theorem dtk_X3_append : dck cX3_append [(0, .aload_n 0, 1), (1, .iconst 0, 1), (2, .iaload, 1), (3, .bipush 12, 2), (5, .if_icmp .ge 16, 3), (8, .aload_n 0, 1), (9, .iconst 0, 1), (10, .dup2, 1), (11, .iaload, 1), (12, .iconst 1, 1), (13, .iadd, 1), (14, .iastore, 1), (15, .aload_n 0, 1), (16, .aload_n 0, 1), (17, .iconst 0, 1), (18, .iaload, 1), (19, .iload_n 1, 1), (20, .iastore, 1), (21, .return_, 1)] = true := by decide +kernel
set_option maxRecDepth 100000 in
set_option maxHeartbeats 4000000 in
theorem kg_X3_append_0 {G : kG} {q : kP} {d : Nat} {x : gd} {P : Option gv → gd → Prop} (hq : kV q) (hh : q.hi = true) {a0 n0 : Nat} (ka0 : kK a0 = .inr (.int, n0)) (ma0 : a0 ∈ (kf q).2.1) (l1 : Int32)
    (h : vp_in 0 n0 ∧ (((12 : Int32) ≤ (x.1 a0 (0 : Int32).toNatClampNeg) → P none x) ∧ (¬ ((12 : Int32) ≤ (x.1 a0 (0 : Int32).toNatClampNeg)) → vp_in 0 n0 ∧ vp_in 0 n0 ∧ (∀ x5 : gd, x5 = si x a0 (0 : Int32).toNatClampNeg ((x.1 a0 (0 : Int32).toNatClampNeg) + 1) → vp_in 0 n0 ∧ vp_in (x5.1 a0 (0 : Int32).toNatClampNeg) n0 ∧ (∀ x8 : gd, x8 = si x5 a0 (x5.1 a0 (0 : Int32).toNatClampNeg : Int32).toNatClampNeg l1 → P none x8))))) :
    KT G q d zk_X3_append 0 [(0, vr a0), (1, vi l1)] [] x P := by
  refine T_aload_n 0 (dk dtk_X3_append 0 rfl) rfl rfl ?_
  refine T_iconst (v := 0) (dk dtk_X3_append 1 rfl) (by decide +kernel) ?_
  obtain ⟨h1, h⟩ := h
  refine T_iald a0 n0 (dk dtk_X3_append 2 rfl) ka0 ma0 h1 ?_
  refine T_bipush (v := 12) (dk dtk_X3_append 3 rfl) (by decide +kernel) ?_
  refine T_icmp_ge 21 (dk dtk_X3_append 4 rfl) (by decide) (fun c2 => ?_) (fun c2 => ?_)
  · have h := h.1 c2
    exact KT_vret (dk dtk_X3_append 18 rfl) rfl h
  · have h := h.2 c2
    refine T_aload_n 0 (dk dtk_X3_append 5 rfl) rfl rfl ?_
    refine T_iconst (v := 0) (dk dtk_X3_append 6 rfl) (by decide +kernel) ?_
    refine T_dup2 (dk dtk_X3_append 7 rfl) rfl rfl ?_
    obtain ⟨h3, h⟩ := h
    refine T_iald a0 n0 (dk dtk_X3_append 8 rfl) ka0 ma0 h3 ?_
    refine T_iconst (v := 1) (dk dtk_X3_append 9 rfl) (by decide +kernel) ?_
    refine T_iadd (dk dtk_X3_append 10 rfl) ?_
    obtain ⟨h4, h⟩ := h
    obtain ⟨x5, ex5⟩ : ∃ z, z = si x a0 (0 : Int32).toNatClampNeg ((x.1 a0 (0 : Int32).toNatClampNeg) + 1) := ⟨_, rfl⟩
    have h := h x5 ex5
    refine T_iast a0 n0 (dk dtk_X3_append 11 rfl) ka0 ma0 h4 ?_
    rw [← ex5]
    refine T_aload_n 0 (dk dtk_X3_append 12 rfl) rfl rfl ?_
    refine T_aload_n 0 (dk dtk_X3_append 13 rfl) rfl rfl ?_
    refine T_iconst (v := 0) (dk dtk_X3_append 14 rfl) (by decide +kernel) ?_
    obtain ⟨h6, h⟩ := h
    refine T_iald a0 n0 (dk dtk_X3_append 15 rfl) ka0 ma0 h6 ?_
    refine T_iload_n 1 (dk dtk_X3_append 16 rfl) rfl rfl ?_
    obtain ⟨h7, h⟩ := h
    obtain ⟨x8, ex8⟩ : ∃ z, z = si x5 a0 (x5.1 a0 (0 : Int32).toNatClampNeg : Int32).toNatClampNeg l1 := ⟨_, rfl⟩
    have h := h x8 ex8
    refine T_iast a0 n0 (dk dtk_X3_append 17 rfl) ka0 ma0 h7 ?_
    rw [← ex8]
    exact KT_vret (dk dtk_X3_append 18 rfl) rfl h
set_option maxRecDepth 100000 in
theorem dtk_X3_find : dck cX3_find [(0, .iconst 1, 1), (1, .istore_n 2, 1), (2, .iload_n 2, 1), (3, .aload_n 0, 1), (4, .iconst 0, 1), (5, .iaload, 1), (6, .if_icmp .gt 18, 3), (9, .aload_n 0, 1), (10, .iload_n 2, 1), (11, .iaload, 1), (12, .iload_n 1, 1), (13, .if_icmp .ne 5, 3), (16, .iload_n 2, 1), (17, .ireturn, 1), (18, .iinc 2 1, 3), (21, .goto (-19), 3), (24, .iconst (-1), 1), (25, .ireturn, 1)] = true := by decide +kernel
set_option maxRecDepth 100000 in
set_option maxHeartbeats 4000000 in
theorem kg_X3_find_0 {G : kG} {q : kP} {d : Nat} {x : gd} {P : Option gv → gd → Prop} (hq : kV q) (hh : q.hi = true) {a0 n0 : Nat} (ka0 : kK a0 = .inr (.int, n0)) (ma0 : a0 ∈ (kf q).2.1) (l1 : Int32)
    (h : KT G q d zk_X3_find 2 [(0, vr a0), (1, vi l1), (2, vi 1)] [] x P) :
    KT G q d zk_X3_find 0 [(0, vr a0), (1, vi l1)] [] x P := by
  refine T_iconst (v := 1) (dk dtk_X3_find 0 rfl) (by decide +kernel) ?_
  refine T_istore_n (lv2 := [(2, vi 1), (0, vr a0), (1, vi l1)]) (dk dtk_X3_find 1 rfl) rfl (by decide) rfl ?_
  exact T_sub [1, 2, 0] rfl h
set_option maxRecDepth 100000 in
set_option maxHeartbeats 4000000 in
theorem kg_X3_find_2 {G : kG} {q : kP} {d : Nat} {x : gd} {P : Option gv → gd → Prop} (hq : kV q) (hh : q.hi = true) {a0 n0 : Nat} (ka0 : kK a0 = .inr (.int, n0)) (ma0 : a0 ∈ (kf q).2.1) (l1 : Int32) (l2 : Int32)
    (h : vp_in 0 n0 ∧ (((x.1 a0 (0 : Int32).toNatClampNeg) < l2 → P (some (vi (-1))) x) ∧ (¬ ((x.1 a0 (0 : Int32).toNatClampNeg) < l2) → vp_in l2 n0 ∧ ((¬ ((x.1 a0 (l2 : Int32).toNatClampNeg) = l1) → KT G q d zk_X3_find 2 [(0, vr a0), (1, vi l1), (2, vi (l2 + 1))] [] x P) ∧ ((x.1 a0 (l2 : Int32).toNatClampNeg) = l1 → P (some (vi l2)) x))))) :
    KT G q d zk_X3_find 2 [(0, vr a0), (1, vi l1), (2, vi l2)] [] x P := by
  refine T_iload_n 2 (dk dtk_X3_find 2 rfl) rfl rfl ?_
  refine T_aload_n 0 (dk dtk_X3_find 3 rfl) rfl rfl ?_
  refine T_iconst (v := 0) (dk dtk_X3_find 4 rfl) (by decide +kernel) ?_
  obtain ⟨h1, h⟩ := h
  refine T_iald a0 n0 (dk dtk_X3_find 5 rfl) ka0 ma0 h1 ?_
  refine T_icmp_gt 24 (dk dtk_X3_find 6 rfl) (by decide) (fun c2 => ?_) (fun c2 => ?_)
  · have h := h.1 c2
    refine T_iconst (v := (-1)) (dk dtk_X3_find 16 rfl) (by decide +kernel) ?_
    exact KT_iret (dk dtk_X3_find 17 rfl) rfl rfl h
  · have h := h.2 c2
    refine T_aload_n 0 (dk dtk_X3_find 7 rfl) rfl rfl ?_
    refine T_iload_n 2 (dk dtk_X3_find 8 rfl) rfl rfl ?_
    obtain ⟨h3, h⟩ := h
    refine T_iald a0 n0 (dk dtk_X3_find 9 rfl) ka0 ma0 h3 ?_
    refine T_iload_n 1 (dk dtk_X3_find 10 rfl) rfl rfl ?_
    refine T_icmp_ne 18 (dk dtk_X3_find 11 rfl) (by decide) (fun c4 => ?_) (fun c4 => ?_)
    · have h := h.1 c4
      refine T_iinc (v := l2 + 1) (lv2 := [(2, vi (l2 + 1)), (0, vr a0), (1, vi l1)]) 2 (dk dtk_X3_find 14 rfl) rfl rfl (by decide) rfl ?_
      refine T_goto 2 (dk dtk_X3_find 15 rfl) (by decide) ?_
      exact T_sub [1, 2, 0] rfl h
    · have h := h.2 c4
      refine T_iload_n 2 (dk dtk_X3_find 12 rfl) rfl rfl ?_
      exact KT_iret (dk dtk_X3_find 13 rfl) rfl rfl h
set_option maxRecDepth 100000 in
theorem dtk_X3_removeAt : dck cX3_removeAt [(0, .aload_n 0, 1), (1, .iload_n 1, 1), (2, .iaload, 1), (3, .istore_n 2, 1), (4, .iload_n 1, 1), (5, .istore_n 3, 1), (6, .iload_n 3, 1), (7, .aload_n 0, 1), (8, .iconst 0, 1), (9, .iaload, 1), (10, .if_icmp .ge 17, 3), (13, .aload_n 0, 1), (14, .iload_n 3, 1), (15, .aload_n 0, 1), (16, .iload_n 3, 1), (17, .iconst 1, 1), (18, .iadd, 1), (19, .iaload, 1), (20, .iastore, 1), (21, .iinc 3 1, 3), (24, .goto (-18), 3), (27, .aload_n 0, 1), (28, .iconst 0, 1), (29, .dup2, 1), (30, .iaload, 1), (31, .iconst 1, 1), (32, .isub, 1), (33, .iastore, 1), (34, .iload_n 2, 1), (35, .ireturn, 1)] = true := by decide +kernel
set_option maxRecDepth 100000 in
set_option maxHeartbeats 4000000 in
theorem kg_X3_removeAt_0 {G : kG} {q : kP} {d : Nat} {x : gd} {P : Option gv → gd → Prop} (hq : kV q) (hh : q.hi = true) {a0 n0 : Nat} (ka0 : kK a0 = .inr (.int, n0)) (ma0 : a0 ∈ (kf q).2.1) (l1 : Int32)
    (h : vp_in l1 n0 ∧ KT G q d zk_X3_removeAt 6 [(0, vr a0), (2, vi (x.1 a0 (l1 : Int32).toNatClampNeg)), (3, vi l1)] [] x P) :
    KT G q d zk_X3_removeAt 0 [(0, vr a0), (1, vi l1)] [] x P := by
  refine T_aload_n 0 (dk dtk_X3_removeAt 0 rfl) rfl rfl ?_
  refine T_iload_n 1 (dk dtk_X3_removeAt 1 rfl) rfl rfl ?_
  obtain ⟨h1, h⟩ := h
  refine T_iald a0 n0 (dk dtk_X3_removeAt 2 rfl) ka0 ma0 h1 ?_
  refine T_istore_n (lv2 := [(2, vi (x.1 a0 (l1 : Int32).toNatClampNeg)), (0, vr a0), (1, vi l1)]) (dk dtk_X3_removeAt 3 rfl) rfl (by decide) rfl ?_
  refine T_iload_n 2 (dk dtk_X3_removeAt 4 rfl) rfl rfl ?_
  refine T_istore_n (lv2 := [(3, vi l1), (2, vi (x.1 a0 (l1 : Int32).toNatClampNeg)), (0, vr a0), (1, vi l1)]) (dk dtk_X3_removeAt 5 rfl) rfl (by decide) rfl ?_
  exact T_sub [2, 1, 0] rfl h
set_option maxRecDepth 100000 in
set_option maxHeartbeats 4000000 in
theorem kg_X3_removeAt_6 {G : kG} {q : kP} {d : Nat} {x : gd} {P : Option gv → gd → Prop} (hq : kV q) (hh : q.hi = true) {a0 n0 : Nat} (ka0 : kK a0 = .inr (.int, n0)) (ma0 : a0 ∈ (kf q).2.1) (l2 : Int32) (l3 : Int32)
    (h : vp_in 0 n0 ∧ (((x.1 a0 (0 : Int32).toNatClampNeg) ≤ l3 → vp_in 0 n0 ∧ vp_in 0 n0 ∧ (∀ x5 : gd, x5 = si x a0 (0 : Int32).toNatClampNeg ((x.1 a0 (0 : Int32).toNatClampNeg) - 1) → P (some (vi l2)) x5)) ∧ (¬ ((x.1 a0 (0 : Int32).toNatClampNeg) ≤ l3) → vp_in (l3 + 1) n0 ∧ vp_in l3 n0 ∧ (∀ x8 : gd, x8 = si x a0 (l3 : Int32).toNatClampNeg (x.1 a0 (l3 + 1 : Int32).toNatClampNeg) → KT G q d zk_X3_removeAt 6 [(0, vr a0), (2, vi l2), (3, vi (l3 + 1))] [] x8 P)))) :
    KT G q d zk_X3_removeAt 6 [(0, vr a0), (2, vi l2), (3, vi l3)] [] x P := by
  refine T_iload_n 2 (dk dtk_X3_removeAt 6 rfl) rfl rfl ?_
  refine T_aload_n 0 (dk dtk_X3_removeAt 7 rfl) rfl rfl ?_
  refine T_iconst (v := 0) (dk dtk_X3_removeAt 8 rfl) (by decide +kernel) ?_
  obtain ⟨h1, h⟩ := h
  refine T_iald a0 n0 (dk dtk_X3_removeAt 9 rfl) ka0 ma0 h1 ?_
  refine T_icmp_ge 27 (dk dtk_X3_removeAt 10 rfl) (by decide) (fun c2 => ?_) (fun c2 => ?_)
  · have h := h.1 c2
    refine T_aload_n 0 (dk dtk_X3_removeAt 21 rfl) rfl rfl ?_
    refine T_iconst (v := 0) (dk dtk_X3_removeAt 22 rfl) (by decide +kernel) ?_
    refine T_dup2 (dk dtk_X3_removeAt 23 rfl) rfl rfl ?_
    obtain ⟨h3, h⟩ := h
    refine T_iald a0 n0 (dk dtk_X3_removeAt 24 rfl) ka0 ma0 h3 ?_
    refine T_iconst (v := 1) (dk dtk_X3_removeAt 25 rfl) (by decide +kernel) ?_
    refine T_isub (dk dtk_X3_removeAt 26 rfl) ?_
    obtain ⟨h4, h⟩ := h
    obtain ⟨x5, ex5⟩ : ∃ z, z = si x a0 (0 : Int32).toNatClampNeg ((x.1 a0 (0 : Int32).toNatClampNeg) - 1) := ⟨_, rfl⟩
    have h := h x5 ex5
    refine T_iast a0 n0 (dk dtk_X3_removeAt 27 rfl) ka0 ma0 h4 ?_
    rw [← ex5]
    refine T_iload_n 1 (dk dtk_X3_removeAt 28 rfl) rfl rfl ?_
    exact KT_iret (dk dtk_X3_removeAt 29 rfl) rfl rfl h
  · have h := h.2 c2
    refine T_aload_n 0 (dk dtk_X3_removeAt 11 rfl) rfl rfl ?_
    refine T_iload_n 2 (dk dtk_X3_removeAt 12 rfl) rfl rfl ?_
    refine T_aload_n 0 (dk dtk_X3_removeAt 13 rfl) rfl rfl ?_
    refine T_iload_n 2 (dk dtk_X3_removeAt 14 rfl) rfl rfl ?_
    refine T_iconst (v := 1) (dk dtk_X3_removeAt 15 rfl) (by decide +kernel) ?_
    refine T_iadd (dk dtk_X3_removeAt 16 rfl) ?_
    obtain ⟨h6, h⟩ := h
    refine T_iald a0 n0 (dk dtk_X3_removeAt 17 rfl) ka0 ma0 h6 ?_
    obtain ⟨h7, h⟩ := h
    obtain ⟨x8, ex8⟩ : ∃ z, z = si x a0 (l3 : Int32).toNatClampNeg (x.1 a0 (l3 + 1 : Int32).toNatClampNeg) := ⟨_, rfl⟩
    have h := h x8 ex8
    refine T_iast a0 n0 (dk dtk_X3_removeAt 18 rfl) ka0 ma0 h7 ?_
    rw [← ex8]
    refine T_iinc (v := l3 + 1) (lv2 := [(3, vi (l3 + 1)), (0, vr a0), (2, vi l2)]) 2 (dk dtk_X3_removeAt 19 rfl) rfl rfl (by decide) rfl ?_
    refine T_goto 6 (dk dtk_X3_removeAt 20 rfl) (by decide) ?_
    exact T_sub [1, 2, 0] rfl h
set_option maxRecDepth 100000 in
theorem dtk_X10_clear : dck cX10_clear [(0, .aload_n 0, 1), (1, .iconst 0, 1), (2, .putfield 40, 3), (5, .aload_n 0, 1), (6, .iconst 0, 1), (7, .putfield 44, 3), (10, .aload_n 0, 1), (11, .iconst 0, 1), (12, .putfield 48, 3), (15, .aload_n 0, 1), (16, .iconst 0, 1), (17, .putfield 51, 3), (20, .aload_n 0, 1), (21, .iconst 0, 1), (22, .putfield 54, 3), (25, .aload_n 0, 1), (26, .iconst 0, 1), (27, .putfield 57, 3), (30, .aload_n 0, 1), (31, .getfield 11, 3), (34, .iconst (-1), 1), (35, .invokestatic 60, 3), (38, .aload_n 0, 1), (39, .getfield 17, 3), (42, .iload_n 1, 1), (43, .invokestatic 60, 3), (46, .aload_n 0, 1), (47, .getfield 20, 3), (50, .iconst 0, 1), (51, .invokestatic 60, 3), (54, .return_, 1)] = true := by decide +kernel
set_option maxRecDepth 100000 in
set_option maxHeartbeats 4000000 in
theorem kg_X10_clear_0 {G : kG} {q : kP} {d : Nat} {x : gd} {P : Option gv → gd → Prop} (hq : kV q) {o : Nat} (ho : kiT q o) (l1 : Int32)
    (h : (∀ x1 : gd, x1 = si x o 0 0 → (∀ x2 : gd, x2 = si x1 o 1 0 → (∀ x3 : gd, x3 = si x2 o 2 0 → (∀ x4 : gd, x4 = si x3 o 3 0 → (∀ x5 : gd, x5 = si x4 o 4 0 → (∀ x6 : gd, x6 = si x5 o 5 0 → (∀ x7 : gd, x7 = sfl x6 (o + 7) (-1) 11 → (∀ x8 : gd, x8 = sfl x7 (o + 8) l1 24 → (∀ x9 : gd, x9 = sfl x8 (o + 9) 0 6 → P none x9)))))))))) :
    KT G q (d + 1) zk_X10_clear 0 [(0, vr o), (1, vi l1)] [] x P := by
  refine T_aload_n 0 (dk dtk_X10_clear 0 rfl) rfl rfl ?_
  refine T_iconst (v := 0) (dk dtk_X10_clear 1 rfl) (by decide +kernel) ?_
  obtain ⟨x1, ex1⟩ : ∃ z, z = si x o 0 0 := ⟨_, rfl⟩
  have h := h x1 ex1
  refine T_putI o 0 (dk dtk_X10_clear 2 rfl) kfl_X10_40 (kk_T0 ho) (kl_T0 hq ho) (by decide) rfl ⟨rfl, rfl⟩ ?_
  rw [← ex1]
  refine T_aload_n 0 (dk dtk_X10_clear 3 rfl) rfl rfl ?_
  refine T_iconst (v := 0) (dk dtk_X10_clear 4 rfl) (by decide +kernel) ?_
  obtain ⟨x2, ex2⟩ : ∃ z, z = si x1 o 1 0 := ⟨_, rfl⟩
  have h := h x2 ex2
  refine T_putI o 1 (dk dtk_X10_clear 5 rfl) kfl_X10_44 (kk_T0 ho) (kl_T0 hq ho) (by decide) rfl ⟨rfl, rfl⟩ ?_
  rw [← ex2]
  refine T_aload_n 0 (dk dtk_X10_clear 6 rfl) rfl rfl ?_
  refine T_iconst (v := 0) (dk dtk_X10_clear 7 rfl) (by decide +kernel) ?_
  obtain ⟨x3, ex3⟩ : ∃ z, z = si x2 o 2 0 := ⟨_, rfl⟩
  have h := h x3 ex3
  refine T_putI o 2 (dk dtk_X10_clear 8 rfl) kfl_X10_48 (kk_T0 ho) (kl_T0 hq ho) (by decide) rfl ⟨rfl, rfl⟩ ?_
  rw [← ex3]
  refine T_aload_n 0 (dk dtk_X10_clear 9 rfl) rfl rfl ?_
  refine T_iconst (v := 0) (dk dtk_X10_clear 10 rfl) (by decide +kernel) ?_
  obtain ⟨x4, ex4⟩ : ∃ z, z = si x3 o 3 0 := ⟨_, rfl⟩
  have h := h x4 ex4
  refine T_putI o 3 (dk dtk_X10_clear 11 rfl) kfl_X10_51 (kk_T0 ho) (kl_T0 hq ho) (by decide) rfl ⟨rfl, rfl⟩ ?_
  rw [← ex4]
  refine T_aload_n 0 (dk dtk_X10_clear 12 rfl) rfl rfl ?_
  refine T_iconst (v := 0) (dk dtk_X10_clear 13 rfl) (by decide +kernel) ?_
  obtain ⟨x5, ex5⟩ : ∃ z, z = si x4 o 4 0 := ⟨_, rfl⟩
  have h := h x5 ex5
  refine T_putI o 4 (dk dtk_X10_clear 14 rfl) kfl_X10_54 (kk_T0 ho) (kl_T0 hq ho) (by decide) rfl ⟨rfl, rfl⟩ ?_
  rw [← ex5]
  refine T_aload_n 0 (dk dtk_X10_clear 15 rfl) rfl rfl ?_
  refine T_iconst (v := 0) (dk dtk_X10_clear 16 rfl) (by decide +kernel) ?_
  obtain ⟨x6, ex6⟩ : ∃ z, z = si x5 o 5 0 := ⟨_, rfl⟩
  have h := h x6 ex6
  refine T_putI o 5 (dk dtk_X10_clear 17 rfl) kfl_X10_57 (kk_T0 ho) (kl_T0 hq ho) (by decide) rfl ⟨rfl, rfl⟩ ?_
  rw [← ex6]
  refine T_aload_n 0 (dk dtk_X10_clear 18 rfl) rfl rfl ?_
  refine T_getR o 6 (o + 7) (dk dtk_X10_clear 19 rfl) kfl_X10_11 (kk_T0 ho) (kl_T0 hq ho) (by decide) rfl (kr_T_6 ho) ?_
  refine T_iconst (v := (-1)) (dk dtk_X10_clear 20 rfl) (by decide +kernel) ?_
  refine KC_Sv (F := fun z => z = sfl x6 (o + 7) (-1) 11) [vr (o + 7), vi (-1)] [] rfl (dk dtk_X10_clear 21 rfl) kcs_X10_60 rfl (Nat.le_of_ble_eq_true rfl) (Nat.le_of_ble_eq_true rfl) (gok_i (av_c (gkr (kl_T0 hq ho)) (av_c rfl av_n)) as_n) rfl (tj_fill (o + 7) 11 (-1) (kk_T7 ho) (kl_T7 hq ho) (by decide) ⟨rfl, none, rfl, rfl, rfl⟩) (fun x7 ex7 => ?_)
  have h := h x7 ex7
  refine T_aload_n 0 (dk dtk_X10_clear 22 rfl) rfl rfl ?_
  refine T_getR o 7 (o + 8) (dk dtk_X10_clear 23 rfl) kfl_X10_17 (kk_T0 ho) (kl_T0 hq ho) (by decide) rfl (kr_T_7 ho) ?_
  refine T_iload_n 1 (dk dtk_X10_clear 24 rfl) rfl rfl ?_
  refine T_sub (lv2 := [(0, vr o)]) [0] rfl ?_
  refine KC_Sv (F := fun z => z = sfl x7 (o + 8) l1 24) [vr (o + 8), vi l1] [] rfl (dk dtk_X10_clear 25 rfl) kcs_X10_60 rfl (Nat.le_of_ble_eq_true rfl) (Nat.le_of_ble_eq_true rfl) (gok_i (av_c (gkr (kl_T0 hq ho)) av_n) as_n) rfl (tj_fill (o + 8) 24 l1 (kk_T8 ho) (kl_T8 hq ho) (by decide) ⟨rfl, none, rfl, rfl, rfl⟩) (fun x8 ex8 => ?_)
  have h := h x8 ex8
  refine T_aload_n 0 (dk dtk_X10_clear 26 rfl) rfl rfl ?_
  refine T_getR o 8 (o + 9) (dk dtk_X10_clear 27 rfl) kfl_X10_20 (kk_T0 ho) (kl_T0 hq ho) (by decide) rfl (kr_T_8 ho) ?_
  refine T_iconst (v := 0) (dk dtk_X10_clear 28 rfl) (by decide +kernel) ?_
  refine T_sub (lv2 := []) [] rfl ?_
  refine KC_Sv (F := fun z => z = sfl x8 (o + 9) 0 6) [vr (o + 9), vi 0] [] rfl (dk dtk_X10_clear 29 rfl) kcs_X10_60 rfl (Nat.le_of_ble_eq_true rfl) (Nat.le_of_ble_eq_true rfl) (gok_i av_n as_n) rfl (tj_fill (o + 9) 6 0 (kk_T9 ho) (kl_T9 hq ho) (by decide) ⟨rfl, none, rfl, rfl, rfl⟩) (fun x9 ex9 => ?_)
  have h := h x9 ex9
  exact KT_vret (dk dtk_X10_clear 30 rfl) rfl h
set_option maxRecDepth 100000 in
theorem dtk_X10_addState : dck cX10_addState [(0, .aload_n 0, 1), (1, .getfield 40, 3), (4, .sipush 3000, 3), (7, .if_icmp .ge 59, 3), (10, .aload_n 0, 1), (11, .getfield 23, 3), (14, .aload_n 0, 1), (15, .getfield 40, 3), (18, .iload_n 1, 1), (19, .iastore, 1), (20, .aload_n 0, 1), (21, .getfield 26, 3), (24, .aload_n 0, 1), (25, .getfield 40, 3), (28, .iload_n 2, 1), (29, .iastore, 1), (30, .aload_n 0, 1), (31, .getfield 29, 3), (34, .aload_n 0, 1), (35, .getfield 40, 3), (38, .iload_n 1, 1), (39, .iconst (-1), 1), (40, .if_icmp .ne 7, 3), (43, .iconst 0, 1), (44, .goto 11, 3), (47, .aload_n 0, 1), (48, .getfield 29, 3), (51, .iload_n 1, 1), (52, .iaload, 1), (53, .iconst 1, 1), (54, .iadd, 1), (55, .iastore, 1), (56, .aload_n 0, 1), (57, .dup, 1), (58, .getfield 40, 3), (61, .iconst 1, 1), (62, .iadd, 1), (63, .putfield 40, 3), (66, .return_, 1)] = true := by decide +kernel
set_option maxRecDepth 100000 in
set_option maxHeartbeats 4000000 in
theorem kg_X10_addState_0 {G : kG} {q : kP} {d : Nat} {x : gd} {P : Option gv → gd → Prop} (hq : kV q) {o : Nat} (ho : kiT q o) (l1 : Int32) (l2 : Int32)
    (h : (((3000 : Int32) ≤ (x.1 o 0) → P none x) ∧ (¬ ((3000 : Int32) ≤ (x.1 o 0)) → vp_in (x.1 o 0) 3000 ∧ (∀ x3 : gd, x3 = si x (o + 10) (x.1 o 0 : Int32).toNatClampNeg l1 → vp_in (x3.1 o 0) 3000 ∧ (∀ x5 : gd, x5 = si x3 (o + 11) (x3.1 o 0 : Int32).toNatClampNeg l2 → ((¬ (l1 = (-1 : Int32)) → vp_in l1 3000 ∧ vp_in (x5.1 o 0) 3000 ∧ (∀ x9 : gd, x9 = si x5 (o + 12) (x5.1 o 0 : Int32).toNatClampNeg ((x5.1 (o + 12) (l1 : Int32).toNatClampNeg) + 1) → (∀ x10 : gd, x10 = si x9 o 0 ((x9.1 o 0) + 1) → P none x10))) ∧ (l1 = (-1 : Int32) → vp_in (x5.1 o 0) 3000 ∧ (∀ x12 : gd, x12 = si x5 (o + 12) (x5.1 o 0 : Int32).toNatClampNeg 0 → (∀ x13 : gd, x13 = si x12 o 0 ((x12.1 o 0) + 1) → P none x13))))))))) :
    KT G q d zk_X10_addState 0 [(0, vr o), (1, vi l1), (2, vi l2)] [] x P := by
  refine T_aload_n 0 (dk dtk_X10_addState 0 rfl) rfl rfl ?_
  refine T_getI o 0 (dk dtk_X10_addState 1 rfl) kfl_X10_40 (kk_T0 ho) (kl_T0 hq ho) (by decide) rfl ?_
  refine T_sipush (v := 3000) (dk dtk_X10_addState 2 rfl) (by decide +kernel) ?_
  refine T_icmp_ge 66 (dk dtk_X10_addState 3 rfl) (by decide) (fun c1 => ?_) (fun c1 => ?_)
  · have h := h.1 c1
    exact KT_vret (dk dtk_X10_addState 38 rfl) rfl h
  · have h := h.2 c1
    refine T_aload_n 0 (dk dtk_X10_addState 4 rfl) rfl rfl ?_
    refine T_getR o 9 (o + 10) (dk dtk_X10_addState 5 rfl) kfl_X10_23 (kk_T0 ho) (kl_T0 hq ho) (by decide) rfl (kr_T_9 ho) ?_
    refine T_aload_n 0 (dk dtk_X10_addState 6 rfl) rfl rfl ?_
    refine T_getI o 0 (dk dtk_X10_addState 7 rfl) kfl_X10_40 (kk_T0 ho) (kl_T0 hq ho) (by decide) rfl ?_
    refine T_iload_n 1 (dk dtk_X10_addState 8 rfl) rfl rfl ?_
    obtain ⟨h2, h⟩ := h
    obtain ⟨x3, ex3⟩ : ∃ z, z = si x (o + 10) (x.1 o 0 : Int32).toNatClampNeg l1 := ⟨_, rfl⟩
    have h := h x3 ex3
    refine T_iast (o + 10) 3000 (dk dtk_X10_addState 9 rfl) (kk_T10 ho) (kl_T10 hq ho) h2 ?_
    rw [← ex3]
    refine T_aload_n 0 (dk dtk_X10_addState 10 rfl) rfl rfl ?_
    refine T_getR o 10 (o + 11) (dk dtk_X10_addState 11 rfl) kfl_X10_26 (kk_T0 ho) (kl_T0 hq ho) (by decide) rfl (kr_T_10 ho) ?_
    refine T_aload_n 0 (dk dtk_X10_addState 12 rfl) rfl rfl ?_
    refine T_getI o 0 (dk dtk_X10_addState 13 rfl) kfl_X10_40 (kk_T0 ho) (kl_T0 hq ho) (by decide) rfl ?_
    refine T_iload_n 2 (dk dtk_X10_addState 14 rfl) rfl rfl ?_
    obtain ⟨h4, h⟩ := h
    obtain ⟨x5, ex5⟩ : ∃ z, z = si x3 (o + 11) (x3.1 o 0 : Int32).toNatClampNeg l2 := ⟨_, rfl⟩
    have h := h x5 ex5
    refine T_iast (o + 11) 3000 (dk dtk_X10_addState 15 rfl) (kk_T11 ho) (kl_T11 hq ho) h4 ?_
    rw [← ex5]
    refine T_aload_n 0 (dk dtk_X10_addState 16 rfl) rfl rfl ?_
    refine T_getR o 11 (o + 12) (dk dtk_X10_addState 17 rfl) kfl_X10_29 (kk_T0 ho) (kl_T0 hq ho) (by decide) rfl (kr_T_11 ho) ?_
    refine T_aload_n 0 (dk dtk_X10_addState 18 rfl) rfl rfl ?_
    refine T_getI o 0 (dk dtk_X10_addState 19 rfl) kfl_X10_40 (kk_T0 ho) (kl_T0 hq ho) (by decide) rfl ?_
    refine T_iload_n 1 (dk dtk_X10_addState 20 rfl) rfl rfl ?_
    refine T_iconst (v := (-1)) (dk dtk_X10_addState 21 rfl) (by decide +kernel) ?_
    refine T_icmp_ne 47 (dk dtk_X10_addState 22 rfl) (by decide) (fun c6 => ?_) (fun c6 => ?_)
    · have h := h.1 c6
      refine T_aload_n 0 (dk dtk_X10_addState 25 rfl) rfl rfl ?_
      refine T_getR o 11 (o + 12) (dk dtk_X10_addState 26 rfl) kfl_X10_29 (kk_T0 ho) (kl_T0 hq ho) (by decide) rfl (kr_T_11 ho) ?_
      refine T_iload_n 1 (dk dtk_X10_addState 27 rfl) rfl rfl ?_
      obtain ⟨h7, h⟩ := h
      refine T_iald (o + 12) 3000 (dk dtk_X10_addState 28 rfl) (kk_T12 ho) (kl_T12 hq ho) h7 ?_
      refine T_iconst (v := 1) (dk dtk_X10_addState 29 rfl) (by decide +kernel) ?_
      refine T_iadd (dk dtk_X10_addState 30 rfl) ?_
      obtain ⟨h8, h⟩ := h
      obtain ⟨x9, ex9⟩ : ∃ z, z = si x5 (o + 12) (x5.1 o 0 : Int32).toNatClampNeg ((x5.1 (o + 12) (l1 : Int32).toNatClampNeg) + 1) := ⟨_, rfl⟩
      have h := h x9 ex9
      refine T_iast (o + 12) 3000 (dk dtk_X10_addState 31 rfl) (kk_T12 ho) (kl_T12 hq ho) h8 ?_
      rw [← ex9]
      refine T_aload_n 0 (dk dtk_X10_addState 32 rfl) rfl rfl ?_
      refine T_dup (dk dtk_X10_addState 33 rfl) rfl ?_
      refine T_getI o 0 (dk dtk_X10_addState 34 rfl) kfl_X10_40 (kk_T0 ho) (kl_T0 hq ho) (by decide) rfl ?_
      refine T_iconst (v := 1) (dk dtk_X10_addState 35 rfl) (by decide +kernel) ?_
      refine T_iadd (dk dtk_X10_addState 36 rfl) ?_
      obtain ⟨x10, ex10⟩ : ∃ z, z = si x9 o 0 ((x9.1 o 0) + 1) := ⟨_, rfl⟩
      have h := h x10 ex10
      refine T_putI o 0 (dk dtk_X10_addState 37 rfl) kfl_X10_40 (kk_T0 ho) (kl_T0 hq ho) (by decide) rfl ⟨rfl, rfl⟩ ?_
      rw [← ex10]
      exact KT_vret (dk dtk_X10_addState 38 rfl) rfl h
    · have h := h.2 c6
      refine T_iconst (v := 0) (dk dtk_X10_addState 23 rfl) (by decide +kernel) ?_
      refine T_goto 55 (dk dtk_X10_addState 24 rfl) (by decide) ?_
      obtain ⟨h11, h⟩ := h
      obtain ⟨x12, ex12⟩ : ∃ z, z = si x5 (o + 12) (x5.1 o 0 : Int32).toNatClampNeg 0 := ⟨_, rfl⟩
      have h := h x12 ex12
      refine T_iast (o + 12) 3000 (dk dtk_X10_addState 31 rfl) (kk_T12 ho) (kl_T12 hq ho) h11 ?_
      rw [← ex12]
      refine T_aload_n 0 (dk dtk_X10_addState 32 rfl) rfl rfl ?_
      refine T_dup (dk dtk_X10_addState 33 rfl) rfl ?_
      refine T_getI o 0 (dk dtk_X10_addState 34 rfl) kfl_X10_40 (kk_T0 ho) (kl_T0 hq ho) (by decide) rfl ?_
      refine T_iconst (v := 1) (dk dtk_X10_addState 35 rfl) (by decide +kernel) ?_
      refine T_iadd (dk dtk_X10_addState 36 rfl) ?_
      obtain ⟨x13, ex13⟩ : ∃ z, z = si x12 o 0 ((x12.1 o 0) + 1) := ⟨_, rfl⟩
      have h := h x13 ex13
      refine T_putI o 0 (dk dtk_X10_addState 37 rfl) kfl_X10_40 (kk_T0 ho) (kl_T0 hq ho) (by decide) rfl ⟨rfl, rfl⟩ ?_
      rw [← ex13]
      exact KT_vret (dk dtk_X10_addState 38 rfl) rfl h
set_option maxRecDepth 100000 in
theorem dtk_X10_find : dck cX10_find [(0, .aload_n 0, 1), (1, .getfield 11, 3), (4, .iload_n 1, 1), (5, .iaload, 1), (6, .iconst (-1), 1), (7, .if_icmp .ne 10, 3), (10, .aload_n 0, 1), (11, .getfield 11, 3), (14, .iload_n 1, 1), (15, .iload_n 2, 1), (16, .iastore, 1), (17, .return_, 1)] = true := by decide +kernel
set_option maxRecDepth 100000 in
set_option maxHeartbeats 4000000 in
theorem kg_X10_find_0 {G : kG} {q : kP} {d : Nat} {x : gd} {P : Option gv → gd → Prop} (hq : kV q) {o : Nat} (ho : kiT q o) (l1 : Int32) (l2 : Int32)
    (h : vp_in l1 11 ∧ ((¬ ((x.1 (o + 7) (l1 : Int32).toNatClampNeg) = (-1 : Int32)) → P none x) ∧ ((x.1 (o + 7) (l1 : Int32).toNatClampNeg) = (-1 : Int32) → vp_in l1 11 ∧ (∀ x4 : gd, x4 = si x (o + 7) (l1 : Int32).toNatClampNeg l2 → P none x4)))) :
    KT G q d zk_X10_find 0 [(0, vr o), (1, vi l1), (2, vi l2)] [] x P := by
  refine T_aload_n 0 (dk dtk_X10_find 0 rfl) rfl rfl ?_
  refine T_getR o 6 (o + 7) (dk dtk_X10_find 1 rfl) kfl_X10_11 (kk_T0 ho) (kl_T0 hq ho) (by decide) rfl (kr_T_6 ho) ?_
  refine T_iload_n 1 (dk dtk_X10_find 2 rfl) rfl rfl ?_
  obtain ⟨h1, h⟩ := h
  refine T_iald (o + 7) 11 (dk dtk_X10_find 3 rfl) (kk_T7 ho) (kl_T7 hq ho) h1 ?_
  refine T_iconst (v := (-1)) (dk dtk_X10_find 4 rfl) (by decide +kernel) ?_
  refine T_icmp_ne 17 (dk dtk_X10_find 5 rfl) (by decide) (fun c2 => ?_) (fun c2 => ?_)
  · have h := h.1 c2
    exact KT_vret (dk dtk_X10_find 11 rfl) rfl h
  · have h := h.2 c2
    refine T_aload_n 0 (dk dtk_X10_find 6 rfl) rfl rfl ?_
    refine T_getR o 6 (o + 7) (dk dtk_X10_find 7 rfl) kfl_X10_11 (kk_T0 ho) (kl_T0 hq ho) (by decide) rfl (kr_T_6 ho) ?_
    refine T_iload_n 1 (dk dtk_X10_find 8 rfl) rfl rfl ?_
    refine T_iload_n 2 (dk dtk_X10_find 9 rfl) rfl rfl ?_
    obtain ⟨h3, h⟩ := h
    obtain ⟨x4, ex4⟩ : ∃ z, z = si x (o + 7) (l1 : Int32).toNatClampNeg l2 := ⟨_, rfl⟩
    have h := h x4 ex4
    refine T_iast (o + 7) 11 (dk dtk_X10_find 10 rfl) (kk_T7 ho) (kl_T7 hq ho) h3 ?_
    rw [← ex4]
    exact KT_vret (dk dtk_X10_find 11 rfl) rfl h
set_option maxRecDepth 100000 in
theorem dtk_X10_pathTo : dck cX10_pathTo [(0, .iload_n 1, 1), (1, .istore_n 3, 1), (2, .aload_n 0, 1), (3, .getfield 29, 3), (6, .iload_n 1, 1), (7, .iaload, 1), (8, .iconst 1, 1), (9, .isub, 1), (10, .istore 4, 2), (12, .iload 4, 2), (14, .ifCond .lt 33, 3), (17, .iload 4, 2), (19, .aload_n 2, 1), (20, .arraylength, 1), (21, .if_icmp .ge 26, 3), (24, .aload_n 2, 1), (25, .iload 4, 2), (27, .aload_n 0, 1), (28, .getfield 26, 3), (31, .iload_n 3, 1), (32, .iaload, 1), (33, .iastore, 1), (34, .aload_n 0, 1), (35, .getfield 23, 3), (38, .iload_n 3, 1), (39, .iaload, 1), (40, .istore_n 3, 1), (41, .iinc 4 (-1), 3), (44, .goto (-32), 3), (47, .return_, 1)] = true := by decide +kernel
set_option maxRecDepth 100000 in
set_option maxHeartbeats 4000000 in
theorem kg_X10_pathTo_0 {G : kG} {q : kP} {d : Nat} {x : gd} {P : Option gv → gd → Prop} (hq : kV q) {o : Nat} (ho : kiT q o) {a2 n2 : Nat} (ka2 : kK a2 = .inr (.int, n2)) (ma2 : a2 ∈ (kf q).2.1) (l1 : Int32)
    (h : vp_in l1 3000 ∧ KT G q d zk_X10_pathTo 12 [(0, vr o), (2, vr a2), (3, vi l1), (4, vi ((x.1 (o + 12) (l1 : Int32).toNatClampNeg) - 1))] [] x P) :
    KT G q d zk_X10_pathTo 0 [(0, vr o), (1, vi l1), (2, vr a2)] [] x P := by
  refine T_iload_n 1 (dk dtk_X10_pathTo 0 rfl) rfl rfl ?_
  refine T_istore_n (lv2 := [(3, vi l1), (0, vr o), (1, vi l1), (2, vr a2)]) (dk dtk_X10_pathTo 1 rfl) rfl (by decide) rfl ?_
  refine T_aload_n 1 (dk dtk_X10_pathTo 2 rfl) rfl rfl ?_
  refine T_getR o 11 (o + 12) (dk dtk_X10_pathTo 3 rfl) kfl_X10_29 (kk_T0 ho) (kl_T0 hq ho) (by decide) rfl (kr_T_11 ho) ?_
  refine T_iload_n 2 (dk dtk_X10_pathTo 4 rfl) rfl rfl ?_
  obtain ⟨h1, h⟩ := h
  refine T_iald (o + 12) 3000 (dk dtk_X10_pathTo 5 rfl) (kk_T12 ho) (kl_T12 hq ho) h1 ?_
  refine T_iconst (v := 1) (dk dtk_X10_pathTo 6 rfl) (by decide +kernel) ?_
  refine T_isub (dk dtk_X10_pathTo 7 rfl) ?_
  refine T_istore (lv2 := [(4, vi ((x.1 (o + 12) (l1 : Int32).toNatClampNeg) - 1)), (3, vi l1), (0, vr o), (1, vi l1), (2, vr a2)]) (dk dtk_X10_pathTo 8 rfl) (by decide) rfl ?_
  exact T_sub [2, 4, 1, 0] rfl h
set_option maxRecDepth 100000 in
set_option maxHeartbeats 4000000 in
theorem kg_X10_pathTo_12 {G : kG} {q : kP} {d : Nat} {x : gd} {P : Option gv → gd → Prop} (hq : kV q) {o : Nat} (ho : kiT q o) {a2 n2 : Nat} (ka2 : kK a2 = .inr (.int, n2)) (ma2 : a2 ∈ (kf q).2.1) (l3 : Int32) (l4 : Int32)
    (h : ((l4 < (0 : Int32) → P none x) ∧ (¬ (l4 < (0 : Int32)) → (((Int32.ofNat n2) ≤ l4 → P none x) ∧ (¬ ((Int32.ofNat n2) ≤ l4) → vp_in l3 3000 ∧ vp_in l4 n2 ∧ (∀ x5 : gd, x5 = si x a2 (l4 : Int32).toNatClampNeg (x.1 (o + 11) (l3 : Int32).toNatClampNeg) → vp_in l3 3000 ∧ KT G q d zk_X10_pathTo 12 [(0, vr o), (2, vr a2), (3, vi (x5.1 (o + 10) (l3 : Int32).toNatClampNeg)), (4, vi (l4 + (-1)))] [] x5 P)))))) :
    KT G q d zk_X10_pathTo 12 [(0, vr o), (2, vr a2), (3, vi l3), (4, vi l4)] [] x P := by
  refine T_iload 3 (dk dtk_X10_pathTo 9 rfl) rfl ?_
  refine T_if_lt 47 (dk dtk_X10_pathTo 10 rfl) (by decide) (fun c1 => ?_) (fun c1 => ?_)
  · have h := h.1 c1
    exact KT_vret (dk dtk_X10_pathTo 29 rfl) rfl h
  · have h := h.2 c1
    refine T_iload 3 (dk dtk_X10_pathTo 11 rfl) rfl ?_
    refine T_aload_n 1 (dk dtk_X10_pathTo 12 rfl) rfl rfl ?_
    refine T_alen a2 n2 0 (v := Int32.ofNat n2) (dk dtk_X10_pathTo 13 rfl) ka2 ma2 rfl rfl ?_
    refine T_icmp_ge 47 (dk dtk_X10_pathTo 14 rfl) (by decide) (fun c2 => ?_) (fun c2 => ?_)
    · have h := h.1 c2
      exact KT_vret (dk dtk_X10_pathTo 29 rfl) rfl h
    · have h := h.2 c2
      refine T_aload_n 1 (dk dtk_X10_pathTo 15 rfl) rfl rfl ?_
      refine T_iload 3 (dk dtk_X10_pathTo 16 rfl) rfl ?_
      refine T_aload_n 0 (dk dtk_X10_pathTo 17 rfl) rfl rfl ?_
      refine T_getR o 10 (o + 11) (dk dtk_X10_pathTo 18 rfl) kfl_X10_26 (kk_T0 ho) (kl_T0 hq ho) (by decide) rfl (kr_T_10 ho) ?_
      refine T_iload_n 2 (dk dtk_X10_pathTo 19 rfl) rfl rfl ?_
      obtain ⟨h3, h⟩ := h
      refine T_iald (o + 11) 3000 (dk dtk_X10_pathTo 20 rfl) (kk_T11 ho) (kl_T11 hq ho) h3 ?_
      obtain ⟨h4, h⟩ := h
      obtain ⟨x5, ex5⟩ : ∃ z, z = si x a2 (l4 : Int32).toNatClampNeg (x.1 (o + 11) (l3 : Int32).toNatClampNeg) := ⟨_, rfl⟩
      have h := h x5 ex5
      refine T_iast a2 n2 (dk dtk_X10_pathTo 21 rfl) ka2 ma2 h4 ?_
      rw [← ex5]
      refine T_aload_n 0 (dk dtk_X10_pathTo 22 rfl) rfl rfl ?_
      refine T_getR o 9 (o + 10) (dk dtk_X10_pathTo 23 rfl) kfl_X10_23 (kk_T0 ho) (kl_T0 hq ho) (by decide) rfl (kr_T_9 ho) ?_
      refine T_iload_n 2 (dk dtk_X10_pathTo 24 rfl) rfl rfl ?_
      obtain ⟨h6, h⟩ := h
      refine T_iald (o + 10) 3000 (dk dtk_X10_pathTo 25 rfl) (kk_T10 ho) (kl_T10 hq ho) h6 ?_
      refine T_istore_n (lv2 := [(3, vi (x5.1 (o + 10) (l3 : Int32).toNatClampNeg)), (0, vr o), (2, vr a2), (4, vi l4)]) (dk dtk_X10_pathTo 26 rfl) rfl (by decide) rfl ?_
      refine T_iinc (v := l4 + (-1)) (lv2 := [(4, vi (l4 + (-1))), (3, vi (x5.1 (o + 10) (l3 : Int32).toNatClampNeg)), (0, vr o), (2, vr a2)]) 3 (dk dtk_X10_pathTo 27 rfl) rfl rfl (by decide) rfl ?_
      refine T_goto 12 (dk dtk_X10_pathTo 28 rfl) (by decide) ?_
      exact T_sub [2, 3, 1, 0] rfl h
set_option maxRecDepth 100000 in
theorem dtk_X10_addTake : dck cX10_addTake [(0, .iconst 0, 1), (1, .istore_n 3, 1), (2, .iload_n 3, 1), (3, .bipush 6, 2), (5, .if_icmp .ge 35, 3), (8, .iload_n 3, 1), (9, .iload_n 2, 1), (10, .if_icmp .eq 24, 3), (13, .iload_n 1, 1), (14, .iload_n 3, 1), (15, .ishr, 1), (16, .iconst 1, 1), (17, .iand, 1), (18, .iconst 1, 1), (19, .if_icmp .ne 15, 3), (22, .aload_n 0, 1), (23, .getfield 20, 3), (26, .iload_n 3, 1), (27, .dup2, 1), (28, .iaload, 1), (29, .iconst 1, 1), (30, .iload_n 2, 1), (31, .ishl, 1), (32, .ior, 1), (33, .iastore, 1), (34, .iinc 3 1, 3), (37, .goto (-35), 3), (40, .return_, 1)] = true := by decide +kernel
set_option maxRecDepth 100000 in
set_option maxHeartbeats 4000000 in
theorem kg_X10_addTake_0 {G : kG} {q : kP} {d : Nat} {x : gd} {P : Option gv → gd → Prop} (hq : kV q) {o : Nat} (ho : kiT q o) (l1 : Int32) (l2 : Int32)
    (h : KT G q d zk_X10_addTake 2 [(0, vr o), (1, vi l1), (2, vi l2), (3, vi 0)] [] x P) :
    KT G q d zk_X10_addTake 0 [(0, vr o), (1, vi l1), (2, vi l2)] [] x P := by
  refine T_iconst (v := 0) (dk dtk_X10_addTake 0 rfl) (by decide +kernel) ?_
  refine T_istore_n (lv2 := [(3, vi 0), (0, vr o), (1, vi l1), (2, vi l2)]) (dk dtk_X10_addTake 1 rfl) rfl (by decide) rfl ?_
  exact T_sub [1, 2, 3, 0] rfl h
set_option maxRecDepth 100000 in
set_option maxHeartbeats 4000000 in
theorem kg_X10_addTake_2 {G : kG} {q : kP} {d : Nat} {x : gd} {P : Option gv → gd → Prop} (hq : kV q) {o : Nat} (ho : kiT q o) (l1 : Int32) (l2 : Int32) (l3 : Int32)
    (h : (((6 : Int32) ≤ l3 → P none x) ∧ (¬ ((6 : Int32) ≤ l3) → ((l3 = l2 → KT G q d zk_X10_addTake 2 [(0, vr o), (1, vi l1), (2, vi l2), (3, vi (l3 + 1))] [] x P) ∧ (¬ (l3 = l2) → ((¬ (((l1 >>> (l3 &&& 31 : Int32)) &&& 1) = (1 : Int32)) → KT G q d zk_X10_addTake 2 [(0, vr o), (1, vi l1), (2, vi l2), (3, vi (l3 + 1))] [] x P) ∧ (((l1 >>> (l3 &&& 31 : Int32)) &&& 1) = (1 : Int32) → vp_in l3 6 ∧ vp_in l3 6 ∧ (∀ x6 : gd, x6 = si x (o + 9) (l3 : Int32).toNatClampNeg ((x.1 (o + 9) (l3 : Int32).toNatClampNeg) ||| (1 <<< (l2 &&& 31 : Int32))) → KT G q d zk_X10_addTake 2 [(0, vr o), (1, vi l1), (2, vi l2), (3, vi (l3 + 1))] [] x6 P)))))))) :
    KT G q d zk_X10_addTake 2 [(0, vr o), (1, vi l1), (2, vi l2), (3, vi l3)] [] x P := by
  refine T_iload_n 3 (dk dtk_X10_addTake 2 rfl) rfl rfl ?_
  refine T_bipush (v := 6) (dk dtk_X10_addTake 3 rfl) (by decide +kernel) ?_
  refine T_icmp_ge 40 (dk dtk_X10_addTake 4 rfl) (by decide) (fun c1 => ?_) (fun c1 => ?_)
  · have h := h.1 c1
    exact KT_vret (dk dtk_X10_addTake 27 rfl) rfl h
  · have h := h.2 c1
    refine T_iload_n 3 (dk dtk_X10_addTake 5 rfl) rfl rfl ?_
    refine T_iload_n 2 (dk dtk_X10_addTake 6 rfl) rfl rfl ?_
    refine T_icmp_eq 34 (dk dtk_X10_addTake 7 rfl) (by decide) (fun c2 => ?_) (fun c2 => ?_)
    · have h := h.1 c2
      refine T_iinc (v := l3 + 1) (lv2 := [(3, vi (l3 + 1)), (0, vr o), (1, vi l1), (2, vi l2)]) 3 (dk dtk_X10_addTake 25 rfl) rfl rfl (by decide) rfl ?_
      refine T_goto 2 (dk dtk_X10_addTake 26 rfl) (by decide) ?_
      exact T_sub [1, 2, 3, 0] rfl h
    · have h := h.2 c2
      refine T_iload_n 1 (dk dtk_X10_addTake 8 rfl) rfl rfl ?_
      refine T_iload_n 3 (dk dtk_X10_addTake 9 rfl) rfl rfl ?_
      refine T_ishr (dk dtk_X10_addTake 10 rfl) ?_
      refine T_iconst (v := 1) (dk dtk_X10_addTake 11 rfl) (by decide +kernel) ?_
      refine T_iand (dk dtk_X10_addTake 12 rfl) ?_
      refine T_iconst (v := 1) (dk dtk_X10_addTake 13 rfl) (by decide +kernel) ?_
      refine T_icmp_ne 34 (dk dtk_X10_addTake 14 rfl) (by decide) (fun c3 => ?_) (fun c3 => ?_)
      · have h := h.1 c3
        refine T_iinc (v := l3 + 1) (lv2 := [(3, vi (l3 + 1)), (0, vr o), (1, vi l1), (2, vi l2)]) 3 (dk dtk_X10_addTake 25 rfl) rfl rfl (by decide) rfl ?_
        refine T_goto 2 (dk dtk_X10_addTake 26 rfl) (by decide) ?_
        exact T_sub [1, 2, 3, 0] rfl h
      · have h := h.2 c3
        refine T_aload_n 0 (dk dtk_X10_addTake 15 rfl) rfl rfl ?_
        refine T_getR o 8 (o + 9) (dk dtk_X10_addTake 16 rfl) kfl_X10_20 (kk_T0 ho) (kl_T0 hq ho) (by decide) rfl (kr_T_8 ho) ?_
        refine T_iload_n 3 (dk dtk_X10_addTake 17 rfl) rfl rfl ?_
        refine T_dup2 (dk dtk_X10_addTake 18 rfl) rfl rfl ?_
        obtain ⟨h4, h⟩ := h
        refine T_iald (o + 9) 6 (dk dtk_X10_addTake 19 rfl) (kk_T9 ho) (kl_T9 hq ho) h4 ?_
        refine T_iconst (v := 1) (dk dtk_X10_addTake 20 rfl) (by decide +kernel) ?_
        refine T_iload_n 2 (dk dtk_X10_addTake 21 rfl) rfl rfl ?_
        refine T_ishl (dk dtk_X10_addTake 22 rfl) ?_
        refine T_ior (dk dtk_X10_addTake 23 rfl) ?_
        obtain ⟨h5, h⟩ := h
        obtain ⟨x6, ex6⟩ : ∃ z, z = si x (o + 9) (l3 : Int32).toNatClampNeg ((x.1 (o + 9) (l3 : Int32).toNatClampNeg) ||| (1 <<< (l2 &&& 31 : Int32))) := ⟨_, rfl⟩
        have h := h x6 ex6
        refine T_iast (o + 9) 6 (dk dtk_X10_addTake 24 rfl) (kk_T9 ho) (kl_T9 hq ho) h5 ?_
        rw [← ex6]
        refine T_iinc (v := l3 + 1) (lv2 := [(3, vi (l3 + 1)), (0, vr o), (1, vi l1), (2, vi l2)]) 3 (dk dtk_X10_addTake 25 rfl) rfl rfl (by decide) rfl ?_
        refine T_goto 2 (dk dtk_X10_addTake 26 rfl) (by decide) ?_
        exact T_sub [1, 2, 3, 0] rfl h
set_option maxRecDepth 100000 in
theorem dtk_X10_shortestRing : dck cX10_shortestRing [(0, .iconst 0, 1), (1, .istore_n 1, 1), (2, .iconst 0, 1), (3, .istore_n 2, 1), (4, .iload_n 2, 1), (5, .bipush 6, 2), (7, .if_icmp .ge 30, 3), (10, .aload_n 0, 1), (11, .iload_n 2, 1), (12, .invokevirtual 66, 3), (15, .istore_n 3, 1), (16, .iload_n 3, 1), (17, .ifCond .eq 14, 3), (20, .iload_n 1, 1), (21, .ifCond .eq 8, 3), (24, .iload_n 3, 1), (25, .iload_n 1, 1), (26, .if_icmp .ge 5, 3), (29, .iload_n 3, 1), (30, .istore_n 1, 1), (31, .iinc 2 1, 3), (34, .goto (-30), 3), (37, .iload_n 1, 1), (38, .ireturn, 1)] = true := by decide +kernel
set_option maxRecDepth 100000 in
set_option maxHeartbeats 4000000 in
theorem kg_X10_shortestRing_0 {G : kG} {q : kP} {d : Nat} {x : gd} {P : Option gv → gd → Prop} (hq : kV q) {o : Nat} (ho : kiT q o)
    (h : KT G q (d + 1) zk_X10_shortestRing 4 [(0, vr o), (1, vi 0), (2, vi 0)] [] x P) :
    KT G q (d + 1) zk_X10_shortestRing 0 [(0, vr o)] [] x P := by
  refine T_iconst (v := 0) (dk dtk_X10_shortestRing 0 rfl) (by decide +kernel) ?_
  refine T_istore_n (lv2 := [(1, vi 0), (0, vr o)]) (dk dtk_X10_shortestRing 1 rfl) rfl (by decide) rfl ?_
  refine T_iconst (v := 0) (dk dtk_X10_shortestRing 2 rfl) (by decide +kernel) ?_
  refine T_istore_n (lv2 := [(2, vi 0), (1, vi 0), (0, vr o)]) (dk dtk_X10_shortestRing 3 rfl) rfl (by decide) rfl ?_
  exact T_sub [2, 1, 0] rfl h
set_option maxRecDepth 100000 in
set_option maxHeartbeats 4000000 in
theorem kg_X10_shortestRing_4 {G : kG} {q : kP} {d : Nat} {x : gd} {P : Option gv → gd → Prop} (hq : kV q) {o : Nat} (ho : kiT q o) (l1 : Int32) (l2 : Int32)
    (h : (((6 : Int32) ≤ l2 → P (some (vi l1)) x) ∧ (¬ ((6 : Int32) ≤ l2) → KT G q d zk_X10_ringFrom 0 [(0, vr o), (1, vi l2)] [] x (ri (fun r3 x2 => ((r3 = (0 : Int32) → KT G q (d + 1) zk_X10_shortestRing 4 [(0, vr o), (1, vi l1), (2, vi (l2 + 1))] [] x2 P) ∧ (¬ (r3 = (0 : Int32)) → ((l1 = (0 : Int32) → KT G q (d + 1) zk_X10_shortestRing 4 [(0, vr o), (1, vi r3), (2, vi (l2 + 1))] [] x2 P) ∧ (¬ (l1 = (0 : Int32)) → ((l1 ≤ r3 → KT G q (d + 1) zk_X10_shortestRing 4 [(0, vr o), (1, vi l1), (2, vi (l2 + 1))] [] x2 P) ∧ (¬ (l1 ≤ r3) → KT G q (d + 1) zk_X10_shortestRing 4 [(0, vr o), (1, vi r3), (2, vi (l2 + 1))] [] x2 P))))))))))) :
    KT G q (d + 1) zk_X10_shortestRing 4 [(0, vr o), (1, vi l1), (2, vi l2)] [] x P := by
  refine T_iload_n 2 (dk dtk_X10_shortestRing 4 rfl) rfl rfl ?_
  refine T_bipush (v := 6) (dk dtk_X10_shortestRing 5 rfl) (by decide +kernel) ?_
  refine T_icmp_ge 37 (dk dtk_X10_shortestRing 6 rfl) (by decide) (fun c1 => ?_) (fun c1 => ?_)
  · have h := h.1 c1
    refine T_iload_n 1 (dk dtk_X10_shortestRing 22 rfl) rfl rfl ?_
    exact KT_iret (dk dtk_X10_shortestRing 23 rfl) rfl rfl h
  · have h := h.2 c1
    refine T_aload_n 0 (dk dtk_X10_shortestRing 7 rfl) rfl rfl ?_
    refine T_iload_n 2 (dk dtk_X10_shortestRing 8 rfl) rfl rfl ?_
    refine KC_Vi [vi l2] [] rfl (dk dtk_X10_shortestRing 9 rfl) kcv_X10_66 rfl (kk_T0 ho) rfl (kl_T0 hq ho) (Nat.le_of_ble_eq_true rfl) (Nat.le_of_ble_eq_true rfl) (gok_i (av_c (gkr (kl_T0 hq ho)) (av_c rfl (av_c rfl av_n))) as_n) rfl h (fun r3 x2 h => ?_)
    refine T_istore_n (lv2 := [(3, vi r3), (0, vr o), (1, vi l1), (2, vi l2)]) (dk dtk_X10_shortestRing 10 rfl) rfl (by decide) rfl ?_
    refine T_iload_n 0 (dk dtk_X10_shortestRing 11 rfl) rfl rfl ?_
    refine T_if_eq 31 (dk dtk_X10_shortestRing 12 rfl) (by decide) (fun c4 => ?_) (fun c4 => ?_)
    · have h := h.1 c4
      refine T_iinc (v := l2 + 1) (lv2 := [(2, vi (l2 + 1)), (3, vi r3), (0, vr o), (1, vi l1)]) 3 (dk dtk_X10_shortestRing 20 rfl) rfl rfl (by decide) rfl ?_
      refine T_goto 4 (dk dtk_X10_shortestRing 21 rfl) (by decide) ?_
      exact T_sub [2, 3, 0] rfl h
    · have h := h.2 c4
      refine T_iload_n 2 (dk dtk_X10_shortestRing 13 rfl) rfl rfl ?_
      refine T_if_eq 29 (dk dtk_X10_shortestRing 14 rfl) (by decide) (fun c5 => ?_) (fun c5 => ?_)
      · have h := h.1 c5
        refine T_iload_n 0 (dk dtk_X10_shortestRing 18 rfl) rfl rfl ?_
        refine T_istore_n (lv2 := [(1, vi r3), (3, vi r3), (0, vr o), (2, vi l2)]) (dk dtk_X10_shortestRing 19 rfl) rfl (by decide) rfl ?_
        refine T_iinc (v := l2 + 1) (lv2 := [(2, vi (l2 + 1)), (1, vi r3), (3, vi r3), (0, vr o)]) 3 (dk dtk_X10_shortestRing 20 rfl) rfl rfl (by decide) rfl ?_
        refine T_goto 4 (dk dtk_X10_shortestRing 21 rfl) (by decide) ?_
        exact T_sub [3, 1, 0] rfl h
      · have h := h.2 c5
        refine T_iload_n 0 (dk dtk_X10_shortestRing 15 rfl) rfl rfl ?_
        refine T_iload_n 2 (dk dtk_X10_shortestRing 16 rfl) rfl rfl ?_
        refine T_icmp_ge 31 (dk dtk_X10_shortestRing 17 rfl) (by decide) (fun c6 => ?_) (fun c6 => ?_)
        · have h := h.1 c6
          refine T_iinc (v := l2 + 1) (lv2 := [(2, vi (l2 + 1)), (3, vi r3), (0, vr o), (1, vi l1)]) 3 (dk dtk_X10_shortestRing 20 rfl) rfl rfl (by decide) rfl ?_
          refine T_goto 4 (dk dtk_X10_shortestRing 21 rfl) (by decide) ?_
          exact T_sub [2, 3, 0] rfl h
        · have h := h.2 c6
          refine T_iload_n 0 (dk dtk_X10_shortestRing 18 rfl) rfl rfl ?_
          refine T_istore_n (lv2 := [(1, vi r3), (3, vi r3), (0, vr o), (2, vi l2)]) (dk dtk_X10_shortestRing 19 rfl) rfl (by decide) rfl ?_
          refine T_iinc (v := l2 + 1) (lv2 := [(2, vi (l2 + 1)), (1, vi r3), (3, vi r3), (0, vr o)]) 3 (dk dtk_X10_shortestRing 20 rfl) rfl rfl (by decide) rfl ?_
          refine T_goto 4 (dk dtk_X10_shortestRing 21 rfl) (by decide) ?_
          exact T_sub [3, 1, 0] rfl h
set_option maxRecDepth 100000 in
theorem dtk_X10_ringFrom : dck cX10_ringFrom [(0, .iconst 1, 1), (1, .iload_n 1, 1), (2, .ishl, 1), (3, .istore_n 2, 1), (4, .iconst 1, 1), (5, .istore_n 3, 1), (6, .iload_n 3, 1), (7, .bipush 6, 2), (9, .if_icmp .gt 65, 3), (12, .iconst 0, 1), (13, .istore 4, 2), (15, .iconst 0, 1), (16, .istore 5, 2), (18, .iload 5, 2), (20, .bipush 6, 2), (22, .if_icmp .ge 31, 3), (25, .iload_n 2, 1), (26, .iload 5, 2), (28, .ishr, 1), (29, .iconst 1, 1), (30, .iand, 1), (31, .iconst 1, 1), (32, .if_icmp .ne 15, 3), (35, .iload 4, 2), (37, .aload_n 0, 1), (38, .getfield 20, 3), (41, .iload 5, 2), (43, .iaload, 1), (44, .ior, 1), (45, .istore 4, 2), (47, .iinc 5 1, 3), (50, .goto (-32), 3), (53, .iload 4, 2), (55, .iload_n 1, 1), (56, .ishr, 1), (57, .iconst 1, 1), (58, .iand, 1), (59, .iconst 1, 1), (60, .if_icmp .ne 5, 3), (63, .iload_n 3, 1), (64, .ireturn, 1), (65, .iload 4, 2), (67, .istore_n 2, 1), (68, .iinc 3 1, 3), (71, .goto (-65), 3), (74, .iconst 0, 1), (75, .ireturn, 1)] = true := by decide +kernel
set_option maxRecDepth 100000 in
set_option maxHeartbeats 4000000 in
theorem kg_X10_ringFrom_0 {G : kG} {q : kP} {d : Nat} {x : gd} {P : Option gv → gd → Prop} (hq : kV q) {o : Nat} (ho : kiT q o) (l1 : Int32)
    (h : KT G q d zk_X10_ringFrom 6 [(0, vr o), (1, vi l1), (2, vi (1 <<< (l1 &&& 31 : Int32))), (3, vi 1)] [] x P) :
    KT G q d zk_X10_ringFrom 0 [(0, vr o), (1, vi l1)] [] x P := by
  refine T_iconst (v := 1) (dk dtk_X10_ringFrom 0 rfl) (by decide +kernel) ?_
  refine T_iload_n 1 (dk dtk_X10_ringFrom 1 rfl) rfl rfl ?_
  refine T_ishl (dk dtk_X10_ringFrom 2 rfl) ?_
  refine T_istore_n (lv2 := [(2, vi (1 <<< (l1 &&& 31 : Int32))), (0, vr o), (1, vi l1)]) (dk dtk_X10_ringFrom 3 rfl) rfl (by decide) rfl ?_
  refine T_iconst (v := 1) (dk dtk_X10_ringFrom 4 rfl) (by decide +kernel) ?_
  refine T_istore_n (lv2 := [(3, vi 1), (2, vi (1 <<< (l1 &&& 31 : Int32))), (0, vr o), (1, vi l1)]) (dk dtk_X10_ringFrom 5 rfl) rfl (by decide) rfl ?_
  exact T_sub [2, 3, 1, 0] rfl h
set_option maxRecDepth 100000 in
set_option maxHeartbeats 4000000 in
theorem kg_X10_ringFrom_6 {G : kG} {q : kP} {d : Nat} {x : gd} {P : Option gv → gd → Prop} (hq : kV q) {o : Nat} (ho : kiT q o) (l1 : Int32) (l2 : Int32) (l3 : Int32)
    (h : (((6 : Int32) < l3 → P (some (vi 0)) x) ∧ (¬ ((6 : Int32) < l3) → KT G q d zk_X10_ringFrom 18 [(0, vr o), (1, vi l1), (2, vi l2), (3, vi l3), (4, vi 0), (5, vi 0)] [] x P))) :
    KT G q d zk_X10_ringFrom 6 [(0, vr o), (1, vi l1), (2, vi l2), (3, vi l3)] [] x P := by
  refine T_iload_n 3 (dk dtk_X10_ringFrom 6 rfl) rfl rfl ?_
  refine T_bipush (v := 6) (dk dtk_X10_ringFrom 7 rfl) (by decide +kernel) ?_
  refine T_icmp_gt 74 (dk dtk_X10_ringFrom 8 rfl) (by decide) (fun c1 => ?_) (fun c1 => ?_)
  · have h := h.1 c1
    refine T_iconst (v := 0) (dk dtk_X10_ringFrom 45 rfl) (by decide +kernel) ?_
    exact KT_iret (dk dtk_X10_ringFrom 46 rfl) rfl rfl h
  · have h := h.2 c1
    refine T_iconst (v := 0) (dk dtk_X10_ringFrom 9 rfl) (by decide +kernel) ?_
    refine T_istore (lv2 := [(4, vi 0), (0, vr o), (1, vi l1), (2, vi l2), (3, vi l3)]) (dk dtk_X10_ringFrom 10 rfl) (by decide) rfl ?_
    refine T_iconst (v := 0) (dk dtk_X10_ringFrom 11 rfl) (by decide +kernel) ?_
    refine T_istore (lv2 := [(5, vi 0), (4, vi 0), (0, vr o), (1, vi l1), (2, vi l2), (3, vi l3)]) (dk dtk_X10_ringFrom 12 rfl) (by decide) rfl ?_
    exact T_sub [2, 3, 4, 5, 1, 0] rfl h
set_option maxRecDepth 100000 in
set_option maxHeartbeats 4000000 in
theorem kg_X10_ringFrom_18 {G : kG} {q : kP} {d : Nat} {x : gd} {P : Option gv → gd → Prop} (hq : kV q) {o : Nat} (ho : kiT q o) (l1 : Int32) (l2 : Int32) (l3 : Int32) (l4 : Int32) (l5 : Int32)
    (h : (((6 : Int32) ≤ l5 → ((¬ (((l4 >>> (l1 &&& 31 : Int32)) &&& 1) = (1 : Int32)) → KT G q d zk_X10_ringFrom 6 [(0, vr o), (1, vi l1), (2, vi l4), (3, vi (l3 + 1))] [] x P) ∧ (((l4 >>> (l1 &&& 31 : Int32)) &&& 1) = (1 : Int32) → P (some (vi l3)) x))) ∧ (¬ ((6 : Int32) ≤ l5) → ((¬ (((l2 >>> (l5 &&& 31 : Int32)) &&& 1) = (1 : Int32)) → KT G q d zk_X10_ringFrom 18 [(0, vr o), (1, vi l1), (2, vi l2), (3, vi l3), (4, vi l4), (5, vi (l5 + 1))] [] x P) ∧ (((l2 >>> (l5 &&& 31 : Int32)) &&& 1) = (1 : Int32) → vp_in l5 6 ∧ KT G q d zk_X10_ringFrom 18 [(0, vr o), (1, vi l1), (2, vi l2), (3, vi l3), (4, vi (l4 ||| (x.1 (o + 9) (l5 : Int32).toNatClampNeg))), (5, vi (l5 + 1))] [] x P))))) :
    KT G q d zk_X10_ringFrom 18 [(0, vr o), (1, vi l1), (2, vi l2), (3, vi l3), (4, vi l4), (5, vi l5)] [] x P := by
  refine T_iload 5 (dk dtk_X10_ringFrom 13 rfl) rfl ?_
  refine T_bipush (v := 6) (dk dtk_X10_ringFrom 14 rfl) (by decide +kernel) ?_
  refine T_icmp_ge 53 (dk dtk_X10_ringFrom 15 rfl) (by decide) (fun c1 => ?_) (fun c1 => ?_)
  · have h := h.1 c1
    refine T_iload 4 (dk dtk_X10_ringFrom 32 rfl) rfl ?_
    refine T_iload_n 1 (dk dtk_X10_ringFrom 33 rfl) rfl rfl ?_
    refine T_ishr (dk dtk_X10_ringFrom 34 rfl) ?_
    refine T_iconst (v := 1) (dk dtk_X10_ringFrom 35 rfl) (by decide +kernel) ?_
    refine T_iand (dk dtk_X10_ringFrom 36 rfl) ?_
    refine T_iconst (v := 1) (dk dtk_X10_ringFrom 37 rfl) (by decide +kernel) ?_
    refine T_icmp_ne 65 (dk dtk_X10_ringFrom 38 rfl) (by decide) (fun c2 => ?_) (fun c2 => ?_)
    · have h := h.1 c2
      refine T_iload 4 (dk dtk_X10_ringFrom 41 rfl) rfl ?_
      refine T_istore_n (lv2 := [(2, vi l4), (0, vr o), (1, vi l1), (3, vi l3), (4, vi l4), (5, vi l5)]) (dk dtk_X10_ringFrom 42 rfl) rfl (by decide) rfl ?_
      refine T_iinc (v := l3 + 1) (lv2 := [(3, vi (l3 + 1)), (2, vi l4), (0, vr o), (1, vi l1), (4, vi l4), (5, vi l5)]) 3 (dk dtk_X10_ringFrom 43 rfl) rfl rfl (by decide) rfl ?_
      refine T_goto 6 (dk dtk_X10_ringFrom 44 rfl) (by decide) ?_
      exact T_sub [2, 3, 1, 0] rfl h
    · have h := h.2 c2
      refine T_iload_n 3 (dk dtk_X10_ringFrom 39 rfl) rfl rfl ?_
      exact KT_iret (dk dtk_X10_ringFrom 40 rfl) rfl rfl h
  · have h := h.2 c1
    refine T_iload_n 2 (dk dtk_X10_ringFrom 16 rfl) rfl rfl ?_
    refine T_iload 5 (dk dtk_X10_ringFrom 17 rfl) rfl ?_
    refine T_ishr (dk dtk_X10_ringFrom 18 rfl) ?_
    refine T_iconst (v := 1) (dk dtk_X10_ringFrom 19 rfl) (by decide +kernel) ?_
    refine T_iand (dk dtk_X10_ringFrom 20 rfl) ?_
    refine T_iconst (v := 1) (dk dtk_X10_ringFrom 21 rfl) (by decide +kernel) ?_
    refine T_icmp_ne 47 (dk dtk_X10_ringFrom 22 rfl) (by decide) (fun c3 => ?_) (fun c3 => ?_)
    · have h := h.1 c3
      refine T_iinc (v := l5 + 1) (lv2 := [(5, vi (l5 + 1)), (0, vr o), (1, vi l1), (2, vi l2), (3, vi l3), (4, vi l4)]) 5 (dk dtk_X10_ringFrom 30 rfl) rfl rfl (by decide) rfl ?_
      refine T_goto 18 (dk dtk_X10_ringFrom 31 rfl) (by decide) ?_
      exact T_sub [1, 2, 3, 4, 5, 0] rfl h
    · have h := h.2 c3
      refine T_iload 4 (dk dtk_X10_ringFrom 23 rfl) rfl ?_
      refine T_aload_n 0 (dk dtk_X10_ringFrom 24 rfl) rfl rfl ?_
      refine T_getR o 8 (o + 9) (dk dtk_X10_ringFrom 25 rfl) kfl_X10_20 (kk_T0 ho) (kl_T0 hq ho) (by decide) rfl (kr_T_8 ho) ?_
      refine T_iload 5 (dk dtk_X10_ringFrom 26 rfl) rfl ?_
      obtain ⟨h4, h⟩ := h
      refine T_iald (o + 9) 6 (dk dtk_X10_ringFrom 27 rfl) (kk_T9 ho) (kl_T9 hq ho) h4 ?_
      refine T_ior (dk dtk_X10_ringFrom 28 rfl) ?_
      refine T_istore (lv2 := [(4, vi (l4 ||| (x.1 (o + 9) (l5 : Int32).toNatClampNeg))), (0, vr o), (1, vi l1), (2, vi l2), (3, vi l3), (5, vi l5)]) (dk dtk_X10_ringFrom 29 rfl) (by decide) rfl ?_
      refine T_iinc (v := l5 + 1) (lv2 := [(5, vi (l5 + 1)), (4, vi (l4 ||| (x.1 (o + 9) (l5 : Int32).toNatClampNeg))), (0, vr o), (1, vi l1), (2, vi l2), (3, vi l3)]) 5 (dk dtk_X10_ringFrom 30 rfl) rfl rfl (by decide) rfl ?_
      refine T_goto 18 (dk dtk_X10_ringFrom 31 rfl) (by decide) ?_
      exact T_sub [2, 3, 4, 5, 1, 0] rfl h
set_option maxRecDepth 100000 in
theorem dtk_X10_valueOf : dck cX10_valueOf [(0, .aload_n 0, 1), (1, .getfield 33, 3), (4, .aload_n 0, 1), (5, .getfield 37, 3), (8, .iload_n 1, 1), (9, .iaload, 1), (10, .aaload, 1), (11, .iload_n 2, 1), (12, .iaload, 1), (13, .ireturn, 1)] = true := by decide +kernel
set_option maxRecDepth 100000 in
set_option maxHeartbeats 4000000 in
theorem kg_X10_valueOf_0 {G : kG} {q : kP} {d : Nat} {x : gd} {P : Option gv → gd → Prop} (hq : kV q) {o : Nat} (ho : kiT q o) (l1 : Int32) (l2 : Int32)
    (h : vp_in l1 3000 ∧ vp_in (x.1 (o + 14) (l1 : Int32).toNatClampNeg) 3000 ∧ (∀ u3, u3 = (kf q).1 (o + 13) (x.1 (o + 14) (l1 : Int32).toNatClampNeg : Int32).toNatClampNeg → ∃ c4, u3 = some c4 ∧ kK c4 = .inr (.int, 24) ∧ c4 ∈ (kf q).2.1 ∧ vp_in l2 24 ∧ P (some (vi (x.1 c4 (l2 : Int32).toNatClampNeg))) x)) :
    KT G q d zk_X10_valueOf 0 [(0, vr o), (1, vi l1), (2, vi l2)] [] x P := by
  refine T_aload_n 0 (dk dtk_X10_valueOf 0 rfl) rfl rfl ?_
  refine T_getR o 12 (o + 13) (dk dtk_X10_valueOf 1 rfl) kfl_X10_33 (kk_T0 ho) (kl_T0 hq ho) (by decide) rfl (kr_T_12 ho) ?_
  refine T_aload_n 0 (dk dtk_X10_valueOf 2 rfl) rfl rfl ?_
  refine T_getR o 13 (o + 14) (dk dtk_X10_valueOf 3 rfl) kfl_X10_37 (kk_T0 ho) (kl_T0 hq ho) (by decide) rfl (kr_T_13 ho) ?_
  refine T_iload_n 1 (dk dtk_X10_valueOf 4 rfl) rfl rfl ?_
  obtain ⟨h1, h⟩ := h
  refine T_iald (o + 14) 3000 (dk dtk_X10_valueOf 5 rfl) (kk_T14 ho) (kl_T14 hq ho) h1 ?_
  obtain ⟨h2, h⟩ := h
  obtain ⟨u3, eu3⟩ : ∃ z, z = (kf q).1 (o + 13) (x.1 (o + 14) (l1 : Int32).toNatClampNeg : Int32).toNatClampNeg := ⟨_, rfl⟩
  have h := h u3 eu3
  refine T_aaldI (o + 13) 3000 (dk dtk_X10_valueOf 6 rfl) (kk_T13 ho) (kl_T13 hq ho) h2 ?_
  rw [← eu3]
  refine T_iload_n 2 (dk dtk_X10_valueOf 7 rfl) rfl rfl ?_
  obtain ⟨c4, rfl, g5, g6, h⟩ := h
  obtain ⟨h7, h⟩ := h
  refine T_iald c4 24 (dk dtk_X10_valueOf 8 rfl) g5 g6 h7 ?_
  exact KT_iret (dk dtk_X10_valueOf 9 rfl) rfl rfl h
set_option maxRecDepth 100000 in
theorem dtk_X10_addOutcome : dck cX10_addOutcome [(0, .iconst 0, 1), (1, .istore_n 3, 1), (2, .aload_n 0, 1), (3, .getfield 51, 3), (6, .istore 4, 2), (8, .iconst 0, 1), (9, .istore 5, 2), (11, .iload 5, 2), (13, .sipush 3000, 3), (16, .if_icmp .ge 65, 3), (19, .iload_n 3, 1), (20, .iload 4, 2), (22, .if_icmp .ge 59, 3), (25, .iload_n 3, 1), (26, .iload 4, 2), (28, .iadd, 1), (29, .iconst 2, 1), (30, .idiv, 1), (31, .istore 6, 2), (33, .aload_n 0, 1), (34, .getfield 33, 3), (37, .aload_n 0, 1), (38, .getfield 37, 3), (41, .iload 6, 2), (43, .iaload, 1), (44, .aaload, 1), (45, .aload_n 1, 1), (46, .iload_n 2, 1), (47, .invokestatic 70, 3), (50, .istore 7, 2), (52, .iload 7, 2), (54, .ifCond .ne 4, 3), (57, .return_, 1), (58, .iload 7, 2), (60, .ifCond .ge 11, 3), (63, .iload 6, 2), (65, .iconst 1, 1), (66, .iadd, 1), (67, .istore_n 3, 1), (68, .goto 7, 3), (71, .iload 6, 2), (73, .istore 4, 2), (75, .iinc 5 1, 3), (78, .goto (-67), 3), (81, .aload_n 0, 1), (82, .iload_n 3, 1), (83, .aload_n 1, 1), (84, .iload_n 2, 1), (85, .invokevirtual 74, 3), (88, .return_, 1)] = true := by decide +kernel
set_option maxRecDepth 100000 in
theorem dtk_X10_insertOutcome : dck cX10_insertOutcome [(0, .aload_n 0, 1), (1, .getfield 51, 3), (4, .sipush 3000, 3), (7, .if_icmp .lt 4, 3), (10, .return_, 1), (11, .aload_n 0, 1), (12, .getfield 33, 3), (15, .aload_n 0, 1), (16, .getfield 51, 3), (19, .aaload, 1), (20, .ifnonnull 16, 3), (23, .aload_n 0, 1), (24, .getfield 33, 3), (27, .aload_n 0, 1), (28, .getfield 51, 3), (31, .bipush 24, 2), (33, .newarray .int, 2), (35, .aastore, 1), (36, .aload_n 2, 1), (37, .iconst 0, 1), (38, .aload_n 0, 1), (39, .getfield 33, 3), (42, .aload_n 0, 1), (43, .getfield 51, 3), (46, .aaload, 1), (47, .iconst 0, 1), (48, .iload_n 3, 1), (49, .invokestatic 78, 3), (52, .aload_n 0, 1), (53, .getfield 37, 3), (56, .iload_n 1, 1), (57, .aload_n 0, 1), (58, .getfield 37, 3), (61, .iload_n 1, 1), (62, .iconst 1, 1), (63, .iadd, 1), (64, .aload_n 0, 1), (65, .getfield 51, 3), (68, .iload_n 1, 1), (69, .isub, 1), (70, .invokestatic 78, 3), (73, .aload_n 0, 1), (74, .getfield 37, 3), (77, .iload_n 1, 1), (78, .aload_n 0, 1), (79, .getfield 51, 3), (82, .iastore, 1), (83, .aload_n 0, 1), (84, .dup, 1), (85, .getfield 51, 3), (88, .iconst 1, 1), (89, .iadd, 1), (90, .putfield 51, 3), (93, .return_, 1)] = true := by decide +kernel
set_option maxRecDepth 100000 in
theorem dtk_X10_order : dck cX10_order [(0, .iconst 0, 1), (1, .istore_n 3, 1), (2, .iload_n 3, 1), (3, .iload_n 2, 1), (4, .if_icmp .ge 33, 3), (7, .aload_n 0, 1), (8, .iload_n 3, 1), (9, .iaload, 1), (10, .aload_n 1, 1), (11, .iload_n 3, 1), (12, .iaload, 1), (13, .if_icmp .eq 18, 3), (16, .aload_n 0, 1), (17, .iload_n 3, 1), (18, .iaload, 1), (19, .aload_n 1, 1), (20, .iload_n 3, 1), (21, .iaload, 1), (22, .if_icmp .ge 7, 3), (25, .iconst (-1), 1), (26, .goto 4, 3), (29, .iconst 1, 1), (30, .ireturn, 1), (31, .iinc 3 1, 3), (34, .goto (-32), 3), (37, .iconst 0, 1), (38, .ireturn, 1)] = true := by decide +kernel
set_option maxRecDepth 100000 in
set_option maxHeartbeats 4000000 in
theorem kg_X10_order_0 {G : kG} {q : kP} {d : Nat} {x : gd} {P : Option gv → gd → Prop} (hq : kV q) {o : Nat} (ho : kiT q o) {a0 n0 : Nat} (ka0 : kK a0 = .inr (.int, n0)) (ma0 : a0 ∈ (kf q).2.1) {a1 n1 : Nat} (ka1 : kK a1 = .inr (.int, n1)) (ma1 : a1 ∈ (kf q).2.1) (l2 : Int32)
    (h : KT G q d zk_X10_order 2 [(0, vr a0), (1, vr a1), (2, vi l2), (3, vi 0)] [] x P) :
    KT G q d zk_X10_order 0 [(0, vr a0), (1, vr a1), (2, vi l2)] [] x P := by
  refine T_iconst (v := 0) (dk dtk_X10_order 0 rfl) (by decide +kernel) ?_
  refine T_istore_n (lv2 := [(3, vi 0), (0, vr a0), (1, vr a1), (2, vi l2)]) (dk dtk_X10_order 1 rfl) rfl (by decide) rfl ?_
  exact T_sub [1, 2, 3, 0] rfl h
set_option maxRecDepth 100000 in
set_option maxHeartbeats 4000000 in
theorem kg_X10_order_2 {G : kG} {q : kP} {d : Nat} {x : gd} {P : Option gv → gd → Prop} (hq : kV q) {o : Nat} (ho : kiT q o) {a0 n0 : Nat} (ka0 : kK a0 = .inr (.int, n0)) (ma0 : a0 ∈ (kf q).2.1) {a1 n1 : Nat} (ka1 : kK a1 = .inr (.int, n1)) (ma1 : a1 ∈ (kf q).2.1) (l2 : Int32) (l3 : Int32)
    (h : ((l2 ≤ l3 → P (some (vi 0)) x) ∧ (¬ (l2 ≤ l3) → vp_in l3 n0 ∧ vp_in l3 n1 ∧ (((x.1 a0 (l3 : Int32).toNatClampNeg) = (x.1 a1 (l3 : Int32).toNatClampNeg) → KT G q d zk_X10_order 2 [(0, vr a0), (1, vr a1), (2, vi l2), (3, vi (l3 + 1))] [] x P) ∧ (¬ ((x.1 a0 (l3 : Int32).toNatClampNeg) = (x.1 a1 (l3 : Int32).toNatClampNeg)) → vp_in l3 n0 ∧ vp_in l3 n1 ∧ (((x.1 a1 (l3 : Int32).toNatClampNeg) ≤ (x.1 a0 (l3 : Int32).toNatClampNeg) → P (some (vi 1)) x) ∧ (¬ ((x.1 a1 (l3 : Int32).toNatClampNeg) ≤ (x.1 a0 (l3 : Int32).toNatClampNeg)) → P (some (vi (-1))) x))))))) :
    KT G q d zk_X10_order 2 [(0, vr a0), (1, vr a1), (2, vi l2), (3, vi l3)] [] x P := by
  refine T_iload_n 3 (dk dtk_X10_order 2 rfl) rfl rfl ?_
  refine T_iload_n 2 (dk dtk_X10_order 3 rfl) rfl rfl ?_
  refine T_icmp_ge 37 (dk dtk_X10_order 4 rfl) (by decide) (fun c1 => ?_) (fun c1 => ?_)
  · have h := h.1 c1
    refine T_iconst (v := 0) (dk dtk_X10_order 25 rfl) (by decide +kernel) ?_
    exact KT_iret (dk dtk_X10_order 26 rfl) rfl rfl h
  · have h := h.2 c1
    refine T_aload_n 0 (dk dtk_X10_order 5 rfl) rfl rfl ?_
    refine T_iload_n 3 (dk dtk_X10_order 6 rfl) rfl rfl ?_
    obtain ⟨h2, h⟩ := h
    refine T_iald a0 n0 (dk dtk_X10_order 7 rfl) ka0 ma0 h2 ?_
    refine T_aload_n 1 (dk dtk_X10_order 8 rfl) rfl rfl ?_
    refine T_iload_n 3 (dk dtk_X10_order 9 rfl) rfl rfl ?_
    obtain ⟨h3, h⟩ := h
    refine T_iald a1 n1 (dk dtk_X10_order 10 rfl) ka1 ma1 h3 ?_
    refine T_icmp_eq 31 (dk dtk_X10_order 11 rfl) (by decide) (fun c4 => ?_) (fun c4 => ?_)
    · have h := h.1 c4
      refine T_iinc (v := l3 + 1) (lv2 := [(3, vi (l3 + 1)), (0, vr a0), (1, vr a1), (2, vi l2)]) 3 (dk dtk_X10_order 23 rfl) rfl rfl (by decide) rfl ?_
      refine T_goto 2 (dk dtk_X10_order 24 rfl) (by decide) ?_
      exact T_sub [1, 2, 3, 0] rfl h
    · have h := h.2 c4
      refine T_aload_n 0 (dk dtk_X10_order 12 rfl) rfl rfl ?_
      refine T_iload_n 3 (dk dtk_X10_order 13 rfl) rfl rfl ?_
      obtain ⟨h5, h⟩ := h
      refine T_iald a0 n0 (dk dtk_X10_order 14 rfl) ka0 ma0 h5 ?_
      refine T_aload_n 1 (dk dtk_X10_order 15 rfl) rfl rfl ?_
      refine T_iload_n 3 (dk dtk_X10_order 16 rfl) rfl rfl ?_
      obtain ⟨h6, h⟩ := h
      refine T_iald a1 n1 (dk dtk_X10_order 17 rfl) ka1 ma1 h6 ?_
      refine T_icmp_ge 29 (dk dtk_X10_order 18 rfl) (by decide) (fun c7 => ?_) (fun c7 => ?_)
      · have h := h.1 c7
        refine T_iconst (v := 1) (dk dtk_X10_order 21 rfl) (by decide +kernel) ?_
        exact KT_iret (dk dtk_X10_order 22 rfl) rfl rfl h
      · have h := h.2 c7
        refine T_iconst (v := (-1)) (dk dtk_X10_order 19 rfl) (by decide +kernel) ?_
        refine T_goto 30 (dk dtk_X10_order 20 rfl) (by decide) ?_
        exact KT_iret (dk dtk_X10_order 22 rfl) rfl rfl h
end
section
set_option maxRecDepth 100000 in
theorem dtk_X10_sameOutcomes : dck cX10_sameOutcomes [(0, .aload_n 0, 1), (1, .getfield 51, 3), (4, .aload_n 1, 1), (5, .getfield 51, 3), (8, .if_icmp .eq 5, 3), (11, .iconst 0, 1), (12, .ireturn, 1), (13, .iconst 0, 1), (14, .istore_n 3, 1), (15, .iload_n 3, 1), (16, .aload_n 0, 1), (17, .getfield 51, 3), (20, .if_icmp .ge 40, 3), (23, .aload_n 0, 1), (24, .getfield 33, 3), (27, .aload_n 0, 1), (28, .getfield 37, 3), (31, .iload_n 3, 1), (32, .iaload, 1), (33, .aaload, 1), (34, .aload_n 1, 1), (35, .getfield 33, 3), (38, .aload_n 1, 1), (39, .getfield 37, 3), (42, .iload_n 3, 1), (43, .iaload, 1), (44, .aaload, 1), (45, .iload_n 2, 1), (46, .invokestatic 70, 3), (49, .ifCond .eq 5, 3), (52, .iconst 0, 1), (53, .ireturn, 1), (54, .iinc 3 1, 3), (57, .goto (-42), 3), (60, .iconst 1, 1), (61, .ireturn, 1)] = true := by decide +kernel
set_option maxRecDepth 100000 in
set_option maxHeartbeats 4000000 in
theorem kg_X10_sameOutcomes_0 {G : kG} {q : kP} {d : Nat} {x : gd} {P : Option gv → gd → Prop} (hq : kV q) {o : Nat} (ho : kiT q o) {a1 : Nat} (ha1 : kiT q a1) (l2 : Int32)
    (h : (((x.1 o 3) = (x.1 a1 3) → KT G q (d + 1) zk_X10_sameOutcomes 15 [(0, vr o), (1, vr a1), (2, vi l2), (3, vi 0)] [] x P) ∧ (¬ ((x.1 o 3) = (x.1 a1 3)) → P (some (vi 0)) x))) :
    KT G q (d + 1) zk_X10_sameOutcomes 0 [(0, vr o), (1, vr a1), (2, vi l2)] [] x P := by
  refine T_aload_n 0 (dk dtk_X10_sameOutcomes 0 rfl) rfl rfl ?_
  refine T_getI o 3 (dk dtk_X10_sameOutcomes 1 rfl) kfl_X10_51 (kk_T0 ho) (kl_T0 hq ho) (by decide) rfl ?_
  refine T_aload_n 1 (dk dtk_X10_sameOutcomes 2 rfl) rfl rfl ?_
  refine T_getI a1 3 (dk dtk_X10_sameOutcomes 3 rfl) kfl_X10_51 (kk_T0 ha1) (kl_T0 hq ha1) (by decide) rfl ?_
  refine T_icmp_eq 13 (dk dtk_X10_sameOutcomes 4 rfl) (by decide) (fun c1 => ?_) (fun c1 => ?_)
  · have h := h.1 c1
    refine T_iconst (v := 0) (dk dtk_X10_sameOutcomes 7 rfl) (by decide +kernel) ?_
    refine T_istore_n (lv2 := [(3, vi 0), (0, vr o), (1, vr a1), (2, vi l2)]) (dk dtk_X10_sameOutcomes 8 rfl) rfl (by decide) rfl ?_
    exact T_sub [1, 2, 3, 0] rfl h
  · have h := h.2 c1
    refine T_iconst (v := 0) (dk dtk_X10_sameOutcomes 5 rfl) (by decide +kernel) ?_
    exact KT_iret (dk dtk_X10_sameOutcomes 6 rfl) rfl rfl h
set_option maxRecDepth 100000 in
set_option maxHeartbeats 4000000 in
theorem kg_X10_sameOutcomes_15 {G : kG} {q : kP} {d : Nat} {x : gd} {P : Option gv → gd → Prop} (hq : kV q) {o : Nat} (ho : kiT q o) {a1 : Nat} (ha1 : kiT q a1) (l2 : Int32) (l3 : Int32)
    (h : (((x.1 o 3) ≤ l3 → P (some (vi 1)) x) ∧ (¬ ((x.1 o 3) ≤ l3) → vp_in l3 3000 ∧ vp_in (x.1 (o + 14) (l3 : Int32).toNatClampNeg) 3000 ∧ (∀ u4, u4 = (kf q).1 (o + 13) (x.1 (o + 14) (l3 : Int32).toNatClampNeg : Int32).toNatClampNeg → vp_in l3 3000 ∧ vp_in (x.1 (a1 + 14) (l3 : Int32).toNatClampNeg) 3000 ∧ (∀ u7, u7 = (kf q).1 (a1 + 13) (x.1 (a1 + 14) (l3 : Int32).toNatClampNeg : Int32).toNatClampNeg → ∃ c8, u4 = some c8 ∧ kK c8 = .inr (.int, 24) ∧ c8 ∈ (kf q).2.1 ∧ ∃ c11, u7 = some c11 ∧ kK c11 = .inr (.int, 24) ∧ c11 ∈ (kf q).2.1 ∧ KT G q d zk_X10_order 0 [(0, vr c8), (1, vr c11), (2, vi l2)] [] x (ri (fun r15 x14 => ((r15 = (0 : Int32) → KT G q (d + 1) zk_X10_sameOutcomes 15 [(0, vr o), (1, vr a1), (2, vi l2), (3, vi (l3 + 1))] [] x14 P) ∧ (¬ (r15 = (0 : Int32)) → P (some (vi 0)) x14))))))))) :
    KT G q (d + 1) zk_X10_sameOutcomes 15 [(0, vr o), (1, vr a1), (2, vi l2), (3, vi l3)] [] x P := by
  refine T_iload_n 3 (dk dtk_X10_sameOutcomes 9 rfl) rfl rfl ?_
  refine T_aload_n 0 (dk dtk_X10_sameOutcomes 10 rfl) rfl rfl ?_
  refine T_getI o 3 (dk dtk_X10_sameOutcomes 11 rfl) kfl_X10_51 (kk_T0 ho) (kl_T0 hq ho) (by decide) rfl ?_
  refine T_icmp_ge 60 (dk dtk_X10_sameOutcomes 12 rfl) (by decide) (fun c1 => ?_) (fun c1 => ?_)
  · have h := h.1 c1
    refine T_iconst (v := 1) (dk dtk_X10_sameOutcomes 34 rfl) (by decide +kernel) ?_
    exact KT_iret (dk dtk_X10_sameOutcomes 35 rfl) rfl rfl h
  · have h := h.2 c1
    refine T_aload_n 0 (dk dtk_X10_sameOutcomes 13 rfl) rfl rfl ?_
    refine T_getR o 12 (o + 13) (dk dtk_X10_sameOutcomes 14 rfl) kfl_X10_33 (kk_T0 ho) (kl_T0 hq ho) (by decide) rfl (kr_T_12 ho) ?_
    refine T_aload_n 0 (dk dtk_X10_sameOutcomes 15 rfl) rfl rfl ?_
    refine T_getR o 13 (o + 14) (dk dtk_X10_sameOutcomes 16 rfl) kfl_X10_37 (kk_T0 ho) (kl_T0 hq ho) (by decide) rfl (kr_T_13 ho) ?_
    refine T_iload_n 3 (dk dtk_X10_sameOutcomes 17 rfl) rfl rfl ?_
    obtain ⟨h2, h⟩ := h
    refine T_iald (o + 14) 3000 (dk dtk_X10_sameOutcomes 18 rfl) (kk_T14 ho) (kl_T14 hq ho) h2 ?_
    obtain ⟨h3, h⟩ := h
    obtain ⟨u4, eu4⟩ : ∃ z, z = (kf q).1 (o + 13) (x.1 (o + 14) (l3 : Int32).toNatClampNeg : Int32).toNatClampNeg := ⟨_, rfl⟩
    have h := h u4 eu4
    refine T_aaldI (o + 13) 3000 (dk dtk_X10_sameOutcomes 19 rfl) (kk_T13 ho) (kl_T13 hq ho) h3 ?_
    rw [← eu4]
    refine T_aload_n 1 (dk dtk_X10_sameOutcomes 20 rfl) rfl rfl ?_
    refine T_getR a1 12 (a1 + 13) (dk dtk_X10_sameOutcomes 21 rfl) kfl_X10_33 (kk_T0 ha1) (kl_T0 hq ha1) (by decide) rfl (kr_T_12 ha1) ?_
    refine T_aload_n 1 (dk dtk_X10_sameOutcomes 22 rfl) rfl rfl ?_
    refine T_getR a1 13 (a1 + 14) (dk dtk_X10_sameOutcomes 23 rfl) kfl_X10_37 (kk_T0 ha1) (kl_T0 hq ha1) (by decide) rfl (kr_T_13 ha1) ?_
    refine T_iload_n 3 (dk dtk_X10_sameOutcomes 24 rfl) rfl rfl ?_
    obtain ⟨h5, h⟩ := h
    refine T_iald (a1 + 14) 3000 (dk dtk_X10_sameOutcomes 25 rfl) (kk_T14 ha1) (kl_T14 hq ha1) h5 ?_
    obtain ⟨h6, h⟩ := h
    obtain ⟨u7, eu7⟩ : ∃ z, z = (kf q).1 (a1 + 13) (x.1 (a1 + 14) (l3 : Int32).toNatClampNeg : Int32).toNatClampNeg := ⟨_, rfl⟩
    have h := h u7 eu7
    refine T_aaldI (a1 + 13) 3000 (dk dtk_X10_sameOutcomes 26 rfl) (kk_T13 ha1) (kl_T13 hq ha1) h6 ?_
    rw [← eu7]
    refine T_iload_n 2 (dk dtk_X10_sameOutcomes 27 rfl) rfl rfl ?_
    obtain ⟨c8, rfl, g9, g10, h⟩ := h
    obtain ⟨c11, rfl, g12, g13, h⟩ := h
    refine KC_Si [vr c8, vr c11, vi l2] [] rfl (dk dtk_X10_sameOutcomes 28 rfl) kcs_X10_70 rfl (Nat.le_of_ble_eq_true rfl) (Nat.le_of_ble_eq_true rfl) (gok_i (av_c (gkr (kl_T0 hq ho)) (av_c (gkr (kl_T0 hq ha1)) (av_c rfl (av_c rfl av_n)))) as_n) rfl h (fun r15 x14 h => ?_)
    refine T_if_eq 54 (dk dtk_X10_sameOutcomes 29 rfl) (by decide) (fun c16 => ?_) (fun c16 => ?_)
    · have h := h.1 c16
      refine T_iinc (v := l3 + 1) (lv2 := [(3, vi (l3 + 1)), (0, vr o), (1, vr a1), (2, vi l2)]) 3 (dk dtk_X10_sameOutcomes 32 rfl) rfl rfl (by decide) rfl ?_
      refine T_goto 15 (dk dtk_X10_sameOutcomes 33 rfl) (by decide) ?_
      exact T_sub [1, 2, 3, 0] rfl h
    · have h := h.2 c16
      refine T_iconst (v := 0) (dk dtk_X10_sameOutcomes 30 rfl) (by decide +kernel) ?_
      exact KT_iret (dk dtk_X10_sameOutcomes 31 rfl) rfl rfl h
set_option maxRecDepth 100000 in
theorem dtk_X2_explore : dck cX2_explore [(0, .aload_n 0, 1), (1, .aload_n 3, 1), (2, .putfield 44, 3), (5, .aload_n 0, 1), (6, .getfield 44, 3), (9, .iconst 1, 1), (10, .aload_n 0, 1), (11, .getfield 9, 3), (14, .getfield 48, 3), (17, .ishl, 1), (18, .iconst 1, 1), (19, .isub, 1), (20, .invokevirtual 54, 3), (23, .aload_n 0, 1), (24, .getfield 33, 3), (27, .iconst 0, 1), (28, .invokestatic 60, 3), (31, .aload_n 0, 1), (32, .getfield 20, 3), (35, .iload_n 1, 1), (36, .invokevirtual 66, 3), (39, .aload_n 0, 1), (40, .iconst (-1), 1), (41, .iconst (-1), 1), (42, .iload_n 2, 1), (43, .invokevirtual 69, 3), (46, .iconst 0, 1), (47, .istore 4, 2), (49, .iload 4, 2), (51, .aload_n 0, 1), (52, .getfield 44, 3), (55, .getfield 73, 3), (58, .if_icmp .ge 95, 3), (61, .iload 4, 2), (63, .sipush 3000, 3), (66, .if_icmp .ge 87, 3), (69, .aload_n 0, 1), (70, .iload 4, 2), (72, .invokevirtual 76, 3), (75, .aload_n 0, 1), (76, .getfield 20, 3), (79, .invokevirtual 79, 3), (82, .aload_n 0, 1), (83, .invokevirtual 82, 3), (86, .aload_n 0, 1), (87, .iload 4, 2), (89, .invokevirtual 85, 3), (92, .iconst 0, 1), (93, .istore 5, 2), (95, .iload 5, 2), (97, .aload_n 0, 1), (98, .getfield 20, 3), (101, .getfield 88, 3), (104, .if_icmp .ge 43, 3), (107, .aload_n 0, 1), (108, .getfield 44, 3), (111, .getfield 91, 3), (114, .ifCond .ne 33, 3), (117, .aload_n 0, 1), (118, .iload 4, 2), (120, .invokevirtual 76, 3), (123, .aload_n 0, 1), (124, .getfield 20, 3), (127, .iload 5, 2), (129, .invokevirtual 95, 3), (132, .aload_n 0, 1), (133, .iload 4, 2), (135, .iload 5, 2), (137, .iload_n 2, 1), (138, .invokevirtual 69, 3), (141, .iinc 5 1, 3), (144, .goto (-49), 3), (147, .iinc 4 1, 3), (150, .goto (-101), 3), (153, .return_, 1)] = true := by decide +kernel
set_option maxRecDepth 100000 in
theorem dtk_X2_addState : dck cX2_addState [(0, .aload_n 0, 1), (1, .invokevirtual 98, 3), (4, .ifCond .eq 4, 3), (7, .return_, 1), (8, .aload_n 0, 1), (9, .getfield 44, 3), (12, .getfield 73, 3), (15, .iload_n 3, 1), (16, .if_icmp .lt 14, 3), (19, .aload_n 0, 1), (20, .getfield 44, 3), (23, .iconst 1, 1), (24, .putfield 91, 3), (27, .goto 9, 3), (30, .aload_n 0, 1), (31, .iload_n 1, 1), (32, .iload_n 2, 1), (33, .invokevirtual 102, 3), (36, .return_, 1)] = true := by decide +kernel
set_option maxRecDepth 100000 in
theorem dtk_X2_recall : dck cX2_recall [(0, .aload_n 0, 1), (1, .getfield 26, 3), (4, .iload_n 1, 1), (5, .aaload, 1), (6, .iconst 0, 1), (7, .aload_n 0, 1), (8, .getfield 20, 3), (11, .getfield 106, 3), (14, .iconst 0, 1), (15, .aload_n 0, 1), (16, .getfield 20, 3), (19, .getfield 109, 3), (22, .invokestatic 112, 3), (25, .return_, 1)] = true := by decide +kernel
set_option maxRecDepth 100000 in
set_option maxHeartbeats 4000000 in
theorem kg_X2_recall_0 {G : kG} {q : kP} {d : Nat} {x : gd} {P : Option gv → gd → Prop} (hq : kV q) (he : q.ex = true) (l1 : Int32)
    (h : vp_in l1 3000 ∧ (∀ u2, u2 = (kf q).1 203 (l1 : Int32).toNatClampNeg → ∃ c3, u2 = some c3 ∧ kK c3 = .inr (.int, 228) ∧ c3 ∈ (kf q).2.1 ∧ ¬ (0 : Int32) < 0 ∧ ¬ (0 : Int32) < 0 ∧ ¬ (x.1 220 5) < 0 ∧ (0 : Int32).toNatClampNeg + (x.1 220 5 : Int32).toNatClampNeg ≤ 228 ∧ (0 : Int32).toNatClampNeg + (x.1 220 5 : Int32).toNatClampNeg ≤ 228 ∧ (∀ x11 : gd, x11 = scp x c3 225 (0 : Int32).toNatClampNeg (0 : Int32).toNatClampNeg (x.1 220 5 : Int32).toNatClampNeg → P none x11))) :
    KT G q (d + 2) zk_X2_recall 0 [(0, vr 200), (1, vi l1)] [] x P := by
  refine T_aload_n 0 (dk dtk_X2_recall 0 rfl) rfl rfl ?_
  refine T_getR 200 2 203 (dk dtk_X2_recall 1 rfl) kfl_X2_26 kk_200 (kl_200 hq he) (by decide) rfl kr_200_2 ?_
  refine T_iload_n 1 (dk dtk_X2_recall 2 rfl) rfl rfl ?_
  obtain ⟨h1, h⟩ := h
  obtain ⟨u2, eu2⟩ : ∃ z, z = (kf q).1 203 (l1 : Int32).toNatClampNeg := ⟨_, rfl⟩
  have h := h u2 eu2
  refine T_aaldI 203 3000 (dk dtk_X2_recall 3 rfl) kk_203 (kl_203 hq he) h1 ?_
  rw [← eu2]
  refine T_iconst (v := 0) (dk dtk_X2_recall 4 rfl) (by decide +kernel) ?_
  refine T_aload_n 0 (dk dtk_X2_recall 5 rfl) rfl rfl ?_
  refine T_getR 200 1 220 (dk dtk_X2_recall 6 rfl) kfl_X2_20 kk_200 (kl_200 hq he) (by decide) rfl kr_200_1 ?_
  refine T_getR 220 4 225 (dk dtk_X2_recall 7 rfl) kfl_X2_106 kk_220 (kl_220 hq he) (by decide) rfl kr_220_4 ?_
  refine T_iconst (v := 0) (dk dtk_X2_recall 8 rfl) (by decide +kernel) ?_
  refine T_aload_n 0 (dk dtk_X2_recall 9 rfl) rfl rfl ?_
  refine T_getR 200 1 220 (dk dtk_X2_recall 10 rfl) kfl_X2_20 kk_200 (kl_200 hq he) (by decide) rfl kr_200_1 ?_
  refine T_getI 220 5 (dk dtk_X2_recall 11 rfl) kfl_X2_109 kk_220 (kl_220 hq he) (by decide) rfl ?_
  obtain ⟨c3, rfl, g4, g5, h⟩ := h
  refine T_sub (lv2 := []) [] rfl ?_
  obtain ⟨h6, h7, h8, h9, h10, h⟩ := h
  obtain ⟨x11, ex11⟩ : ∃ z, z = scp x c3 225 (0 : Int32).toNatClampNeg (0 : Int32).toNatClampNeg (x.1 220 5 : Int32).toNatClampNeg := ⟨_, rfl⟩
  have h := h x11 ex11
  refine T_copy c3 225 228 228 (dk dtk_X2_recall 12 rfl) kcy_X2_112 g4 g5 kk_225 (kl_225 hq he) (by omega) (Nat.le_of_ble_eq_true rfl) h6 h7 h8 h9 h10 ?_
  rw [← ex11]
  exact KT_vret (dk dtk_X2_recall 13 rfl) rfl h
set_option maxRecDepth 100000 in
theorem dtk_X2_isKept : dck cX2_isKept [(0, .aload_n 0, 1), (1, .aload_n 0, 1), (2, .getfield 20, 3), (5, .invokevirtual 118, 3), (8, .putfield 122, 3), (11, .aload_n 0, 1), (12, .aload_n 0, 1), (13, .getfield 122, 3), (16, .sipush 8191, 3), (19, .iand, 1), (20, .putfield 124, 3), (23, .iconst 0, 1), (24, .istore_n 1, 1), (25, .iload_n 1, 1), (26, .sipush 8192, 3), (29, .if_icmp .ge 78, 3), (32, .aload_n 0, 1), (33, .getfield 33, 3), (36, .aload_n 0, 1), (37, .getfield 124, 3), (40, .iaload, 1), (41, .ifCond .eq 66, 3), (44, .aload_n 0, 1), (45, .getfield 33, 3), (48, .aload_n 0, 1), (49, .getfield 124, 3), (52, .iaload, 1), (53, .iconst 1, 1), (54, .isub, 1), (55, .istore_n 2, 1), (56, .aload_n 0, 1), (57, .getfield 30, 3), (60, .iload_n 2, 1), (61, .iaload, 1), (62, .aload_n 0, 1), (63, .getfield 122, 3), (66, .if_icmp .ne 21, 3), (69, .aload_n 0, 1), (70, .getfield 20, 3), (73, .aload_n 0, 1), (74, .getfield 26, 3), (77, .iload_n 2, 1), (78, .aaload, 1), (79, .invokevirtual 127, 3), (82, .ifCond .eq 5, 3), (85, .iconst 1, 1), (86, .ireturn, 1), (87, .aload_n 0, 1), (88, .aload_n 0, 1), (89, .getfield 124, 3), (92, .iconst 1, 1), (93, .iadd, 1), (94, .sipush 8191, 3), (97, .iand, 1), (98, .putfield 124, 3), (101, .iinc 1 1, 3), (104, .goto (-79), 3), (107, .iconst 0, 1), (108, .ireturn, 1)] = true := by decide +kernel
set_option maxRecDepth 100000 in
set_option maxHeartbeats 4000000 in
theorem kg_X2_isKept_0 {G : kG} {q : kP} {d : Nat} {x : gd} {P : Option gv → gd → Prop} (hq : kV q) (he : q.ex = true)
    (h : KT G q d zk_X5_mix 0 [(0, vr 220)] [] x (ri (fun r2 x1 => (∀ x3 : gd, x3 = si x1 200 6 r2 → (∀ x4 : gd, x4 = si x3 200 5 ((x3.1 200 6) &&& 8191) → KT G q (d + 1) zk_X2_isKept 25 [(0, vr 200), (1, vi 0)] [] x4 P))))) :
    KT G q (d + 1) zk_X2_isKept 0 [(0, vr 200)] [] x P := by
  refine T_aload_n 0 (dk dtk_X2_isKept 0 rfl) rfl rfl ?_
  refine T_aload_n 0 (dk dtk_X2_isKept 1 rfl) rfl rfl ?_
  refine T_getR 200 1 220 (dk dtk_X2_isKept 2 rfl) kfl_X2_20 kk_200 (kl_200 hq he) (by decide) rfl kr_200_1 ?_
  refine KC_Vi [] [vr 200] rfl (dk dtk_X2_isKept 3 rfl) kcv_X2_118 rfl kk_220 rfl (kl_220 hq he) (Nat.le_of_ble_eq_true rfl) (Nat.le_of_ble_eq_true rfl) (gok_i (av_c (gkr (kl_200 hq he)) av_n) (as_c (gkr (kl_200 hq he)) as_n)) rfl h (fun r2 x1 h => ?_)
  obtain ⟨x3, ex3⟩ : ∃ z, z = si x1 200 6 r2 := ⟨_, rfl⟩
  have h := h x3 ex3
  refine T_putI 200 6 (dk dtk_X2_isKept 4 rfl) kfl_X2_122 kk_200 (kl_200 hq he) (by decide) rfl ⟨rfl, rfl⟩ ?_
  rw [← ex3]
  refine T_aload_n 0 (dk dtk_X2_isKept 5 rfl) rfl rfl ?_
  refine T_aload_n 0 (dk dtk_X2_isKept 6 rfl) rfl rfl ?_
  refine T_getI 200 6 (dk dtk_X2_isKept 7 rfl) kfl_X2_122 kk_200 (kl_200 hq he) (by decide) rfl ?_
  refine T_sipush (v := 8191) (dk dtk_X2_isKept 8 rfl) (by decide +kernel) ?_
  refine T_iand (dk dtk_X2_isKept 9 rfl) ?_
  obtain ⟨x4, ex4⟩ : ∃ z, z = si x3 200 5 ((x3.1 200 6) &&& 8191) := ⟨_, rfl⟩
  have h := h x4 ex4
  refine T_putI 200 5 (dk dtk_X2_isKept 10 rfl) kfl_X2_124 kk_200 (kl_200 hq he) (by decide) rfl ⟨rfl, rfl⟩ ?_
  rw [← ex4]
  refine T_iconst (v := 0) (dk dtk_X2_isKept 11 rfl) (by decide +kernel) ?_
  refine T_istore_n (lv2 := [(1, vi 0), (0, vr 200)]) (dk dtk_X2_isKept 12 rfl) rfl (by decide) rfl ?_
  exact T_sub [1, 0] rfl h
set_option maxRecDepth 100000 in
set_option maxHeartbeats 4000000 in
theorem kg_X2_isKept_25 {G : kG} {q : kP} {d : Nat} {x : gd} {P : Option gv → gd → Prop} (hq : kV q) (he : q.ex = true) (l1 : Int32)
    (h : (((8192 : Int32) ≤ l1 → P (some (vi 0)) x) ∧ (¬ ((8192 : Int32) ≤ l1) → vp_in (x.1 200 5) 8192 ∧ (((x.1 205 (x.1 200 5 : Int32).toNatClampNeg) = (0 : Int32) → P (some (vi 0)) x) ∧ (¬ ((x.1 205 (x.1 200 5 : Int32).toNatClampNeg) = (0 : Int32)) → vp_in (x.1 200 5) 8192 ∧ vp_in ((x.1 205 (x.1 200 5 : Int32).toNatClampNeg) - 1) 3000 ∧ ((¬ ((x.1 204 ((x.1 205 (x.1 200 5 : Int32).toNatClampNeg) - 1 : Int32).toNatClampNeg) = (x.1 200 6)) → (∀ x7 : gd, x7 = si x 200 5 (((x.1 200 5) + 1) &&& 8191) → KT G q (d + 1) zk_X2_isKept 25 [(0, vr 200), (1, vi (l1 + 1))] [] x7 P)) ∧ ((x.1 204 ((x.1 205 (x.1 200 5 : Int32).toNatClampNeg) - 1 : Int32).toNatClampNeg) = (x.1 200 6) → vp_in ((x.1 205 (x.1 200 5 : Int32).toNatClampNeg) - 1) 3000 ∧ (∀ u9, u9 = (kf q).1 203 ((x.1 205 (x.1 200 5 : Int32).toNatClampNeg) - 1 : Int32).toNatClampNeg → ∃ c10, u9 = some c10 ∧ kK c10 = .inr (.int, 228) ∧ c10 ∈ (kf q).2.1 ∧ KT G q d zk_X5_isSame 0 [(0, vr 220), (1, vr c10)] [] x (ri (fun r14 x13 => ((r14 = (0 : Int32) → (∀ x16 : gd, x16 = si x13 200 5 (((x13.1 200 5) + 1) &&& 8191) → KT G q (d + 1) zk_X2_isKept 25 [(0, vr 200), (1, vi (l1 + 1))] [] x16 P)) ∧ (¬ (r14 = (0 : Int32)) → P (some (vi 1)) x13)))))))))))) :
    KT G q (d + 1) zk_X2_isKept 25 [(0, vr 200), (1, vi l1)] [] x P := by
  refine T_iload_n 1 (dk dtk_X2_isKept 13 rfl) rfl rfl ?_
  refine T_sipush (v := 8192) (dk dtk_X2_isKept 14 rfl) (by decide +kernel) ?_
  refine T_icmp_ge 107 (dk dtk_X2_isKept 15 rfl) (by decide) (fun c1 => ?_) (fun c1 => ?_)
  · have h := h.1 c1
    refine T_iconst (v := 0) (dk dtk_X2_isKept 57 rfl) (by decide +kernel) ?_
    exact KT_iret (dk dtk_X2_isKept 58 rfl) rfl rfl h
  · have h := h.2 c1
    refine T_aload_n 0 (dk dtk_X2_isKept 16 rfl) rfl rfl ?_
    refine T_getR 200 4 205 (dk dtk_X2_isKept 17 rfl) kfl_X2_33 kk_200 (kl_200 hq he) (by decide) rfl kr_200_4 ?_
    refine T_aload_n 0 (dk dtk_X2_isKept 18 rfl) rfl rfl ?_
    refine T_getI 200 5 (dk dtk_X2_isKept 19 rfl) kfl_X2_124 kk_200 (kl_200 hq he) (by decide) rfl ?_
    obtain ⟨h2, h⟩ := h
    refine T_iald 205 8192 (dk dtk_X2_isKept 20 rfl) kk_205 (kl_205 hq he) h2 ?_
    refine T_if_eq 107 (dk dtk_X2_isKept 21 rfl) (by decide) (fun c3 => ?_) (fun c3 => ?_)
    · have h := h.1 c3
      refine T_iconst (v := 0) (dk dtk_X2_isKept 57 rfl) (by decide +kernel) ?_
      exact KT_iret (dk dtk_X2_isKept 58 rfl) rfl rfl h
    · have h := h.2 c3
      refine T_aload_n 0 (dk dtk_X2_isKept 22 rfl) rfl rfl ?_
      refine T_getR 200 4 205 (dk dtk_X2_isKept 23 rfl) kfl_X2_33 kk_200 (kl_200 hq he) (by decide) rfl kr_200_4 ?_
      refine T_aload_n 0 (dk dtk_X2_isKept 24 rfl) rfl rfl ?_
      refine T_getI 200 5 (dk dtk_X2_isKept 25 rfl) kfl_X2_124 kk_200 (kl_200 hq he) (by decide) rfl ?_
      obtain ⟨h4, h⟩ := h
      refine T_iald 205 8192 (dk dtk_X2_isKept 26 rfl) kk_205 (kl_205 hq he) h4 ?_
      refine T_iconst (v := 1) (dk dtk_X2_isKept 27 rfl) (by decide +kernel) ?_
      refine T_isub (dk dtk_X2_isKept 28 rfl) ?_
      refine T_istore_n (lv2 := [(2, vi ((x.1 205 (x.1 200 5 : Int32).toNatClampNeg) - 1)), (0, vr 200), (1, vi l1)]) (dk dtk_X2_isKept 29 rfl) rfl (by decide) rfl ?_
      refine T_aload_n 1 (dk dtk_X2_isKept 30 rfl) rfl rfl ?_
      refine T_getR 200 3 204 (dk dtk_X2_isKept 31 rfl) kfl_X2_30 kk_200 (kl_200 hq he) (by decide) rfl kr_200_3 ?_
      refine T_iload_n 0 (dk dtk_X2_isKept 32 rfl) rfl rfl ?_
      obtain ⟨h5, h⟩ := h
      refine T_iald 204 3000 (dk dtk_X2_isKept 33 rfl) kk_204 (kl_204 hq he) h5 ?_
      refine T_aload_n 1 (dk dtk_X2_isKept 34 rfl) rfl rfl ?_
      refine T_getI 200 6 (dk dtk_X2_isKept 35 rfl) kfl_X2_122 kk_200 (kl_200 hq he) (by decide) rfl ?_
      refine T_icmp_ne 87 (dk dtk_X2_isKept 36 rfl) (by decide) (fun c6 => ?_) (fun c6 => ?_)
      · have h := h.1 c6
        refine T_aload_n 1 (dk dtk_X2_isKept 47 rfl) rfl rfl ?_
        refine T_aload_n 1 (dk dtk_X2_isKept 48 rfl) rfl rfl ?_
        refine T_getI 200 5 (dk dtk_X2_isKept 49 rfl) kfl_X2_124 kk_200 (kl_200 hq he) (by decide) rfl ?_
        refine T_iconst (v := 1) (dk dtk_X2_isKept 50 rfl) (by decide +kernel) ?_
        refine T_iadd (dk dtk_X2_isKept 51 rfl) ?_
        refine T_sipush (v := 8191) (dk dtk_X2_isKept 52 rfl) (by decide +kernel) ?_
        refine T_iand (dk dtk_X2_isKept 53 rfl) ?_
        obtain ⟨x7, ex7⟩ : ∃ z, z = si x 200 5 (((x.1 200 5) + 1) &&& 8191) := ⟨_, rfl⟩
        have h := h x7 ex7
        refine T_putI 200 5 (dk dtk_X2_isKept 54 rfl) kfl_X2_124 kk_200 (kl_200 hq he) (by decide) rfl ⟨rfl, rfl⟩ ?_
        rw [← ex7]
        refine T_iinc (v := l1 + 1) (lv2 := [(1, vi (l1 + 1)), (2, vi ((x.1 205 (x.1 200 5 : Int32).toNatClampNeg) - 1)), (0, vr 200)]) 2 (dk dtk_X2_isKept 55 rfl) rfl rfl (by decide) rfl ?_
        refine T_goto 25 (dk dtk_X2_isKept 56 rfl) (by decide) ?_
        exact T_sub [2, 0] rfl h
      · have h := h.2 c6
        refine T_aload_n 1 (dk dtk_X2_isKept 37 rfl) rfl rfl ?_
        refine T_getR 200 1 220 (dk dtk_X2_isKept 38 rfl) kfl_X2_20 kk_200 (kl_200 hq he) (by decide) rfl kr_200_1 ?_
        refine T_aload_n 1 (dk dtk_X2_isKept 39 rfl) rfl rfl ?_
        refine T_getR 200 2 203 (dk dtk_X2_isKept 40 rfl) kfl_X2_26 kk_200 (kl_200 hq he) (by decide) rfl kr_200_2 ?_
        refine T_iload_n 0 (dk dtk_X2_isKept 41 rfl) rfl rfl ?_
        obtain ⟨h8, h⟩ := h
        obtain ⟨u9, eu9⟩ : ∃ z, z = (kf q).1 203 ((x.1 205 (x.1 200 5 : Int32).toNatClampNeg) - 1 : Int32).toNatClampNeg := ⟨_, rfl⟩
        have h := h u9 eu9
        refine T_aaldI 203 3000 (dk dtk_X2_isKept 42 rfl) kk_203 (kl_203 hq he) h8 ?_
        rw [← eu9]
        obtain ⟨c10, rfl, g11, g12, h⟩ := h
        refine T_sub (lv2 := [(0, vr 200), (1, vi l1)]) [1, 2] rfl ?_
        refine KC_Vi [vr c10] [] rfl (dk dtk_X2_isKept 43 rfl) kcv_X2_127 rfl kk_220 rfl (kl_220 hq he) (Nat.le_of_ble_eq_true rfl) (Nat.le_of_ble_eq_true rfl) (gok_i (av_c (gkr (kl_200 hq he)) (av_c rfl av_n)) as_n) rfl h (fun r14 x13 h => ?_)
        refine T_if_eq 87 (dk dtk_X2_isKept 44 rfl) (by decide) (fun c15 => ?_) (fun c15 => ?_)
        · have h := h.1 c15
          refine T_aload_n 0 (dk dtk_X2_isKept 47 rfl) rfl rfl ?_
          refine T_aload_n 0 (dk dtk_X2_isKept 48 rfl) rfl rfl ?_
          refine T_getI 200 5 (dk dtk_X2_isKept 49 rfl) kfl_X2_124 kk_200 (kl_200 hq he) (by decide) rfl ?_
          refine T_iconst (v := 1) (dk dtk_X2_isKept 50 rfl) (by decide +kernel) ?_
          refine T_iadd (dk dtk_X2_isKept 51 rfl) ?_
          refine T_sipush (v := 8191) (dk dtk_X2_isKept 52 rfl) (by decide +kernel) ?_
          refine T_iand (dk dtk_X2_isKept 53 rfl) ?_
          obtain ⟨x16, ex16⟩ : ∃ z, z = si x13 200 5 (((x13.1 200 5) + 1) &&& 8191) := ⟨_, rfl⟩
          have h := h x16 ex16
          refine T_putI 200 5 (dk dtk_X2_isKept 54 rfl) kfl_X2_124 kk_200 (kl_200 hq he) (by decide) rfl ⟨rfl, rfl⟩ ?_
          rw [← ex16]
          refine T_iinc (v := l1 + 1) (lv2 := [(1, vi (l1 + 1)), (0, vr 200)]) 1 (dk dtk_X2_isKept 55 rfl) rfl rfl (by decide) rfl ?_
          refine T_goto 25 (dk dtk_X2_isKept 56 rfl) (by decide) ?_
          exact T_sub [1, 0] rfl h
        · have h := h.2 c15
          refine T_iconst (v := 1) (dk dtk_X2_isKept 45 rfl) (by decide +kernel) ?_
          exact KT_iret (dk dtk_X2_isKept 46 rfl) rfl rfl h
set_option maxRecDepth 100000 in
theorem dtk_X2_keep : dck cX2_keep [(0, .aload_n 0, 1), (1, .getfield 44, 3), (4, .getfield 73, 3), (7, .istore_n 3, 1), (8, .iload_n 3, 1), (9, .sipush 3000, 3), (12, .if_icmp .lt 4, 3), (15, .return_, 1), (16, .aload_n 0, 1), (17, .getfield 26, 3), (20, .iload_n 3, 1), (21, .aaload, 1), (22, .ifnonnull 14, 3), (25, .aload_n 0, 1), (26, .getfield 26, 3), (29, .iload_n 3, 1), (30, .sipush 228, 3), (33, .newarray .int, 2), (35, .aastore, 1), (36, .aload_n 0, 1), (37, .getfield 20, 3), (40, .getfield 106, 3), (43, .iconst 0, 1), (44, .aload_n 0, 1), (45, .getfield 26, 3), (48, .iload_n 3, 1), (49, .aaload, 1), (50, .iconst 0, 1), (51, .aload_n 0, 1), (52, .getfield 20, 3), (55, .getfield 109, 3), (58, .invokestatic 112, 3), (61, .aload_n 0, 1), (62, .getfield 30, 3), (65, .iload_n 3, 1), (66, .aload_n 0, 1), (67, .getfield 122, 3), (70, .iastore, 1), (71, .aload_n 0, 1), (72, .getfield 33, 3), (75, .aload_n 0, 1), (76, .getfield 124, 3), (79, .iload_n 3, 1), (80, .iconst 1, 1), (81, .iadd, 1), (82, .iastore, 1), (83, .aload_n 0, 1), (84, .getfield 44, 3), (87, .iload_n 1, 1), (88, .iload_n 2, 1), (89, .invokevirtual 131, 3), (92, .return_, 1)] = true := by decide +kernel
set_option maxRecDepth 100000 in
theorem dtk_X2_inspect : dck cX2_inspect [(0, .aload_n 0, 1), (1, .getfield 44, 3), (4, .dup, 1), (5, .getfield 133, 3), (8, .aload_n 0, 1), (9, .getfield 20, 3), (12, .getfield 88, 3), (15, .iadd, 1), (16, .putfield 133, 3), (19, .iconst 0, 1), (20, .istore_n 2, 1), (21, .iload_n 2, 1), (22, .aload_n 0, 1), (23, .getfield 9, 3), (26, .getfield 136, 3), (29, .if_icmp .ge 34, 3), (32, .aload_n 0, 1), (33, .aload_n 0, 1), (34, .getfield 9, 3), (37, .getfield 139, 3), (40, .iload_n 2, 1), (41, .iaload, 1), (42, .invokevirtual 142, 3), (45, .ifCond .eq 12, 3), (48, .aload_n 0, 1), (49, .getfield 44, 3), (52, .iload_n 2, 1), (53, .iload_n 1, 1), (54, .invokevirtual 146, 3), (57, .iinc 2 1, 3), (60, .goto (-39), 3), (63, .aload_n 0, 1), (64, .getfield 20, 3), (67, .getfield 88, 3), (70, .ifCond .ne 8, 3), (73, .aload_n 0, 1), (74, .iload_n 1, 1), (75, .invokevirtual 149, 3), (78, .aload_n 0, 1), (79, .getfield 20, 3), (82, .invokevirtual 152, 3), (85, .ifCond .eq 13, 3), (88, .aload_n 0, 1), (89, .getfield 44, 3), (92, .bipush 9, 2), (94, .iload_n 1, 1), (95, .invokevirtual 146, 3), (98, .aload_n 0, 1), (99, .invokevirtual 155, 3), (102, .ifCond .eq 13, 3), (105, .aload_n 0, 1), (106, .getfield 44, 3), (109, .bipush 10, 2), (111, .iload_n 1, 1), (112, .invokevirtual 146, 3), (115, .return_, 1)] = true := by decide +kernel
set_option maxRecDepth 100000 in
theorem dtk_X2_inspectEnd : dck cX2_inspectEnd [(0, .aload_n 0, 1), (1, .getfield 44, 3), (4, .dup, 1), (5, .getfield 158, 3), (8, .iconst 1, 1), (9, .iadd, 1), (10, .putfield 158, 3), (13, .aload_n 0, 1), (14, .getfield 44, 3), (17, .aload_n 0, 1), (18, .getfield 20, 3), (21, .getfield 106, 3), (24, .aload_n 0, 1), (25, .getfield 9, 3), (28, .getfield 161, 3), (31, .invokevirtual 164, 3), (34, .aload_n 0, 1), (35, .getfield 20, 3), (38, .invokevirtual 167, 3), (41, .ifCond .eq 14, 3), (44, .aload_n 0, 1), (45, .getfield 44, 3), (48, .bipush 8, 2), (50, .iload_n 1, 1), (51, .invokevirtual 146, 3), (54, .return_, 1), (55, .iconst 0, 1), (56, .istore_n 2, 1), (57, .iload_n 2, 1), (58, .aload_n 0, 1), (59, .getfield 9, 3), (62, .getfield 170, 3), (65, .if_icmp .ge 36, 3), (68, .aload_n 0, 1), (69, .aload_n 0, 1), (70, .getfield 9, 3), (73, .getfield 173, 3), (76, .iload_n 2, 1), (77, .iaload, 1), (78, .invokevirtual 142, 3), (81, .ifCond .eq 14, 3), (84, .aload_n 0, 1), (85, .getfield 44, 3), (88, .iconst 4, 1), (89, .iload_n 2, 1), (90, .iadd, 1), (91, .iload_n 1, 1), (92, .invokevirtual 146, 3), (95, .iinc 2 1, 3), (98, .goto (-41), 3), (101, .return_, 1)] = true := by decide +kernel
set_option maxRecDepth 100000 in
theorem dtk_X2_isFalse : dck cX2_isFalse [(0, .aload_n 0, 1), (1, .getfield 9, 3), (4, .iload_n 1, 1), (5, .aload_n 0, 1), (6, .getfield 20, 3), (9, .getfield 106, 3), (12, .iconst 0, 1), (13, .iconst 0, 1), (14, .invokevirtual 176, 3), (17, .ifCond .eq 13, 3), (20, .aload_n 0, 1), (21, .getfield 9, 3), (24, .getfield 180, 3), (27, .ifCond .eq 7, 3), (30, .iconst 1, 1), (31, .goto 4, 3), (34, .iconst 0, 1), (35, .ireturn, 1)] = true := by decide +kernel
set_option maxRecDepth 100000 in
set_option maxHeartbeats 4000000 in
theorem kg_X2_isFalse_0 {G : kG} {q : kP} {d : Nat} {x : gd} {P : Option gv → gd → Prop} (hq : kV q) (he : q.ex = true) (l1 : Int32)
    (h : KT G q d zk_X0_work 0 [(0, vr 60), (1, vi l1), (2, vr 225), (3, vi 0), (4, vi 0)] [] x (ri (fun r2 x1 => ((r2 = (0 : Int32) → P (some (vi 1)) x1) ∧ (¬ (r2 = (0 : Int32)) → (((x1.1 60 5) = (0 : Int32) → P (some (vi 0)) x1) ∧ (¬ ((x1.1 60 5) = (0 : Int32)) → P (some (vi 1)) x1))))))) :
    KT G q (d + 1) zk_X2_isFalse 0 [(0, vr 200), (1, vi l1)] [] x P := by
  refine T_aload_n 0 (dk dtk_X2_isFalse 0 rfl) rfl rfl ?_
  refine T_getR 200 0 60 (dk dtk_X2_isFalse 1 rfl) kfl_X2_9 kk_200 (kl_200 hq he) (by decide) rfl kr_200_0 ?_
  refine T_iload_n 1 (dk dtk_X2_isFalse 2 rfl) rfl rfl ?_
  refine T_aload_n 0 (dk dtk_X2_isFalse 3 rfl) rfl rfl ?_
  refine T_getR 200 1 220 (dk dtk_X2_isFalse 4 rfl) kfl_X2_20 kk_200 (kl_200 hq he) (by decide) rfl kr_200_1 ?_
  refine T_getR 220 4 225 (dk dtk_X2_isFalse 5 rfl) kfl_X2_106 kk_220 (kl_220 hq he) (by decide) rfl kr_220_4 ?_
  refine T_iconst (v := 0) (dk dtk_X2_isFalse 6 rfl) (by decide +kernel) ?_
  refine T_iconst (v := 0) (dk dtk_X2_isFalse 7 rfl) (by decide +kernel) ?_
  refine T_sub (lv2 := [(0, vr 200)]) [0] rfl ?_
  refine KC_Vi [vi l1, vr 225, vi 0, vi 0] [] rfl (dk dtk_X2_isFalse 8 rfl) kcv_X2_176 rfl kk_60 rfl (kl_60 hq) (Nat.le_of_ble_eq_true rfl) (Nat.le_of_ble_eq_true rfl) (gok_i (av_c (gkr (kl_200 hq he)) av_n) as_n) rfl h (fun r2 x1 h => ?_)
  refine T_if_eq 30 (dk dtk_X2_isFalse 9 rfl) (by decide) (fun c3 => ?_) (fun c3 => ?_)
  · have h := h.1 c3
    refine T_iconst (v := 1) (dk dtk_X2_isFalse 14 rfl) (by decide +kernel) ?_
    refine T_goto 35 (dk dtk_X2_isFalse 15 rfl) (by decide) ?_
    exact KT_iret (dk dtk_X2_isFalse 17 rfl) rfl rfl h
  · have h := h.2 c3
    refine T_aload_n 0 (dk dtk_X2_isFalse 10 rfl) rfl rfl ?_
    refine T_getR 200 0 60 (dk dtk_X2_isFalse 11 rfl) kfl_X2_9 kk_200 (kl_200 hq he) (by decide) rfl kr_200_0 ?_
    refine T_getI 60 5 (dk dtk_X2_isFalse 12 rfl) kfl_X2_180 kk_60 (kl_60 hq) (by decide) rfl ?_
    refine T_if_eq 34 (dk dtk_X2_isFalse 13 rfl) (by decide) (fun c4 => ?_) (fun c4 => ?_)
    · have h := h.1 c4
      refine T_iconst (v := 0) (dk dtk_X2_isFalse 16 rfl) (by decide +kernel) ?_
      exact KT_iret (dk dtk_X2_isFalse 17 rfl) rfl rfl h
    · have h := h.2 c4
      refine T_iconst (v := 1) (dk dtk_X2_isFalse 14 rfl) (by decide +kernel) ?_
      refine T_goto 35 (dk dtk_X2_isFalse 15 rfl) (by decide) ?_
      exact KT_iret (dk dtk_X2_isFalse 17 rfl) rfl rfl h
set_option maxRecDepth 100000 in
theorem dtk_X2_inspectActs : dck cX2_inspectActs [(0, .iconst 0, 1), (1, .istore_n 1, 1), (2, .iconst 0, 1), (3, .istore_n 2, 1), (4, .iload_n 2, 1), (5, .aload_n 0, 1), (6, .getfield 20, 3), (9, .getfield 88, 3), (12, .if_icmp .ge 36, 3), (15, .aload_n 0, 1), (16, .getfield 20, 3), (19, .getfield 183, 3), (22, .iload_n 2, 1), (23, .iaload, 1), (24, .iconst (-1), 1), (25, .if_icmp .ne 17, 3), (28, .iload_n 1, 1), (29, .iconst 1, 1), (30, .aload_n 0, 1), (31, .getfield 20, 3), (34, .getfield 186, 3), (37, .iload_n 2, 1), (38, .iaload, 1), (39, .ishl, 1), (40, .ior, 1), (41, .istore_n 1, 1), (42, .iinc 2 1, 3), (45, .goto (-41), 3), (48, .iconst 0, 1), (49, .istore_n 2, 1), (50, .iconst 0, 1), (51, .istore_n 3, 1), (52, .iload_n 3, 1), (53, .aload_n 0, 1), (54, .getfield 9, 3), (57, .getfield 189, 3), (60, .if_icmp .ge 46, 3), (63, .aload_n 0, 1), (64, .getfield 38, 3), (67, .iload_n 3, 1), (68, .iconst (-1), 1), (69, .iastore, 1), (70, .iload_n 1, 1), (71, .iload_n 3, 1), (72, .ishr, 1), (73, .iconst 1, 1), (74, .iand, 1), (75, .iconst 1, 1), (76, .if_icmp .ne 11, 3), (79, .aload_n 0, 1), (80, .iload_n 3, 1), (81, .invokevirtual 192, 3), (84, .goto 16, 3), (87, .aload_n 0, 1), (88, .getfield 20, 3), (91, .iload_n 3, 1), (92, .invokevirtual 195, 3), (95, .ifCond .eq 5, 3), (98, .iconst 1, 1), (99, .istore_n 2, 1), (100, .iinc 3 1, 3), (103, .goto (-51), 3), (106, .iload_n 2, 1), (107, .ifCond .eq 16, 3), (110, .aload_n 0, 1), (111, .getfield 44, 3), (114, .dup, 1), (115, .getfield 198, 3), (118, .iconst 1, 1), (119, .iadd, 1), (120, .putfield 198, 3), (123, .return_, 1)] = true := by decide +kernel
set_option maxRecDepth 100000 in
set_option maxHeartbeats 4000000 in
theorem kg_X2_inspectActs_0 {G : kG} {q : kP} {d : Nat} {x : gd} {P : Option gv → gd → Prop} (hq : kV q) (he : q.ex = true)
    (h : KT G q (d + 1) zk_X2_inspectActs 4 [(0, vr 200), (1, vi 0), (2, vi 0)] [] x P) :
    KT G q (d + 1) zk_X2_inspectActs 0 [(0, vr 200)] [] x P := by
  refine T_iconst (v := 0) (dk dtk_X2_inspectActs 0 rfl) (by decide +kernel) ?_
  refine T_istore_n (lv2 := [(1, vi 0), (0, vr 200)]) (dk dtk_X2_inspectActs 1 rfl) rfl (by decide) rfl ?_
  refine T_iconst (v := 0) (dk dtk_X2_inspectActs 2 rfl) (by decide +kernel) ?_
  refine T_istore_n (lv2 := [(2, vi 0), (1, vi 0), (0, vr 200)]) (dk dtk_X2_inspectActs 3 rfl) rfl (by decide) rfl ?_
  exact T_sub [2, 1, 0] rfl h
set_option maxRecDepth 100000 in
set_option maxHeartbeats 4000000 in
theorem kg_X2_inspectActs_4 {G : kG} {q : kP} {d : Nat} {x : gd} {P : Option gv → gd → Prop} (hq : kV q) (he : q.ex = true) (l1 : Int32) (l2 : Int32)
    (h : (((x.1 220 13) ≤ l2 → KT G q (d + 1) zk_X2_inspectActs 52 [(0, vr 200), (1, vi l1), (2, vi 0), (3, vi 0)] [] x P) ∧ (¬ ((x.1 220 13) ≤ l2) → vp_in l2 84 ∧ ((¬ ((x.1 232 (l2 : Int32).toNatClampNeg) = (-1 : Int32)) → KT G q (d + 1) zk_X2_inspectActs 4 [(0, vr 200), (1, vi l1), (2, vi (l2 + 1))] [] x P) ∧ ((x.1 232 (l2 : Int32).toNatClampNeg) = (-1 : Int32) → vp_in l2 84 ∧ KT G q (d + 1) zk_X2_inspectActs 4 [(0, vr 200), (1, vi (l1 ||| (1 <<< ((x.1 231 (l2 : Int32).toNatClampNeg) &&& 31 : Int32)))), (2, vi (l2 + 1))] [] x P))))) :
    KT G q (d + 1) zk_X2_inspectActs 4 [(0, vr 200), (1, vi l1), (2, vi l2)] [] x P := by
  refine T_iload_n 2 (dk dtk_X2_inspectActs 4 rfl) rfl rfl ?_
  refine T_aload_n 0 (dk dtk_X2_inspectActs 5 rfl) rfl rfl ?_
  refine T_getR 200 1 220 (dk dtk_X2_inspectActs 6 rfl) kfl_X2_20 kk_200 (kl_200 hq he) (by decide) rfl kr_200_1 ?_
  refine T_getI 220 13 (dk dtk_X2_inspectActs 7 rfl) kfl_X2_88 kk_220 (kl_220 hq he) (by decide) rfl ?_
  refine T_icmp_ge 48 (dk dtk_X2_inspectActs 8 rfl) (by decide) (fun c1 => ?_) (fun c1 => ?_)
  · have h := h.1 c1
    refine T_iconst (v := 0) (dk dtk_X2_inspectActs 28 rfl) (by decide +kernel) ?_
    refine T_istore_n (lv2 := [(2, vi 0), (0, vr 200), (1, vi l1)]) (dk dtk_X2_inspectActs 29 rfl) rfl (by decide) rfl ?_
    refine T_iconst (v := 0) (dk dtk_X2_inspectActs 30 rfl) (by decide +kernel) ?_
    refine T_istore_n (lv2 := [(3, vi 0), (2, vi 0), (0, vr 200), (1, vi l1)]) (dk dtk_X2_inspectActs 31 rfl) rfl (by decide) rfl ?_
    exact T_sub [2, 3, 1, 0] rfl h
  · have h := h.2 c1
    refine T_aload_n 0 (dk dtk_X2_inspectActs 9 rfl) rfl rfl ?_
    refine T_getR 200 1 220 (dk dtk_X2_inspectActs 10 rfl) kfl_X2_20 kk_200 (kl_200 hq he) (by decide) rfl kr_200_1 ?_
    refine T_getR 220 11 232 (dk dtk_X2_inspectActs 11 rfl) kfl_X2_183 kk_220 (kl_220 hq he) (by decide) rfl kr_220_11 ?_
    refine T_iload_n 2 (dk dtk_X2_inspectActs 12 rfl) rfl rfl ?_
    obtain ⟨h2, h⟩ := h
    refine T_iald 232 84 (dk dtk_X2_inspectActs 13 rfl) kk_232 (kl_232 hq he) h2 ?_
    refine T_iconst (v := (-1)) (dk dtk_X2_inspectActs 14 rfl) (by decide +kernel) ?_
    refine T_icmp_ne 42 (dk dtk_X2_inspectActs 15 rfl) (by decide) (fun c3 => ?_) (fun c3 => ?_)
    · have h := h.1 c3
      refine T_iinc (v := l2 + 1) (lv2 := [(2, vi (l2 + 1)), (0, vr 200), (1, vi l1)]) 2 (dk dtk_X2_inspectActs 26 rfl) rfl rfl (by decide) rfl ?_
      refine T_goto 4 (dk dtk_X2_inspectActs 27 rfl) (by decide) ?_
      exact T_sub [1, 2, 0] rfl h
    · have h := h.2 c3
      refine T_iload_n 1 (dk dtk_X2_inspectActs 16 rfl) rfl rfl ?_
      refine T_iconst (v := 1) (dk dtk_X2_inspectActs 17 rfl) (by decide +kernel) ?_
      refine T_aload_n 0 (dk dtk_X2_inspectActs 18 rfl) rfl rfl ?_
      refine T_getR 200 1 220 (dk dtk_X2_inspectActs 19 rfl) kfl_X2_20 kk_200 (kl_200 hq he) (by decide) rfl kr_200_1 ?_
      refine T_getR 220 10 231 (dk dtk_X2_inspectActs 20 rfl) kfl_X2_186 kk_220 (kl_220 hq he) (by decide) rfl kr_220_10 ?_
      refine T_iload_n 2 (dk dtk_X2_inspectActs 21 rfl) rfl rfl ?_
      obtain ⟨h4, h⟩ := h
      refine T_iald 231 84 (dk dtk_X2_inspectActs 22 rfl) kk_231 (kl_231 hq he) h4 ?_
      refine T_ishl (dk dtk_X2_inspectActs 23 rfl) ?_
      refine T_ior (dk dtk_X2_inspectActs 24 rfl) ?_
      refine T_istore_n (lv2 := [(1, vi (l1 ||| (1 <<< ((x.1 231 (l2 : Int32).toNatClampNeg) &&& 31 : Int32)))), (0, vr 200), (2, vi l2)]) (dk dtk_X2_inspectActs 25 rfl) rfl (by decide) rfl ?_
      refine T_iinc (v := l2 + 1) (lv2 := [(2, vi (l2 + 1)), (1, vi (l1 ||| (1 <<< ((x.1 231 (l2 : Int32).toNatClampNeg) &&& 31 : Int32)))), (0, vr 200)]) 2 (dk dtk_X2_inspectActs 26 rfl) rfl rfl (by decide) rfl ?_
      refine T_goto 4 (dk dtk_X2_inspectActs 27 rfl) (by decide) ?_
      exact T_sub [2, 1, 0] rfl h
set_option maxRecDepth 100000 in
set_option maxHeartbeats 4000000 in
theorem kg_X2_inspectActs_52 {G : kG} {q : kP} {d : Nat} {x : gd} {P : Option gv → gd → Prop} (hq : kV q) (he : q.ex = true) (l1 : Int32) (l2 : Int32) (l3 : Int32)
    (h : (((x.1 60 10) ≤ l3 → ((l2 = (0 : Int32) → P none x) ∧ (¬ (l2 = (0 : Int32)) → (∀ u3, u3 = (kf q).1 200 7 → ∃ c4, u3 = some c4 ∧ kiT q c4 ∧ (∀ x6 : gd, x6 = si x c4 4 ((x.1 c4 4) + 1) → P none x6))))) ∧ (¬ ((x.1 60 10) ≤ l3) → vp_in l3 6 ∧ (∀ x8 : gd, x8 = si x 209 (l3 : Int32).toNatClampNeg (-1) → ((¬ (((l1 >>> (l3 &&& 31 : Int32)) &&& 1) = (1 : Int32)) → KT G q d zk_X5_isGoing 0 [(0, vr 220), (1, vi l3)] [] x8 (ri (fun r11 x10 => ((r11 = (0 : Int32) → KT G q (d + 1) zk_X2_inspectActs 52 [(0, vr 200), (1, vi l1), (2, vi l2), (3, vi (l3 + 1))] [] x10 P) ∧ (¬ (r11 = (0 : Int32)) → KT G q (d + 1) zk_X2_inspectActs 52 [(0, vr 200), (1, vi l1), (2, vi 1), (3, vi (l3 + 1))] [] x10 P))))) ∧ (((l1 >>> (l3 &&& 31 : Int32)) &&& 1) = (1 : Int32) → KT G q d zk_X2_inspectAct 0 [(0, vr 200), (1, vi l3)] [] x8 (rv (fun x13 => KT G q (d + 1) zk_X2_inspectActs 52 [(0, vr 200), (1, vi l1), (2, vi l2), (3, vi (l3 + 1))] [] x13 P)))))))) :
    KT G q (d + 1) zk_X2_inspectActs 52 [(0, vr 200), (1, vi l1), (2, vi l2), (3, vi l3)] [] x P := by
  refine T_iload_n 3 (dk dtk_X2_inspectActs 32 rfl) rfl rfl ?_
  refine T_aload_n 0 (dk dtk_X2_inspectActs 33 rfl) rfl rfl ?_
  refine T_getR 200 0 60 (dk dtk_X2_inspectActs 34 rfl) kfl_X2_9 kk_200 (kl_200 hq he) (by decide) rfl kr_200_0 ?_
  refine T_getI 60 10 (dk dtk_X2_inspectActs 35 rfl) kfl_X2_189 kk_60 (kl_60 hq) (by decide) rfl ?_
  refine T_icmp_ge 106 (dk dtk_X2_inspectActs 36 rfl) (by decide) (fun c1 => ?_) (fun c1 => ?_)
  · have h := h.1 c1
    refine T_iload_n 2 (dk dtk_X2_inspectActs 62 rfl) rfl rfl ?_
    refine T_if_eq 123 (dk dtk_X2_inspectActs 63 rfl) (by decide) (fun c2 => ?_) (fun c2 => ?_)
    · have h := h.1 c2
      exact KT_vret (dk dtk_X2_inspectActs 71 rfl) rfl h
    · have h := h.2 c2
      refine T_aload_n 0 (dk dtk_X2_inspectActs 64 rfl) rfl rfl ?_
      obtain ⟨u3, eu3⟩ : ∃ z, z = (kf q).1 200 7 := ⟨_, rfl⟩
      have h := h u3 eu3
      refine T_getO 200 7 (dk dtk_X2_inspectActs 65 rfl) kfl_X2_44 kk_200 (kl_200 hq he) (by decide) rfl ?_
      rw [← eu3]
      refine T_dup (dk dtk_X2_inspectActs 66 rfl) rfl ?_
      obtain ⟨c4, rfl, g5, h⟩ := h
      refine T_getI c4 4 (dk dtk_X2_inspectActs 67 rfl) kfl_X2_198 (kk_T0 g5) (kl_T0 hq g5) (by decide) rfl ?_
      refine T_iconst (v := 1) (dk dtk_X2_inspectActs 68 rfl) (by decide +kernel) ?_
      refine T_iadd (dk dtk_X2_inspectActs 69 rfl) ?_
      obtain ⟨x6, ex6⟩ : ∃ z, z = si x c4 4 ((x.1 c4 4) + 1) := ⟨_, rfl⟩
      have h := h x6 ex6
      refine T_putI c4 4 (dk dtk_X2_inspectActs 70 rfl) kfl_X2_198 (kk_T0 g5) (kl_T0 hq g5) (by decide) rfl ⟨rfl, rfl⟩ ?_
      rw [← ex6]
      exact KT_vret (dk dtk_X2_inspectActs 71 rfl) rfl h
  · have h := h.2 c1
    refine T_aload_n 0 (dk dtk_X2_inspectActs 37 rfl) rfl rfl ?_
    refine T_getR 200 8 209 (dk dtk_X2_inspectActs 38 rfl) kfl_X2_38 kk_200 (kl_200 hq he) (by decide) rfl kr_200_8 ?_
    refine T_iload_n 3 (dk dtk_X2_inspectActs 39 rfl) rfl rfl ?_
    refine T_iconst (v := (-1)) (dk dtk_X2_inspectActs 40 rfl) (by decide +kernel) ?_
    obtain ⟨h7, h⟩ := h
    obtain ⟨x8, ex8⟩ : ∃ z, z = si x 209 (l3 : Int32).toNatClampNeg (-1) := ⟨_, rfl⟩
    have h := h x8 ex8
    refine T_iast 209 6 (dk dtk_X2_inspectActs 41 rfl) kk_209 (kl_209 hq he) h7 ?_
    rw [← ex8]
    refine T_iload_n 1 (dk dtk_X2_inspectActs 42 rfl) rfl rfl ?_
    refine T_iload_n 3 (dk dtk_X2_inspectActs 43 rfl) rfl rfl ?_
    refine T_ishr (dk dtk_X2_inspectActs 44 rfl) ?_
    refine T_iconst (v := 1) (dk dtk_X2_inspectActs 45 rfl) (by decide +kernel) ?_
    refine T_iand (dk dtk_X2_inspectActs 46 rfl) ?_
    refine T_iconst (v := 1) (dk dtk_X2_inspectActs 47 rfl) (by decide +kernel) ?_
    refine T_icmp_ne 87 (dk dtk_X2_inspectActs 48 rfl) (by decide) (fun c9 => ?_) (fun c9 => ?_)
    · have h := h.1 c9
      refine T_aload_n 0 (dk dtk_X2_inspectActs 53 rfl) rfl rfl ?_
      refine T_getR 200 1 220 (dk dtk_X2_inspectActs 54 rfl) kfl_X2_20 kk_200 (kl_200 hq he) (by decide) rfl kr_200_1 ?_
      refine T_iload_n 3 (dk dtk_X2_inspectActs 55 rfl) rfl rfl ?_
      refine KC_Vi [vi l3] [] rfl (dk dtk_X2_inspectActs 56 rfl) kcv_X2_195 rfl kk_220 rfl (kl_220 hq he) (Nat.le_of_ble_eq_true rfl) (Nat.le_of_ble_eq_true rfl) (gok_i (av_c (gkr (kl_200 hq he)) (av_c rfl (av_c rfl (av_c rfl av_n)))) as_n) rfl h (fun r11 x10 h => ?_)
      refine T_if_eq 100 (dk dtk_X2_inspectActs 57 rfl) (by decide) (fun c12 => ?_) (fun c12 => ?_)
      · have h := h.1 c12
        refine T_iinc (v := l3 + 1) (lv2 := [(3, vi (l3 + 1)), (0, vr 200), (1, vi l1), (2, vi l2)]) 3 (dk dtk_X2_inspectActs 60 rfl) rfl rfl (by decide) rfl ?_
        refine T_goto 52 (dk dtk_X2_inspectActs 61 rfl) (by decide) ?_
        exact T_sub [1, 2, 3, 0] rfl h
      · have h := h.2 c12
        refine T_iconst (v := 1) (dk dtk_X2_inspectActs 58 rfl) (by decide +kernel) ?_
        refine T_istore_n (lv2 := [(2, vi 1), (0, vr 200), (1, vi l1), (3, vi l3)]) (dk dtk_X2_inspectActs 59 rfl) rfl (by decide) rfl ?_
        refine T_iinc (v := l3 + 1) (lv2 := [(3, vi (l3 + 1)), (2, vi 1), (0, vr 200), (1, vi l1)]) 3 (dk dtk_X2_inspectActs 60 rfl) rfl rfl (by decide) rfl ?_
        refine T_goto 52 (dk dtk_X2_inspectActs 61 rfl) (by decide) ?_
        exact T_sub [2, 3, 1, 0] rfl h
    · have h := h.2 c9
      refine T_aload_n 0 (dk dtk_X2_inspectActs 49 rfl) rfl rfl ?_
      refine T_iload_n 3 (dk dtk_X2_inspectActs 50 rfl) rfl rfl ?_
      refine KC_Vv [vi l3] [] rfl (dk dtk_X2_inspectActs 51 rfl) kcv_X2_192 rfl kk_200 rfl (kl_200 hq he) (Nat.le_of_ble_eq_true rfl) (Nat.le_of_ble_eq_true rfl) (gok_i (av_c (gkr (kl_200 hq he)) (av_c rfl (av_c rfl (av_c rfl av_n)))) as_n) rfl h (fun x13 h => ?_)
      refine T_goto 100 (dk dtk_X2_inspectActs 52 rfl) (by decide) ?_
      refine T_iinc (v := l3 + 1) (lv2 := [(3, vi (l3 + 1)), (0, vr 200), (1, vi l1), (2, vi l2)]) 3 (dk dtk_X2_inspectActs 60 rfl) rfl rfl (by decide) rfl ?_
      refine T_goto 52 (dk dtk_X2_inspectActs 61 rfl) (by decide) ?_
      exact T_sub [1, 2, 3, 0] rfl h
set_option maxRecDepth 100000 in
theorem dtk_X2_inspectAct : dck cX2_inspectAct [(0, .aload_n 0, 1), (1, .getfield 20, 3), (4, .iload_n 1, 1), (5, .invokevirtual 201, 3), (8, .istore_n 2, 1), (9, .aload_n 0, 1), (10, .getfield 20, 3), (13, .iload_n 1, 1), (14, .invokevirtual 205, 3), (17, .istore_n 3, 1), (18, .iload_n 2, 1), (19, .iconst 5, 1), (20, .if_icmp .ne 19, 3), (23, .aload_n 0, 1), (24, .getfield 44, 3), (27, .aload_n 0, 1), (28, .getfield 20, 3), (31, .iload_n 1, 1), (32, .invokevirtual 208, 3), (35, .iload_n 3, 1), (36, .invokevirtual 211, 3), (39, .iload_n 2, 1), (40, .iconst 4, 1), (41, .if_icmp .gt 8, 3), (44, .iload_n 3, 1), (45, .iconst (-1), 1), (46, .if_icmp .ne 4, 3), (49, .return_, 1), (50, .aload_n 0, 1), (51, .getfield 44, 3), (54, .getfield 214, 3), (57, .iload_n 3, 1), (58, .dup2, 1), (59, .iaload, 1), (60, .aload_n 0, 1), (61, .getfield 20, 3), (64, .iload_n 1, 1), (65, .invokevirtual 208, 3), (68, .iand, 1), (69, .iastore, 1), (70, .aload_n 0, 1), (71, .getfield 9, 3), (74, .getfield 217, 3), (77, .iload_n 3, 1), (78, .baload, 1), (79, .ifCond .ne 28, 3), (82, .aload_n 0, 1), (83, .getfield 20, 3), (86, .iload_n 1, 1), (87, .invokevirtual 221, 3), (90, .ifCond .ne 17, 3), (93, .aload_n 0, 1), (94, .getfield 38, 3), (97, .iload_n 1, 1), (98, .iload_n 3, 1), (99, .iastore, 1), (100, .aload_n 0, 1), (101, .getfield 41, 3), (104, .iload_n 1, 1), (105, .iload_n 2, 1), (106, .iastore, 1), (107, .return_, 1)] = true := by decide +kernel
set_option maxRecDepth 100000 in
set_option maxHeartbeats 4000000 in
theorem kg_X2_inspectAct_0 {G : kG} {q : kP} {d : Nat} {x : gd} {P : Option gv → gd → Prop} (hq : kV q) (he : q.ex = true) (l1 : Int32)
    (h : KT G q d zk_X5_sortOf 0 [(0, vr 220), (1, vi l1)] [] x (ri (fun r2 x1 => KT G q d zk_X5_objectOf 0 [(0, vr 220), (1, vi l1)] [] x1 (ri (fun r4 x3 => ((¬ (r2 = (5 : Int32)) → KT G q (d + 1) zk_X2_inspectAct 39 [(0, vr 200), (1, vi l1), (2, vi r2), (3, vi r4)] [] x3 P) ∧ (r2 = (5 : Int32) → (∀ u6, u6 = (kf q).1 200 7 → gokv (kf q).2.1 (vo u6) = true ∧ KT G q d zk_X5_heldBy 0 [(0, vr 220), (1, vi l1)] [] x3 (ri (fun r9 x8 => ∃ c10, u6 = some c10 ∧ kiT q c10 ∧ KT G q d zk_X10_addTake 0 [(0, vr c10), (1, vi r9), (2, vi r4)] [] x8 (rv (fun x12 => KT G q (d + 1) zk_X2_inspectAct 39 [(0, vr 200), (1, vi l1), (2, vi r2), (3, vi r4)] [] x12 P)))))))))))) :
    KT G q (d + 1) zk_X2_inspectAct 0 [(0, vr 200), (1, vi l1)] [] x P := by
  refine T_aload_n 0 (dk dtk_X2_inspectAct 0 rfl) rfl rfl ?_
  refine T_getR 200 1 220 (dk dtk_X2_inspectAct 1 rfl) kfl_X2_20 kk_200 (kl_200 hq he) (by decide) rfl kr_200_1 ?_
  refine T_iload_n 1 (dk dtk_X2_inspectAct 2 rfl) rfl rfl ?_
  refine KC_Vi [vi l1] [] rfl (dk dtk_X2_inspectAct 3 rfl) kcv_X2_201 rfl kk_220 rfl (kl_220 hq he) (Nat.le_of_ble_eq_true rfl) (Nat.le_of_ble_eq_true rfl) (gok_i (av_c (gkr (kl_200 hq he)) (av_c rfl av_n)) as_n) rfl h (fun r2 x1 h => ?_)
  refine T_istore_n (lv2 := [(2, vi r2), (0, vr 200), (1, vi l1)]) (dk dtk_X2_inspectAct 4 rfl) rfl (by decide) rfl ?_
  refine T_aload_n 1 (dk dtk_X2_inspectAct 5 rfl) rfl rfl ?_
  refine T_getR 200 1 220 (dk dtk_X2_inspectAct 6 rfl) kfl_X2_20 kk_200 (kl_200 hq he) (by decide) rfl kr_200_1 ?_
  refine T_iload_n 2 (dk dtk_X2_inspectAct 7 rfl) rfl rfl ?_
  refine KC_Vi [vi l1] [] rfl (dk dtk_X2_inspectAct 8 rfl) kcv_X2_205 rfl kk_220 rfl (kl_220 hq he) (Nat.le_of_ble_eq_true rfl) (Nat.le_of_ble_eq_true rfl) (gok_i (av_c rfl (av_c (gkr (kl_200 hq he)) (av_c rfl av_n))) as_n) rfl h (fun r4 x3 h => ?_)
  refine T_istore_n (lv2 := [(3, vi r4), (2, vi r2), (0, vr 200), (1, vi l1)]) (dk dtk_X2_inspectAct 9 rfl) rfl (by decide) rfl ?_
  refine T_iload_n 1 (dk dtk_X2_inspectAct 10 rfl) rfl rfl ?_
  refine T_iconst (v := 5) (dk dtk_X2_inspectAct 11 rfl) (by decide +kernel) ?_
  refine T_icmp_ne 39 (dk dtk_X2_inspectAct 12 rfl) (by decide) (fun c5 => ?_) (fun c5 => ?_)
  · have h := h.1 c5
    exact T_sub [2, 3, 1, 0] rfl h
  · have h := h.2 c5
    refine T_aload_n 2 (dk dtk_X2_inspectAct 13 rfl) rfl rfl ?_
    obtain ⟨u6, eu6⟩ : ∃ z, z = (kf q).1 200 7 := ⟨_, rfl⟩
    have h := h u6 eu6
    refine T_getO 200 7 (dk dtk_X2_inspectAct 14 rfl) kfl_X2_44 kk_200 (kl_200 hq he) (by decide) rfl ?_
    rw [← eu6]
    refine T_aload_n 2 (dk dtk_X2_inspectAct 15 rfl) rfl rfl ?_
    refine T_getR 200 1 220 (dk dtk_X2_inspectAct 16 rfl) kfl_X2_20 kk_200 (kl_200 hq he) (by decide) rfl kr_200_1 ?_
    refine T_iload_n 3 (dk dtk_X2_inspectAct 17 rfl) rfl rfl ?_
    obtain ⟨h7, h⟩ := h
    refine KC_Vi [vi l1] [vo u6] rfl (dk dtk_X2_inspectAct 18 rfl) kcv_X2_208 rfl kk_220 rfl (kl_220 hq he) (Nat.le_of_ble_eq_true rfl) (Nat.le_of_ble_eq_true rfl) (gok_i (av_c rfl (av_c rfl (av_c (gkr (kl_200 hq he)) (av_c rfl av_n)))) (as_c h7 as_n)) rfl h (fun r9 x8 h => ?_)
    refine T_iload_n 0 (dk dtk_X2_inspectAct 19 rfl) rfl rfl ?_
    obtain ⟨c10, rfl, g11, h⟩ := h
    refine KC_Vv [vi r9, vi r4] [] rfl (dk dtk_X2_inspectAct 20 rfl) kcv_X2_211 rfl (kk_T0 g11) rfl (kl_T0 hq g11) (Nat.le_of_ble_eq_true rfl) (Nat.le_of_ble_eq_true rfl) (gok_i (av_c rfl (av_c rfl (av_c (gkr (kl_200 hq he)) (av_c rfl av_n)))) as_n) rfl h (fun x12 h => ?_)
    exact T_sub [2, 3, 1, 0] rfl h
set_option maxRecDepth 100000 in
set_option maxHeartbeats 4000000 in
theorem kg_X2_inspectAct_39 {G : kG} {q : kP} {d : Nat} {x : gd} {P : Option gv → gd → Prop} (hq : kV q) (he : q.ex = true) (l1 : Int32) (l2 : Int32) (l3 : Int32)
    (h : (((4 : Int32) < l2 → P none x) ∧ (¬ ((4 : Int32) < l2) → ((¬ (l3 = (-1 : Int32)) → (∀ u3, u3 = (kf q).1 200 7 → ∃ c4, u3 = some c4 ∧ kiT q c4 ∧ vp_in l3 24 ∧ KT G q d zk_X5_heldBy 0 [(0, vr 220), (1, vi l1)] [] x (ri (fun r8 x7 => vp_in l3 24 ∧ (∀ x10 : gd, x10 = si x7 (c4 + 8) (l3 : Int32).toNatClampNeg ((x.1 (c4 + 8) (l3 : Int32).toNatClampNeg) &&& r8) → vp_in l3 24 ∧ ((¬ ((x10.1 69 (l3 : Int32).toNatClampNeg) = (0 : Int32)) → P none x10) ∧ ((x10.1 69 (l3 : Int32).toNatClampNeg) = (0 : Int32) → KT G q d zk_X5_accessFails 0 [(0, vr 220), (1, vi l1)] [] x10 (ri (fun r14 x13 => ((¬ (r14 = (0 : Int32)) → P none x13) ∧ (r14 = (0 : Int32) → vp_in l1 6 ∧ (∀ x17 : gd, x17 = si x13 209 (l1 : Int32).toNatClampNeg l3 → vp_in l1 6 ∧ (∀ x19 : gd, x19 = si x17 210 (l1 : Int32).toNatClampNeg l2 → P none x19))))))))))))) ∧ (l3 = (-1 : Int32) → P none x))))) :
    KT G q (d + 1) zk_X2_inspectAct 39 [(0, vr 200), (1, vi l1), (2, vi l2), (3, vi l3)] [] x P := by
  refine T_iload_n 2 (dk dtk_X2_inspectAct 21 rfl) rfl rfl ?_
  refine T_iconst (v := 4) (dk dtk_X2_inspectAct 22 rfl) (by decide +kernel) ?_
  refine T_icmp_gt 49 (dk dtk_X2_inspectAct 23 rfl) (by decide) (fun c1 => ?_) (fun c1 => ?_)
  · have h := h.1 c1
    exact KT_vret (dk dtk_X2_inspectAct 27 rfl) rfl h
  · have h := h.2 c1
    refine T_iload_n 3 (dk dtk_X2_inspectAct 24 rfl) rfl rfl ?_
    refine T_iconst (v := (-1)) (dk dtk_X2_inspectAct 25 rfl) (by decide +kernel) ?_
    refine T_icmp_ne 50 (dk dtk_X2_inspectAct 26 rfl) (by decide) (fun c2 => ?_) (fun c2 => ?_)
    · have h := h.1 c2
      refine T_aload_n 0 (dk dtk_X2_inspectAct 28 rfl) rfl rfl ?_
      obtain ⟨u3, eu3⟩ : ∃ z, z = (kf q).1 200 7 := ⟨_, rfl⟩
      have h := h u3 eu3
      refine T_getO 200 7 (dk dtk_X2_inspectAct 29 rfl) kfl_X2_44 kk_200 (kl_200 hq he) (by decide) rfl ?_
      rw [← eu3]
      obtain ⟨c4, rfl, g5, h⟩ := h
      refine T_getR c4 7 (c4 + 8) (dk dtk_X2_inspectAct 30 rfl) kfl_X2_214 (kk_T0 g5) (kl_T0 hq g5) (by decide) rfl (kr_T_7 g5) ?_
      refine T_iload_n 3 (dk dtk_X2_inspectAct 31 rfl) rfl rfl ?_
      refine T_dup2 (dk dtk_X2_inspectAct 32 rfl) rfl rfl ?_
      obtain ⟨h6, h⟩ := h
      refine T_iald (c4 + 8) 24 (dk dtk_X2_inspectAct 33 rfl) (kk_T8 g5) (kl_T8 hq g5) h6 ?_
      refine T_aload_n 0 (dk dtk_X2_inspectAct 34 rfl) rfl rfl ?_
      refine T_getR 200 1 220 (dk dtk_X2_inspectAct 35 rfl) kfl_X2_20 kk_200 (kl_200 hq he) (by decide) rfl kr_200_1 ?_
      refine T_iload_n 1 (dk dtk_X2_inspectAct 36 rfl) rfl rfl ?_
      refine KC_Vi [vi l1] [vi (x.1 (c4 + 8) (l3 : Int32).toNatClampNeg), vi l3, vr (c4 + 8)] rfl (dk dtk_X2_inspectAct 37 rfl) kcv_X2_208 rfl kk_220 rfl (kl_220 hq he) (Nat.le_of_ble_eq_true rfl) (Nat.le_of_ble_eq_true rfl) (gok_i (av_c (gkr (kl_200 hq he)) (av_c rfl (av_c rfl (av_c rfl av_n)))) (as_c rfl (as_c rfl (as_c (gkr (kl_T8 hq g5)) as_n)))) rfl h (fun r8 x7 h => ?_)
      refine T_iand (dk dtk_X2_inspectAct 38 rfl) ?_
      obtain ⟨h9, h⟩ := h
      obtain ⟨x10, ex10⟩ : ∃ z, z = si x7 (c4 + 8) (l3 : Int32).toNatClampNeg ((x.1 (c4 + 8) (l3 : Int32).toNatClampNeg) &&& r8) := ⟨_, rfl⟩
      have h := h x10 ex10
      refine T_iast (c4 + 8) 24 (dk dtk_X2_inspectAct 39 rfl) (kk_T8 g5) (kl_T8 hq g5) h9 ?_
      rw [← ex10]
      refine T_aload_n 0 (dk dtk_X2_inspectAct 40 rfl) rfl rfl ?_
      refine T_getR 200 0 60 (dk dtk_X2_inspectAct 41 rfl) kfl_X2_9 kk_200 (kl_200 hq he) (by decide) rfl kr_200_0 ?_
      refine T_getR 60 8 69 (dk dtk_X2_inspectAct 42 rfl) kfl_X2_217 kk_60 (kl_60 hq) (by decide) rfl kr_60_8 ?_
      refine T_iload_n 3 (dk dtk_X2_inspectAct 43 rfl) rfl rfl ?_
      obtain ⟨h11, h⟩ := h
      refine T_zald 69 24 (dk dtk_X2_inspectAct 44 rfl) kk_69 (kl_69 hq) h11 ?_
      refine T_if_ne 107 (dk dtk_X2_inspectAct 45 rfl) (by decide) (fun c12 => ?_) (fun c12 => ?_)
      · have h := h.1 c12
        exact KT_vret (dk dtk_X2_inspectAct 61 rfl) rfl h
      · have h := h.2 c12
        refine T_aload_n 0 (dk dtk_X2_inspectAct 46 rfl) rfl rfl ?_
        refine T_getR 200 1 220 (dk dtk_X2_inspectAct 47 rfl) kfl_X2_20 kk_200 (kl_200 hq he) (by decide) rfl kr_200_1 ?_
        refine T_iload_n 1 (dk dtk_X2_inspectAct 48 rfl) rfl rfl ?_
        refine KC_Vi [vi l1] [] rfl (dk dtk_X2_inspectAct 49 rfl) kcv_X2_221 rfl kk_220 rfl (kl_220 hq he) (Nat.le_of_ble_eq_true rfl) (Nat.le_of_ble_eq_true rfl) (gok_i (av_c (gkr (kl_200 hq he)) (av_c rfl (av_c rfl (av_c rfl av_n)))) as_n) rfl h (fun r14 x13 h => ?_)
        refine T_if_ne 107 (dk dtk_X2_inspectAct 50 rfl) (by decide) (fun c15 => ?_) (fun c15 => ?_)
        · have h := h.1 c15
          exact KT_vret (dk dtk_X2_inspectAct 61 rfl) rfl h
        · have h := h.2 c15
          refine T_aload_n 0 (dk dtk_X2_inspectAct 51 rfl) rfl rfl ?_
          refine T_getR 200 8 209 (dk dtk_X2_inspectAct 52 rfl) kfl_X2_38 kk_200 (kl_200 hq he) (by decide) rfl kr_200_8 ?_
          refine T_iload_n 1 (dk dtk_X2_inspectAct 53 rfl) rfl rfl ?_
          refine T_iload_n 3 (dk dtk_X2_inspectAct 54 rfl) rfl rfl ?_
          obtain ⟨h16, h⟩ := h
          obtain ⟨x17, ex17⟩ : ∃ z, z = si x13 209 (l1 : Int32).toNatClampNeg l3 := ⟨_, rfl⟩
          have h := h x17 ex17
          refine T_iast 209 6 (dk dtk_X2_inspectAct 55 rfl) kk_209 (kl_209 hq he) h16 ?_
          rw [← ex17]
          refine T_aload_n 0 (dk dtk_X2_inspectAct 56 rfl) rfl rfl ?_
          refine T_getR 200 9 210 (dk dtk_X2_inspectAct 57 rfl) kfl_X2_41 kk_200 (kl_200 hq he) (by decide) rfl kr_200_9 ?_
          refine T_iload_n 1 (dk dtk_X2_inspectAct 58 rfl) rfl rfl ?_
          refine T_iload_n 2 (dk dtk_X2_inspectAct 59 rfl) rfl rfl ?_
          obtain ⟨h18, h⟩ := h
          obtain ⟨x19, ex19⟩ : ∃ z, z = si x17 210 (l1 : Int32).toNatClampNeg l2 := ⟨_, rfl⟩
          have h := h x19 ex19
          refine T_iast 210 6 (dk dtk_X2_inspectAct 60 rfl) kk_210 (kl_210 hq he) h18 ?_
          rw [← ex19]
          exact KT_vret (dk dtk_X2_inspectAct 61 rfl) rfl h
    · have h := h.2 c2
      exact KT_vret (dk dtk_X2_inspectAct 27 rfl) rfl h
set_option maxRecDepth 100000 in
theorem dtk_X2_isRacing : dck cX2_isRacing [(0, .iconst 0, 1), (1, .istore_n 1, 1), (2, .iload_n 1, 1), (3, .aload_n 0, 1), (4, .getfield 9, 3), (7, .getfield 189, 3), (10, .if_icmp .ge 67, 3), (13, .iconst 0, 1), (14, .istore_n 2, 1), (15, .iload_n 2, 1), (16, .iload_n 1, 1), (17, .if_icmp .ge 54, 3), (20, .aload_n 0, 1), (21, .getfield 38, 3), (24, .iload_n 1, 1), (25, .iaload, 1), (26, .iconst (-1), 1), (27, .if_icmp .eq 38, 3), (30, .aload_n 0, 1), (31, .getfield 38, 3), (34, .iload_n 1, 1), (35, .iaload, 1), (36, .aload_n 0, 1), (37, .getfield 38, 3), (40, .iload_n 2, 1), (41, .iaload, 1), (42, .if_icmp .ne 23, 3), (45, .aload_n 0, 1), (46, .getfield 41, 3), (49, .iload_n 1, 1), (50, .iaload, 1), (51, .aload_n 0, 1), (52, .getfield 41, 3), (55, .iload_n 2, 1), (56, .iaload, 1), (57, .invokestatic 224, 3), (60, .ifCond .eq 5, 3), (63, .iconst 1, 1), (64, .ireturn, 1), (65, .iinc 2 1, 3), (68, .goto (-53), 3), (71, .iinc 1 1, 3), (74, .goto (-72), 3), (77, .iconst 0, 1), (78, .ireturn, 1)] = true := by decide +kernel
set_option maxRecDepth 100000 in
set_option maxHeartbeats 4000000 in
theorem kg_X2_isRacing_0 {G : kG} {q : kP} {d : Nat} {x : gd} {P : Option gv → gd → Prop} (hq : kV q) (he : q.ex = true)
    (h : KT G q (d + 1) zk_X2_isRacing 2 [(0, vr 200), (1, vi 0)] [] x P) :
    KT G q (d + 1) zk_X2_isRacing 0 [(0, vr 200)] [] x P := by
  refine T_iconst (v := 0) (dk dtk_X2_isRacing 0 rfl) (by decide +kernel) ?_
  refine T_istore_n (lv2 := [(1, vi 0), (0, vr 200)]) (dk dtk_X2_isRacing 1 rfl) rfl (by decide) rfl ?_
  exact T_sub [1, 0] rfl h
set_option maxRecDepth 100000 in
set_option maxHeartbeats 4000000 in
theorem kg_X2_isRacing_2 {G : kG} {q : kP} {d : Nat} {x : gd} {P : Option gv → gd → Prop} (hq : kV q) (he : q.ex = true) (l1 : Int32)
    (h : (((x.1 60 10) ≤ l1 → P (some (vi 0)) x) ∧ (¬ ((x.1 60 10) ≤ l1) → KT G q (d + 1) zk_X2_isRacing 15 [(0, vr 200), (1, vi l1), (2, vi 0)] [] x P))) :
    KT G q (d + 1) zk_X2_isRacing 2 [(0, vr 200), (1, vi l1)] [] x P := by
  refine T_iload_n 1 (dk dtk_X2_isRacing 2 rfl) rfl rfl ?_
  refine T_aload_n 0 (dk dtk_X2_isRacing 3 rfl) rfl rfl ?_
  refine T_getR 200 0 60 (dk dtk_X2_isRacing 4 rfl) kfl_X2_9 kk_200 (kl_200 hq he) (by decide) rfl kr_200_0 ?_
  refine T_getI 60 10 (dk dtk_X2_isRacing 5 rfl) kfl_X2_189 kk_60 (kl_60 hq) (by decide) rfl ?_
  refine T_icmp_ge 77 (dk dtk_X2_isRacing 6 rfl) (by decide) (fun c1 => ?_) (fun c1 => ?_)
  · have h := h.1 c1
    refine T_iconst (v := 0) (dk dtk_X2_isRacing 43 rfl) (by decide +kernel) ?_
    exact KT_iret (dk dtk_X2_isRacing 44 rfl) rfl rfl h
  · have h := h.2 c1
    refine T_iconst (v := 0) (dk dtk_X2_isRacing 7 rfl) (by decide +kernel) ?_
    refine T_istore_n (lv2 := [(2, vi 0), (0, vr 200), (1, vi l1)]) (dk dtk_X2_isRacing 8 rfl) rfl (by decide) rfl ?_
    exact T_sub [1, 2, 0] rfl h
set_option maxRecDepth 100000 in
set_option maxHeartbeats 4000000 in
theorem kg_X2_isRacing_15 {G : kG} {q : kP} {d : Nat} {x : gd} {P : Option gv → gd → Prop} (hq : kV q) (he : q.ex = true) (l1 : Int32) (l2 : Int32)
    (h : ((l1 ≤ l2 → KT G q (d + 1) zk_X2_isRacing 2 [(0, vr 200), (1, vi (l1 + 1))] [] x P) ∧ (¬ (l1 ≤ l2) → vp_in l1 6 ∧ (((x.1 209 (l1 : Int32).toNatClampNeg) = (-1 : Int32) → KT G q (d + 1) zk_X2_isRacing 15 [(0, vr 200), (1, vi l1), (2, vi (l2 + 1))] [] x P) ∧ (¬ ((x.1 209 (l1 : Int32).toNatClampNeg) = (-1 : Int32)) → vp_in l1 6 ∧ vp_in l2 6 ∧ ((¬ ((x.1 209 (l1 : Int32).toNatClampNeg) = (x.1 209 (l2 : Int32).toNatClampNeg)) → KT G q (d + 1) zk_X2_isRacing 15 [(0, vr 200), (1, vi l1), (2, vi (l2 + 1))] [] x P) ∧ ((x.1 209 (l1 : Int32).toNatClampNeg) = (x.1 209 (l2 : Int32).toNatClampNeg) → vp_in l1 6 ∧ vp_in l2 6 ∧ KT G q d zk_X4_sortsRace 0 [(0, vi (x.1 210 (l1 : Int32).toNatClampNeg)), (1, vi (x.1 210 (l2 : Int32).toNatClampNeg))] [] x (ri (fun r10 x9 => ((r10 = (0 : Int32) → KT G q (d + 1) zk_X2_isRacing 15 [(0, vr 200), (1, vi l1), (2, vi (l2 + 1))] [] x9 P) ∧ (¬ (r10 = (0 : Int32)) → P (some (vi 1)) x9))))))))))) :
    KT G q (d + 1) zk_X2_isRacing 15 [(0, vr 200), (1, vi l1), (2, vi l2)] [] x P := by
  refine T_iload_n 2 (dk dtk_X2_isRacing 9 rfl) rfl rfl ?_
  refine T_iload_n 1 (dk dtk_X2_isRacing 10 rfl) rfl rfl ?_
  refine T_icmp_ge 71 (dk dtk_X2_isRacing 11 rfl) (by decide) (fun c1 => ?_) (fun c1 => ?_)
  · have h := h.1 c1
    refine T_iinc (v := l1 + 1) (lv2 := [(1, vi (l1 + 1)), (0, vr 200), (2, vi l2)]) 1 (dk dtk_X2_isRacing 41 rfl) rfl rfl (by decide) rfl ?_
    refine T_goto 2 (dk dtk_X2_isRacing 42 rfl) (by decide) ?_
    exact T_sub [1, 0] rfl h
  · have h := h.2 c1
    refine T_aload_n 0 (dk dtk_X2_isRacing 12 rfl) rfl rfl ?_
    refine T_getR 200 8 209 (dk dtk_X2_isRacing 13 rfl) kfl_X2_38 kk_200 (kl_200 hq he) (by decide) rfl kr_200_8 ?_
    refine T_iload_n 1 (dk dtk_X2_isRacing 14 rfl) rfl rfl ?_
    obtain ⟨h2, h⟩ := h
    refine T_iald 209 6 (dk dtk_X2_isRacing 15 rfl) kk_209 (kl_209 hq he) h2 ?_
    refine T_iconst (v := (-1)) (dk dtk_X2_isRacing 16 rfl) (by decide +kernel) ?_
    refine T_icmp_eq 65 (dk dtk_X2_isRacing 17 rfl) (by decide) (fun c3 => ?_) (fun c3 => ?_)
    · have h := h.1 c3
      refine T_iinc (v := l2 + 1) (lv2 := [(2, vi (l2 + 1)), (0, vr 200), (1, vi l1)]) 2 (dk dtk_X2_isRacing 39 rfl) rfl rfl (by decide) rfl ?_
      refine T_goto 15 (dk dtk_X2_isRacing 40 rfl) (by decide) ?_
      exact T_sub [1, 2, 0] rfl h
    · have h := h.2 c3
      refine T_aload_n 0 (dk dtk_X2_isRacing 18 rfl) rfl rfl ?_
      refine T_getR 200 8 209 (dk dtk_X2_isRacing 19 rfl) kfl_X2_38 kk_200 (kl_200 hq he) (by decide) rfl kr_200_8 ?_
      refine T_iload_n 1 (dk dtk_X2_isRacing 20 rfl) rfl rfl ?_
      obtain ⟨h4, h⟩ := h
      refine T_iald 209 6 (dk dtk_X2_isRacing 21 rfl) kk_209 (kl_209 hq he) h4 ?_
      refine T_aload_n 0 (dk dtk_X2_isRacing 22 rfl) rfl rfl ?_
      refine T_getR 200 8 209 (dk dtk_X2_isRacing 23 rfl) kfl_X2_38 kk_200 (kl_200 hq he) (by decide) rfl kr_200_8 ?_
      refine T_iload_n 2 (dk dtk_X2_isRacing 24 rfl) rfl rfl ?_
      obtain ⟨h5, h⟩ := h
      refine T_iald 209 6 (dk dtk_X2_isRacing 25 rfl) kk_209 (kl_209 hq he) h5 ?_
      refine T_icmp_ne 65 (dk dtk_X2_isRacing 26 rfl) (by decide) (fun c6 => ?_) (fun c6 => ?_)
      · have h := h.1 c6
        refine T_iinc (v := l2 + 1) (lv2 := [(2, vi (l2 + 1)), (0, vr 200), (1, vi l1)]) 2 (dk dtk_X2_isRacing 39 rfl) rfl rfl (by decide) rfl ?_
        refine T_goto 15 (dk dtk_X2_isRacing 40 rfl) (by decide) ?_
        exact T_sub [1, 2, 0] rfl h
      · have h := h.2 c6
        refine T_aload_n 0 (dk dtk_X2_isRacing 27 rfl) rfl rfl ?_
        refine T_getR 200 9 210 (dk dtk_X2_isRacing 28 rfl) kfl_X2_41 kk_200 (kl_200 hq he) (by decide) rfl kr_200_9 ?_
        refine T_iload_n 1 (dk dtk_X2_isRacing 29 rfl) rfl rfl ?_
        obtain ⟨h7, h⟩ := h
        refine T_iald 210 6 (dk dtk_X2_isRacing 30 rfl) kk_210 (kl_210 hq he) h7 ?_
        refine T_aload_n 0 (dk dtk_X2_isRacing 31 rfl) rfl rfl ?_
        refine T_getR 200 9 210 (dk dtk_X2_isRacing 32 rfl) kfl_X2_41 kk_200 (kl_200 hq he) (by decide) rfl kr_200_9 ?_
        refine T_iload_n 2 (dk dtk_X2_isRacing 33 rfl) rfl rfl ?_
        obtain ⟨h8, h⟩ := h
        refine T_iald 210 6 (dk dtk_X2_isRacing 34 rfl) kk_210 (kl_210 hq he) h8 ?_
        refine KC_Si [vi (x.1 210 (l1 : Int32).toNatClampNeg), vi (x.1 210 (l2 : Int32).toNatClampNeg)] [] rfl (dk dtk_X2_isRacing 35 rfl) kcs_X2_224 rfl (Nat.le_of_ble_eq_true rfl) (Nat.le_of_ble_eq_true rfl) (gok_i (av_c (gkr (kl_200 hq he)) (av_c rfl (av_c rfl av_n))) as_n) rfl h (fun r10 x9 h => ?_)
        refine T_if_eq 65 (dk dtk_X2_isRacing 36 rfl) (by decide) (fun c11 => ?_) (fun c11 => ?_)
        · have h := h.1 c11
          refine T_iinc (v := l2 + 1) (lv2 := [(2, vi (l2 + 1)), (0, vr 200), (1, vi l1)]) 2 (dk dtk_X2_isRacing 39 rfl) rfl rfl (by decide) rfl ?_
          refine T_goto 15 (dk dtk_X2_isRacing 40 rfl) (by decide) ?_
          exact T_sub [1, 2, 0] rfl h
        · have h := h.2 c11
          refine T_iconst (v := 1) (dk dtk_X2_isRacing 37 rfl) (by decide +kernel) ?_
          exact KT_iret (dk dtk_X2_isRacing 38 rfl) rfl rfl h
set_option maxRecDepth 100000 in
theorem dtk_X11_feed : dck cX11_feed [(0, .iload_n 1, 1), (1, .iconst 1, 1), (2, .if_icmp .lt 9, 3), (5, .iload_n 1, 1), (6, .bipush 8, 2), (8, .if_icmp .le 13, 3), (11, .new 70, 3), (14, .dup, 1), (15, .ldc 72, 2), (17, .invokespecial 74, 3), (20, .athrow, 1), (21, .aload_n 0, 1), (22, .getfield 10, 3), (25, .getfield 77, 3), (28, .iload_n 1, 1), (29, .iadd, 1), (30, .sipush 3000, 3), (33, .if_icmp .le 13, 3), (36, .new 70, 3), (39, .dup, 1), (40, .ldc 80, 2), (42, .invokespecial 74, 3), (45, .athrow, 1), (46, .iconst 0, 1), (47, .istore 4, 2), (49, .iload 4, 2), (51, .iload_n 1, 1), (52, .if_icmp .ge 24, 3), (55, .aload_n 0, 1), (56, .getfield 10, 3), (59, .lload_n 2, 1), (60, .bipush 8, 2), (62, .iload 4, 2), (64, .imul, 1), (65, .lushr, 1), (66, .l2i, 1), (67, .invokevirtual 82, 3), (70, .iinc 4 1, 3), (73, .goto (-24), 3), (76, .aload_n 0, 1), (77, .invokevirtual 86, 3), (80, .aload_n 0, 1), (81, .getfield 10, 3), (84, .getfield 77, 3), (87, .ireturn, 1)] = true := by decide +kernel
set_option maxRecDepth 100000 in
set_option maxHeartbeats 4000000 in
theorem kg_X11_feed_0 {G : kG} {q : kP} {d : Nat} {x : gd} {P : Option gv → gd → Prop} {X : String → gd → Prop} (hq : kV q) (l1 : Int32) (l2 : Int64)
    (h : ((l1 < (1 : Int32) → KE G q (d + 7) zk_X11_feed 11 [] [] x P X) ∧ (¬ (l1 < (1 : Int32)) → ((l1 ≤ (8 : Int32) → ((((x.1 20 1) + l1) ≤ (3000 : Int32) → KE G q (d + 7) zk_X11_feed 49 [(0, vr 0), (1, vi l1), (2, vl l2), (4, vi 0)] [] x P X) ∧ (¬ (((x.1 20 1) + l1) ≤ (3000 : Int32)) → X iAE x))) ∧ (¬ (l1 ≤ (8 : Int32)) → KE G q (d + 7) zk_X11_feed 11 [] [] x P X))))) :
    KE G q (d + 7) zk_X11_feed 0 [(0, vr 0), (1, vi l1), (2, vl l2)] [] x P X := by
  refine T_iload_n 1 (dk dtk_X11_feed 0 rfl) rfl rfl ?_
  refine T_iconst (v := 1) (dk dtk_X11_feed 1 rfl) (by decide +kernel) ?_
  refine T_icmp_lt 11 (dk dtk_X11_feed 2 rfl) (by decide) (fun c1 => ?_) (fun c1 => ?_)
  · have h := h.1 c1
    exact T_sub [] rfl h
  · have h := h.2 c1
    refine T_iload_n 1 (dk dtk_X11_feed 3 rfl) rfl rfl ?_
    refine T_bipush (v := 8) (dk dtk_X11_feed 4 rfl) (by decide +kernel) ?_
    refine T_icmp_le 21 (dk dtk_X11_feed 5 rfl) (by decide) (fun c2 => ?_) (fun c2 => ?_)
    · have h := h.1 c2
      refine T_aload_n 0 (dk dtk_X11_feed 11 rfl) rfl rfl ?_
      refine T_getR 0 0 20 (dk dtk_X11_feed 12 rfl) kfl_X11_10 kk_0 (kl_0 hq) (by decide) rfl kr_0_0 ?_
      refine T_getI 20 1 (dk dtk_X11_feed 13 rfl) kfl_X11_77 kk_20 (kl_20 hq) (by decide) rfl ?_
      refine T_iload_n 1 (dk dtk_X11_feed 14 rfl) rfl rfl ?_
      refine T_iadd (dk dtk_X11_feed 15 rfl) ?_
      refine T_sipush (v := 3000) (dk dtk_X11_feed 16 rfl) (by decide +kernel) ?_
      refine T_icmp_le 46 (dk dtk_X11_feed 17 rfl) (by decide) (fun c3 => ?_) (fun c3 => ?_)
      · have h := h.1 c3
        refine T_iconst (v := 0) (dk dtk_X11_feed 23 rfl) (by decide +kernel) ?_
        refine T_istore (lv2 := [(4, vi 0), (0, vr 0), (1, vi l1), (2, vl l2)]) (dk dtk_X11_feed 24 rfl) (by decide) rfl ?_
        exact T_sub [1, 2, 3, 0] rfl h
      · have h := h.2 c3
        exact T_thr kth_X11_70_80 (dk dtk_X11_feed 18 rfl) (dk dtk_X11_feed 19 rfl) (dk dtk_X11_feed 20 rfl) (dk dtk_X11_feed 21 rfl) (dk dtk_X11_feed 22 rfl) (by intro z hz; cases hz) (by omega) (Nat.le_of_ble_eq_true rfl) (Or.inr ⟨rfl, _, rfl, h⟩)
    · have h := h.2 c2
      exact T_sub [] rfl h
set_option maxRecDepth 100000 in
set_option maxHeartbeats 4000000 in
theorem kg_X11_feed_11 {G : kG} {q : kP} {d : Nat} {x : gd} {P : Option gv → gd → Prop} {X : String → gd → Prop} (hq : kV q) 
    (h : X iAE x) :
    KE G q (d + 7) zk_X11_feed 11 [] [] x P X := by
  exact T_thr kth_X11_70_72 (dk dtk_X11_feed 6 rfl) (dk dtk_X11_feed 7 rfl) (dk dtk_X11_feed 8 rfl) (dk dtk_X11_feed 9 rfl) (dk dtk_X11_feed 10 rfl) (by intro z hz; cases hz) (by omega) (Nat.le_of_ble_eq_true rfl) (Or.inr ⟨rfl, _, rfl, h⟩)
set_option maxRecDepth 100000 in
set_option maxHeartbeats 4000000 in
theorem kg_X11_feed_49 {G : kG} {q : kP} {d : Nat} {x : gd} {P : Option gv → gd → Prop} {X : String → gd → Prop} (hq : kV q) (l1 : Int32) (l2 : Int64) (l4 : Int32)
    (h : ((l1 ≤ l4 → KT G q (d + 6) zk_X11_forgetAll 0 [(0, vr 0)] [] x (rv (fun x2 => P (some (vi (x2.1 20 1))) x2))) ∧ (¬ (l1 ≤ l4) → KT G q (d + 6) zk_X9_addByte 0 [(0, vr 20), (1, vi ((((l2 : Int64).toUInt64 >>> ((8 * l4 : Int32).toInt64.toUInt64 &&& Int64.toUInt64 63)).toInt64 : Int64).toInt32))] [] x (rv (fun x3 => KE G q (d + 7) zk_X11_feed 49 [(0, vr 0), (1, vi l1), (2, vl l2), (4, vi (l4 + 1))] [] x3 P X))))) :
    KE G q (d + 7) zk_X11_feed 49 [(0, vr 0), (1, vi l1), (2, vl l2), (4, vi l4)] [] x P X := by
  refine T_iload 3 (dk dtk_X11_feed 25 rfl) rfl ?_
  refine T_iload_n 1 (dk dtk_X11_feed 26 rfl) rfl rfl ?_
  refine T_icmp_ge 76 (dk dtk_X11_feed 27 rfl) (by decide) (fun c1 => ?_) (fun c1 => ?_)
  · have h := h.1 c1
    refine T_aload_n 0 (dk dtk_X11_feed 39 rfl) rfl rfl ?_
    refine T_sub (lv2 := [(0, vr 0)]) [0] rfl ?_
    refine KC_Vv [] [] rfl (dk dtk_X11_feed 40 rfl) kcv_X11_86 rfl kk_0 rfl (kl_0 hq) (Nat.le_of_ble_eq_true rfl) (Nat.le_of_ble_eq_true rfl) (gok_i (av_c (gkr (kl_0 hq)) av_n) as_n) rfl h (fun x2 h => ?_)
    refine T_aload_n 0 (dk dtk_X11_feed 41 rfl) rfl rfl ?_
    refine T_getR 0 0 20 (dk dtk_X11_feed 42 rfl) kfl_X11_10 kk_0 (kl_0 hq) (by decide) rfl kr_0_0 ?_
    refine T_getI 20 1 (dk dtk_X11_feed 43 rfl) kfl_X11_77 kk_20 (kl_20 hq) (by decide) rfl ?_
    exact KE_iret (dk dtk_X11_feed 44 rfl) rfl rfl h
  · have h := h.2 c1
    refine T_aload_n 0 (dk dtk_X11_feed 28 rfl) rfl rfl ?_
    refine T_getR 0 0 20 (dk dtk_X11_feed 29 rfl) kfl_X11_10 kk_0 (kl_0 hq) (by decide) rfl kr_0_0 ?_
    refine T_lload_n 2 (dk dtk_X11_feed 30 rfl) rfl rfl ?_
    refine T_bipush (v := 8) (dk dtk_X11_feed 31 rfl) (by decide +kernel) ?_
    refine T_iload 3 (dk dtk_X11_feed 32 rfl) rfl ?_
    refine T_imul (dk dtk_X11_feed 33 rfl) ?_
    refine T_lushr (dk dtk_X11_feed 34 rfl) ?_
    refine T_l2i (dk dtk_X11_feed 35 rfl) ?_
    refine KC_Vv [vi ((((l2 : Int64).toUInt64 >>> ((8 * l4 : Int32).toInt64.toUInt64 &&& Int64.toUInt64 63)).toInt64 : Int64).toInt32)] [] rfl (dk dtk_X11_feed 36 rfl) kcv_X11_82 rfl kk_20 rfl (kl_20 hq) (Nat.le_of_ble_eq_true rfl) (Nat.le_of_ble_eq_true rfl) (gok_i (av_c (gkr (kl_0 hq)) (av_c rfl (av_c rfl (av_c rfl av_n)))) as_n) rfl h (fun x3 h => ?_)
    refine T_iinc (v := l4 + 1) (lv2 := [(4, vi (l4 + 1)), (0, vr 0), (1, vi l1), (2, vl l2)]) 3 (dk dtk_X11_feed 37 rfl) rfl rfl (by decide) rfl ?_
    refine T_goto 49 (dk dtk_X11_feed 38 rfl) (by decide) ?_
    exact T_sub [1, 2, 3, 0] rfl h
end
section
set_option maxRecDepth 100000 in
theorem dtk_X11_wipe : dck cX11_wipe [(0, .aload_n 0, 1), (1, .getfield 10, 3), (4, .getfield 77, 3), (7, .istore_n 1, 1), (8, .aload_n 0, 1), (9, .getfield 10, 3), (12, .iconst 0, 1), (13, .putfield 77, 3), (16, .aload_n 0, 1), (17, .invokevirtual 86, 3), (20, .iload_n 1, 1), (21, .ireturn, 1)] = true := by decide +kernel
set_option maxRecDepth 100000 in
set_option maxHeartbeats 4000000 in
theorem kg_X11_wipe_0 {G : kG} {q : kP} {d : Nat} {x : gd} {P : Option gv → gd → Prop} (hq : kV q) 
    (h : (∀ x1 : gd, x1 = si x 20 1 0 → KT G q d zk_X11_forgetAll 0 [(0, vr 0)] [] x1 (rv (fun x2 => P (some (vi (x.1 20 1))) x2)))) :
    KT G q (d + 1) zk_X11_wipe 0 [(0, vr 0)] [] x P := by
  refine T_aload_n 0 (dk dtk_X11_wipe 0 rfl) rfl rfl ?_
  refine T_getR 0 0 20 (dk dtk_X11_wipe 1 rfl) kfl_X11_10 kk_0 (kl_0 hq) (by decide) rfl kr_0_0 ?_
  refine T_getI 20 1 (dk dtk_X11_wipe 2 rfl) kfl_X11_77 kk_20 (kl_20 hq) (by decide) rfl ?_
  refine T_istore_n (lv2 := [(1, vi (x.1 20 1)), (0, vr 0)]) (dk dtk_X11_wipe 3 rfl) rfl (by decide) rfl ?_
  refine T_aload_n 1 (dk dtk_X11_wipe 4 rfl) rfl rfl ?_
  refine T_getR 0 0 20 (dk dtk_X11_wipe 5 rfl) kfl_X11_10 kk_0 (kl_0 hq) (by decide) rfl kr_0_0 ?_
  refine T_iconst (v := 0) (dk dtk_X11_wipe 6 rfl) (by decide +kernel) ?_
  obtain ⟨x1, ex1⟩ : ∃ z, z = si x 20 1 0 := ⟨_, rfl⟩
  have h := h x1 ex1
  refine T_putI 20 1 (dk dtk_X11_wipe 7 rfl) kfl_X11_77 kk_20 (kl_20 hq) (by decide) rfl ⟨rfl, rfl⟩ ?_
  rw [← ex1]
  refine T_aload_n 1 (dk dtk_X11_wipe 8 rfl) rfl rfl ?_
  refine T_sub (lv2 := [(1, vi (x.1 20 1))]) [0] rfl ?_
  refine KC_Vv [] [] rfl (dk dtk_X11_wipe 9 rfl) kcv_X11_86 rfl kk_0 rfl (kl_0 hq) (Nat.le_of_ble_eq_true rfl) (Nat.le_of_ble_eq_true rfl) (gok_i (av_c rfl av_n) as_n) rfl h (fun x2 h => ?_)
  refine T_iload_n 0 (dk dtk_X11_wipe 10 rfl) rfl rfl ?_
  exact KT_iret (dk dtk_X11_wipe 11 rfl) rfl rfl h
set_option maxRecDepth 100000 in
theorem dtk_X11_compile : dck cX11_compile [(0, .aload_n 0, 1), (1, .invokevirtual 86, 3), (4, .aload_n 0, 1), (5, .getfield 10, 3), (8, .invokevirtual 89, 3), (11, .iconst 0, 1), (12, .istore_n 1, 1), (13, .iconst (-1), 1), (14, .istore_n 2, 1), (15, .aload_n 0, 1), (16, .getfield 37, 3), (19, .invokevirtual 92, 3), (22, .aload_n 0, 1), (23, .getfield 21, 3), (26, .invokevirtual 95, 3), (29, .istore_n 1, 1), (30, .aload_n 0, 1), (31, .getfield 21, 3), (34, .getfield 99, 3), (37, .istore_n 2, 1), (38, .goto 20, 3), (41, .astore_n 3, 1), (42, .aload_n 0, 1), (43, .getfield 37, 3), (46, .getfield 104, 3), (49, .istore_n 1, 1), (50, .aload_n 0, 1), (51, .getfield 37, 3), (54, .invokevirtual 107, 3), (57, .istore_n 2, 1), (58, .aload_n 0, 1), (59, .iload_n 1, 1), (60, .ifCond .ne 7, 3), (63, .iconst 1, 1), (64, .goto 4, 3), (67, .iconst 0, 1), (68, .putfield 110, 3), (71, .aload_n 0, 1), (72, .aload_n 0, 1), (73, .getfield 110, 3), (76, .ifCond .eq 7, 3), (79, .iconst (-1), 1), (80, .goto 12, 3), (83, .aload_n 0, 1), (84, .getfield 10, 3), (87, .getfield 114, 3), (90, .iload_n 2, 1), (91, .iaload, 1), (92, .putfield 63, 3), (95, .aload_n 0, 1), (96, .aload_n 0, 1), (97, .getfield 110, 3), (100, .ifCond .eq 7, 3), (103, .iconst (-1), 1), (104, .goto 12, 3), (107, .aload_n 0, 1), (108, .getfield 10, 3), (111, .getfield 118, 3), (114, .iload_n 2, 1), (115, .iaload, 1), (116, .putfield 67, 3), (119, .aload_n 0, 1), (120, .getfield 110, 3), (123, .ifCond .ne 6, 3), (126, .iload_n 1, 1), (127, .ineg, 1), (128, .ireturn, 1), (129, .aload_n 0, 1), (130, .getfield 37, 3), (133, .invokevirtual 121, 3), (136, .aload_n 0, 1), (137, .getfield 28, 3), (140, .getfield 124, 3), (143, .ireturn, 1)] = true := by decide +kernel
set_option maxRecDepth 100000 in
theorem dtk_X11_fault : dck cX11_fault [(0, .iload_n 1, 1), (1, .ifCond .eq 18, 3), (4, .iload_n 1, 1), (5, .iconst 1, 1), (6, .if_icmp .eq 13, 3), (9, .new 127, 3), (12, .dup, 1), (13, .ldc 129, 2), (15, .invokespecial 131, 3), (18, .athrow, 1), (19, .iload_n 1, 1), (20, .ifCond .ne 10, 3), (23, .aload_n 0, 1), (24, .getfield 63, 3), (27, .goto 7, 3), (30, .aload_n 0, 1), (31, .getfield 67, 3), (34, .ireturn, 1)] = true := by decide +kernel
set_option maxRecDepth 100000 in
set_option maxHeartbeats 4000000 in
theorem kg_X11_fault_0 {G : kG} {q : kP} {d : Nat} {x : gd} {P : Option gv → gd → Prop} {X : String → gd → Prop} (hq : kV q) (l1 : Int32)
    (h : ((l1 = (0 : Int32) → KE G q (d + 6) zk_X11_fault 19 [(0, vr 0), (1, vi l1)] [] x P X) ∧ (¬ (l1 = (0 : Int32)) → ((l1 = (1 : Int32) → KE G q (d + 6) zk_X11_fault 19 [(0, vr 0), (1, vi l1)] [] x P X) ∧ (¬ (l1 = (1 : Int32)) → X iOE x))))) :
    KE G q (d + 6) zk_X11_fault 0 [(0, vr 0), (1, vi l1)] [] x P X := by
  refine T_iload_n 1 (dk dtk_X11_fault 0 rfl) rfl rfl ?_
  refine T_if_eq 19 (dk dtk_X11_fault 1 rfl) (by decide) (fun c1 => ?_) (fun c1 => ?_)
  · have h := h.1 c1
    exact h
  · have h := h.2 c1
    refine T_iload_n 1 (dk dtk_X11_fault 2 rfl) rfl rfl ?_
    refine T_iconst (v := 1) (dk dtk_X11_fault 3 rfl) (by decide +kernel) ?_
    refine T_icmp_eq 19 (dk dtk_X11_fault 4 rfl) (by decide) (fun c2 => ?_) (fun c2 => ?_)
    · have h := h.1 c2
      exact h
    · have h := h.2 c2
      exact T_thr kth_X11_127_129 (dk dtk_X11_fault 5 rfl) (dk dtk_X11_fault 6 rfl) (dk dtk_X11_fault 7 rfl) (dk dtk_X11_fault 8 rfl) (dk dtk_X11_fault 9 rfl) (by intro z hz; cases hz) (by omega) (Nat.le_of_ble_eq_true rfl) (Or.inr ⟨rfl, _, rfl, h⟩)
set_option maxRecDepth 100000 in
set_option maxHeartbeats 4000000 in
theorem kg_X11_fault_19 {G : kG} {q : kP} {d : Nat} {x : gd} {P : Option gv → gd → Prop} {X : String → gd → Prop} (hq : kV q) (l1 : Int32)
    (h : ((¬ (l1 = (0 : Int32)) → P (some (vi (x.1 0 12))) x) ∧ (l1 = (0 : Int32) → P (some (vi (x.1 0 11))) x))) :
    KE G q (d + 6) zk_X11_fault 19 [(0, vr 0), (1, vi l1)] [] x P X := by
  refine T_iload_n 1 (dk dtk_X11_fault 10 rfl) rfl rfl ?_
  refine T_if_ne 30 (dk dtk_X11_fault 11 rfl) (by decide) (fun c1 => ?_) (fun c1 => ?_)
  · have h := h.1 c1
    refine T_aload_n 0 (dk dtk_X11_fault 15 rfl) rfl rfl ?_
    refine T_getI 0 12 (dk dtk_X11_fault 16 rfl) kfl_X11_67 kk_0 (kl_0 hq) (by decide) rfl ?_
    exact KE_iret (dk dtk_X11_fault 17 rfl) rfl rfl h
  · have h := h.2 c1
    refine T_aload_n 0 (dk dtk_X11_fault 12 rfl) rfl rfl ?_
    refine T_getI 0 11 (dk dtk_X11_fault 13 rfl) kfl_X11_63 kk_0 (kl_0 hq) (by decide) rfl ?_
    refine T_goto 34 (dk dtk_X11_fault 14 rfl) (by decide) ?_
    exact KE_iret (dk dtk_X11_fault 17 rfl) rfl rfl h
set_option maxRecDepth 100000 in
theorem dtk_X11_count : dck cX11_count [(0, .iload_n 1, 1), (1, .iconst 5, 1), (2, .invokestatic 132, 3), (5, .aload_n 0, 1), (6, .getfield 110, 3), (9, .ifCond .ne 5, 3), (12, .iconst 0, 1), (13, .ireturn, 1), (14, .iload_n 1, 1), (15, .tableswitch 61 0 3 #[29, 37, 45, 53], 29), (44, .aload_n 0, 1), (45, .getfield 28, 3), (48, .getfield 136, 3), (51, .ireturn, 1), (52, .aload_n 0, 1), (53, .getfield 28, 3), (56, .getfield 139, 3), (59, .ireturn, 1), (60, .aload_n 0, 1), (61, .getfield 28, 3), (64, .getfield 124, 3), (67, .ireturn, 1), (68, .aload_n 0, 1), (69, .getfield 28, 3), (72, .getfield 142, 3), (75, .ireturn, 1), (76, .aload_n 0, 1), (77, .getfield 28, 3), (80, .getfield 145, 3), (83, .ireturn, 1)] = true := by decide +kernel
set_option maxRecDepth 100000 in
set_option maxHeartbeats 4000000 in
theorem kg_X11_count_0 {G : kG} {q : kP} {d : Nat} {x : gd} {P : Option gv → gd → Prop} {X : String → gd → Prop} (hq : kV q) (l1 : Int32)
    (h : KE G q (d + 6) zk_X11_needWhat 0 [(0, vi l1), (1, vi 5)] [] x (rv (fun x1 => ((¬ ((x1.1 0 9) = (0 : Int32)) → (((l1 = 0) → P (some (vi (x1.1 60 6))) x1) ∧ ((l1 = 1) → P (some (vi (x1.1 60 9))) x1) ∧ ((l1 = 2) → P (some (vi (x1.1 60 10))) x1) ∧ ((l1 = 3) → P (some (vi (x1.1 60 14))) x1) ∧ ((∀ k ∈ [(0 : Int32), (1 : Int32), (2 : Int32), (3 : Int32)], ¬ l1 = k) → P (some (vi (x1.1 60 16))) x1))) ∧ ((x1.1 0 9) = (0 : Int32) → P (some (vi 0)) x1)))) X) :
    KE G q (d + 7) zk_X11_count 0 [(0, vr 0), (1, vi l1)] [] x P X := by
  refine T_iload_n 1 (dk dtk_X11_count 0 rfl) rfl rfl ?_
  refine T_iconst (v := 5) (dk dtk_X11_count 1 rfl) (by decide +kernel) ?_
  refine KD_Sv [vi l1, vi 5] [] rfl (dk dtk_X11_count 2 rfl) kcs_X11_132 rfl (Nat.le_of_ble_eq_true rfl) (Nat.le_of_ble_eq_true rfl) (gok_i (av_c (gkr (kl_0 hq)) (av_c rfl av_n)) as_n) rfl h (fun x1 h => ?_)
  refine T_aload_n 0 (dk dtk_X11_count 3 rfl) rfl rfl ?_
  refine T_getI 0 9 (dk dtk_X11_count 4 rfl) kfl_X11_110 kk_0 (kl_0 hq) (by decide) rfl ?_
  refine T_if_ne 14 (dk dtk_X11_count 5 rfl) (by decide) (fun c2 => ?_) (fun c2 => ?_)
  · have h := h.1 c2
    refine T_iload_n 1 (dk dtk_X11_count 8 rfl) rfl rfl ?_
    by_cases c3 : l1 = 0
    · have h := h.1 c3
      refine T_table 29 44 (dk dtk_X11_count 9 rfl) (by decide) (by rw [c3]; decide +kernel) (by decide) ?_
      refine T_aload_n 0 (dk dtk_X11_count 10 rfl) rfl rfl ?_
      refine T_getR 0 2 60 (dk dtk_X11_count 11 rfl) kfl_X11_28 kk_0 (kl_0 hq) (by decide) rfl kr_0_2 ?_
      refine T_getI 60 6 (dk dtk_X11_count 12 rfl) kfl_X11_136 kk_60 (kl_60 hq) (by decide) rfl ?_
      exact KE_iret (dk dtk_X11_count 13 rfl) rfl rfl h
    · have h := h.2
      by_cases c4 : l1 = 1
      · have h := h.1 c4
        refine T_table 37 52 (dk dtk_X11_count 9 rfl) (by decide) (by rw [c4]; decide +kernel) (by decide) ?_
        refine T_aload_n 0 (dk dtk_X11_count 14 rfl) rfl rfl ?_
        refine T_getR 0 2 60 (dk dtk_X11_count 15 rfl) kfl_X11_28 kk_0 (kl_0 hq) (by decide) rfl kr_0_2 ?_
        refine T_getI 60 9 (dk dtk_X11_count 16 rfl) kfl_X11_139 kk_60 (kl_60 hq) (by decide) rfl ?_
        exact KE_iret (dk dtk_X11_count 17 rfl) rfl rfl h
      · have h := h.2
        by_cases c5 : l1 = 2
        · have h := h.1 c5
          refine T_table 45 60 (dk dtk_X11_count 9 rfl) (by decide) (by rw [c5]; decide +kernel) (by decide) ?_
          refine T_aload_n 0 (dk dtk_X11_count 18 rfl) rfl rfl ?_
          refine T_getR 0 2 60 (dk dtk_X11_count 19 rfl) kfl_X11_28 kk_0 (kl_0 hq) (by decide) rfl kr_0_2 ?_
          refine T_getI 60 10 (dk dtk_X11_count 20 rfl) kfl_X11_124 kk_60 (kl_60 hq) (by decide) rfl ?_
          exact KE_iret (dk dtk_X11_count 21 rfl) rfl rfl h
        · have h := h.2
          by_cases c6 : l1 = 3
          · have h := h.1 c6
            refine T_table 53 68 (dk dtk_X11_count 9 rfl) (by decide) (by rw [c6]; decide +kernel) (by decide) ?_
            refine T_aload_n 0 (dk dtk_X11_count 22 rfl) rfl rfl ?_
            refine T_getR 0 2 60 (dk dtk_X11_count 23 rfl) kfl_X11_28 kk_0 (kl_0 hq) (by decide) rfl kr_0_2 ?_
            refine T_getI 60 14 (dk dtk_X11_count 24 rfl) kfl_X11_142 kk_60 (kl_60 hq) (by decide) rfl ?_
            exact KE_iret (dk dtk_X11_count 25 rfl) rfl rfl h
          · have h := h.2
            have n7 : ∀ k ∈ [(0 : Int32), (1 : Int32), (2 : Int32), (3 : Int32)], ¬ l1 = k := (gno c3 (gno c4 (gno c5 (gno c6 gno0))))
            have h := h n7
            refine T_table 61 76 (dk dtk_X11_count 9 rfl) (by decide) (gtab_d [(0 : Int32), (1 : Int32), (2 : Int32), (3 : Int32)] (by decide +kernel) n7) (by decide) ?_
            refine T_aload_n 0 (dk dtk_X11_count 26 rfl) rfl rfl ?_
            refine T_getR 0 2 60 (dk dtk_X11_count 27 rfl) kfl_X11_28 kk_0 (kl_0 hq) (by decide) rfl kr_0_2 ?_
            refine T_getI 60 16 (dk dtk_X11_count 28 rfl) kfl_X11_145 kk_60 (kl_60 hq) (by decide) rfl ?_
            exact KE_iret (dk dtk_X11_count 29 rfl) rfl rfl h
  · have h := h.2 c2
    refine T_iconst (v := 0) (dk dtk_X11_count 6 rfl) (by decide +kernel) ?_
    exact KE_iret (dk dtk_X11_count 7 rfl) rfl rfl h
set_option maxRecDepth 100000 in
theorem dtk_X11_begin : dck cX11_begin [(0, .aload_n 0, 1), (1, .invokevirtual 148, 3), (4, .iload_n 1, 1), (5, .invokestatic 151, 3), (8, .aload_n 0, 1), (9, .iload_n 1, 1), (10, .invokevirtual 154, 3), (13, .aload_n 0, 1), (14, .getfield 46, 3), (17, .getfield 157, 3), (20, .ireturn, 1)] = true := by decide +kernel
set_option maxRecDepth 100000 in
set_option maxHeartbeats 4000000 in
theorem kg_X11_begin_0 {G : kG} {q : kP} {d : Nat} {x : gd} {P : Option gv → gd → Prop} {X : String → gd → Prop} (hq : kV q) (l1 : Int32)
    (h : KE G q (d + 6) zk_X11_needCompiled 0 [(0, vr 0)] [] x (rv (fun x1 => KE G q (d + 6) zk_X11_needWay 0 [(0, vi l1)] [] x1 (rv (fun x2 => KT G q (d + 6) zk_X11_beginRun 0 [(0, vr 0), (1, vi l1)] [] x2 (rv (fun x3 => P (some (vi (x3.1 120 13))) x3)))) X)) X) :
    KE G q (d + 7) zk_X11_begin 0 [(0, vr 0), (1, vi l1)] [] x P X := by
  refine T_aload_n 0 (dk dtk_X11_begin 0 rfl) rfl rfl ?_
  refine KD_Vv [] [] rfl (dk dtk_X11_begin 1 rfl) kcv_X11_148 rfl kk_0 rfl (kl_0 hq) (Nat.le_of_ble_eq_true rfl) (Nat.le_of_ble_eq_true rfl) (gok_i (av_c (gkr (kl_0 hq)) (av_c rfl av_n)) as_n) rfl h (fun x1 h => ?_)
  refine T_iload_n 1 (dk dtk_X11_begin 2 rfl) rfl rfl ?_
  refine KD_Sv [vi l1] [] rfl (dk dtk_X11_begin 3 rfl) kcs_X11_151 rfl (Nat.le_of_ble_eq_true rfl) (Nat.le_of_ble_eq_true rfl) (gok_i (av_c (gkr (kl_0 hq)) (av_c rfl av_n)) as_n) rfl h (fun x2 h => ?_)
  refine T_aload_n 0 (dk dtk_X11_begin 4 rfl) rfl rfl ?_
  refine T_iload_n 1 (dk dtk_X11_begin 5 rfl) rfl rfl ?_
  refine T_sub (lv2 := [(0, vr 0)]) [0] rfl ?_
  refine KC_Vv [vi l1] [] rfl (dk dtk_X11_begin 6 rfl) kcv_X11_154 rfl kk_0 rfl (kl_0 hq) (Nat.le_of_ble_eq_true rfl) (Nat.le_of_ble_eq_true rfl) (gok_i (av_c (gkr (kl_0 hq)) av_n) as_n) rfl h (fun x3 h => ?_)
  refine T_aload_n 0 (dk dtk_X11_begin 7 rfl) rfl rfl ?_
  refine T_getR 0 4 120 (dk dtk_X11_begin 8 rfl) kfl_X11_46 kk_0 (kl_0 hq) (by decide) rfl kr_0_4 ?_
  refine T_getI 120 13 (dk dtk_X11_begin 9 rfl) kfl_X11_157 kk_120 (kl_120 hq) (by decide) rfl ?_
  exact KE_iret (dk dtk_X11_begin 10 rfl) rfl rfl h
set_option maxRecDepth 100000 in
theorem dtk_X11_choices : dck cX11_choices [(0, .aload_n 0, 1), (1, .invokevirtual 160, 3), (4, .aload_n 0, 1), (5, .getfield 46, 3), (8, .getfield 157, 3), (11, .ireturn, 1)] = true := by decide +kernel
set_option maxRecDepth 100000 in
set_option maxHeartbeats 4000000 in
theorem kg_X11_choices_0 {G : kG} {q : kP} {d : Nat} {x : gd} {P : Option gv → gd → Prop} {X : String → gd → Prop} (hq : kV q) 
    (h : KE G q (d + 6) zk_X11_needRun 0 [(0, vr 0)] [] x (rv (fun x1 => P (some (vi (x1.1 120 13))) x1)) X) :
    KE G q (d + 7) zk_X11_choices 0 [(0, vr 0)] [] x P X := by
  refine T_aload_n 0 (dk dtk_X11_choices 0 rfl) rfl rfl ?_
  refine KD_Vv [] [] rfl (dk dtk_X11_choices 1 rfl) kcv_X11_160 rfl kk_0 rfl (kl_0 hq) (Nat.le_of_ble_eq_true rfl) (Nat.le_of_ble_eq_true rfl) (gok_i (av_c (gkr (kl_0 hq)) av_n) as_n) rfl h (fun x1 h => ?_)
  refine T_aload_n 0 (dk dtk_X11_choices 2 rfl) rfl rfl ?_
  refine T_getR 0 4 120 (dk dtk_X11_choices 3 rfl) kfl_X11_46 kk_0 (kl_0 hq) (by decide) rfl kr_0_4 ?_
  refine T_getI 120 13 (dk dtk_X11_choices 4 rfl) kfl_X11_157 kk_120 (kl_120 hq) (by decide) rfl ?_
  exact KE_iret (dk dtk_X11_choices 5 rfl) rfl rfl h
set_option maxRecDepth 100000 in
theorem dtk_X11_choice : dck cX11_choice [(0, .aload_n 0, 1), (1, .invokevirtual 160, 3), (4, .iload_n 1, 1), (5, .aload_n 0, 1), (6, .getfield 46, 3), (9, .getfield 157, 3), (12, .invokestatic 163, 3), (15, .iload_n 2, 1), (16, .iconst 5, 1), (17, .invokestatic 132, 3), (20, .aload_n 0, 1), (21, .getfield 46, 3), (24, .getfield 166, 3), (27, .iload_n 1, 1), (28, .iaload, 1), (29, .istore_n 3, 1), (30, .aload_n 0, 1), (31, .getfield 46, 3), (34, .getfield 169, 3), (37, .iload_n 1, 1), (38, .iaload, 1), (39, .istore 4, 2), (41, .iload_n 2, 1), (42, .tableswitch 91 0 3 #[30, 32, 44, 63], 30), (72, .iload_n 3, 1), (73, .ireturn, 1), (74, .iload 4, 2), (76, .iconst (-1), 1), (77, .if_icmp .ne 7, 3), (80, .iconst 0, 1), (81, .goto 4, 3), (84, .iconst 1, 1), (85, .ireturn, 1), (86, .iload 4, 2), (88, .iconst (-1), 1), (89, .if_icmp .ne 14, 3), (92, .aload_n 0, 1), (93, .getfield 46, 3), (96, .iload_n 3, 1), (97, .invokevirtual 172, 3), (100, .goto 4, 3), (103, .iconst 1, 1), (104, .ireturn, 1), (105, .iload 4, 2), (107, .iconst (-1), 1), (108, .if_icmp .ne 14, 3), (111, .aload_n 0, 1), (112, .getfield 46, 3), (115, .iload_n 3, 1), (116, .invokevirtual 176, 3), (119, .goto 13, 3), (122, .aload_n 0, 1), (123, .getfield 46, 3), (126, .iload_n 3, 1), (127, .iload 4, 2), (129, .invokevirtual 179, 3), (132, .ireturn, 1), (133, .aload_n 0, 1), (134, .getfield 46, 3), (137, .getfield 183, 3), (140, .iload_n 1, 1), (141, .iaload, 1), (142, .ireturn, 1)] = true := by decide +kernel
set_option maxRecDepth 100000 in
set_option maxHeartbeats 4000000 in
theorem kg_X11_choice_0 {G : kG} {q : kP} {d : Nat} {x : gd} {P : Option gv → gd → Prop} {X : String → gd → Prop} (hq : kV q) (l1 : Int32) (l2 : Int32)
    (h : KE G q (d + 6) zk_X11_needRun 0 [(0, vr 0)] [] x (rv (fun x1 => KE G q (d + 6) zk_X11_needIndex 0 [(0, vi l1), (1, vi (x1.1 120 13))] [] x1 (rv (fun x2 => KE G q (d + 6) zk_X11_needWhat 0 [(0, vi l2), (1, vi 5)] [] x2 (rv (fun x3 => vp_in l1 84 ∧ vp_in l1 84 ∧ (((l2 = 0) → P (some (vi (x3.1 131 (l1 : Int32).toNatClampNeg))) x3) ∧ ((l2 = 1) → ((¬ ((x3.1 132 (l1 : Int32).toNatClampNeg) = (-1 : Int32)) → P (some (vi 1)) x3) ∧ ((x3.1 132 (l1 : Int32).toNatClampNeg) = (-1 : Int32) → P (some (vi 0)) x3))) ∧ ((l2 = 2) → ((¬ ((x3.1 132 (l1 : Int32).toNatClampNeg) = (-1 : Int32)) → P (some (vi 1)) x3) ∧ ((x3.1 132 (l1 : Int32).toNatClampNeg) = (-1 : Int32) → KT G q (d + 6) zk_X5_sortOf 0 [(0, vr 120), (1, vi (x3.1 131 (l1 : Int32).toNatClampNeg))] [] x3 (ri (fun r12 x11 => P (some (vi r12)) x11))))) ∧ ((l2 = 3) → ((¬ ((x3.1 132 (l1 : Int32).toNatClampNeg) = (-1 : Int32)) → KT G q (d + 6) zk_X5_lateCell 0 [(0, vr 120), (1, vi (x3.1 131 (l1 : Int32).toNatClampNeg)), (2, vi (x3.1 132 (l1 : Int32).toNatClampNeg))] [] x3 (ri (fun r16 x15 => P (some (vi r16)) x15))) ∧ ((x3.1 132 (l1 : Int32).toNatClampNeg) = (-1 : Int32) → KT G q (d + 6) zk_X5_objectOf 0 [(0, vr 120), (1, vi (x3.1 131 (l1 : Int32).toNatClampNeg))] [] x3 (ri (fun r18 x17 => P (some (vi r18)) x17))))) ∧ ((∀ k ∈ [(0 : Int32), (1 : Int32), (2 : Int32), (3 : Int32)], ¬ l2 = k) → vp_in l1 84 ∧ P (some (vi (x3.1 133 (l1 : Int32).toNatClampNeg))) x3)))) X)) X)) X) :
    KE G q (d + 7) zk_X11_choice 0 [(0, vr 0), (1, vi l1), (2, vi l2)] [] x P X := by
  refine T_aload_n 0 (dk dtk_X11_choice 0 rfl) rfl rfl ?_
  refine KD_Vv [] [] rfl (dk dtk_X11_choice 1 rfl) kcv_X11_160 rfl kk_0 rfl (kl_0 hq) (Nat.le_of_ble_eq_true rfl) (Nat.le_of_ble_eq_true rfl) (gok_i (av_c (gkr (kl_0 hq)) (av_c rfl (av_c rfl av_n))) as_n) rfl h (fun x1 h => ?_)
  refine T_iload_n 1 (dk dtk_X11_choice 2 rfl) rfl rfl ?_
  refine T_aload_n 0 (dk dtk_X11_choice 3 rfl) rfl rfl ?_
  refine T_getR 0 4 120 (dk dtk_X11_choice 4 rfl) kfl_X11_46 kk_0 (kl_0 hq) (by decide) rfl kr_0_4 ?_
  refine T_getI 120 13 (dk dtk_X11_choice 5 rfl) kfl_X11_157 kk_120 (kl_120 hq) (by decide) rfl ?_
  refine KD_Sv [vi l1, vi (x1.1 120 13)] [] rfl (dk dtk_X11_choice 6 rfl) kcs_X11_163 rfl (Nat.le_of_ble_eq_true rfl) (Nat.le_of_ble_eq_true rfl) (gok_i (av_c (gkr (kl_0 hq)) (av_c rfl (av_c rfl av_n))) as_n) rfl h (fun x2 h => ?_)
  refine T_iload_n 2 (dk dtk_X11_choice 7 rfl) rfl rfl ?_
  refine T_iconst (v := 5) (dk dtk_X11_choice 8 rfl) (by decide +kernel) ?_
  refine KD_Sv [vi l2, vi 5] [] rfl (dk dtk_X11_choice 9 rfl) kcs_X11_132 rfl (Nat.le_of_ble_eq_true rfl) (Nat.le_of_ble_eq_true rfl) (gok_i (av_c (gkr (kl_0 hq)) (av_c rfl (av_c rfl av_n))) as_n) rfl h (fun x3 h => ?_)
  refine T_aload_n 0 (dk dtk_X11_choice 10 rfl) rfl rfl ?_
  refine T_getR 0 4 120 (dk dtk_X11_choice 11 rfl) kfl_X11_46 kk_0 (kl_0 hq) (by decide) rfl kr_0_4 ?_
  refine T_getR 120 10 131 (dk dtk_X11_choice 12 rfl) kfl_X11_166 kk_120 (kl_120 hq) (by decide) rfl kr_120_10 ?_
  refine T_iload_n 1 (dk dtk_X11_choice 13 rfl) rfl rfl ?_
  obtain ⟨h4, h⟩ := h
  refine T_iald 131 84 (dk dtk_X11_choice 14 rfl) kk_131 (kl_131 hq) h4 ?_
  refine T_istore_n (lv2 := [(3, vi (x3.1 131 (l1 : Int32).toNatClampNeg)), (0, vr 0), (1, vi l1), (2, vi l2)]) (dk dtk_X11_choice 15 rfl) rfl (by decide) rfl ?_
  refine T_aload_n 1 (dk dtk_X11_choice 16 rfl) rfl rfl ?_
  refine T_getR 0 4 120 (dk dtk_X11_choice 17 rfl) kfl_X11_46 kk_0 (kl_0 hq) (by decide) rfl kr_0_4 ?_
  refine T_getR 120 11 132 (dk dtk_X11_choice 18 rfl) kfl_X11_169 kk_120 (kl_120 hq) (by decide) rfl kr_120_11 ?_
  refine T_iload_n 2 (dk dtk_X11_choice 19 rfl) rfl rfl ?_
  obtain ⟨h5, h⟩ := h
  refine T_iald 132 84 (dk dtk_X11_choice 20 rfl) kk_132 (kl_132 hq) h5 ?_
  refine T_istore (lv2 := [(4, vi (x3.1 132 (l1 : Int32).toNatClampNeg)), (3, vi (x3.1 131 (l1 : Int32).toNatClampNeg)), (0, vr 0), (1, vi l1), (2, vi l2)]) (dk dtk_X11_choice 21 rfl) (by decide) rfl ?_
  refine T_iload_n 4 (dk dtk_X11_choice 22 rfl) rfl rfl ?_
  by_cases c6 : l2 = 0
  · have h := h.1 c6
    refine T_table 30 72 (dk dtk_X11_choice 23 rfl) (by decide) (by rw [c6]; decide +kernel) (by decide) ?_
    refine T_iload_n 1 (dk dtk_X11_choice 24 rfl) rfl rfl ?_
    exact KE_iret (dk dtk_X11_choice 25 rfl) rfl rfl h
  · have h := h.2
    by_cases c7 : l2 = 1
    · have h := h.1 c7
      refine T_table 32 74 (dk dtk_X11_choice 23 rfl) (by decide) (by rw [c7]; decide +kernel) (by decide) ?_
      refine T_iload 0 (dk dtk_X11_choice 26 rfl) rfl ?_
      refine T_iconst (v := (-1)) (dk dtk_X11_choice 27 rfl) (by decide +kernel) ?_
      refine T_icmp_ne 84 (dk dtk_X11_choice 28 rfl) (by decide) (fun c8 => ?_) (fun c8 => ?_)
      · have h := h.1 c8
        refine T_iconst (v := 1) (dk dtk_X11_choice 31 rfl) (by decide +kernel) ?_
        exact KE_iret (dk dtk_X11_choice 32 rfl) rfl rfl h
      · have h := h.2 c8
        refine T_iconst (v := 0) (dk dtk_X11_choice 29 rfl) (by decide +kernel) ?_
        refine T_goto 85 (dk dtk_X11_choice 30 rfl) (by decide) ?_
        exact KE_iret (dk dtk_X11_choice 32 rfl) rfl rfl h
    · have h := h.2
      by_cases c9 : l2 = 2
      · have h := h.1 c9
        refine T_table 44 86 (dk dtk_X11_choice 23 rfl) (by decide) (by rw [c9]; decide +kernel) (by decide) ?_
        refine T_iload 0 (dk dtk_X11_choice 33 rfl) rfl ?_
        refine T_iconst (v := (-1)) (dk dtk_X11_choice 34 rfl) (by decide +kernel) ?_
        refine T_icmp_ne 103 (dk dtk_X11_choice 35 rfl) (by decide) (fun c10 => ?_) (fun c10 => ?_)
        · have h := h.1 c10
          refine T_iconst (v := 1) (dk dtk_X11_choice 41 rfl) (by decide +kernel) ?_
          exact KE_iret (dk dtk_X11_choice 42 rfl) rfl rfl h
        · have h := h.2 c10
          refine T_aload_n 2 (dk dtk_X11_choice 36 rfl) rfl rfl ?_
          refine T_getR 0 4 120 (dk dtk_X11_choice 37 rfl) kfl_X11_46 kk_0 (kl_0 hq) (by decide) rfl kr_0_4 ?_
          refine T_iload_n 1 (dk dtk_X11_choice 38 rfl) rfl rfl ?_
          refine T_sub (lv2 := []) [] rfl ?_
          refine KC_Vi [vi (x3.1 131 (l1 : Int32).toNatClampNeg)] [] rfl (dk dtk_X11_choice 39 rfl) kcv_X11_172 rfl kk_120 rfl (kl_120 hq) (Nat.le_of_ble_eq_true rfl) (Nat.le_of_ble_eq_true rfl) (gok_i av_n as_n) rfl h (fun r12 x11 h => ?_)
          refine T_goto 104 (dk dtk_X11_choice 40 rfl) (by decide) ?_
          exact KE_iret (dk dtk_X11_choice 42 rfl) rfl rfl h
      · have h := h.2
        by_cases c13 : l2 = 3
        · have h := h.1 c13
          refine T_table 63 105 (dk dtk_X11_choice 23 rfl) (by decide) (by rw [c13]; decide +kernel) (by decide) ?_
          refine T_iload 0 (dk dtk_X11_choice 43 rfl) rfl ?_
          refine T_iconst (v := (-1)) (dk dtk_X11_choice 44 rfl) (by decide +kernel) ?_
          refine T_icmp_ne 122 (dk dtk_X11_choice 45 rfl) (by decide) (fun c14 => ?_) (fun c14 => ?_)
          · have h := h.1 c14
            refine T_aload_n 2 (dk dtk_X11_choice 51 rfl) rfl rfl ?_
            refine T_getR 0 4 120 (dk dtk_X11_choice 52 rfl) kfl_X11_46 kk_0 (kl_0 hq) (by decide) rfl kr_0_4 ?_
            refine T_iload_n 1 (dk dtk_X11_choice 53 rfl) rfl rfl ?_
            refine T_iload 0 (dk dtk_X11_choice 54 rfl) rfl ?_
            refine T_sub (lv2 := []) [] rfl ?_
            refine KC_Vi [vi (x3.1 131 (l1 : Int32).toNatClampNeg), vi (x3.1 132 (l1 : Int32).toNatClampNeg)] [] rfl (dk dtk_X11_choice 55 rfl) kcv_X11_179 rfl kk_120 rfl (kl_120 hq) (Nat.le_of_ble_eq_true rfl) (Nat.le_of_ble_eq_true rfl) (gok_i av_n as_n) rfl h (fun r16 x15 h => ?_)
            exact KE_iret (dk dtk_X11_choice 56 rfl) rfl rfl h
          · have h := h.2 c14
            refine T_aload_n 2 (dk dtk_X11_choice 46 rfl) rfl rfl ?_
            refine T_getR 0 4 120 (dk dtk_X11_choice 47 rfl) kfl_X11_46 kk_0 (kl_0 hq) (by decide) rfl kr_0_4 ?_
            refine T_iload_n 1 (dk dtk_X11_choice 48 rfl) rfl rfl ?_
            refine T_sub (lv2 := []) [] rfl ?_
            refine KC_Vi [vi (x3.1 131 (l1 : Int32).toNatClampNeg)] [] rfl (dk dtk_X11_choice 49 rfl) kcv_X11_176 rfl kk_120 rfl (kl_120 hq) (Nat.le_of_ble_eq_true rfl) (Nat.le_of_ble_eq_true rfl) (gok_i av_n as_n) rfl h (fun r18 x17 h => ?_)
            refine T_goto 132 (dk dtk_X11_choice 50 rfl) (by decide) ?_
            exact KE_iret (dk dtk_X11_choice 56 rfl) rfl rfl h
        · have h := h.2
          have n19 : ∀ k ∈ [(0 : Int32), (1 : Int32), (2 : Int32), (3 : Int32)], ¬ l2 = k := (gno c6 (gno c7 (gno c9 (gno c13 gno0))))
          have h := h n19
          refine T_table 91 133 (dk dtk_X11_choice 23 rfl) (by decide) (gtab_d [(0 : Int32), (1 : Int32), (2 : Int32), (3 : Int32)] (by decide +kernel) n19) (by decide) ?_
          refine T_aload_n 2 (dk dtk_X11_choice 57 rfl) rfl rfl ?_
          refine T_getR 0 4 120 (dk dtk_X11_choice 58 rfl) kfl_X11_46 kk_0 (kl_0 hq) (by decide) rfl kr_0_4 ?_
          refine T_getR 120 12 133 (dk dtk_X11_choice 59 rfl) kfl_X11_183 kk_120 (kl_120 hq) (by decide) rfl kr_120_12 ?_
          refine T_iload_n 3 (dk dtk_X11_choice 60 rfl) rfl rfl ?_
          obtain ⟨h20, h⟩ := h
          refine T_iald 133 84 (dk dtk_X11_choice 61 rfl) kk_133 (kl_133 hq) h20 ?_
          exact KE_iret (dk dtk_X11_choice 62 rfl) rfl rfl h
set_option maxRecDepth 100000 in
theorem dtk_X11_go : dck cX11_go [(0, .aload_n 0, 1), (1, .invokevirtual 160, 3), (4, .aload_n 0, 1), (5, .getfield 53, 3), (8, .getfield 186, 3), (11, .sipush 400, 3), (14, .if_icmp .lt 13, 3), (17, .new 102, 3), (20, .dup, 1), (21, .ldc 189, 2), (23, .invokespecial 191, 3), (26, .athrow, 1), (27, .iload_n 1, 1), (28, .aload_n 0, 1), (29, .getfield 46, 3), (32, .getfield 157, 3), (35, .invokestatic 163, 3), (38, .aload_n 0, 1), (39, .iload_n 1, 1), (40, .invokevirtual 192, 3), (43, .aload_n 0, 1), (44, .getfield 46, 3), (47, .getfield 157, 3), (50, .ireturn, 1)] = true := by decide +kernel
set_option maxRecDepth 100000 in
set_option maxHeartbeats 4000000 in
theorem kg_X11_go_0 {G : kG} {q : kP} {d : Nat} {x : gd} {P : Option gv → gd → Prop} {X : String → gd → Prop} (hq : kV q) (l1 : Int32)
    (h : KE G q (d + 6) zk_X11_needRun 0 [(0, vr 0)] [] x (rv (fun x1 => (((x1.1 160 2) < (400 : Int32) → KE G q (d + 6) zk_X11_needIndex 0 [(0, vi l1), (1, vi (x1.1 120 13))] [] x1 (rv (fun x3 => KT G q (d + 6) zk_X11_doChoice 0 [(0, vr 0), (1, vi l1)] [] x3 (rv (fun x4 => P (some (vi (x4.1 120 13))) x4)))) X) ∧ (¬ ((x1.1 160 2) < (400 : Int32)) → X iSE x1)))) X) :
    KE G q (d + 7) zk_X11_go 0 [(0, vr 0), (1, vi l1)] [] x P X := by
  refine T_aload_n 0 (dk dtk_X11_go 0 rfl) rfl rfl ?_
  refine KD_Vv [] [] rfl (dk dtk_X11_go 1 rfl) kcv_X11_160 rfl kk_0 rfl (kl_0 hq) (Nat.le_of_ble_eq_true rfl) (Nat.le_of_ble_eq_true rfl) (gok_i (av_c (gkr (kl_0 hq)) (av_c rfl av_n)) as_n) rfl h (fun x1 h => ?_)
  refine T_aload_n 0 (dk dtk_X11_go 2 rfl) rfl rfl ?_
  refine T_getR 0 5 160 (dk dtk_X11_go 3 rfl) kfl_X11_53 kk_0 (kl_0 hq) (by decide) rfl kr_0_5 ?_
  refine T_getI 160 2 (dk dtk_X11_go 4 rfl) kfl_X11_186 kk_160 (kl_160 hq) (by decide) rfl ?_
  refine T_sipush (v := 400) (dk dtk_X11_go 5 rfl) (by decide +kernel) ?_
  refine T_icmp_lt 27 (dk dtk_X11_go 6 rfl) (by decide) (fun c2 => ?_) (fun c2 => ?_)
  · have h := h.1 c2
    refine T_iload_n 1 (dk dtk_X11_go 12 rfl) rfl rfl ?_
    refine T_aload_n 0 (dk dtk_X11_go 13 rfl) rfl rfl ?_
    refine T_getR 0 4 120 (dk dtk_X11_go 14 rfl) kfl_X11_46 kk_0 (kl_0 hq) (by decide) rfl kr_0_4 ?_
    refine T_getI 120 13 (dk dtk_X11_go 15 rfl) kfl_X11_157 kk_120 (kl_120 hq) (by decide) rfl ?_
    refine KD_Sv [vi l1, vi (x1.1 120 13)] [] rfl (dk dtk_X11_go 16 rfl) kcs_X11_163 rfl (Nat.le_of_ble_eq_true rfl) (Nat.le_of_ble_eq_true rfl) (gok_i (av_c (gkr (kl_0 hq)) (av_c rfl av_n)) as_n) rfl h (fun x3 h => ?_)
    refine T_aload_n 0 (dk dtk_X11_go 17 rfl) rfl rfl ?_
    refine T_iload_n 1 (dk dtk_X11_go 18 rfl) rfl rfl ?_
    refine T_sub (lv2 := [(0, vr 0)]) [0] rfl ?_
    refine KC_Vv [vi l1] [] rfl (dk dtk_X11_go 19 rfl) kcv_X11_192 rfl kk_0 rfl (kl_0 hq) (Nat.le_of_ble_eq_true rfl) (Nat.le_of_ble_eq_true rfl) (gok_i (av_c (gkr (kl_0 hq)) av_n) as_n) rfl h (fun x4 h => ?_)
    refine T_aload_n 0 (dk dtk_X11_go 20 rfl) rfl rfl ?_
    refine T_getR 0 4 120 (dk dtk_X11_go 21 rfl) kfl_X11_46 kk_0 (kl_0 hq) (by decide) rfl kr_0_4 ?_
    refine T_getI 120 13 (dk dtk_X11_go 22 rfl) kfl_X11_157 kk_120 (kl_120 hq) (by decide) rfl ?_
    exact KE_iret (dk dtk_X11_go 23 rfl) rfl rfl h
  · have h := h.2 c2
    exact T_thr kth_X11_102_189 (dk dtk_X11_go 7 rfl) (dk dtk_X11_go 8 rfl) (dk dtk_X11_go 9 rfl) (dk dtk_X11_go 10 rfl) (dk dtk_X11_go 11 rfl) (by intro z hz; cases hz) (by omega) (Nat.le_of_ble_eq_true rfl) (Or.inr ⟨rfl, _, rfl, h⟩)
set_option maxRecDepth 100000 in
theorem dtk_X11_draw : dck cX11_draw [(0, .aload_n 0, 1), (1, .invokevirtual 160, 3), (4, .iload_n 2, 1), (5, .ifCond .lt 10, 3), (8, .iload_n 2, 1), (9, .sipush 400, 3), (12, .if_icmp .le 13, 3), (15, .new 70, 3), (18, .dup, 1), (19, .ldc 195, 2), (21, .invokespecial 74, 3), (24, .athrow, 1), (25, .iload_n 1, 1), (26, .istore_n 3, 1), (27, .iconst 0, 1), (28, .istore 4, 2), (30, .iconst 0, 1), (31, .istore 5, 2), (33, .iload 5, 2), (35, .iload_n 2, 1), (36, .if_icmp .ge 64, 3), (39, .aload_n 0, 1), (40, .getfield 46, 3), (43, .getfield 157, 3), (46, .ifCond .le 54, 3), (49, .aload_n 0, 1), (50, .getfield 53, 3), (53, .getfield 186, 3), (56, .sipush 400, 3), (59, .if_icmp .ge 41, 3), (62, .iload_n 3, 1), (63, .ldc 197, 2), (65, .imul, 1), (66, .sipush 12345, 3), (69, .iadd, 1), (70, .istore_n 3, 1), (71, .aload_n 0, 1), (72, .iload_n 3, 1), (73, .bipush 16, 2), (75, .iushr, 1), (76, .sipush 32767, 3), (79, .iand, 1), (80, .aload_n 0, 1), (81, .getfield 46, 3), (84, .getfield 157, 3), (87, .irem, 1), (88, .invokevirtual 192, 3), (91, .iinc 4 1, 3), (94, .iinc 5 1, 3), (97, .goto (-64), 3), (100, .iload 4, 2), (102, .ireturn, 1)] = true := by decide +kernel
set_option maxRecDepth 100000 in
set_option maxHeartbeats 4000000 in
theorem kg_X11_draw_0 {G : kG} {q : kP} {d : Nat} {x : gd} {P : Option gv → gd → Prop} {X : String → gd → Prop} (hq : kV q) (l1 : Int32) (l2 : Int32)
    (h : KE G q (d + 6) zk_X11_needRun 0 [(0, vr 0)] [] x (rv (fun x1 => ((l2 < (0 : Int32) → KE G q (d + 7) zk_X11_draw 15 [] [] x1 P X) ∧ (¬ (l2 < (0 : Int32)) → ((l2 ≤ (400 : Int32) → KE G q (d + 7) zk_X11_draw 33 [(0, vr 0), (2, vi l2), (3, vi l1), (4, vi 0), (5, vi 0)] [] x1 P X) ∧ (¬ (l2 ≤ (400 : Int32)) → KE G q (d + 7) zk_X11_draw 15 [] [] x1 P X)))))) X) :
    KE G q (d + 7) zk_X11_draw 0 [(0, vr 0), (1, vi l1), (2, vi l2)] [] x P X := by
  refine T_aload_n 0 (dk dtk_X11_draw 0 rfl) rfl rfl ?_
  refine KD_Vv [] [] rfl (dk dtk_X11_draw 1 rfl) kcv_X11_160 rfl kk_0 rfl (kl_0 hq) (Nat.le_of_ble_eq_true rfl) (Nat.le_of_ble_eq_true rfl) (gok_i (av_c (gkr (kl_0 hq)) (av_c rfl (av_c rfl av_n))) as_n) rfl h (fun x1 h => ?_)
  refine T_iload_n 2 (dk dtk_X11_draw 2 rfl) rfl rfl ?_
  refine T_if_lt 15 (dk dtk_X11_draw 3 rfl) (by decide) (fun c2 => ?_) (fun c2 => ?_)
  · have h := h.1 c2
    exact T_sub [] rfl h
  · have h := h.2 c2
    refine T_iload_n 2 (dk dtk_X11_draw 4 rfl) rfl rfl ?_
    refine T_sipush (v := 400) (dk dtk_X11_draw 5 rfl) (by decide +kernel) ?_
    refine T_icmp_le 25 (dk dtk_X11_draw 6 rfl) (by decide) (fun c3 => ?_) (fun c3 => ?_)
    · have h := h.1 c3
      refine T_iload_n 1 (dk dtk_X11_draw 12 rfl) rfl rfl ?_
      refine T_istore_n (lv2 := [(3, vi l1), (0, vr 0), (1, vi l1), (2, vi l2)]) (dk dtk_X11_draw 13 rfl) rfl (by decide) rfl ?_
      refine T_iconst (v := 0) (dk dtk_X11_draw 14 rfl) (by decide +kernel) ?_
      refine T_istore (lv2 := [(4, vi 0), (3, vi l1), (0, vr 0), (1, vi l1), (2, vi l2)]) (dk dtk_X11_draw 15 rfl) (by decide) rfl ?_
      refine T_iconst (v := 0) (dk dtk_X11_draw 16 rfl) (by decide +kernel) ?_
      refine T_istore (lv2 := [(5, vi 0), (4, vi 0), (3, vi l1), (0, vr 0), (1, vi l1), (2, vi l2)]) (dk dtk_X11_draw 17 rfl) (by decide) rfl ?_
      exact T_sub [3, 5, 2, 1, 0] rfl h
    · have h := h.2 c3
      exact T_sub [] rfl h
set_option maxRecDepth 100000 in
set_option maxHeartbeats 4000000 in
theorem kg_X11_draw_15 {G : kG} {q : kP} {d : Nat} {x : gd} {P : Option gv → gd → Prop} {X : String → gd → Prop} (hq : kV q) 
    (h : X iAE x) :
    KE G q (d + 7) zk_X11_draw 15 [] [] x P X := by
  exact T_thr kth_X11_70_195 (dk dtk_X11_draw 7 rfl) (dk dtk_X11_draw 8 rfl) (dk dtk_X11_draw 9 rfl) (dk dtk_X11_draw 10 rfl) (dk dtk_X11_draw 11 rfl) (by intro z hz; cases hz) (by omega) (Nat.le_of_ble_eq_true rfl) (Or.inr ⟨rfl, _, rfl, h⟩)
set_option maxRecDepth 100000 in
set_option maxHeartbeats 4000000 in
theorem kg_X11_draw_33 {G : kG} {q : kP} {d : Nat} {x : gd} {P : Option gv → gd → Prop} {X : String → gd → Prop} (hq : kV q) (l2 : Int32) (l3 : Int32) (l4 : Int32) (l5 : Int32)
    (h : ((l2 ≤ l5 → P (some (vi l4)) x) ∧ (¬ (l2 ≤ l5) → (((x.1 120 13) ≤ (0 : Int32) → P (some (vi l4)) x) ∧ (¬ ((x.1 120 13) ≤ (0 : Int32)) → (((400 : Int32) ≤ (x.1 160 2) → P (some (vi l4)) x) ∧ (¬ ((400 : Int32) ≤ (x.1 160 2)) → ¬ (x.1 120 13) = 0 ∧ KT G q (d + 6) zk_X11_doChoice 0 [(0, vr 0), (1, vi ((((((l3 * 1103515245) + 12345 : Int32).toUInt32 >>> ((16 : Int32).toUInt32 &&& Int32.toUInt32 31)).toInt32) &&& 32767) - (((((l3 * 1103515245) + 12345 : Int32).toUInt32 >>> ((16 : Int32).toUInt32 &&& Int32.toUInt32 31)).toInt32) &&& 32767) / (x.1 120 13) * (x.1 120 13)))] [] x (rv (fun x5 => KE G q (d + 7) zk_X11_draw 33 [(0, vr 0), (2, vi l2), (3, vi ((l3 * 1103515245) + 12345)), (4, vi (l4 + 1)), (5, vi (l5 + 1))] [] x5 P X))))))))) :
    KE G q (d + 7) zk_X11_draw 33 [(0, vr 0), (2, vi l2), (3, vi l3), (4, vi l4), (5, vi l5)] [] x P X := by
  refine T_iload 4 (dk dtk_X11_draw 18 rfl) rfl ?_
  refine T_iload_n 1 (dk dtk_X11_draw 19 rfl) rfl rfl ?_
  refine T_icmp_ge 100 (dk dtk_X11_draw 20 rfl) (by decide) (fun c1 => ?_) (fun c1 => ?_)
  · have h := h.1 c1
    refine T_iload 3 (dk dtk_X11_draw 50 rfl) rfl ?_
    exact KE_iret (dk dtk_X11_draw 51 rfl) rfl rfl h
  · have h := h.2 c1
    refine T_aload_n 0 (dk dtk_X11_draw 21 rfl) rfl rfl ?_
    refine T_getR 0 4 120 (dk dtk_X11_draw 22 rfl) kfl_X11_46 kk_0 (kl_0 hq) (by decide) rfl kr_0_4 ?_
    refine T_getI 120 13 (dk dtk_X11_draw 23 rfl) kfl_X11_157 kk_120 (kl_120 hq) (by decide) rfl ?_
    refine T_if_le 100 (dk dtk_X11_draw 24 rfl) (by decide) (fun c2 => ?_) (fun c2 => ?_)
    · have h := h.1 c2
      refine T_iload 3 (dk dtk_X11_draw 50 rfl) rfl ?_
      exact KE_iret (dk dtk_X11_draw 51 rfl) rfl rfl h
    · have h := h.2 c2
      refine T_aload_n 0 (dk dtk_X11_draw 25 rfl) rfl rfl ?_
      refine T_getR 0 5 160 (dk dtk_X11_draw 26 rfl) kfl_X11_53 kk_0 (kl_0 hq) (by decide) rfl kr_0_5 ?_
      refine T_getI 160 2 (dk dtk_X11_draw 27 rfl) kfl_X11_186 kk_160 (kl_160 hq) (by decide) rfl ?_
      refine T_sipush (v := 400) (dk dtk_X11_draw 28 rfl) (by decide +kernel) ?_
      refine T_icmp_ge 100 (dk dtk_X11_draw 29 rfl) (by decide) (fun c3 => ?_) (fun c3 => ?_)
      · have h := h.1 c3
        refine T_iload 3 (dk dtk_X11_draw 50 rfl) rfl ?_
        exact KE_iret (dk dtk_X11_draw 51 rfl) rfl rfl h
      · have h := h.2 c3
        refine T_iload_n 2 (dk dtk_X11_draw 30 rfl) rfl rfl ?_
        refine T_ldc (v := 1103515245) (dk dtk_X11_draw 31 rfl) kkc_X11_197 ?_
        refine T_imul (dk dtk_X11_draw 32 rfl) ?_
        refine T_sipush (v := 12345) (dk dtk_X11_draw 33 rfl) (by decide +kernel) ?_
        refine T_iadd (dk dtk_X11_draw 34 rfl) ?_
        refine T_istore_n (lv2 := [(3, vi ((l3 * 1103515245) + 12345)), (0, vr 0), (2, vi l2), (4, vi l4), (5, vi l5)]) (dk dtk_X11_draw 35 rfl) rfl (by decide) rfl ?_
        refine T_aload_n 1 (dk dtk_X11_draw 36 rfl) rfl rfl ?_
        refine T_iload_n 0 (dk dtk_X11_draw 37 rfl) rfl rfl ?_
        refine T_bipush (v := 16) (dk dtk_X11_draw 38 rfl) (by decide +kernel) ?_
        refine T_iushr (dk dtk_X11_draw 39 rfl) ?_
        refine T_sipush (v := 32767) (dk dtk_X11_draw 40 rfl) (by decide +kernel) ?_
        refine T_iand (dk dtk_X11_draw 41 rfl) ?_
        refine T_aload_n 1 (dk dtk_X11_draw 42 rfl) rfl rfl ?_
        refine T_getR 0 4 120 (dk dtk_X11_draw 43 rfl) kfl_X11_46 kk_0 (kl_0 hq) (by decide) rfl kr_0_4 ?_
        refine T_getI 120 13 (dk dtk_X11_draw 44 rfl) kfl_X11_157 kk_120 (kl_120 hq) (by decide) rfl ?_
        obtain ⟨h4, h⟩ := h
        refine T_irem (dk dtk_X11_draw 45 rfl) h4 ?_
        refine KC_Vv [vi ((((((l3 * 1103515245) + 12345 : Int32).toUInt32 >>> ((16 : Int32).toUInt32 &&& Int32.toUInt32 31)).toInt32) &&& 32767) - (((((l3 * 1103515245) + 12345 : Int32).toUInt32 >>> ((16 : Int32).toUInt32 &&& Int32.toUInt32 31)).toInt32) &&& 32767) / (x.1 120 13) * (x.1 120 13))] [] rfl (dk dtk_X11_draw 46 rfl) kcv_X11_192 rfl kk_0 rfl (kl_0 hq) (Nat.le_of_ble_eq_true rfl) (Nat.le_of_ble_eq_true rfl) (gok_i (av_c rfl (av_c (gkr (kl_0 hq)) (av_c rfl (av_c rfl (av_c rfl av_n))))) as_n) rfl h (fun x5 h => ?_)
        refine T_iinc (v := l4 + 1) (lv2 := [(4, vi (l4 + 1)), (3, vi ((l3 * 1103515245) + 12345)), (0, vr 0), (2, vi l2), (5, vi l5)]) 3 (dk dtk_X11_draw 47 rfl) rfl rfl (by decide) rfl ?_
        refine T_iinc (v := l5 + 1) (lv2 := [(5, vi (l5 + 1)), (4, vi (l4 + 1)), (3, vi ((l3 * 1103515245) + 12345)), (0, vr 0), (2, vi l2)]) 4 (dk dtk_X11_draw 48 rfl) rfl rfl (by decide) rfl ?_
        refine T_goto 33 (dk dtk_X11_draw 49 rfl) (by decide) ?_
        exact T_sub [3, 4, 2, 1, 0] rfl h
set_option maxRecDepth 100000 in
theorem dtk_X11_again : dck cX11_again [(0, .aload_n 0, 1), (1, .invokevirtual 160, 3), (4, .iload_n 1, 1), (5, .ifCond .lt 14, 3), (8, .iload_n 1, 1), (9, .aload_n 0, 1), (10, .getfield 53, 3), (13, .getfield 186, 3), (16, .if_icmp .le 13, 3), (19, .new 70, 3), (22, .dup, 1), (23, .ldc 198, 2), (25, .invokespecial 74, 3), (28, .athrow, 1), (29, .aload_n 0, 1), (30, .aload_n 0, 1), (31, .getfield 46, 3), (34, .getfield 200, 3), (37, .invokevirtual 154, 3), (40, .iconst 0, 1), (41, .istore_n 2, 1), (42, .iload_n 2, 1), (43, .iload_n 1, 1), (44, .if_icmp .ge 22, 3), (47, .aload_n 0, 1), (48, .aload_n 0, 1), (49, .getfield 53, 3), (52, .getfield 203, 3), (55, .iload_n 2, 1), (56, .iaload, 1), (57, .invokevirtual 192, 3), (60, .iinc 2 1, 3), (63, .goto (-21), 3), (66, .aload_n 0, 1), (67, .getfield 46, 3), (70, .getfield 157, 3), (73, .ireturn, 1)] = true := by decide +kernel
set_option maxRecDepth 100000 in
set_option maxHeartbeats 4000000 in
theorem kg_X11_again_0 {G : kG} {q : kP} {d : Nat} {x : gd} {P : Option gv → gd → Prop} {X : String → gd → Prop} (hq : kV q) (l1 : Int32)
    (h : KE G q (d + 6) zk_X11_needRun 0 [(0, vr 0)] [] x (rv (fun x1 => ((l1 < (0 : Int32) → KE G q (d + 7) zk_X11_again 19 [] [] x1 P X) ∧ (¬ (l1 < (0 : Int32)) → ((l1 ≤ (x1.1 160 2) → KT G q (d + 6) zk_X11_beginRun 0 [(0, vr 0), (1, vi (x1.1 120 3))] [] x1 (rv (fun x4 => KE G q (d + 7) zk_X11_again 42 [(0, vr 0), (1, vi l1), (2, vi 0)] [] x4 P X))) ∧ (¬ (l1 ≤ (x1.1 160 2)) → KE G q (d + 7) zk_X11_again 19 [] [] x1 P X)))))) X) :
    KE G q (d + 7) zk_X11_again 0 [(0, vr 0), (1, vi l1)] [] x P X := by
  refine T_aload_n 0 (dk dtk_X11_again 0 rfl) rfl rfl ?_
  refine KD_Vv [] [] rfl (dk dtk_X11_again 1 rfl) kcv_X11_160 rfl kk_0 rfl (kl_0 hq) (Nat.le_of_ble_eq_true rfl) (Nat.le_of_ble_eq_true rfl) (gok_i (av_c (gkr (kl_0 hq)) (av_c rfl av_n)) as_n) rfl h (fun x1 h => ?_)
  refine T_iload_n 1 (dk dtk_X11_again 2 rfl) rfl rfl ?_
  refine T_if_lt 19 (dk dtk_X11_again 3 rfl) (by decide) (fun c2 => ?_) (fun c2 => ?_)
  · have h := h.1 c2
    exact T_sub [] rfl h
  · have h := h.2 c2
    refine T_iload_n 1 (dk dtk_X11_again 4 rfl) rfl rfl ?_
    refine T_aload_n 0 (dk dtk_X11_again 5 rfl) rfl rfl ?_
    refine T_getR 0 5 160 (dk dtk_X11_again 6 rfl) kfl_X11_53 kk_0 (kl_0 hq) (by decide) rfl kr_0_5 ?_
    refine T_getI 160 2 (dk dtk_X11_again 7 rfl) kfl_X11_186 kk_160 (kl_160 hq) (by decide) rfl ?_
    refine T_icmp_le 29 (dk dtk_X11_again 8 rfl) (by decide) (fun c3 => ?_) (fun c3 => ?_)
    · have h := h.1 c3
      refine T_aload_n 0 (dk dtk_X11_again 14 rfl) rfl rfl ?_
      refine T_aload_n 0 (dk dtk_X11_again 15 rfl) rfl rfl ?_
      refine T_getR 0 4 120 (dk dtk_X11_again 16 rfl) kfl_X11_46 kk_0 (kl_0 hq) (by decide) rfl kr_0_4 ?_
      refine T_getI 120 3 (dk dtk_X11_again 17 rfl) kfl_X11_200 kk_120 (kl_120 hq) (by decide) rfl ?_
      refine KC_Vv [vi (x1.1 120 3)] [] rfl (dk dtk_X11_again 18 rfl) kcv_X11_154 rfl kk_0 rfl (kl_0 hq) (Nat.le_of_ble_eq_true rfl) (Nat.le_of_ble_eq_true rfl) (gok_i (av_c (gkr (kl_0 hq)) (av_c rfl av_n)) as_n) rfl h (fun x4 h => ?_)
      refine T_iconst (v := 0) (dk dtk_X11_again 19 rfl) (by decide +kernel) ?_
      refine T_istore_n (lv2 := [(2, vi 0), (0, vr 0), (1, vi l1)]) (dk dtk_X11_again 20 rfl) rfl (by decide) rfl ?_
      exact T_sub [1, 2, 0] rfl h
    · have h := h.2 c3
      exact T_sub [] rfl h
set_option maxRecDepth 100000 in
set_option maxHeartbeats 4000000 in
theorem kg_X11_again_19 {G : kG} {q : kP} {d : Nat} {x : gd} {P : Option gv → gd → Prop} {X : String → gd → Prop} (hq : kV q) 
    (h : X iAE x) :
    KE G q (d + 7) zk_X11_again 19 [] [] x P X := by
  exact T_thr kth_X11_70_198 (dk dtk_X11_again 9 rfl) (dk dtk_X11_again 10 rfl) (dk dtk_X11_again 11 rfl) (dk dtk_X11_again 12 rfl) (dk dtk_X11_again 13 rfl) (by intro z hz; cases hz) (by omega) (Nat.le_of_ble_eq_true rfl) (Or.inr ⟨rfl, _, rfl, h⟩)
set_option maxRecDepth 100000 in
set_option maxHeartbeats 4000000 in
theorem kg_X11_again_42 {G : kG} {q : kP} {d : Nat} {x : gd} {P : Option gv → gd → Prop} {X : String → gd → Prop} (hq : kV q) (l1 : Int32) (l2 : Int32)
    (h : ((l1 ≤ l2 → P (some (vi (x.1 120 13))) x) ∧ (¬ (l1 ≤ l2) → vp_in l2 400 ∧ KT G q (d + 6) zk_X11_doChoice 0 [(0, vr 0), (1, vi (x.1 162 (l2 : Int32).toNatClampNeg))] [] x (rv (fun x3 => KE G q (d + 7) zk_X11_again 42 [(0, vr 0), (1, vi l1), (2, vi (l2 + 1))] [] x3 P X))))) :
    KE G q (d + 7) zk_X11_again 42 [(0, vr 0), (1, vi l1), (2, vi l2)] [] x P X := by
  refine T_iload_n 2 (dk dtk_X11_again 21 rfl) rfl rfl ?_
  refine T_iload_n 1 (dk dtk_X11_again 22 rfl) rfl rfl ?_
  refine T_icmp_ge 66 (dk dtk_X11_again 23 rfl) (by decide) (fun c1 => ?_) (fun c1 => ?_)
  · have h := h.1 c1
    refine T_aload_n 0 (dk dtk_X11_again 33 rfl) rfl rfl ?_
    refine T_getR 0 4 120 (dk dtk_X11_again 34 rfl) kfl_X11_46 kk_0 (kl_0 hq) (by decide) rfl kr_0_4 ?_
    refine T_getI 120 13 (dk dtk_X11_again 35 rfl) kfl_X11_157 kk_120 (kl_120 hq) (by decide) rfl ?_
    exact KE_iret (dk dtk_X11_again 36 rfl) rfl rfl h
  · have h := h.2 c1
    refine T_aload_n 0 (dk dtk_X11_again 24 rfl) rfl rfl ?_
    refine T_aload_n 0 (dk dtk_X11_again 25 rfl) rfl rfl ?_
    refine T_getR 0 5 160 (dk dtk_X11_again 26 rfl) kfl_X11_53 kk_0 (kl_0 hq) (by decide) rfl kr_0_5 ?_
    refine T_getR 160 1 162 (dk dtk_X11_again 27 rfl) kfl_X11_203 kk_160 (kl_160 hq) (by decide) rfl kr_160_1 ?_
    refine T_iload_n 2 (dk dtk_X11_again 28 rfl) rfl rfl ?_
    obtain ⟨h2, h⟩ := h
    refine T_iald 162 400 (dk dtk_X11_again 29 rfl) kk_162 (kl_162 hq) h2 ?_
    refine KC_Vv [vi (x.1 162 (l2 : Int32).toNatClampNeg)] [] rfl (dk dtk_X11_again 30 rfl) kcv_X11_192 rfl kk_0 rfl (kl_0 hq) (Nat.le_of_ble_eq_true rfl) (Nat.le_of_ble_eq_true rfl) (gok_i (av_c (gkr (kl_0 hq)) (av_c rfl (av_c rfl av_n))) as_n) rfl h (fun x3 h => ?_)
    refine T_iinc (v := l2 + 1) (lv2 := [(2, vi (l2 + 1)), (0, vr 0), (1, vi l1)]) 2 (dk dtk_X11_again 31 rfl) rfl rfl (by decide) rfl ?_
    refine T_goto 42 (dk dtk_X11_again 32 rfl) (by decide) ?_
    exact T_sub [1, 2, 0] rfl h
set_option maxRecDepth 100000 in
theorem dtk_X11_run : dck cX11_run [(0, .aload_n 0, 1), (1, .invokevirtual 160, 3), (4, .iload_n 1, 1), (5, .bipush 8, 2), (7, .invokestatic 132, 3), (10, .iload_n 1, 1), (11, .tableswitch 113 0 6 #[41, 49, 57, 65, 81, 97, 105], 41), (52, .aload_n 0, 1), (53, .getfield 46, 3), (56, .getfield 200, 3), (59, .ireturn, 1), (60, .aload_n 0, 1), (61, .getfield 53, 3), (64, .getfield 186, 3), (67, .ireturn, 1), (68, .aload_n 0, 1), (69, .getfield 53, 3), (72, .getfield 206, 3), (75, .ireturn, 1), (76, .aload_n 0, 1), (77, .getfield 46, 3), (80, .getfield 157, 3), (83, .ifCond .ne 7, 3), (86, .iconst 1, 1), (87, .goto 4, 3), (90, .iconst 0, 1), (91, .ireturn, 1), (92, .aload_n 0, 1), (93, .getfield 46, 3), (96, .invokevirtual 209, 3), (99, .ifCond .eq 7, 3), (102, .iconst 1, 1), (103, .goto 4, 3), (106, .iconst 0, 1), (107, .ireturn, 1), (108, .aload_n 0, 1), (109, .getfield 53, 3), (112, .invokevirtual 213, 3), (115, .ireturn, 1), (116, .aload_n 0, 1), (117, .getfield 53, 3), (120, .getfield 216, 3), (123, .ireturn, 1), (124, .aload_n 0, 1), (125, .getfield 46, 3), (128, .invokevirtual 219, 3), (131, .ireturn, 1)] = true := by decide +kernel
set_option maxRecDepth 100000 in
set_option maxHeartbeats 4000000 in
theorem kg_X11_run_0 {G : kG} {q : kP} {d : Nat} {x : gd} {P : Option gv → gd → Prop} {X : String → gd → Prop} (hq : kV q) (l1 : Int32)
    (h : KE G q (d + 6) zk_X11_needRun 0 [(0, vr 0)] [] x (rv (fun x1 => KE G q (d + 6) zk_X11_needWhat 0 [(0, vi l1), (1, vi 8)] [] x1 (rv (fun x2 => (((l1 = 0) → P (some (vi (x2.1 120 3))) x2) ∧ ((l1 = 1) → P (some (vi (x2.1 160 2))) x2) ∧ ((l1 = 2) → P (some (vi (x2.1 160 3))) x2) ∧ ((l1 = 3) → ((¬ ((x2.1 120 13) = (0 : Int32)) → P (some (vi 0)) x2) ∧ ((x2.1 120 13) = (0 : Int32) → P (some (vi 1)) x2))) ∧ ((l1 = 4) → KT G q (d + 6) zk_X5_isStuck 0 [(0, vr 120)] [] x2 (ri (fun r10 x9 => ((r10 = (0 : Int32) → P (some (vi 0)) x9) ∧ (¬ (r10 = (0 : Int32)) → P (some (vi 1)) x9))))) ∧ ((l1 = 5) → KT G q (d + 6) zk_X4_races 0 [(0, vr 160)] [] x2 (ri (fun r14 x13 => P (some (vi r14)) x13))) ∧ ((l1 = 6) → P (some (vi (x2.1 160 4))) x2) ∧ ((∀ k ∈ [(0 : Int32), (1 : Int32), (2 : Int32), (3 : Int32), (4 : Int32), (5 : Int32), (6 : Int32)], ¬ l1 = k) → KT G q (d + 6) zk_X5_allLate 0 [(0, vr 120)] [] x2 (ri (fun r18 x17 => P (some (vi r18)) x17)))))) X)) X) :
    KE G q (d + 7) zk_X11_run 0 [(0, vr 0), (1, vi l1)] [] x P X := by
  refine T_aload_n 0 (dk dtk_X11_run 0 rfl) rfl rfl ?_
  refine KD_Vv [] [] rfl (dk dtk_X11_run 1 rfl) kcv_X11_160 rfl kk_0 rfl (kl_0 hq) (Nat.le_of_ble_eq_true rfl) (Nat.le_of_ble_eq_true rfl) (gok_i (av_c (gkr (kl_0 hq)) (av_c rfl av_n)) as_n) rfl h (fun x1 h => ?_)
  refine T_iload_n 1 (dk dtk_X11_run 2 rfl) rfl rfl ?_
  refine T_bipush (v := 8) (dk dtk_X11_run 3 rfl) (by decide +kernel) ?_
  refine KD_Sv [vi l1, vi 8] [] rfl (dk dtk_X11_run 4 rfl) kcs_X11_132 rfl (Nat.le_of_ble_eq_true rfl) (Nat.le_of_ble_eq_true rfl) (gok_i (av_c (gkr (kl_0 hq)) (av_c rfl av_n)) as_n) rfl h (fun x2 h => ?_)
  refine T_iload_n 1 (dk dtk_X11_run 5 rfl) rfl rfl ?_
  by_cases c3 : l1 = 0
  · have h := h.1 c3
    refine T_table 41 52 (dk dtk_X11_run 6 rfl) (by decide) (by rw [c3]; decide +kernel) (by decide) ?_
    refine T_aload_n 0 (dk dtk_X11_run 7 rfl) rfl rfl ?_
    refine T_getR 0 4 120 (dk dtk_X11_run 8 rfl) kfl_X11_46 kk_0 (kl_0 hq) (by decide) rfl kr_0_4 ?_
    refine T_getI 120 3 (dk dtk_X11_run 9 rfl) kfl_X11_200 kk_120 (kl_120 hq) (by decide) rfl ?_
    exact KE_iret (dk dtk_X11_run 10 rfl) rfl rfl h
  · have h := h.2
    by_cases c4 : l1 = 1
    · have h := h.1 c4
      refine T_table 49 60 (dk dtk_X11_run 6 rfl) (by decide) (by rw [c4]; decide +kernel) (by decide) ?_
      refine T_aload_n 0 (dk dtk_X11_run 11 rfl) rfl rfl ?_
      refine T_getR 0 5 160 (dk dtk_X11_run 12 rfl) kfl_X11_53 kk_0 (kl_0 hq) (by decide) rfl kr_0_5 ?_
      refine T_getI 160 2 (dk dtk_X11_run 13 rfl) kfl_X11_186 kk_160 (kl_160 hq) (by decide) rfl ?_
      exact KE_iret (dk dtk_X11_run 14 rfl) rfl rfl h
    · have h := h.2
      by_cases c5 : l1 = 2
      · have h := h.1 c5
        refine T_table 57 68 (dk dtk_X11_run 6 rfl) (by decide) (by rw [c5]; decide +kernel) (by decide) ?_
        refine T_aload_n 0 (dk dtk_X11_run 15 rfl) rfl rfl ?_
        refine T_getR 0 5 160 (dk dtk_X11_run 16 rfl) kfl_X11_53 kk_0 (kl_0 hq) (by decide) rfl kr_0_5 ?_
        refine T_getI 160 3 (dk dtk_X11_run 17 rfl) kfl_X11_206 kk_160 (kl_160 hq) (by decide) rfl ?_
        exact KE_iret (dk dtk_X11_run 18 rfl) rfl rfl h
      · have h := h.2
        by_cases c6 : l1 = 3
        · have h := h.1 c6
          refine T_table 65 76 (dk dtk_X11_run 6 rfl) (by decide) (by rw [c6]; decide +kernel) (by decide) ?_
          refine T_aload_n 0 (dk dtk_X11_run 19 rfl) rfl rfl ?_
          refine T_getR 0 4 120 (dk dtk_X11_run 20 rfl) kfl_X11_46 kk_0 (kl_0 hq) (by decide) rfl kr_0_4 ?_
          refine T_getI 120 13 (dk dtk_X11_run 21 rfl) kfl_X11_157 kk_120 (kl_120 hq) (by decide) rfl ?_
          refine T_if_ne 90 (dk dtk_X11_run 22 rfl) (by decide) (fun c7 => ?_) (fun c7 => ?_)
          · have h := h.1 c7
            refine T_iconst (v := 0) (dk dtk_X11_run 25 rfl) (by decide +kernel) ?_
            exact KE_iret (dk dtk_X11_run 26 rfl) rfl rfl h
          · have h := h.2 c7
            refine T_iconst (v := 1) (dk dtk_X11_run 23 rfl) (by decide +kernel) ?_
            refine T_goto 91 (dk dtk_X11_run 24 rfl) (by decide) ?_
            exact KE_iret (dk dtk_X11_run 26 rfl) rfl rfl h
        · have h := h.2
          by_cases c8 : l1 = 4
          · have h := h.1 c8
            refine T_table 81 92 (dk dtk_X11_run 6 rfl) (by decide) (by rw [c8]; decide +kernel) (by decide) ?_
            refine T_aload_n 0 (dk dtk_X11_run 27 rfl) rfl rfl ?_
            refine T_getR 0 4 120 (dk dtk_X11_run 28 rfl) kfl_X11_46 kk_0 (kl_0 hq) (by decide) rfl kr_0_4 ?_
            refine T_sub (lv2 := []) [] rfl ?_
            refine KC_Vi [] [] rfl (dk dtk_X11_run 29 rfl) kcv_X11_209 rfl kk_120 rfl (kl_120 hq) (Nat.le_of_ble_eq_true rfl) (Nat.le_of_ble_eq_true rfl) (gok_i av_n as_n) rfl h (fun r10 x9 h => ?_)
            refine T_if_eq 106 (dk dtk_X11_run 30 rfl) (by decide) (fun c11 => ?_) (fun c11 => ?_)
            · have h := h.1 c11
              refine T_iconst (v := 0) (dk dtk_X11_run 33 rfl) (by decide +kernel) ?_
              exact KE_iret (dk dtk_X11_run 34 rfl) rfl rfl h
            · have h := h.2 c11
              refine T_iconst (v := 1) (dk dtk_X11_run 31 rfl) (by decide +kernel) ?_
              refine T_goto 107 (dk dtk_X11_run 32 rfl) (by decide) ?_
              exact KE_iret (dk dtk_X11_run 34 rfl) rfl rfl h
          · have h := h.2
            by_cases c12 : l1 = 5
            · have h := h.1 c12
              refine T_table 97 108 (dk dtk_X11_run 6 rfl) (by decide) (by rw [c12]; decide +kernel) (by decide) ?_
              refine T_aload_n 0 (dk dtk_X11_run 35 rfl) rfl rfl ?_
              refine T_getR 0 5 160 (dk dtk_X11_run 36 rfl) kfl_X11_53 kk_0 (kl_0 hq) (by decide) rfl kr_0_5 ?_
              refine T_sub (lv2 := []) [] rfl ?_
              refine KC_Vi [] [] rfl (dk dtk_X11_run 37 rfl) kcv_X11_213 rfl kk_160 rfl (kl_160 hq) (Nat.le_of_ble_eq_true rfl) (Nat.le_of_ble_eq_true rfl) (gok_i av_n as_n) rfl h (fun r14 x13 h => ?_)
              exact KE_iret (dk dtk_X11_run 38 rfl) rfl rfl h
            · have h := h.2
              by_cases c15 : l1 = 6
              · have h := h.1 c15
                refine T_table 105 116 (dk dtk_X11_run 6 rfl) (by decide) (by rw [c15]; decide +kernel) (by decide) ?_
                refine T_aload_n 0 (dk dtk_X11_run 39 rfl) rfl rfl ?_
                refine T_getR 0 5 160 (dk dtk_X11_run 40 rfl) kfl_X11_53 kk_0 (kl_0 hq) (by decide) rfl kr_0_5 ?_
                refine T_getI 160 4 (dk dtk_X11_run 41 rfl) kfl_X11_216 kk_160 (kl_160 hq) (by decide) rfl ?_
                exact KE_iret (dk dtk_X11_run 42 rfl) rfl rfl h
              · have h := h.2
                have n16 : ∀ k ∈ [(0 : Int32), (1 : Int32), (2 : Int32), (3 : Int32), (4 : Int32), (5 : Int32), (6 : Int32)], ¬ l1 = k := (gno c3 (gno c4 (gno c5 (gno c6 (gno c8 (gno c12 (gno c15 gno0)))))))
                have h := h n16
                refine T_table 113 124 (dk dtk_X11_run 6 rfl) (by decide) (gtab_d [(0 : Int32), (1 : Int32), (2 : Int32), (3 : Int32), (4 : Int32), (5 : Int32), (6 : Int32)] (by decide +kernel) n16) (by decide) ?_
                refine T_aload_n 0 (dk dtk_X11_run 43 rfl) rfl rfl ?_
                refine T_getR 0 4 120 (dk dtk_X11_run 44 rfl) kfl_X11_46 kk_0 (kl_0 hq) (by decide) rfl kr_0_4 ?_
                refine T_sub (lv2 := []) [] rfl ?_
                refine KC_Vi [] [] rfl (dk dtk_X11_run 45 rfl) kcv_X11_219 rfl kk_120 rfl (kl_120 hq) (Nat.le_of_ble_eq_true rfl) (Nat.le_of_ble_eq_true rfl) (gok_i av_n as_n) rfl h (fun r18 x17 h => ?_)
                exact KE_iret (dk dtk_X11_run 46 rfl) rfl rfl h
set_option maxRecDepth 100000 in
theorem dtk_X11_cell : dck cX11_cell [(0, .aload_n 0, 1), (1, .invokevirtual 160, 3), (4, .iload_n 1, 1), (5, .aload_n 0, 1), (6, .getfield 28, 3), (9, .getfield 136, 3), (12, .invokestatic 163, 3), (15, .aload_n 0, 1), (16, .getfield 46, 3), (19, .getfield 222, 3), (22, .iload_n 1, 1), (23, .iaload, 1), (24, .ireturn, 1)] = true := by decide +kernel
set_option maxRecDepth 100000 in
set_option maxHeartbeats 4000000 in
theorem kg_X11_cell_0 {G : kG} {q : kP} {d : Nat} {x : gd} {P : Option gv → gd → Prop} {X : String → gd → Prop} (hq : kV q) (l1 : Int32)
    (h : KE G q (d + 6) zk_X11_needRun 0 [(0, vr 0)] [] x (rv (fun x1 => KE G q (d + 6) zk_X11_needIndex 0 [(0, vi l1), (1, vi (x1.1 60 6))] [] x1 (rv (fun x2 => vp_in l1 228 ∧ P (some (vi (x2.1 125 (l1 : Int32).toNatClampNeg))) x2)) X)) X) :
    KE G q (d + 7) zk_X11_cell 0 [(0, vr 0), (1, vi l1)] [] x P X := by
  refine T_aload_n 0 (dk dtk_X11_cell 0 rfl) rfl rfl ?_
  refine KD_Vv [] [] rfl (dk dtk_X11_cell 1 rfl) kcv_X11_160 rfl kk_0 rfl (kl_0 hq) (Nat.le_of_ble_eq_true rfl) (Nat.le_of_ble_eq_true rfl) (gok_i (av_c (gkr (kl_0 hq)) (av_c rfl av_n)) as_n) rfl h (fun x1 h => ?_)
  refine T_iload_n 1 (dk dtk_X11_cell 2 rfl) rfl rfl ?_
  refine T_aload_n 0 (dk dtk_X11_cell 3 rfl) rfl rfl ?_
  refine T_getR 0 2 60 (dk dtk_X11_cell 4 rfl) kfl_X11_28 kk_0 (kl_0 hq) (by decide) rfl kr_0_2 ?_
  refine T_getI 60 6 (dk dtk_X11_cell 5 rfl) kfl_X11_136 kk_60 (kl_60 hq) (by decide) rfl ?_
  refine KD_Sv [vi l1, vi (x1.1 60 6)] [] rfl (dk dtk_X11_cell 6 rfl) kcs_X11_163 rfl (Nat.le_of_ble_eq_true rfl) (Nat.le_of_ble_eq_true rfl) (gok_i (av_c (gkr (kl_0 hq)) (av_c rfl av_n)) as_n) rfl h (fun x2 h => ?_)
  refine T_aload_n 0 (dk dtk_X11_cell 7 rfl) rfl rfl ?_
  refine T_getR 0 4 120 (dk dtk_X11_cell 8 rfl) kfl_X11_46 kk_0 (kl_0 hq) (by decide) rfl kr_0_4 ?_
  refine T_getR 120 4 125 (dk dtk_X11_cell 9 rfl) kfl_X11_222 kk_120 (kl_120 hq) (by decide) rfl kr_120_4 ?_
  refine T_iload_n 1 (dk dtk_X11_cell 10 rfl) rfl rfl ?_
  obtain ⟨h3, h⟩ := h
  refine T_iald 125 228 (dk dtk_X11_cell 11 rfl) kk_125 (kl_125 hq) h3 ?_
  exact KE_iret (dk dtk_X11_cell 12 rfl) rfl rfl h
set_option maxRecDepth 100000 in
theorem dtk_X11_seen : dck cX11_seen [(0, .aload_n 0, 1), (1, .invokevirtual 160, 3), (4, .iload_n 1, 1), (5, .aload_n 0, 1), (6, .getfield 28, 3), (9, .getfield 124, 3), (12, .invokestatic 163, 3), (15, .iload_n 2, 1), (16, .aload_n 0, 1), (17, .getfield 28, 3), (20, .getfield 136, 3), (23, .invokestatic 163, 3), (26, .aload_n 0, 1), (27, .getfield 46, 3), (30, .iload_n 1, 1), (31, .iload_n 2, 1), (32, .invokevirtual 225, 3), (35, .ireturn, 1)] = true := by decide +kernel
set_option maxRecDepth 100000 in
set_option maxHeartbeats 4000000 in
theorem kg_X11_seen_0 {G : kG} {q : kP} {d : Nat} {x : gd} {P : Option gv → gd → Prop} {X : String → gd → Prop} (hq : kV q) (l1 : Int32) (l2 : Int32)
    (h : KE G q (d + 6) zk_X11_needRun 0 [(0, vr 0)] [] x (rv (fun x1 => KE G q (d + 6) zk_X11_needIndex 0 [(0, vi l1), (1, vi (x1.1 60 10))] [] x1 (rv (fun x2 => KE G q (d + 6) zk_X11_needIndex 0 [(0, vi l2), (1, vi (x2.1 60 6))] [] x2 (rv (fun x3 => KT G q (d + 6) zk_X5_seenBy 0 [(0, vr 120), (1, vi l1), (2, vi l2)] [] x3 (ri (fun r5 x4 => P (some (vi r5)) x4)))) X)) X)) X) :
    KE G q (d + 7) zk_X11_seen 0 [(0, vr 0), (1, vi l1), (2, vi l2)] [] x P X := by
  refine T_aload_n 0 (dk dtk_X11_seen 0 rfl) rfl rfl ?_
  refine KD_Vv [] [] rfl (dk dtk_X11_seen 1 rfl) kcv_X11_160 rfl kk_0 rfl (kl_0 hq) (Nat.le_of_ble_eq_true rfl) (Nat.le_of_ble_eq_true rfl) (gok_i (av_c (gkr (kl_0 hq)) (av_c rfl (av_c rfl av_n))) as_n) rfl h (fun x1 h => ?_)
  refine T_iload_n 1 (dk dtk_X11_seen 2 rfl) rfl rfl ?_
  refine T_aload_n 0 (dk dtk_X11_seen 3 rfl) rfl rfl ?_
  refine T_getR 0 2 60 (dk dtk_X11_seen 4 rfl) kfl_X11_28 kk_0 (kl_0 hq) (by decide) rfl kr_0_2 ?_
  refine T_getI 60 10 (dk dtk_X11_seen 5 rfl) kfl_X11_124 kk_60 (kl_60 hq) (by decide) rfl ?_
  refine KD_Sv [vi l1, vi (x1.1 60 10)] [] rfl (dk dtk_X11_seen 6 rfl) kcs_X11_163 rfl (Nat.le_of_ble_eq_true rfl) (Nat.le_of_ble_eq_true rfl) (gok_i (av_c (gkr (kl_0 hq)) (av_c rfl (av_c rfl av_n))) as_n) rfl h (fun x2 h => ?_)
  refine T_iload_n 2 (dk dtk_X11_seen 7 rfl) rfl rfl ?_
  refine T_aload_n 0 (dk dtk_X11_seen 8 rfl) rfl rfl ?_
  refine T_getR 0 2 60 (dk dtk_X11_seen 9 rfl) kfl_X11_28 kk_0 (kl_0 hq) (by decide) rfl kr_0_2 ?_
  refine T_getI 60 6 (dk dtk_X11_seen 10 rfl) kfl_X11_136 kk_60 (kl_60 hq) (by decide) rfl ?_
  refine KD_Sv [vi l2, vi (x2.1 60 6)] [] rfl (dk dtk_X11_seen 11 rfl) kcs_X11_163 rfl (Nat.le_of_ble_eq_true rfl) (Nat.le_of_ble_eq_true rfl) (gok_i (av_c (gkr (kl_0 hq)) (av_c rfl (av_c rfl av_n))) as_n) rfl h (fun x3 h => ?_)
  refine T_aload_n 0 (dk dtk_X11_seen 12 rfl) rfl rfl ?_
  refine T_getR 0 4 120 (dk dtk_X11_seen 13 rfl) kfl_X11_46 kk_0 (kl_0 hq) (by decide) rfl kr_0_4 ?_
  refine T_iload_n 1 (dk dtk_X11_seen 14 rfl) rfl rfl ?_
  refine T_iload_n 2 (dk dtk_X11_seen 15 rfl) rfl rfl ?_
  refine T_sub (lv2 := []) [] rfl ?_
  refine KC_Vi [vi l1, vi l2] [] rfl (dk dtk_X11_seen 16 rfl) kcv_X11_225 rfl kk_120 rfl (kl_120 hq) (Nat.le_of_ble_eq_true rfl) (Nat.le_of_ble_eq_true rfl) (gok_i av_n as_n) rfl h (fun r5 x4 h => ?_)
  exact KE_iret (dk dtk_X11_seen 17 rfl) rfl rfl h
set_option maxRecDepth 100000 in
theorem dtk_X11_lock : dck cX11_lock [(0, .aload_n 0, 1), (1, .invokevirtual 160, 3), (4, .iload_n 1, 1), (5, .aload_n 0, 1), (6, .getfield 28, 3), (9, .getfield 139, 3), (12, .invokestatic 163, 3), (15, .iload_n 2, 1), (16, .iconst 3, 1), (17, .invokestatic 132, 3), (20, .iload_n 2, 1), (21, .lookupswitch 45 #[(0, 27), (1, 36)], 27), (48, .aload_n 0, 1), (49, .getfield 46, 3), (52, .iload_n 1, 1), (53, .invokevirtual 228, 3), (56, .ireturn, 1), (57, .aload_n 0, 1), (58, .getfield 46, 3), (61, .iload_n 1, 1), (62, .invokevirtual 231, 3), (65, .ireturn, 1), (66, .aload_n 0, 1), (67, .getfield 46, 3), (70, .iload_n 1, 1), (71, .invokevirtual 234, 3), (74, .invokestatic 237, 3), (77, .ireturn, 1)] = true := by decide +kernel
set_option maxRecDepth 100000 in
set_option maxHeartbeats 4000000 in
theorem kg_X11_lock_0 {G : kG} {q : kP} {d : Nat} {x : gd} {P : Option gv → gd → Prop} {X : String → gd → Prop} (hq : kV q) (l1 : Int32) (l2 : Int32)
    (h : KE G q (d + 6) zk_X11_needRun 0 [(0, vr 0)] [] x (rv (fun x1 => KE G q (d + 6) zk_X11_needIndex 0 [(0, vi l1), (1, vi (x1.1 60 9))] [] x1 (rv (fun x2 => KE G q (d + 6) zk_X11_needWhat 0 [(0, vi l2), (1, vi 3)] [] x2 (rv (fun x3 => (((l2 = 0) → KT G q (d + 6) zk_X5_holder 0 [(0, vr 120), (1, vi l1)] [] x3 (ri (fun r6 x5 => P (some (vi r6)) x5))) ∧ ((l2 = 1) → KT G q (d + 6) zk_X5_often 0 [(0, vr 120), (1, vi l1)] [] x3 (ri (fun r9 x8 => P (some (vi r9)) x8))) ∧ ((∀ k ∈ [(0 : Int32), (1 : Int32)], ¬ l2 = k) → KT G q (d + 6) zk_X5_waiters 0 [(0, vr 120), (1, vi l1)] [] x3 (ri (fun r12 x11 => (∀ r14 : Int32, P (some (vi r14)) x11))))))) X)) X)) X) :
    KE G q (d + 7) zk_X11_lock 0 [(0, vr 0), (1, vi l1), (2, vi l2)] [] x P X := by
  refine T_aload_n 0 (dk dtk_X11_lock 0 rfl) rfl rfl ?_
  refine KD_Vv [] [] rfl (dk dtk_X11_lock 1 rfl) kcv_X11_160 rfl kk_0 rfl (kl_0 hq) (Nat.le_of_ble_eq_true rfl) (Nat.le_of_ble_eq_true rfl) (gok_i (av_c (gkr (kl_0 hq)) (av_c rfl (av_c rfl av_n))) as_n) rfl h (fun x1 h => ?_)
  refine T_iload_n 1 (dk dtk_X11_lock 2 rfl) rfl rfl ?_
  refine T_aload_n 0 (dk dtk_X11_lock 3 rfl) rfl rfl ?_
  refine T_getR 0 2 60 (dk dtk_X11_lock 4 rfl) kfl_X11_28 kk_0 (kl_0 hq) (by decide) rfl kr_0_2 ?_
  refine T_getI 60 9 (dk dtk_X11_lock 5 rfl) kfl_X11_139 kk_60 (kl_60 hq) (by decide) rfl ?_
  refine KD_Sv [vi l1, vi (x1.1 60 9)] [] rfl (dk dtk_X11_lock 6 rfl) kcs_X11_163 rfl (Nat.le_of_ble_eq_true rfl) (Nat.le_of_ble_eq_true rfl) (gok_i (av_c (gkr (kl_0 hq)) (av_c rfl (av_c rfl av_n))) as_n) rfl h (fun x2 h => ?_)
  refine T_iload_n 2 (dk dtk_X11_lock 7 rfl) rfl rfl ?_
  refine T_iconst (v := 3) (dk dtk_X11_lock 8 rfl) (by decide +kernel) ?_
  refine KD_Sv [vi l2, vi 3] [] rfl (dk dtk_X11_lock 9 rfl) kcs_X11_132 rfl (Nat.le_of_ble_eq_true rfl) (Nat.le_of_ble_eq_true rfl) (gok_i (av_c (gkr (kl_0 hq)) (av_c rfl (av_c rfl av_n))) as_n) rfl h (fun x3 h => ?_)
  refine T_iload_n 2 (dk dtk_X11_lock 10 rfl) rfl rfl ?_
  by_cases c4 : l2 = 0
  · have h := h.1 c4
    refine T_lookup 27 48 (dk dtk_X11_lock 11 rfl) (by decide +kernel) (by rw [c4]; decide +kernel) (by decide) ?_
    refine T_aload_n 0 (dk dtk_X11_lock 12 rfl) rfl rfl ?_
    refine T_getR 0 4 120 (dk dtk_X11_lock 13 rfl) kfl_X11_46 kk_0 (kl_0 hq) (by decide) rfl kr_0_4 ?_
    refine T_iload_n 1 (dk dtk_X11_lock 14 rfl) rfl rfl ?_
    refine T_sub (lv2 := []) [] rfl ?_
    refine KC_Vi [vi l1] [] rfl (dk dtk_X11_lock 15 rfl) kcv_X11_228 rfl kk_120 rfl (kl_120 hq) (Nat.le_of_ble_eq_true rfl) (Nat.le_of_ble_eq_true rfl) (gok_i av_n as_n) rfl h (fun r6 x5 h => ?_)
    exact KE_iret (dk dtk_X11_lock 16 rfl) rfl rfl h
  · have h := h.2
    by_cases c7 : l2 = 1
    · have h := h.1 c7
      refine T_lookup 36 57 (dk dtk_X11_lock 11 rfl) (by decide +kernel) (by rw [c7]; decide +kernel) (by decide) ?_
      refine T_aload_n 0 (dk dtk_X11_lock 17 rfl) rfl rfl ?_
      refine T_getR 0 4 120 (dk dtk_X11_lock 18 rfl) kfl_X11_46 kk_0 (kl_0 hq) (by decide) rfl kr_0_4 ?_
      refine T_iload_n 1 (dk dtk_X11_lock 19 rfl) rfl rfl ?_
      refine T_sub (lv2 := []) [] rfl ?_
      refine KC_Vi [vi l1] [] rfl (dk dtk_X11_lock 20 rfl) kcv_X11_231 rfl kk_120 rfl (kl_120 hq) (Nat.le_of_ble_eq_true rfl) (Nat.le_of_ble_eq_true rfl) (gok_i av_n as_n) rfl h (fun r9 x8 h => ?_)
      exact KE_iret (dk dtk_X11_lock 21 rfl) rfl rfl h
    · have h := h.2
      have n10 : ∀ k ∈ [(0 : Int32), (1 : Int32)], ¬ l2 = k := (gno c4 (gno c7 gno0))
      have h := h n10
      refine T_lookup 45 66 (dk dtk_X11_lock 11 rfl) (by decide +kernel) (glk_d [(0 : Int32), (1 : Int32)] (by decide +kernel) n10) (by decide) ?_
      refine T_aload_n 0 (dk dtk_X11_lock 22 rfl) rfl rfl ?_
      refine T_getR 0 4 120 (dk dtk_X11_lock 23 rfl) kfl_X11_46 kk_0 (kl_0 hq) (by decide) rfl kr_0_4 ?_
      refine T_iload_n 1 (dk dtk_X11_lock 24 rfl) rfl rfl ?_
      refine T_sub (lv2 := []) [] rfl ?_
      refine KC_Vi [vi l1] [] rfl (dk dtk_X11_lock 25 rfl) kcv_X11_234 rfl kk_120 rfl (kl_120 hq) (Nat.le_of_ble_eq_true rfl) (Nat.le_of_ble_eq_true rfl) (gok_i av_n as_n) rfl h (fun r12 x11 h => ?_)
      refine KC_Si (F := fun z y9 => y9 = x11) [vi r12] [] rfl (dk dtk_X11_lock 26 rfl) kcs_X11_237 rfl (Nat.le_of_ble_eq_true rfl) (Nat.le_of_ble_eq_true rfl) (gok_i av_n as_n) rfl (tj_bits r12 (fun r9 => ⟨rfl, _, rfl, r9, rfl, rfl⟩)) (fun r14 x13 h9 => ?_)
      cases h9
      have h := h r14
      exact KE_iret (dk dtk_X11_lock 27 rfl) rfl rfl h
end
section
set_option maxRecDepth 100000 in
theorem dtk_X11_thread : dck cX11_thread [(0, .aload_n 0, 1), (1, .invokevirtual 160, 3), (4, .iload_n 1, 1), (5, .aload_n 0, 1), (6, .getfield 28, 3), (9, .getfield 124, 3), (12, .invokestatic 163, 3), (15, .iload_n 2, 1), (16, .iconst 5, 1), (17, .invokestatic 132, 3), (20, .iload_n 2, 1), (21, .tableswitch 71 0 3 #[31, 41, 51, 62], 31), (52, .aload_n 0, 1), (53, .getfield 46, 3), (56, .iload_n 1, 1), (57, .iconst 0, 1), (58, .invokevirtual 242, 3), (61, .ireturn, 1), (62, .aload_n 0, 1), (63, .getfield 46, 3), (66, .iload_n 1, 1), (67, .iconst 1, 1), (68, .invokevirtual 242, 3), (71, .ireturn, 1), (72, .aload_n 0, 1), (73, .getfield 46, 3), (76, .iload_n 1, 1), (77, .bipush 7, 2), (79, .invokevirtual 242, 3), (82, .ireturn, 1), (83, .aload_n 0, 1), (84, .getfield 46, 3), (87, .iload_n 1, 1), (88, .invokevirtual 245, 3), (91, .ireturn, 1), (92, .aload_n 0, 1), (93, .getfield 46, 3), (96, .iload_n 1, 1), (97, .invokevirtual 248, 3), (100, .ireturn, 1)] = true := by decide +kernel
set_option maxRecDepth 100000 in
set_option maxHeartbeats 4000000 in
theorem kg_X11_thread_0 {G : kG} {q : kP} {d : Nat} {x : gd} {P : Option gv → gd → Prop} {X : String → gd → Prop} (hq : kV q) (l1 : Int32) (l2 : Int32)
    (h : KE G q (d + 6) zk_X11_needRun 0 [(0, vr 0)] [] x (rv (fun x1 => KE G q (d + 6) zk_X11_needIndex 0 [(0, vi l1), (1, vi (x1.1 60 10))] [] x1 (rv (fun x2 => KE G q (d + 6) zk_X11_needWhat 0 [(0, vi l2), (1, vi 5)] [] x2 (rv (fun x3 => (((l2 = 0) → KT G q (d + 6) zk_X5_get 0 [(0, vr 120), (1, vi l1), (2, vi 0)] [] x3 (ri (fun r6 x5 => P (some (vi r6)) x5))) ∧ ((l2 = 1) → KT G q (d + 6) zk_X5_get 0 [(0, vr 120), (1, vi l1), (2, vi 1)] [] x3 (ri (fun r9 x8 => P (some (vi r9)) x8))) ∧ ((l2 = 2) → KT G q (d + 6) zk_X5_get 0 [(0, vr 120), (1, vi l1), (2, vi 7)] [] x3 (ri (fun r12 x11 => P (some (vi r12)) x11))) ∧ ((l2 = 3) → KT G q (d + 6) zk_X5_known 0 [(0, vr 120), (1, vi l1)] [] x3 (ri (fun r15 x14 => P (some (vi r15)) x14))) ∧ ((∀ k ∈ [(0 : Int32), (1 : Int32), (2 : Int32), (3 : Int32)], ¬ l2 = k) → KT G q (d + 6) zk_X5_lineOf 0 [(0, vr 120), (1, vi l1)] [] x3 (ri (fun r18 x17 => P (some (vi r18)) x17)))))) X)) X)) X) :
    KE G q (d + 7) zk_X11_thread 0 [(0, vr 0), (1, vi l1), (2, vi l2)] [] x P X := by
  refine T_aload_n 0 (dk dtk_X11_thread 0 rfl) rfl rfl ?_
  refine KD_Vv [] [] rfl (dk dtk_X11_thread 1 rfl) kcv_X11_160 rfl kk_0 rfl (kl_0 hq) (Nat.le_of_ble_eq_true rfl) (Nat.le_of_ble_eq_true rfl) (gok_i (av_c (gkr (kl_0 hq)) (av_c rfl (av_c rfl av_n))) as_n) rfl h (fun x1 h => ?_)
  refine T_iload_n 1 (dk dtk_X11_thread 2 rfl) rfl rfl ?_
  refine T_aload_n 0 (dk dtk_X11_thread 3 rfl) rfl rfl ?_
  refine T_getR 0 2 60 (dk dtk_X11_thread 4 rfl) kfl_X11_28 kk_0 (kl_0 hq) (by decide) rfl kr_0_2 ?_
  refine T_getI 60 10 (dk dtk_X11_thread 5 rfl) kfl_X11_124 kk_60 (kl_60 hq) (by decide) rfl ?_
  refine KD_Sv [vi l1, vi (x1.1 60 10)] [] rfl (dk dtk_X11_thread 6 rfl) kcs_X11_163 rfl (Nat.le_of_ble_eq_true rfl) (Nat.le_of_ble_eq_true rfl) (gok_i (av_c (gkr (kl_0 hq)) (av_c rfl (av_c rfl av_n))) as_n) rfl h (fun x2 h => ?_)
  refine T_iload_n 2 (dk dtk_X11_thread 7 rfl) rfl rfl ?_
  refine T_iconst (v := 5) (dk dtk_X11_thread 8 rfl) (by decide +kernel) ?_
  refine KD_Sv [vi l2, vi 5] [] rfl (dk dtk_X11_thread 9 rfl) kcs_X11_132 rfl (Nat.le_of_ble_eq_true rfl) (Nat.le_of_ble_eq_true rfl) (gok_i (av_c (gkr (kl_0 hq)) (av_c rfl (av_c rfl av_n))) as_n) rfl h (fun x3 h => ?_)
  refine T_iload_n 2 (dk dtk_X11_thread 10 rfl) rfl rfl ?_
  by_cases c4 : l2 = 0
  · have h := h.1 c4
    refine T_table 31 52 (dk dtk_X11_thread 11 rfl) (by decide) (by rw [c4]; decide +kernel) (by decide) ?_
    refine T_aload_n 0 (dk dtk_X11_thread 12 rfl) rfl rfl ?_
    refine T_getR 0 4 120 (dk dtk_X11_thread 13 rfl) kfl_X11_46 kk_0 (kl_0 hq) (by decide) rfl kr_0_4 ?_
    refine T_iload_n 1 (dk dtk_X11_thread 14 rfl) rfl rfl ?_
    refine T_iconst (v := 0) (dk dtk_X11_thread 15 rfl) (by decide +kernel) ?_
    refine T_sub (lv2 := []) [] rfl ?_
    refine KC_Vi [vi l1, vi 0] [] rfl (dk dtk_X11_thread 16 rfl) kcv_X11_242 rfl kk_120 rfl (kl_120 hq) (Nat.le_of_ble_eq_true rfl) (Nat.le_of_ble_eq_true rfl) (gok_i av_n as_n) rfl h (fun r6 x5 h => ?_)
    exact KE_iret (dk dtk_X11_thread 17 rfl) rfl rfl h
  · have h := h.2
    by_cases c7 : l2 = 1
    · have h := h.1 c7
      refine T_table 41 62 (dk dtk_X11_thread 11 rfl) (by decide) (by rw [c7]; decide +kernel) (by decide) ?_
      refine T_aload_n 0 (dk dtk_X11_thread 18 rfl) rfl rfl ?_
      refine T_getR 0 4 120 (dk dtk_X11_thread 19 rfl) kfl_X11_46 kk_0 (kl_0 hq) (by decide) rfl kr_0_4 ?_
      refine T_iload_n 1 (dk dtk_X11_thread 20 rfl) rfl rfl ?_
      refine T_iconst (v := 1) (dk dtk_X11_thread 21 rfl) (by decide +kernel) ?_
      refine T_sub (lv2 := []) [] rfl ?_
      refine KC_Vi [vi l1, vi 1] [] rfl (dk dtk_X11_thread 22 rfl) kcv_X11_242 rfl kk_120 rfl (kl_120 hq) (Nat.le_of_ble_eq_true rfl) (Nat.le_of_ble_eq_true rfl) (gok_i av_n as_n) rfl h (fun r9 x8 h => ?_)
      exact KE_iret (dk dtk_X11_thread 23 rfl) rfl rfl h
    · have h := h.2
      by_cases c10 : l2 = 2
      · have h := h.1 c10
        refine T_table 51 72 (dk dtk_X11_thread 11 rfl) (by decide) (by rw [c10]; decide +kernel) (by decide) ?_
        refine T_aload_n 0 (dk dtk_X11_thread 24 rfl) rfl rfl ?_
        refine T_getR 0 4 120 (dk dtk_X11_thread 25 rfl) kfl_X11_46 kk_0 (kl_0 hq) (by decide) rfl kr_0_4 ?_
        refine T_iload_n 1 (dk dtk_X11_thread 26 rfl) rfl rfl ?_
        refine T_bipush (v := 7) (dk dtk_X11_thread 27 rfl) (by decide +kernel) ?_
        refine T_sub (lv2 := []) [] rfl ?_
        refine KC_Vi [vi l1, vi 7] [] rfl (dk dtk_X11_thread 28 rfl) kcv_X11_242 rfl kk_120 rfl (kl_120 hq) (Nat.le_of_ble_eq_true rfl) (Nat.le_of_ble_eq_true rfl) (gok_i av_n as_n) rfl h (fun r12 x11 h => ?_)
        exact KE_iret (dk dtk_X11_thread 29 rfl) rfl rfl h
      · have h := h.2
        by_cases c13 : l2 = 3
        · have h := h.1 c13
          refine T_table 62 83 (dk dtk_X11_thread 11 rfl) (by decide) (by rw [c13]; decide +kernel) (by decide) ?_
          refine T_aload_n 0 (dk dtk_X11_thread 30 rfl) rfl rfl ?_
          refine T_getR 0 4 120 (dk dtk_X11_thread 31 rfl) kfl_X11_46 kk_0 (kl_0 hq) (by decide) rfl kr_0_4 ?_
          refine T_iload_n 1 (dk dtk_X11_thread 32 rfl) rfl rfl ?_
          refine T_sub (lv2 := []) [] rfl ?_
          refine KC_Vi [vi l1] [] rfl (dk dtk_X11_thread 33 rfl) kcv_X11_245 rfl kk_120 rfl (kl_120 hq) (Nat.le_of_ble_eq_true rfl) (Nat.le_of_ble_eq_true rfl) (gok_i av_n as_n) rfl h (fun r15 x14 h => ?_)
          exact KE_iret (dk dtk_X11_thread 34 rfl) rfl rfl h
        · have h := h.2
          have n16 : ∀ k ∈ [(0 : Int32), (1 : Int32), (2 : Int32), (3 : Int32)], ¬ l2 = k := (gno c4 (gno c7 (gno c10 (gno c13 gno0))))
          have h := h n16
          refine T_table 71 92 (dk dtk_X11_thread 11 rfl) (by decide) (gtab_d [(0 : Int32), (1 : Int32), (2 : Int32), (3 : Int32)] (by decide +kernel) n16) (by decide) ?_
          refine T_aload_n 0 (dk dtk_X11_thread 35 rfl) rfl rfl ?_
          refine T_getR 0 4 120 (dk dtk_X11_thread 36 rfl) kfl_X11_46 kk_0 (kl_0 hq) (by decide) rfl kr_0_4 ?_
          refine T_iload_n 1 (dk dtk_X11_thread 37 rfl) rfl rfl ?_
          refine T_sub (lv2 := []) [] rfl ?_
          refine KC_Vi [vi l1] [] rfl (dk dtk_X11_thread 38 rfl) kcv_X11_248 rfl kk_120 rfl (kl_120 hq) (Nat.le_of_ble_eq_true rfl) (Nat.le_of_ble_eq_true rfl) (gok_i av_n as_n) rfl h (fun r18 x17 h => ?_)
          exact KE_iret (dk dtk_X11_thread 39 rfl) rfl rfl h
set_option maxRecDepth 100000 in
theorem dtk_X11_local : dck cX11_local [(0, .aload_n 0, 1), (1, .invokevirtual 160, 3), (4, .iload_n 1, 1), (5, .aload_n 0, 1), (6, .getfield 28, 3), (9, .getfield 124, 3), (12, .invokestatic 163, 3), (15, .iload_n 2, 1), (16, .aload_n 0, 1), (17, .getfield 46, 3), (20, .iload_n 1, 1), (21, .invokevirtual 245, 3), (24, .invokestatic 163, 3), (27, .aload_n 0, 1), (28, .getfield 46, 3), (31, .iload_n 1, 1), (32, .bipush 8, 2), (34, .iload_n 2, 1), (35, .iadd, 1), (36, .invokevirtual 242, 3), (39, .ireturn, 1)] = true := by decide +kernel
set_option maxRecDepth 100000 in
set_option maxHeartbeats 4000000 in
theorem kg_X11_local_0 {G : kG} {q : kP} {d : Nat} {x : gd} {P : Option gv → gd → Prop} {X : String → gd → Prop} (hq : kV q) (l1 : Int32) (l2 : Int32)
    (h : KE G q (d + 6) zk_X11_needRun 0 [(0, vr 0)] [] x (rv (fun x1 => KE G q (d + 6) zk_X11_needIndex 0 [(0, vi l1), (1, vi (x1.1 60 10))] [] x1 (rv (fun x2 => KT G q (d + 6) zk_X5_known 0 [(0, vr 120), (1, vi l1)] [] x2 (ri (fun r4 x3 => KE G q (d + 6) zk_X11_needIndex 0 [(0, vi l2), (1, vi r4)] [] x3 (rv (fun x5 => KT G q (d + 6) zk_X5_get 0 [(0, vr 120), (1, vi l1), (2, vi (8 + l2))] [] x5 (ri (fun r7 x6 => P (some (vi r7)) x6)))) X)))) X)) X) :
    KE G q (d + 7) zk_X11_local 0 [(0, vr 0), (1, vi l1), (2, vi l2)] [] x P X := by
  refine T_aload_n 0 (dk dtk_X11_local 0 rfl) rfl rfl ?_
  refine KD_Vv [] [] rfl (dk dtk_X11_local 1 rfl) kcv_X11_160 rfl kk_0 rfl (kl_0 hq) (Nat.le_of_ble_eq_true rfl) (Nat.le_of_ble_eq_true rfl) (gok_i (av_c (gkr (kl_0 hq)) (av_c rfl (av_c rfl av_n))) as_n) rfl h (fun x1 h => ?_)
  refine T_iload_n 1 (dk dtk_X11_local 2 rfl) rfl rfl ?_
  refine T_aload_n 0 (dk dtk_X11_local 3 rfl) rfl rfl ?_
  refine T_getR 0 2 60 (dk dtk_X11_local 4 rfl) kfl_X11_28 kk_0 (kl_0 hq) (by decide) rfl kr_0_2 ?_
  refine T_getI 60 10 (dk dtk_X11_local 5 rfl) kfl_X11_124 kk_60 (kl_60 hq) (by decide) rfl ?_
  refine KD_Sv [vi l1, vi (x1.1 60 10)] [] rfl (dk dtk_X11_local 6 rfl) kcs_X11_163 rfl (Nat.le_of_ble_eq_true rfl) (Nat.le_of_ble_eq_true rfl) (gok_i (av_c (gkr (kl_0 hq)) (av_c rfl (av_c rfl av_n))) as_n) rfl h (fun x2 h => ?_)
  refine T_iload_n 2 (dk dtk_X11_local 7 rfl) rfl rfl ?_
  refine T_aload_n 0 (dk dtk_X11_local 8 rfl) rfl rfl ?_
  refine T_getR 0 4 120 (dk dtk_X11_local 9 rfl) kfl_X11_46 kk_0 (kl_0 hq) (by decide) rfl kr_0_4 ?_
  refine T_iload_n 1 (dk dtk_X11_local 10 rfl) rfl rfl ?_
  refine KC_Vi [vi l1] [vi l2] rfl (dk dtk_X11_local 11 rfl) kcv_X11_245 rfl kk_120 rfl (kl_120 hq) (Nat.le_of_ble_eq_true rfl) (Nat.le_of_ble_eq_true rfl) (gok_i (av_c (gkr (kl_0 hq)) (av_c rfl (av_c rfl av_n))) (as_c rfl as_n)) rfl h (fun r4 x3 h => ?_)
  refine KD_Sv [vi l2, vi r4] [] rfl (dk dtk_X11_local 12 rfl) kcs_X11_163 rfl (Nat.le_of_ble_eq_true rfl) (Nat.le_of_ble_eq_true rfl) (gok_i (av_c (gkr (kl_0 hq)) (av_c rfl (av_c rfl av_n))) as_n) rfl h (fun x5 h => ?_)
  refine T_aload_n 0 (dk dtk_X11_local 13 rfl) rfl rfl ?_
  refine T_getR 0 4 120 (dk dtk_X11_local 14 rfl) kfl_X11_46 kk_0 (kl_0 hq) (by decide) rfl kr_0_4 ?_
  refine T_iload_n 1 (dk dtk_X11_local 15 rfl) rfl rfl ?_
  refine T_bipush (v := 8) (dk dtk_X11_local 16 rfl) (by decide +kernel) ?_
  refine T_iload_n 2 (dk dtk_X11_local 17 rfl) rfl rfl ?_
  refine T_iadd (dk dtk_X11_local 18 rfl) ?_
  refine T_sub (lv2 := []) [] rfl ?_
  refine KC_Vi [vi l1, vi (8 + l2)] [] rfl (dk dtk_X11_local 19 rfl) kcv_X11_242 rfl kk_120 rfl (kl_120 hq) (Nat.le_of_ble_eq_true rfl) (Nat.le_of_ble_eq_true rfl) (gok_i av_n as_n) rfl h (fun r7 x6 h => ?_)
  exact KE_iret (dk dtk_X11_local 20 rfl) rfl rfl h
set_option maxRecDepth 100000 in
theorem dtk_X11_act : dck cX11_act [(0, .aload_n 0, 1), (1, .invokevirtual 160, 3), (4, .iload_n 1, 1), (5, .aload_n 0, 1), (6, .getfield 53, 3), (9, .getfield 206, 3), (12, .invokestatic 163, 3), (15, .iload_n 2, 1), (16, .iconst 5, 1), (17, .invokestatic 132, 3), (20, .iload_n 2, 1), (21, .tableswitch 71 0 3 #[31, 41, 51, 61], 31), (52, .aload_n 0, 1), (53, .getfield 53, 3), (56, .getfield 251, 3), (59, .iload_n 1, 1), (60, .iaload, 1), (61, .ireturn, 1), (62, .aload_n 0, 1), (63, .getfield 53, 3), (66, .getfield 254, 3), (69, .iload_n 1, 1), (70, .iaload, 1), (71, .ireturn, 1), (72, .aload_n 0, 1), (73, .getfield 53, 3), (76, .getfield 257, 3), (79, .iload_n 1, 1), (80, .iaload, 1), (81, .ireturn, 1), (82, .aload_n 0, 1), (83, .getfield 53, 3), (86, .getfield 260, 3), (89, .iload_n 1, 1), (90, .iaload, 1), (91, .ireturn, 1), (92, .aload_n 0, 1), (93, .getfield 53, 3), (96, .getfield 263, 3), (99, .iload_n 1, 1), (100, .iaload, 1), (101, .ireturn, 1)] = true := by decide +kernel
set_option maxRecDepth 100000 in
set_option maxHeartbeats 4000000 in
theorem kg_X11_act_0 {G : kG} {q : kP} {d : Nat} {x : gd} {P : Option gv → gd → Prop} {X : String → gd → Prop} (hq : kV q) (l1 : Int32) (l2 : Int32)
    (h : KE G q (d + 6) zk_X11_needRun 0 [(0, vr 0)] [] x (rv (fun x1 => KE G q (d + 6) zk_X11_needIndex 0 [(0, vi l1), (1, vi (x1.1 160 3))] [] x1 (rv (fun x2 => KE G q (d + 6) zk_X11_needWhat 0 [(0, vi l2), (1, vi 5)] [] x2 (rv (fun x3 => (((l2 = 0) → vp_in l1 400 ∧ P (some (vi (x3.1 166 (l1 : Int32).toNatClampNeg))) x3) ∧ ((l2 = 1) → vp_in l1 400 ∧ P (some (vi (x3.1 167 (l1 : Int32).toNatClampNeg))) x3) ∧ ((l2 = 2) → vp_in l1 400 ∧ P (some (vi (x3.1 168 (l1 : Int32).toNatClampNeg))) x3) ∧ ((l2 = 3) → vp_in l1 400 ∧ P (some (vi (x3.1 169 (l1 : Int32).toNatClampNeg))) x3) ∧ ((∀ k ∈ [(0 : Int32), (1 : Int32), (2 : Int32), (3 : Int32)], ¬ l2 = k) → vp_in l1 400 ∧ P (some (vi (x3.1 170 (l1 : Int32).toNatClampNeg))) x3)))) X)) X)) X) :
    KE G q (d + 7) zk_X11_act 0 [(0, vr 0), (1, vi l1), (2, vi l2)] [] x P X := by
  refine T_aload_n 0 (dk dtk_X11_act 0 rfl) rfl rfl ?_
  refine KD_Vv [] [] rfl (dk dtk_X11_act 1 rfl) kcv_X11_160 rfl kk_0 rfl (kl_0 hq) (Nat.le_of_ble_eq_true rfl) (Nat.le_of_ble_eq_true rfl) (gok_i (av_c (gkr (kl_0 hq)) (av_c rfl (av_c rfl av_n))) as_n) rfl h (fun x1 h => ?_)
  refine T_iload_n 1 (dk dtk_X11_act 2 rfl) rfl rfl ?_
  refine T_aload_n 0 (dk dtk_X11_act 3 rfl) rfl rfl ?_
  refine T_getR 0 5 160 (dk dtk_X11_act 4 rfl) kfl_X11_53 kk_0 (kl_0 hq) (by decide) rfl kr_0_5 ?_
  refine T_getI 160 3 (dk dtk_X11_act 5 rfl) kfl_X11_206 kk_160 (kl_160 hq) (by decide) rfl ?_
  refine KD_Sv [vi l1, vi (x1.1 160 3)] [] rfl (dk dtk_X11_act 6 rfl) kcs_X11_163 rfl (Nat.le_of_ble_eq_true rfl) (Nat.le_of_ble_eq_true rfl) (gok_i (av_c (gkr (kl_0 hq)) (av_c rfl (av_c rfl av_n))) as_n) rfl h (fun x2 h => ?_)
  refine T_iload_n 2 (dk dtk_X11_act 7 rfl) rfl rfl ?_
  refine T_iconst (v := 5) (dk dtk_X11_act 8 rfl) (by decide +kernel) ?_
  refine KD_Sv [vi l2, vi 5] [] rfl (dk dtk_X11_act 9 rfl) kcs_X11_132 rfl (Nat.le_of_ble_eq_true rfl) (Nat.le_of_ble_eq_true rfl) (gok_i (av_c (gkr (kl_0 hq)) (av_c rfl (av_c rfl av_n))) as_n) rfl h (fun x3 h => ?_)
  refine T_iload_n 2 (dk dtk_X11_act 10 rfl) rfl rfl ?_
  by_cases c4 : l2 = 0
  · have h := h.1 c4
    refine T_table 31 52 (dk dtk_X11_act 11 rfl) (by decide) (by rw [c4]; decide +kernel) (by decide) ?_
    refine T_aload_n 0 (dk dtk_X11_act 12 rfl) rfl rfl ?_
    refine T_getR 0 5 160 (dk dtk_X11_act 13 rfl) kfl_X11_53 kk_0 (kl_0 hq) (by decide) rfl kr_0_5 ?_
    refine T_getR 160 5 166 (dk dtk_X11_act 14 rfl) kfl_X11_251 kk_160 (kl_160 hq) (by decide) rfl kr_160_5 ?_
    refine T_iload_n 1 (dk dtk_X11_act 15 rfl) rfl rfl ?_
    obtain ⟨h5, h⟩ := h
    refine T_iald 166 400 (dk dtk_X11_act 16 rfl) kk_166 (kl_166 hq) h5 ?_
    exact KE_iret (dk dtk_X11_act 17 rfl) rfl rfl h
  · have h := h.2
    by_cases c6 : l2 = 1
    · have h := h.1 c6
      refine T_table 41 62 (dk dtk_X11_act 11 rfl) (by decide) (by rw [c6]; decide +kernel) (by decide) ?_
      refine T_aload_n 0 (dk dtk_X11_act 18 rfl) rfl rfl ?_
      refine T_getR 0 5 160 (dk dtk_X11_act 19 rfl) kfl_X11_53 kk_0 (kl_0 hq) (by decide) rfl kr_0_5 ?_
      refine T_getR 160 6 167 (dk dtk_X11_act 20 rfl) kfl_X11_254 kk_160 (kl_160 hq) (by decide) rfl kr_160_6 ?_
      refine T_iload_n 1 (dk dtk_X11_act 21 rfl) rfl rfl ?_
      obtain ⟨h7, h⟩ := h
      refine T_iald 167 400 (dk dtk_X11_act 22 rfl) kk_167 (kl_167 hq) h7 ?_
      exact KE_iret (dk dtk_X11_act 23 rfl) rfl rfl h
    · have h := h.2
      by_cases c8 : l2 = 2
      · have h := h.1 c8
        refine T_table 51 72 (dk dtk_X11_act 11 rfl) (by decide) (by rw [c8]; decide +kernel) (by decide) ?_
        refine T_aload_n 0 (dk dtk_X11_act 24 rfl) rfl rfl ?_
        refine T_getR 0 5 160 (dk dtk_X11_act 25 rfl) kfl_X11_53 kk_0 (kl_0 hq) (by decide) rfl kr_0_5 ?_
        refine T_getR 160 7 168 (dk dtk_X11_act 26 rfl) kfl_X11_257 kk_160 (kl_160 hq) (by decide) rfl kr_160_7 ?_
        refine T_iload_n 1 (dk dtk_X11_act 27 rfl) rfl rfl ?_
        obtain ⟨h9, h⟩ := h
        refine T_iald 168 400 (dk dtk_X11_act 28 rfl) kk_168 (kl_168 hq) h9 ?_
        exact KE_iret (dk dtk_X11_act 29 rfl) rfl rfl h
      · have h := h.2
        by_cases c10 : l2 = 3
        · have h := h.1 c10
          refine T_table 61 82 (dk dtk_X11_act 11 rfl) (by decide) (by rw [c10]; decide +kernel) (by decide) ?_
          refine T_aload_n 0 (dk dtk_X11_act 30 rfl) rfl rfl ?_
          refine T_getR 0 5 160 (dk dtk_X11_act 31 rfl) kfl_X11_53 kk_0 (kl_0 hq) (by decide) rfl kr_0_5 ?_
          refine T_getR 160 8 169 (dk dtk_X11_act 32 rfl) kfl_X11_260 kk_160 (kl_160 hq) (by decide) rfl kr_160_8 ?_
          refine T_iload_n 1 (dk dtk_X11_act 33 rfl) rfl rfl ?_
          obtain ⟨h11, h⟩ := h
          refine T_iald 169 400 (dk dtk_X11_act 34 rfl) kk_169 (kl_169 hq) h11 ?_
          exact KE_iret (dk dtk_X11_act 35 rfl) rfl rfl h
        · have h := h.2
          have n12 : ∀ k ∈ [(0 : Int32), (1 : Int32), (2 : Int32), (3 : Int32)], ¬ l2 = k := (gno c4 (gno c6 (gno c8 (gno c10 gno0))))
          have h := h n12
          refine T_table 71 92 (dk dtk_X11_act 11 rfl) (by decide) (gtab_d [(0 : Int32), (1 : Int32), (2 : Int32), (3 : Int32)] (by decide +kernel) n12) (by decide) ?_
          refine T_aload_n 0 (dk dtk_X11_act 36 rfl) rfl rfl ?_
          refine T_getR 0 5 160 (dk dtk_X11_act 37 rfl) kfl_X11_53 kk_0 (kl_0 hq) (by decide) rfl kr_0_5 ?_
          refine T_getR 160 9 170 (dk dtk_X11_act 38 rfl) kfl_X11_263 kk_160 (kl_160 hq) (by decide) rfl kr_160_9 ?_
          refine T_iload_n 1 (dk dtk_X11_act 39 rfl) rfl rfl ?_
          obtain ⟨h13, h⟩ := h
          refine T_iald 170 400 (dk dtk_X11_act 40 rfl) kk_170 (kl_170 hq) h13 ?_
          exact KE_iret (dk dtk_X11_act 41 rfl) rfl rfl h
set_option maxRecDepth 100000 in
theorem dtk_X11_before : dck cX11_before [(0, .aload_n 0, 1), (1, .invokevirtual 160, 3), (4, .iload_n 1, 1), (5, .aload_n 0, 1), (6, .getfield 53, 3), (9, .getfield 206, 3), (12, .invokestatic 163, 3), (15, .iload_n 2, 1), (16, .aload_n 0, 1), (17, .getfield 53, 3), (20, .getfield 206, 3), (23, .invokestatic 163, 3), (26, .aload_n 0, 1), (27, .getfield 53, 3), (30, .iload_n 1, 1), (31, .iload_n 2, 1), (32, .invokevirtual 266, 3), (35, .ireturn, 1)] = true := by decide +kernel
set_option maxRecDepth 100000 in
set_option maxHeartbeats 4000000 in
theorem kg_X11_before_0 {G : kG} {q : kP} {d : Nat} {x : gd} {P : Option gv → gd → Prop} {X : String → gd → Prop} (hq : kV q) (l1 : Int32) (l2 : Int32)
    (h : KE G q (d + 6) zk_X11_needRun 0 [(0, vr 0)] [] x (rv (fun x1 => KE G q (d + 6) zk_X11_needIndex 0 [(0, vi l1), (1, vi (x1.1 160 3))] [] x1 (rv (fun x2 => KE G q (d + 6) zk_X11_needIndex 0 [(0, vi l2), (1, vi (x2.1 160 3))] [] x2 (rv (fun x3 => KT G q (d + 6) zk_X4_isBefore 0 [(0, vr 160), (1, vi l1), (2, vi l2)] [] x3 (ri (fun r5 x4 => gbool r5 ∧ P (some (vi r5)) x4)))) X)) X)) X) :
    KE G q (d + 7) zk_X11_before 0 [(0, vr 0), (1, vi l1), (2, vi l2)] [] x P X := by
  refine T_aload_n 0 (dk dtk_X11_before 0 rfl) rfl rfl ?_
  refine KD_Vv [] [] rfl (dk dtk_X11_before 1 rfl) kcv_X11_160 rfl kk_0 rfl (kl_0 hq) (Nat.le_of_ble_eq_true rfl) (Nat.le_of_ble_eq_true rfl) (gok_i (av_c (gkr (kl_0 hq)) (av_c rfl (av_c rfl av_n))) as_n) rfl h (fun x1 h => ?_)
  refine T_iload_n 1 (dk dtk_X11_before 2 rfl) rfl rfl ?_
  refine T_aload_n 0 (dk dtk_X11_before 3 rfl) rfl rfl ?_
  refine T_getR 0 5 160 (dk dtk_X11_before 4 rfl) kfl_X11_53 kk_0 (kl_0 hq) (by decide) rfl kr_0_5 ?_
  refine T_getI 160 3 (dk dtk_X11_before 5 rfl) kfl_X11_206 kk_160 (kl_160 hq) (by decide) rfl ?_
  refine KD_Sv [vi l1, vi (x1.1 160 3)] [] rfl (dk dtk_X11_before 6 rfl) kcs_X11_163 rfl (Nat.le_of_ble_eq_true rfl) (Nat.le_of_ble_eq_true rfl) (gok_i (av_c (gkr (kl_0 hq)) (av_c rfl (av_c rfl av_n))) as_n) rfl h (fun x2 h => ?_)
  refine T_iload_n 2 (dk dtk_X11_before 7 rfl) rfl rfl ?_
  refine T_aload_n 0 (dk dtk_X11_before 8 rfl) rfl rfl ?_
  refine T_getR 0 5 160 (dk dtk_X11_before 9 rfl) kfl_X11_53 kk_0 (kl_0 hq) (by decide) rfl kr_0_5 ?_
  refine T_getI 160 3 (dk dtk_X11_before 10 rfl) kfl_X11_206 kk_160 (kl_160 hq) (by decide) rfl ?_
  refine KD_Sv [vi l2, vi (x2.1 160 3)] [] rfl (dk dtk_X11_before 11 rfl) kcs_X11_163 rfl (Nat.le_of_ble_eq_true rfl) (Nat.le_of_ble_eq_true rfl) (gok_i (av_c (gkr (kl_0 hq)) (av_c rfl (av_c rfl av_n))) as_n) rfl h (fun x3 h => ?_)
  refine T_aload_n 0 (dk dtk_X11_before 12 rfl) rfl rfl ?_
  refine T_getR 0 5 160 (dk dtk_X11_before 13 rfl) kfl_X11_53 kk_0 (kl_0 hq) (by decide) rfl kr_0_5 ?_
  refine T_iload_n 1 (dk dtk_X11_before 14 rfl) rfl rfl ?_
  refine T_iload_n 2 (dk dtk_X11_before 15 rfl) rfl rfl ?_
  refine T_sub (lv2 := []) [] rfl ?_
  refine KC_Vi [vi l1, vi l2] [] rfl (dk dtk_X11_before 16 rfl) kcv_X11_266 rfl kk_160 rfl (kl_160 hq) (Nat.le_of_ble_eq_true rfl) (Nat.le_of_ble_eq_true rfl) (gok_i av_n as_n) rfl h (fun r5 x4 h => ?_)
  exact KE_iret (dk dtk_X11_before 17 rfl) rfl h.1.1 h.2
set_option maxRecDepth 100000 in
theorem dtk_X11_race : dck cX11_race [(0, .aload_n 0, 1), (1, .invokevirtual 160, 3), (4, .iload_n 1, 1), (5, .aload_n 0, 1), (6, .getfield 53, 3), (9, .invokevirtual 213, 3), (12, .invokestatic 163, 3), (15, .iload_n 2, 1), (16, .iconst 2, 1), (17, .invokestatic 132, 3), (20, .aload_n 0, 1), (21, .getfield 53, 3), (24, .iload_n 1, 1), (25, .invokevirtual 270, 3), (28, .istore_n 3, 1), (29, .iload_n 2, 1), (30, .iconst 1, 1), (31, .if_icmp .ne 7, 3), (34, .iload_n 3, 1), (35, .goto 12, 3), (38, .aload_n 0, 1), (39, .getfield 53, 3), (42, .iload_n 1, 1), (43, .iload_n 3, 1), (44, .invokevirtual 273, 3), (47, .ireturn, 1)] = true := by decide +kernel
set_option maxRecDepth 100000 in
set_option maxHeartbeats 4000000 in
theorem kg_X11_race_0 {G : kG} {q : kP} {d : Nat} {x : gd} {P : Option gv → gd → Prop} {X : String → gd → Prop} (hq : kV q) (l1 : Int32) (l2 : Int32)
    (h : KE G q (d + 6) zk_X11_needRun 0 [(0, vr 0)] [] x (rv (fun x1 => KT G q (d + 6) zk_X4_races 0 [(0, vr 160)] [] x1 (ri (fun r3 x2 => KE G q (d + 6) zk_X11_needIndex 0 [(0, vi l1), (1, vi r3)] [] x2 (rv (fun x4 => KE G q (d + 6) zk_X11_needWhat 0 [(0, vi l2), (1, vi 2)] [] x4 (rv (fun x5 => KT G q (d + 6) zk_X4_laterOfRace 0 [(0, vr 160), (1, vi l1)] [] x5 (ri (fun r7 x6 => ((¬ (l2 = (1 : Int32)) → KT G q (d + 6) zk_X4_earlierOfRace 0 [(0, vr 160), (1, vi l1), (2, vi r7)] [] x6 (ri (fun r10 x9 => P (some (vi r10)) x9))) ∧ (l2 = (1 : Int32) → P (some (vi r7)) x6)))))) X)) X)))) X) :
    KE G q (d + 7) zk_X11_race 0 [(0, vr 0), (1, vi l1), (2, vi l2)] [] x P X := by
  refine T_aload_n 0 (dk dtk_X11_race 0 rfl) rfl rfl ?_
  refine KD_Vv [] [] rfl (dk dtk_X11_race 1 rfl) kcv_X11_160 rfl kk_0 rfl (kl_0 hq) (Nat.le_of_ble_eq_true rfl) (Nat.le_of_ble_eq_true rfl) (gok_i (av_c (gkr (kl_0 hq)) (av_c rfl (av_c rfl av_n))) as_n) rfl h (fun x1 h => ?_)
  refine T_iload_n 1 (dk dtk_X11_race 2 rfl) rfl rfl ?_
  refine T_aload_n 0 (dk dtk_X11_race 3 rfl) rfl rfl ?_
  refine T_getR 0 5 160 (dk dtk_X11_race 4 rfl) kfl_X11_53 kk_0 (kl_0 hq) (by decide) rfl kr_0_5 ?_
  refine KC_Vi [] [vi l1] rfl (dk dtk_X11_race 5 rfl) kcv_X11_213 rfl kk_160 rfl (kl_160 hq) (Nat.le_of_ble_eq_true rfl) (Nat.le_of_ble_eq_true rfl) (gok_i (av_c (gkr (kl_0 hq)) (av_c rfl (av_c rfl av_n))) (as_c rfl as_n)) rfl h (fun r3 x2 h => ?_)
  refine KD_Sv [vi l1, vi r3] [] rfl (dk dtk_X11_race 6 rfl) kcs_X11_163 rfl (Nat.le_of_ble_eq_true rfl) (Nat.le_of_ble_eq_true rfl) (gok_i (av_c (gkr (kl_0 hq)) (av_c rfl (av_c rfl av_n))) as_n) rfl h (fun x4 h => ?_)
  refine T_iload_n 2 (dk dtk_X11_race 7 rfl) rfl rfl ?_
  refine T_iconst (v := 2) (dk dtk_X11_race 8 rfl) (by decide +kernel) ?_
  refine KD_Sv [vi l2, vi 2] [] rfl (dk dtk_X11_race 9 rfl) kcs_X11_132 rfl (Nat.le_of_ble_eq_true rfl) (Nat.le_of_ble_eq_true rfl) (gok_i (av_c (gkr (kl_0 hq)) (av_c rfl (av_c rfl av_n))) as_n) rfl h (fun x5 h => ?_)
  refine T_aload_n 0 (dk dtk_X11_race 10 rfl) rfl rfl ?_
  refine T_getR 0 5 160 (dk dtk_X11_race 11 rfl) kfl_X11_53 kk_0 (kl_0 hq) (by decide) rfl kr_0_5 ?_
  refine T_iload_n 1 (dk dtk_X11_race 12 rfl) rfl rfl ?_
  refine KC_Vi [vi l1] [] rfl (dk dtk_X11_race 13 rfl) kcv_X11_270 rfl kk_160 rfl (kl_160 hq) (Nat.le_of_ble_eq_true rfl) (Nat.le_of_ble_eq_true rfl) (gok_i (av_c (gkr (kl_0 hq)) (av_c rfl (av_c rfl av_n))) as_n) rfl h (fun r7 x6 h => ?_)
  refine T_istore_n (lv2 := [(3, vi r7), (0, vr 0), (1, vi l1), (2, vi l2)]) (dk dtk_X11_race 14 rfl) rfl (by decide) rfl ?_
  refine T_iload_n 3 (dk dtk_X11_race 15 rfl) rfl rfl ?_
  refine T_iconst (v := 1) (dk dtk_X11_race 16 rfl) (by decide +kernel) ?_
  refine T_icmp_ne 38 (dk dtk_X11_race 17 rfl) (by decide) (fun c8 => ?_) (fun c8 => ?_)
  · have h := h.1 c8
    refine T_aload_n 1 (dk dtk_X11_race 20 rfl) rfl rfl ?_
    refine T_getR 0 5 160 (dk dtk_X11_race 21 rfl) kfl_X11_53 kk_0 (kl_0 hq) (by decide) rfl kr_0_5 ?_
    refine T_iload_n 2 (dk dtk_X11_race 22 rfl) rfl rfl ?_
    refine T_iload_n 0 (dk dtk_X11_race 23 rfl) rfl rfl ?_
    refine T_sub (lv2 := []) [] rfl ?_
    refine KC_Vi [vi l1, vi r7] [] rfl (dk dtk_X11_race 24 rfl) kcv_X11_273 rfl kk_160 rfl (kl_160 hq) (Nat.le_of_ble_eq_true rfl) (Nat.le_of_ble_eq_true rfl) (gok_i av_n as_n) rfl h (fun r10 x9 h => ?_)
    exact KE_iret (dk dtk_X11_race 25 rfl) rfl rfl h
  · have h := h.2 c8
    refine T_iload_n 0 (dk dtk_X11_race 18 rfl) rfl rfl ?_
    refine T_goto 47 (dk dtk_X11_race 19 rfl) (by decide) ?_
    exact KE_iret (dk dtk_X11_race 25 rfl) rfl rfl h
set_option maxRecDepth 100000 in
theorem dtk_X11_linear : dck cX11_linear [(0, .aload_n 0, 1), (1, .invokevirtual 160, 3), (4, .iload_n 1, 1), (5, .ifCond .lt 8, 3), (8, .iload_n 1, 1), (9, .iconst 3, 1), (10, .if_icmp .le 14, 3), (13, .new 70, 3), (16, .dup, 1), (17, .ldc_w 276, 3), (20, .invokespecial 74, 3), (23, .athrow, 1), (24, .aload_n 0, 1), (25, .getfield 53, 3), (28, .getfield 216, 3), (31, .bipush 12, 2), (33, .if_icmp .le 5, 3), (36, .iconst (-1), 1), (37, .ireturn, 1), (38, .aload_n 0, 1), (39, .getfield 280, 3), (42, .ifnonnull 14, 3), (45, .aload_n 0, 1), (46, .new 278, 3), (49, .dup, 1), (50, .invokespecial 284, 3), (53, .putfield 280, 3), (56, .aload_n 0, 1), (57, .getfield 280, 3), (60, .aload_n 0, 1), (61, .getfield 53, 3), (64, .invokevirtual 285, 3), (67, .aload_n 0, 1), (68, .getfield 280, 3), (71, .iload_n 1, 1), (72, .invokevirtual 289, 3), (75, .istore_n 2, 1), (76, .iload_n 2, 1), (77, .iconst (-1), 1), (78, .if_icmp .ne 7, 3), (81, .iconst 1, 1), (82, .goto 7, 3), (85, .bipush (-2), 2), (87, .iload_n 2, 1), (88, .isub, 1), (89, .ireturn, 1)] = true := by decide +kernel
set_option maxRecDepth 100000 in
theorem dtk_X11_attempt : dck cX11_attempt [(0, .aload_n 0, 1), (1, .invokevirtual 148, 3), (4, .iload_n 1, 1), (5, .invokestatic 151, 3), (8, .iload_n 2, 1), (9, .iconst 1, 1), (10, .if_icmp .lt 10, 3), (13, .iload_n 2, 1), (14, .sipush 3000, 3), (17, .if_icmp .le 14, 3), (20, .new 70, 3), (23, .dup, 1), (24, .ldc_w 292, 3), (27, .invokespecial 74, 3), (30, .athrow, 1), (31, .aload_n 0, 1), (32, .getfield 294, 3), (35, .ifnonnull 18, 3), (38, .aload_n 0, 1), (39, .new 298, 3), (42, .dup, 1), (43, .aload_n 0, 1), (44, .getfield 28, 3), (47, .invokespecial 300, 3), (50, .putfield 294, 3), (53, .aload_n 0, 1), (54, .getfield 59, 3), (57, .iload_n 1, 1), (58, .aaload, 1), (59, .ifnonnull 16, 3), (62, .aload_n 0, 1), (63, .getfield 59, 3), (66, .iload_n 1, 1), (67, .new 57, 3), (70, .dup, 1), (71, .invokespecial 301, 3), (74, .aastore, 1), (75, .aload_n 0, 1), (76, .getfield 294, 3), (79, .iload_n 1, 1), (80, .iload_n 2, 1), (81, .aload_n 0, 1), (82, .getfield 59, 3), (85, .iload_n 1, 1), (86, .aaload, 1), (87, .invokevirtual 302, 3), (90, .aload_n 0, 1), (91, .getfield 59, 3), (94, .iload_n 1, 1), (95, .aaload, 1), (96, .getfield 306, 3), (99, .ireturn, 1)] = true := by decide +kernel
set_option maxRecDepth 100000 in
theorem dtk_X11_tried : dck cX11_tried [(0, .iload_n 1, 1), (1, .invokestatic 151, 3), (4, .iload_n 2, 1), (5, .bipush 6, 2), (7, .invokestatic 132, 3), (10, .aload_n 0, 1), (11, .iload_n 1, 1), (12, .invokevirtual 309, 3), (15, .ifCond .ne 5, 3), (18, .iconst 0, 1), (19, .ireturn, 1), (20, .aload_n 0, 1), (21, .getfield 59, 3), (24, .iload_n 1, 1), (25, .aaload, 1), (26, .astore_n 3, 1), (27, .iload_n 2, 1), (28, .tableswitch 69 0 4 #[36, 41, 54, 59, 64], 36), (64, .aload_n 3, 1), (65, .getfield 306, 3), (68, .ireturn, 1), (69, .aload_n 3, 1), (70, .getfield 313, 3), (73, .ifCond .eq 7, 3), (76, .iconst 1, 1), (77, .goto 4, 3), (80, .iconst 0, 1), (81, .ireturn, 1), (82, .aload_n 3, 1), (83, .getfield 316, 3), (86, .ireturn, 1), (87, .aload_n 3, 1), (88, .getfield 319, 3), (91, .ireturn, 1), (92, .aload_n 3, 1), (93, .getfield 322, 3), (96, .ireturn, 1), (97, .aload_n 3, 1), (98, .getfield 325, 3), (101, .ireturn, 1)] = true := by decide +kernel
set_option maxRecDepth 100000 in
set_option maxHeartbeats 4000000 in
theorem kg_X11_tried_0 {G : kG} {q : kP} {d : Nat} {x : gd} {P : Option gv → gd → Prop} {X : String → gd → Prop} (hq : kV q) (l1 : Int32) (l2 : Int32)
    (h : KE G q (d + 6) zk_X11_needWay 0 [(0, vi l1)] [] x (rv (fun x1 => KE G q (d + 6) zk_X11_needWhat 0 [(0, vi l2), (1, vi 6)] [] x1 (rv (fun x2 => KT G q (d + 6) zk_X11_wasTried 0 [(0, vr 0), (1, vi l1)] [] x2 (ri (fun r4 x3 => ((¬ (r4 = (0 : Int32)) → vp_in l1 2 ∧ (∀ u7, u7 = (kf q).1 7 (l1 : Int32).toNatClampNeg → ∃ c8, u7 = some c8 ∧ kiT q c8 ∧ (((l2 = 0) → P (some (vi (x3.1 c8 0))) x3) ∧ ((l2 = 1) → (((x3.1 c8 1) = (0 : Int32) → P (some (vi 0)) x3) ∧ (¬ ((x3.1 c8 1) = (0 : Int32)) → P (some (vi 1)) x3))) ∧ ((l2 = 2) → P (some (vi (x3.1 c8 2))) x3) ∧ ((l2 = 3) → P (some (vi (x3.1 c8 3))) x3) ∧ ((l2 = 4) → P (some (vi (x3.1 c8 4))) x3) ∧ ((∀ k ∈ [(0 : Int32), (1 : Int32), (2 : Int32), (3 : Int32), (4 : Int32)], ¬ l2 = k) → P (some (vi (x3.1 c8 5))) x3)))) ∧ (r4 = (0 : Int32) → P (some (vi 0)) x3)))))) X)) X) :
    KE G q (d + 7) zk_X11_tried 0 [(0, vr 0), (1, vi l1), (2, vi l2)] [] x P X := by
  refine T_iload_n 1 (dk dtk_X11_tried 0 rfl) rfl rfl ?_
  refine KD_Sv [vi l1] [] rfl (dk dtk_X11_tried 1 rfl) kcs_X11_151 rfl (Nat.le_of_ble_eq_true rfl) (Nat.le_of_ble_eq_true rfl) (gok_i (av_c (gkr (kl_0 hq)) (av_c rfl (av_c rfl av_n))) as_n) rfl h (fun x1 h => ?_)
  refine T_iload_n 2 (dk dtk_X11_tried 2 rfl) rfl rfl ?_
  refine T_bipush (v := 6) (dk dtk_X11_tried 3 rfl) (by decide +kernel) ?_
  refine KD_Sv [vi l2, vi 6] [] rfl (dk dtk_X11_tried 4 rfl) kcs_X11_132 rfl (Nat.le_of_ble_eq_true rfl) (Nat.le_of_ble_eq_true rfl) (gok_i (av_c (gkr (kl_0 hq)) (av_c rfl (av_c rfl av_n))) as_n) rfl h (fun x2 h => ?_)
  refine T_aload_n 0 (dk dtk_X11_tried 5 rfl) rfl rfl ?_
  refine T_iload_n 1 (dk dtk_X11_tried 6 rfl) rfl rfl ?_
  refine KC_Vi [vi l1] [] rfl (dk dtk_X11_tried 7 rfl) kcv_X11_309 rfl kk_0 rfl (kl_0 hq) (Nat.le_of_ble_eq_true rfl) (Nat.le_of_ble_eq_true rfl) (gok_i (av_c (gkr (kl_0 hq)) (av_c rfl (av_c rfl av_n))) as_n) rfl h (fun r4 x3 h => ?_)
  refine T_if_ne 20 (dk dtk_X11_tried 8 rfl) (by decide) (fun c5 => ?_) (fun c5 => ?_)
  · have h := h.1 c5
    refine T_aload_n 0 (dk dtk_X11_tried 11 rfl) rfl rfl ?_
    refine T_getR 0 6 7 (dk dtk_X11_tried 12 rfl) kfl_X11_59 kk_0 (kl_0 hq) (by decide) rfl kr_0_6 ?_
    refine T_iload_n 1 (dk dtk_X11_tried 13 rfl) rfl rfl ?_
    obtain ⟨h6, h⟩ := h
    obtain ⟨u7, eu7⟩ : ∃ z, z = (kf q).1 7 (l1 : Int32).toNatClampNeg := ⟨_, rfl⟩
    have h := h u7 eu7
    refine T_aaldT 7 2 (dk dtk_X11_tried 14 rfl) kk_7 (kl_7 hq) h6 ?_
    rw [← eu7]
    obtain ⟨c8, rfl, g9, h⟩ := h
    refine T_astore_n (lv2 := [(3, vr c8), (0, vr 0), (1, vi l1), (2, vi l2)]) (dk dtk_X11_tried 15 rfl) rfl (by decide) rfl ?_
    refine T_iload_n 3 (dk dtk_X11_tried 16 rfl) rfl rfl ?_
    by_cases c10 : l2 = 0
    · have h := h.1 c10
      refine T_table 36 64 (dk dtk_X11_tried 17 rfl) (by decide) (by rw [c10]; decide +kernel) (by decide) ?_
      refine T_aload_n 0 (dk dtk_X11_tried 18 rfl) rfl rfl ?_
      refine T_getI c8 0 (dk dtk_X11_tried 19 rfl) kfl_X11_306 (kk_T0 g9) (kl_T0 hq g9) (by decide) rfl ?_
      exact KE_iret (dk dtk_X11_tried 20 rfl) rfl rfl h
    · have h := h.2
      by_cases c11 : l2 = 1
      · have h := h.1 c11
        refine T_table 41 69 (dk dtk_X11_tried 17 rfl) (by decide) (by rw [c11]; decide +kernel) (by decide) ?_
        refine T_aload_n 0 (dk dtk_X11_tried 21 rfl) rfl rfl ?_
        refine T_getI c8 1 (dk dtk_X11_tried 22 rfl) kfl_X11_313 (kk_T0 g9) (kl_T0 hq g9) (by decide) rfl ?_
        refine T_if_eq 80 (dk dtk_X11_tried 23 rfl) (by decide) (fun c12 => ?_) (fun c12 => ?_)
        · have h := h.1 c12
          refine T_iconst (v := 0) (dk dtk_X11_tried 26 rfl) (by decide +kernel) ?_
          exact KE_iret (dk dtk_X11_tried 27 rfl) rfl rfl h
        · have h := h.2 c12
          refine T_iconst (v := 1) (dk dtk_X11_tried 24 rfl) (by decide +kernel) ?_
          refine T_goto 81 (dk dtk_X11_tried 25 rfl) (by decide) ?_
          exact KE_iret (dk dtk_X11_tried 27 rfl) rfl rfl h
      · have h := h.2
        by_cases c13 : l2 = 2
        · have h := h.1 c13
          refine T_table 54 82 (dk dtk_X11_tried 17 rfl) (by decide) (by rw [c13]; decide +kernel) (by decide) ?_
          refine T_aload_n 0 (dk dtk_X11_tried 28 rfl) rfl rfl ?_
          refine T_getI c8 2 (dk dtk_X11_tried 29 rfl) kfl_X11_316 (kk_T0 g9) (kl_T0 hq g9) (by decide) rfl ?_
          exact KE_iret (dk dtk_X11_tried 30 rfl) rfl rfl h
        · have h := h.2
          by_cases c14 : l2 = 3
          · have h := h.1 c14
            refine T_table 59 87 (dk dtk_X11_tried 17 rfl) (by decide) (by rw [c14]; decide +kernel) (by decide) ?_
            refine T_aload_n 0 (dk dtk_X11_tried 31 rfl) rfl rfl ?_
            refine T_getI c8 3 (dk dtk_X11_tried 32 rfl) kfl_X11_319 (kk_T0 g9) (kl_T0 hq g9) (by decide) rfl ?_
            exact KE_iret (dk dtk_X11_tried 33 rfl) rfl rfl h
          · have h := h.2
            by_cases c15 : l2 = 4
            · have h := h.1 c15
              refine T_table 64 92 (dk dtk_X11_tried 17 rfl) (by decide) (by rw [c15]; decide +kernel) (by decide) ?_
              refine T_aload_n 0 (dk dtk_X11_tried 34 rfl) rfl rfl ?_
              refine T_getI c8 4 (dk dtk_X11_tried 35 rfl) kfl_X11_322 (kk_T0 g9) (kl_T0 hq g9) (by decide) rfl ?_
              exact KE_iret (dk dtk_X11_tried 36 rfl) rfl rfl h
            · have h := h.2
              have n16 : ∀ k ∈ [(0 : Int32), (1 : Int32), (2 : Int32), (3 : Int32), (4 : Int32)], ¬ l2 = k := (gno c10 (gno c11 (gno c13 (gno c14 (gno c15 gno0)))))
              have h := h n16
              refine T_table 69 97 (dk dtk_X11_tried 17 rfl) (by decide) (gtab_d [(0 : Int32), (1 : Int32), (2 : Int32), (3 : Int32), (4 : Int32)] (by decide +kernel) n16) (by decide) ?_
              refine T_aload_n 0 (dk dtk_X11_tried 37 rfl) rfl rfl ?_
              refine T_getI c8 5 (dk dtk_X11_tried 38 rfl) kfl_X11_325 (kk_T0 g9) (kl_T0 hq g9) (by decide) rfl ?_
              exact KE_iret (dk dtk_X11_tried 39 rfl) rfl rfl h
  · have h := h.2 c5
    refine T_iconst (v := 0) (dk dtk_X11_tried 9 rfl) (by decide +kernel) ?_
    exact KE_iret (dk dtk_X11_tried 10 rfl) rfl rfl h
set_option maxRecDepth 100000 in
theorem dtk_X11_outcome : dck cX11_outcome [(0, .iload_n 1, 1), (1, .invokestatic 151, 3), (4, .iload_n 2, 1), (5, .aload_n 0, 1), (6, .iload_n 1, 1), (7, .invokevirtual 309, 3), (10, .ifCond .eq 15, 3), (13, .aload_n 0, 1), (14, .getfield 59, 3), (17, .iload_n 1, 1), (18, .aaload, 1), (19, .getfield 319, 3), (22, .goto 4, 3), (25, .iconst 0, 1), (26, .invokestatic 163, 3), (29, .iload_n 3, 1), (30, .aload_n 0, 1), (31, .getfield 28, 3), (34, .getfield 136, 3), (37, .invokestatic 163, 3), (40, .aload_n 0, 1), (41, .getfield 59, 3), (44, .iload_n 1, 1), (45, .aaload, 1), (46, .iload_n 2, 1), (47, .iload_n 3, 1), (48, .invokevirtual 328, 3), (51, .ireturn, 1)] = true := by decide +kernel
set_option maxRecDepth 100000 in
set_option maxHeartbeats 4000000 in
theorem kg_X11_outcome_0 {G : kG} {q : kP} {d : Nat} {x : gd} {P : Option gv → gd → Prop} {X : String → gd → Prop} (hq : kV q) (l1 : Int32) (l2 : Int32) (l3 : Int32)
    (h : KE G q (d + 6) zk_X11_needWay 0 [(0, vi l1)] [] x (rv (fun x1 => KT G q (d + 6) zk_X11_wasTried 0 [(0, vr 0), (1, vi l1)] [] x1 (ri (fun r3 x2 => ((r3 = (0 : Int32) → KE G q (d + 7) zk_X11_outcome 26 [(0, vr 0), (1, vi l1), (2, vi l2), (3, vi l3)] [vi 0, vi l2] x2 P X) ∧ (¬ (r3 = (0 : Int32)) → vp_in l1 2 ∧ (∀ u6, u6 = (kf q).1 7 (l1 : Int32).toNatClampNeg → ∃ c7, u6 = some c7 ∧ kiT q c7 ∧ KE G q (d + 7) zk_X11_outcome 26 [(0, vr 0), (1, vi l1), (2, vi l2), (3, vi l3)] [vi (x2.1 c7 3), vi l2] x2 P X))))))) X) :
    KE G q (d + 7) zk_X11_outcome 0 [(0, vr 0), (1, vi l1), (2, vi l2), (3, vi l3)] [] x P X := by
  refine T_iload_n 1 (dk dtk_X11_outcome 0 rfl) rfl rfl ?_
  refine KD_Sv [vi l1] [] rfl (dk dtk_X11_outcome 1 rfl) kcs_X11_151 rfl (Nat.le_of_ble_eq_true rfl) (Nat.le_of_ble_eq_true rfl) (gok_i (av_c (gkr (kl_0 hq)) (av_c rfl (av_c rfl (av_c rfl av_n)))) as_n) rfl h (fun x1 h => ?_)
  refine T_iload_n 2 (dk dtk_X11_outcome 2 rfl) rfl rfl ?_
  refine T_aload_n 0 (dk dtk_X11_outcome 3 rfl) rfl rfl ?_
  refine T_iload_n 1 (dk dtk_X11_outcome 4 rfl) rfl rfl ?_
  refine KC_Vi [vi l1] [vi l2] rfl (dk dtk_X11_outcome 5 rfl) kcv_X11_309 rfl kk_0 rfl (kl_0 hq) (Nat.le_of_ble_eq_true rfl) (Nat.le_of_ble_eq_true rfl) (gok_i (av_c (gkr (kl_0 hq)) (av_c rfl (av_c rfl (av_c rfl av_n)))) (as_c rfl as_n)) rfl h (fun r3 x2 h => ?_)
  refine T_if_eq 25 (dk dtk_X11_outcome 6 rfl) (by decide) (fun c4 => ?_) (fun c4 => ?_)
  · have h := h.1 c4
    refine T_iconst (v := 0) (dk dtk_X11_outcome 13 rfl) (by decide +kernel) ?_
    exact h
  · have h := h.2 c4
    refine T_aload_n 0 (dk dtk_X11_outcome 7 rfl) rfl rfl ?_
    refine T_getR 0 6 7 (dk dtk_X11_outcome 8 rfl) kfl_X11_59 kk_0 (kl_0 hq) (by decide) rfl kr_0_6 ?_
    refine T_iload_n 1 (dk dtk_X11_outcome 9 rfl) rfl rfl ?_
    obtain ⟨h5, h⟩ := h
    obtain ⟨u6, eu6⟩ : ∃ z, z = (kf q).1 7 (l1 : Int32).toNatClampNeg := ⟨_, rfl⟩
    have h := h u6 eu6
    refine T_aaldT 7 2 (dk dtk_X11_outcome 10 rfl) kk_7 (kl_7 hq) h5 ?_
    rw [← eu6]
    obtain ⟨c7, rfl, g8, h⟩ := h
    refine T_getI c7 3 (dk dtk_X11_outcome 11 rfl) kfl_X11_319 (kk_T0 g8) (kl_T0 hq g8) (by decide) rfl ?_
    refine T_goto 26 (dk dtk_X11_outcome 12 rfl) (by decide) ?_
    exact h
set_option maxRecDepth 100000 in
set_option maxHeartbeats 4000000 in
theorem kg_X11_outcome_26 {G : kG} {q : kP} {d : Nat} {x : gd} {P : Option gv → gd → Prop} {X : String → gd → Prop} (hq : kV q) (l1 : Int32) (l2 : Int32) (l3 : Int32) (s0 : Int32) (s1 : Int32)
    (h : KE G q (d + 6) zk_X11_needIndex 0 [(0, vi s1), (1, vi s0)] [] x (rv (fun x1 => KE G q (d + 6) zk_X11_needIndex 0 [(0, vi l3), (1, vi (x1.1 60 6))] [] x1 (rv (fun x2 => vp_in l1 2 ∧ (∀ u4, u4 = (kf q).1 7 (l1 : Int32).toNatClampNeg → ∃ c5, u4 = some c5 ∧ kiT q c5 ∧ KT G q (d + 6) zk_X10_valueOf 0 [(0, vr c5), (1, vi l2), (2, vi l3)] [] x2 (ri (fun r8 x7 => P (some (vi r8)) x7))))) X)) X) :
    KE G q (d + 7) zk_X11_outcome 26 [(0, vr 0), (1, vi l1), (2, vi l2), (3, vi l3)] [vi s0, vi s1] x P X := by
  refine KD_Sv [vi s1, vi s0] [] rfl (dk dtk_X11_outcome 14 rfl) kcs_X11_163 rfl (Nat.le_of_ble_eq_true rfl) (Nat.le_of_ble_eq_true rfl) (gok_i (av_c (gkr (kl_0 hq)) (av_c rfl (av_c rfl (av_c rfl av_n)))) as_n) rfl h (fun x1 h => ?_)
  refine T_iload_n 3 (dk dtk_X11_outcome 15 rfl) rfl rfl ?_
  refine T_aload_n 0 (dk dtk_X11_outcome 16 rfl) rfl rfl ?_
  refine T_getR 0 2 60 (dk dtk_X11_outcome 17 rfl) kfl_X11_28 kk_0 (kl_0 hq) (by decide) rfl kr_0_2 ?_
  refine T_getI 60 6 (dk dtk_X11_outcome 18 rfl) kfl_X11_136 kk_60 (kl_60 hq) (by decide) rfl ?_
  refine KD_Sv [vi l3, vi (x1.1 60 6)] [] rfl (dk dtk_X11_outcome 19 rfl) kcs_X11_163 rfl (Nat.le_of_ble_eq_true rfl) (Nat.le_of_ble_eq_true rfl) (gok_i (av_c (gkr (kl_0 hq)) (av_c rfl (av_c rfl (av_c rfl av_n)))) as_n) rfl h (fun x2 h => ?_)
  refine T_aload_n 0 (dk dtk_X11_outcome 20 rfl) rfl rfl ?_
  refine T_getR 0 6 7 (dk dtk_X11_outcome 21 rfl) kfl_X11_59 kk_0 (kl_0 hq) (by decide) rfl kr_0_6 ?_
  refine T_iload_n 1 (dk dtk_X11_outcome 22 rfl) rfl rfl ?_
  obtain ⟨h3, h⟩ := h
  obtain ⟨u4, eu4⟩ : ∃ z, z = (kf q).1 7 (l1 : Int32).toNatClampNeg := ⟨_, rfl⟩
  have h := h u4 eu4
  refine T_aaldT 7 2 (dk dtk_X11_outcome 23 rfl) kk_7 (kl_7 hq) h3 ?_
  rw [← eu4]
  refine T_iload_n 2 (dk dtk_X11_outcome 24 rfl) rfl rfl ?_
  refine T_iload_n 3 (dk dtk_X11_outcome 25 rfl) rfl rfl ?_
  obtain ⟨c5, rfl, g6, h⟩ := h
  refine T_sub (lv2 := []) [] rfl ?_
  refine KC_Vi [vi l2, vi l3] [] rfl (dk dtk_X11_outcome 26 rfl) kcv_X11_328 rfl (kk_T0 g6) rfl (kl_T0 hq g6) (Nat.le_of_ble_eq_true rfl) (Nat.le_of_ble_eq_true rfl) (gok_i av_n as_n) rfl h (fun r8 x7 h => ?_)
  exact KE_iret (dk dtk_X11_outcome 27 rfl) rfl rfl h
set_option maxRecDepth 100000 in
theorem dtk_X11_finding : dck cX11_finding [(0, .iload_n 1, 1), (1, .invokestatic 151, 3), (4, .iload_n 2, 1), (5, .invokestatic 331, 3), (8, .aload_n 0, 1), (9, .iload_n 1, 1), (10, .iload_n 2, 1), (11, .invokevirtual 334, 3), (14, .istore_n 3, 1), (15, .iload_n 3, 1), (16, .iconst (-1), 1), (17, .if_icmp .ne 7, 3), (20, .iconst (-1), 1), (21, .goto 14, 3), (24, .aload_n 0, 1), (25, .getfield 59, 3), (28, .iload_n 1, 1), (29, .aaload, 1), (30, .getfield 337, 3), (33, .iload_n 3, 1), (34, .iaload, 1), (35, .ireturn, 1)] = true := by decide +kernel
set_option maxRecDepth 100000 in
set_option maxHeartbeats 4000000 in
theorem kg_X11_finding_0 {G : kG} {q : kP} {d : Nat} {x : gd} {P : Option gv → gd → Prop} {X : String → gd → Prop} (hq : kV q) (l1 : Int32) (l2 : Int32)
    (h : KE G q (d + 6) zk_X11_needWay 0 [(0, vi l1)] [] x (rv (fun x1 => KE G q (d + 6) zk_X11_needFinding 0 [(0, vi l2)] [] x1 (rv (fun x2 => KT G q (d + 6) zk_X11_firstState 0 [(0, vr 0), (1, vi l1), (2, vi l2)] [] x2 (ri (fun r4 x3 => ((¬ (r4 = (-1 : Int32)) → vp_in l1 2 ∧ (∀ u7, u7 = (kf q).1 7 (l1 : Int32).toNatClampNeg → ∃ c8, u7 = some c8 ∧ kiT q c8 ∧ vp_in r4 3000 ∧ P (some (vi (x3.1 (c8 + 12) (r4 : Int32).toNatClampNeg))) x3)) ∧ (r4 = (-1 : Int32) → P (some (vi (-1))) x3)))))) X)) X) :
    KE G q (d + 7) zk_X11_finding 0 [(0, vr 0), (1, vi l1), (2, vi l2)] [] x P X := by
  refine T_iload_n 1 (dk dtk_X11_finding 0 rfl) rfl rfl ?_
  refine KD_Sv [vi l1] [] rfl (dk dtk_X11_finding 1 rfl) kcs_X11_151 rfl (Nat.le_of_ble_eq_true rfl) (Nat.le_of_ble_eq_true rfl) (gok_i (av_c (gkr (kl_0 hq)) (av_c rfl (av_c rfl av_n))) as_n) rfl h (fun x1 h => ?_)
  refine T_iload_n 2 (dk dtk_X11_finding 2 rfl) rfl rfl ?_
  refine KD_Sv [vi l2] [] rfl (dk dtk_X11_finding 3 rfl) kcs_X11_331 rfl (Nat.le_of_ble_eq_true rfl) (Nat.le_of_ble_eq_true rfl) (gok_i (av_c (gkr (kl_0 hq)) (av_c rfl (av_c rfl av_n))) as_n) rfl h (fun x2 h => ?_)
  refine T_aload_n 0 (dk dtk_X11_finding 4 rfl) rfl rfl ?_
  refine T_iload_n 1 (dk dtk_X11_finding 5 rfl) rfl rfl ?_
  refine T_iload_n 2 (dk dtk_X11_finding 6 rfl) rfl rfl ?_
  refine T_sub (lv2 := [(0, vr 0), (1, vi l1)]) [0, 1] rfl ?_
  refine KC_Vi [vi l1, vi l2] [] rfl (dk dtk_X11_finding 7 rfl) kcv_X11_334 rfl kk_0 rfl (kl_0 hq) (Nat.le_of_ble_eq_true rfl) (Nat.le_of_ble_eq_true rfl) (gok_i (av_c (gkr (kl_0 hq)) (av_c rfl av_n)) as_n) rfl h (fun r4 x3 h => ?_)
  refine T_istore_n (lv2 := [(3, vi r4), (0, vr 0), (1, vi l1)]) (dk dtk_X11_finding 8 rfl) rfl (by decide) rfl ?_
  refine T_iload_n 0 (dk dtk_X11_finding 9 rfl) rfl rfl ?_
  refine T_iconst (v := (-1)) (dk dtk_X11_finding 10 rfl) (by decide +kernel) ?_
  refine T_icmp_ne 24 (dk dtk_X11_finding 11 rfl) (by decide) (fun c5 => ?_) (fun c5 => ?_)
  · have h := h.1 c5
    refine T_aload_n 1 (dk dtk_X11_finding 14 rfl) rfl rfl ?_
    refine T_getR 0 6 7 (dk dtk_X11_finding 15 rfl) kfl_X11_59 kk_0 (kl_0 hq) (by decide) rfl kr_0_6 ?_
    refine T_iload_n 2 (dk dtk_X11_finding 16 rfl) rfl rfl ?_
    obtain ⟨h6, h⟩ := h
    obtain ⟨u7, eu7⟩ : ∃ z, z = (kf q).1 7 (l1 : Int32).toNatClampNeg := ⟨_, rfl⟩
    have h := h u7 eu7
    refine T_aaldT 7 2 (dk dtk_X11_finding 17 rfl) kk_7 (kl_7 hq) h6 ?_
    rw [← eu7]
    obtain ⟨c8, rfl, g9, h⟩ := h
    refine T_getR c8 11 (c8 + 12) (dk dtk_X11_finding 18 rfl) kfl_X11_337 (kk_T0 g9) (kl_T0 hq g9) (by decide) rfl (kr_T_11 g9) ?_
    refine T_iload_n 0 (dk dtk_X11_finding 19 rfl) rfl rfl ?_
    obtain ⟨h10, h⟩ := h
    refine T_iald (c8 + 12) 3000 (dk dtk_X11_finding 20 rfl) (kk_T12 g9) (kl_T12 hq g9) h10 ?_
    exact KE_iret (dk dtk_X11_finding 21 rfl) rfl rfl h
  · have h := h.2 c5
    refine T_iconst (v := (-1)) (dk dtk_X11_finding 12 rfl) (by decide +kernel) ?_
    refine T_goto 35 (dk dtk_X11_finding 13 rfl) (by decide) ?_
    exact KE_iret (dk dtk_X11_finding 21 rfl) rfl rfl h
set_option maxRecDepth 100000 in
theorem dtk_X11_show : dck cX11_show [(0, .iload_n 1, 1), (1, .invokestatic 151, 3), (4, .iload_n 2, 1), (5, .invokestatic 331, 3), (8, .aload_n 0, 1), (9, .iload_n 1, 1), (10, .iload_n 2, 1), (11, .invokevirtual 334, 3), (14, .istore_n 3, 1), (15, .iload_n 3, 1), (16, .iconst (-1), 1), (17, .if_icmp .ne 14, 3), (20, .new 102, 3), (23, .dup, 1), (24, .ldc_w 340, 3), (27, .invokespecial 191, 3), (30, .athrow, 1), (31, .aload_n 0, 1), (32, .getfield 59, 3), (35, .iload_n 1, 1), (36, .aaload, 1), (37, .getfield 337, 3), (40, .iload_n 3, 1), (41, .iaload, 1), (42, .istore 4, 2), (44, .iload 4, 2), (46, .sipush 400, 3), (49, .if_icmp .le 14, 3), (52, .new 102, 3), (55, .dup, 1), (56, .ldc_w 342, 3), (59, .invokespecial 191, 3), (62, .athrow, 1), (63, .aload_n 0, 1), (64, .getfield 59, 3), (67, .iload_n 1, 1), (68, .aaload, 1), (69, .iload_n 3, 1), (70, .aload_n 0, 1), (71, .getfield 53, 3), (74, .getfield 203, 3), (77, .invokevirtual 344, 3), (80, .aload_n 0, 1), (81, .iload_n 1, 1), (82, .invokevirtual 154, 3), (85, .iconst 0, 1), (86, .istore 5, 2), (88, .iload 5, 2), (90, .iload 4, 2), (92, .if_icmp .ge 23, 3), (95, .aload_n 0, 1), (96, .aload_n 0, 1), (97, .getfield 53, 3), (100, .getfield 203, 3), (103, .iload 5, 2), (105, .iaload, 1), (106, .invokevirtual 192, 3), (109, .iinc 5 1, 3), (112, .goto (-24), 3), (115, .iload 4, 2), (117, .ireturn, 1)] = true := by decide +kernel
set_option maxRecDepth 100000 in
set_option maxHeartbeats 4000000 in
theorem kg_X11_show_0 {G : kG} {q : kP} {d : Nat} {x : gd} {P : Option gv → gd → Prop} {X : String → gd → Prop} (hq : kV q) (l1 : Int32) (l2 : Int32)
    (h : KE G q (d + 6) zk_X11_needWay 0 [(0, vi l1)] [] x (rv (fun x1 => KE G q (d + 6) zk_X11_needFinding 0 [(0, vi l2)] [] x1 (rv (fun x2 => KT G q (d + 6) zk_X11_firstState 0 [(0, vr 0), (1, vi l1), (2, vi l2)] [] x2 (ri (fun r4 x3 => ((¬ (r4 = (-1 : Int32)) → vp_in l1 2 ∧ (∀ u7, u7 = (kf q).1 7 (l1 : Int32).toNatClampNeg → ∃ c8, u7 = some c8 ∧ kiT q c8 ∧ vp_in r4 3000 ∧ (((x3.1 (c8 + 12) (r4 : Int32).toNatClampNeg) ≤ (400 : Int32) → vp_in l1 2 ∧ (∀ u13, u13 = (kf q).1 7 (l1 : Int32).toNatClampNeg → ∃ c14, u13 = some c14 ∧ kiT q c14 ∧ KT G q (d + 6) zk_X10_pathTo 0 [(0, vr c14), (1, vi r4), (2, vr 162)] [] x3 (rv (fun x16 => KT G q (d + 6) zk_X11_beginRun 0 [(0, vr 0), (1, vi l1)] [] x16 (rv (fun x17 => KE G q (d + 7) zk_X11_show 88 [(0, vr 0), (4, vi (x3.1 (c8 + 12) (r4 : Int32).toNatClampNeg)), (5, vi 0)] [] x17 P X)))))) ∧ (¬ ((x3.1 (c8 + 12) (r4 : Int32).toNatClampNeg) ≤ (400 : Int32)) → X iSE x3)))) ∧ (r4 = (-1 : Int32) → X iSE x3)))))) X)) X) :
    KE G q (d + 7) zk_X11_show 0 [(0, vr 0), (1, vi l1), (2, vi l2)] [] x P X := by
  refine T_iload_n 1 (dk dtk_X11_show 0 rfl) rfl rfl ?_
  refine KD_Sv [vi l1] [] rfl (dk dtk_X11_show 1 rfl) kcs_X11_151 rfl (Nat.le_of_ble_eq_true rfl) (Nat.le_of_ble_eq_true rfl) (gok_i (av_c (gkr (kl_0 hq)) (av_c rfl (av_c rfl av_n))) as_n) rfl h (fun x1 h => ?_)
  refine T_iload_n 2 (dk dtk_X11_show 2 rfl) rfl rfl ?_
  refine KD_Sv [vi l2] [] rfl (dk dtk_X11_show 3 rfl) kcs_X11_331 rfl (Nat.le_of_ble_eq_true rfl) (Nat.le_of_ble_eq_true rfl) (gok_i (av_c (gkr (kl_0 hq)) (av_c rfl (av_c rfl av_n))) as_n) rfl h (fun x2 h => ?_)
  refine T_aload_n 0 (dk dtk_X11_show 4 rfl) rfl rfl ?_
  refine T_iload_n 1 (dk dtk_X11_show 5 rfl) rfl rfl ?_
  refine T_iload_n 2 (dk dtk_X11_show 6 rfl) rfl rfl ?_
  refine T_sub (lv2 := [(0, vr 0), (1, vi l1)]) [0, 1] rfl ?_
  refine KC_Vi [vi l1, vi l2] [] rfl (dk dtk_X11_show 7 rfl) kcv_X11_334 rfl kk_0 rfl (kl_0 hq) (Nat.le_of_ble_eq_true rfl) (Nat.le_of_ble_eq_true rfl) (gok_i (av_c (gkr (kl_0 hq)) (av_c rfl av_n)) as_n) rfl h (fun r4 x3 h => ?_)
  refine T_istore_n (lv2 := [(3, vi r4), (0, vr 0), (1, vi l1)]) (dk dtk_X11_show 8 rfl) rfl (by decide) rfl ?_
  refine T_iload_n 0 (dk dtk_X11_show 9 rfl) rfl rfl ?_
  refine T_iconst (v := (-1)) (dk dtk_X11_show 10 rfl) (by decide +kernel) ?_
  refine T_icmp_ne 31 (dk dtk_X11_show 11 rfl) (by decide) (fun c5 => ?_) (fun c5 => ?_)
  · have h := h.1 c5
    refine T_aload_n 1 (dk dtk_X11_show 17 rfl) rfl rfl ?_
    refine T_getR 0 6 7 (dk dtk_X11_show 18 rfl) kfl_X11_59 kk_0 (kl_0 hq) (by decide) rfl kr_0_6 ?_
    refine T_iload_n 2 (dk dtk_X11_show 19 rfl) rfl rfl ?_
    obtain ⟨h6, h⟩ := h
    obtain ⟨u7, eu7⟩ : ∃ z, z = (kf q).1 7 (l1 : Int32).toNatClampNeg := ⟨_, rfl⟩
    have h := h u7 eu7
    refine T_aaldT 7 2 (dk dtk_X11_show 20 rfl) kk_7 (kl_7 hq) h6 ?_
    rw [← eu7]
    obtain ⟨c8, rfl, g9, h⟩ := h
    refine T_getR c8 11 (c8 + 12) (dk dtk_X11_show 21 rfl) kfl_X11_337 (kk_T0 g9) (kl_T0 hq g9) (by decide) rfl (kr_T_11 g9) ?_
    refine T_iload_n 0 (dk dtk_X11_show 22 rfl) rfl rfl ?_
    obtain ⟨h10, h⟩ := h
    refine T_iald (c8 + 12) 3000 (dk dtk_X11_show 23 rfl) (kk_T12 g9) (kl_T12 hq g9) h10 ?_
    refine T_istore (lv2 := [(4, vi (x3.1 (c8 + 12) (r4 : Int32).toNatClampNeg)), (3, vi r4), (0, vr 0), (1, vi l1)]) (dk dtk_X11_show 24 rfl) (by decide) rfl ?_
    refine T_iload 0 (dk dtk_X11_show 25 rfl) rfl ?_
    refine T_sipush (v := 400) (dk dtk_X11_show 26 rfl) (by decide +kernel) ?_
    refine T_icmp_le 63 (dk dtk_X11_show 27 rfl) (by decide) (fun c11 => ?_) (fun c11 => ?_)
    · have h := h.1 c11
      refine T_aload_n 2 (dk dtk_X11_show 33 rfl) rfl rfl ?_
      refine T_getR 0 6 7 (dk dtk_X11_show 34 rfl) kfl_X11_59 kk_0 (kl_0 hq) (by decide) rfl kr_0_6 ?_
      refine T_iload_n 3 (dk dtk_X11_show 35 rfl) rfl rfl ?_
      obtain ⟨h12, h⟩ := h
      obtain ⟨u13, eu13⟩ : ∃ z, z = (kf q).1 7 (l1 : Int32).toNatClampNeg := ⟨_, rfl⟩
      have h := h u13 eu13
      refine T_aaldT 7 2 (dk dtk_X11_show 36 rfl) kk_7 (kl_7 hq) h12 ?_
      rw [← eu13]
      refine T_iload_n 1 (dk dtk_X11_show 37 rfl) rfl rfl ?_
      refine T_aload_n 2 (dk dtk_X11_show 38 rfl) rfl rfl ?_
      refine T_getR 0 5 160 (dk dtk_X11_show 39 rfl) kfl_X11_53 kk_0 (kl_0 hq) (by decide) rfl kr_0_5 ?_
      refine T_getR 160 1 162 (dk dtk_X11_show 40 rfl) kfl_X11_203 kk_160 (kl_160 hq) (by decide) rfl kr_160_1 ?_
      obtain ⟨c14, rfl, g15, h⟩ := h
      refine T_sub (lv2 := [(4, vi (x3.1 (c8 + 12) (r4 : Int32).toNatClampNeg)), (0, vr 0), (1, vi l1)]) [0, 2, 3] rfl ?_
      refine KC_Vv [vi r4, vr 162] [] rfl (dk dtk_X11_show 41 rfl) kcv_X11_344 rfl (kk_T0 g15) rfl (kl_T0 hq g15) (Nat.le_of_ble_eq_true rfl) (Nat.le_of_ble_eq_true rfl) (gok_i (av_c rfl (av_c (gkr (kl_0 hq)) (av_c rfl av_n))) as_n) rfl h (fun x16 h => ?_)
      refine T_aload_n 1 (dk dtk_X11_show 42 rfl) rfl rfl ?_
      refine T_iload_n 2 (dk dtk_X11_show 43 rfl) rfl rfl ?_
      refine T_sub (lv2 := [(4, vi (x3.1 (c8 + 12) (r4 : Int32).toNatClampNeg)), (0, vr 0)]) [0, 1] rfl ?_
      refine KC_Vv [vi l1] [] rfl (dk dtk_X11_show 44 rfl) kcv_X11_154 rfl kk_0 rfl (kl_0 hq) (Nat.le_of_ble_eq_true rfl) (Nat.le_of_ble_eq_true rfl) (gok_i (av_c rfl (av_c (gkr (kl_0 hq)) av_n)) as_n) rfl h (fun x17 h => ?_)
      refine T_iconst (v := 0) (dk dtk_X11_show 45 rfl) (by decide +kernel) ?_
      refine T_istore (lv2 := [(5, vi 0), (4, vi (x3.1 (c8 + 12) (r4 : Int32).toNatClampNeg)), (0, vr 0)]) (dk dtk_X11_show 46 rfl) (by decide) rfl ?_
      exact T_sub [2, 1, 0] rfl h
    · have h := h.2 c11
      exact T_thrW kth_X11_102_342 (dk dtk_X11_show 28 rfl) (dk dtk_X11_show 29 rfl) (dk dtk_X11_show 30 rfl) (dk dtk_X11_show 31 rfl) (dk dtk_X11_show 32 rfl) (by intro z hz; cases hz) (by omega) (Nat.le_of_ble_eq_true rfl) (Or.inr ⟨rfl, _, rfl, h⟩)
  · have h := h.2 c5
    exact T_thrW kth_X11_102_340 (dk dtk_X11_show 12 rfl) (dk dtk_X11_show 13 rfl) (dk dtk_X11_show 14 rfl) (dk dtk_X11_show 15 rfl) (dk dtk_X11_show 16 rfl) (by intro z hz; cases hz) (by omega) (Nat.le_of_ble_eq_true rfl) (Or.inr ⟨rfl, _, rfl, h⟩)
set_option maxRecDepth 100000 in
set_option maxHeartbeats 4000000 in
theorem kg_X11_show_88 {G : kG} {q : kP} {d : Nat} {x : gd} {P : Option gv → gd → Prop} {X : String → gd → Prop} (hq : kV q) (l4 : Int32) (l5 : Int32)
    (h : ((l4 ≤ l5 → P (some (vi l4)) x) ∧ (¬ (l4 ≤ l5) → vp_in l5 400 ∧ KT G q (d + 6) zk_X11_doChoice 0 [(0, vr 0), (1, vi (x.1 162 (l5 : Int32).toNatClampNeg))] [] x (rv (fun x3 => KE G q (d + 7) zk_X11_show 88 [(0, vr 0), (4, vi l4), (5, vi (l5 + 1))] [] x3 P X))))) :
    KE G q (d + 7) zk_X11_show 88 [(0, vr 0), (4, vi l4), (5, vi l5)] [] x P X := by
  refine T_iload 2 (dk dtk_X11_show 47 rfl) rfl ?_
  refine T_iload 1 (dk dtk_X11_show 48 rfl) rfl ?_
  refine T_icmp_ge 115 (dk dtk_X11_show 49 rfl) (by decide) (fun c1 => ?_) (fun c1 => ?_)
  · have h := h.1 c1
    refine T_iload 1 (dk dtk_X11_show 59 rfl) rfl ?_
    exact KE_iret (dk dtk_X11_show 60 rfl) rfl rfl h
  · have h := h.2 c1
    refine T_aload_n 0 (dk dtk_X11_show 50 rfl) rfl rfl ?_
    refine T_aload_n 0 (dk dtk_X11_show 51 rfl) rfl rfl ?_
    refine T_getR 0 5 160 (dk dtk_X11_show 52 rfl) kfl_X11_53 kk_0 (kl_0 hq) (by decide) rfl kr_0_5 ?_
    refine T_getR 160 1 162 (dk dtk_X11_show 53 rfl) kfl_X11_203 kk_160 (kl_160 hq) (by decide) rfl kr_160_1 ?_
    refine T_iload 2 (dk dtk_X11_show 54 rfl) rfl ?_
    obtain ⟨h2, h⟩ := h
    refine T_iald 162 400 (dk dtk_X11_show 55 rfl) kk_162 (kl_162 hq) h2 ?_
    refine KC_Vv [vi (x.1 162 (l5 : Int32).toNatClampNeg)] [] rfl (dk dtk_X11_show 56 rfl) kcv_X11_192 rfl kk_0 rfl (kl_0 hq) (Nat.le_of_ble_eq_true rfl) (Nat.le_of_ble_eq_true rfl) (gok_i (av_c (gkr (kl_0 hq)) (av_c rfl (av_c rfl av_n))) as_n) rfl h (fun x3 h => ?_)
    refine T_iinc (v := l5 + 1) (lv2 := [(5, vi (l5 + 1)), (0, vr 0), (4, vi l4)]) 2 (dk dtk_X11_show 57 rfl) rfl rfl (by decide) rfl ?_
    refine T_goto 88 (dk dtk_X11_show 58 rfl) (by decide) ?_
    exact T_sub [1, 2, 0] rfl h
set_option maxRecDepth 100000 in
theorem dtk_X11_common : dck cX11_common [(0, .iload_n 1, 1), (1, .invokestatic 151, 3), (4, .iload_n 2, 1), (5, .aload_n 0, 1), (6, .getfield 110, 3), (9, .ifCond .eq 13, 3), (12, .aload_n 0, 1), (13, .getfield 28, 3), (16, .getfield 136, 3), (19, .goto 4, 3), (22, .iconst 0, 1), (23, .invokestatic 163, 3), (26, .aload_n 0, 1), (27, .iload_n 1, 1), (28, .invokevirtual 309, 3), (31, .ifCond .eq 17, 3), (34, .aload_n 0, 1), (35, .getfield 59, 3), (38, .iload_n 1, 1), (39, .aaload, 1), (40, .getfield 348, 3), (43, .iload_n 2, 1), (44, .iaload, 1), (45, .goto 14, 3), (48, .iconst 1, 1), (49, .aload_n 0, 1), (50, .getfield 28, 3), (53, .getfield 139, 3), (56, .ishl, 1), (57, .iconst 1, 1), (58, .isub, 1), (59, .ireturn, 1)] = true := by decide +kernel
set_option maxRecDepth 100000 in
set_option maxHeartbeats 4000000 in
theorem kg_X11_common_0 {G : kG} {q : kP} {d : Nat} {x : gd} {P : Option gv → gd → Prop} {X : String → gd → Prop} (hq : kV q) (l1 : Int32) (l2 : Int32)
    (h : KE G q (d + 6) zk_X11_needWay 0 [(0, vi l1)] [] x (rv (fun x1 => (((x1.1 0 9) = (0 : Int32) → KE G q (d + 7) zk_X11_common 23 [(0, vr 0), (1, vi l1), (2, vi l2)] [vi 0, vi l2] x1 P X) ∧ (¬ ((x1.1 0 9) = (0 : Int32)) → KE G q (d + 7) zk_X11_common 23 [(0, vr 0), (1, vi l1), (2, vi l2)] [vi (x1.1 60 6), vi l2] x1 P X)))) X) :
    KE G q (d + 7) zk_X11_common 0 [(0, vr 0), (1, vi l1), (2, vi l2)] [] x P X := by
  refine T_iload_n 1 (dk dtk_X11_common 0 rfl) rfl rfl ?_
  refine KD_Sv [vi l1] [] rfl (dk dtk_X11_common 1 rfl) kcs_X11_151 rfl (Nat.le_of_ble_eq_true rfl) (Nat.le_of_ble_eq_true rfl) (gok_i (av_c (gkr (kl_0 hq)) (av_c rfl (av_c rfl av_n))) as_n) rfl h (fun x1 h => ?_)
  refine T_iload_n 2 (dk dtk_X11_common 2 rfl) rfl rfl ?_
  refine T_aload_n 0 (dk dtk_X11_common 3 rfl) rfl rfl ?_
  refine T_getI 0 9 (dk dtk_X11_common 4 rfl) kfl_X11_110 kk_0 (kl_0 hq) (by decide) rfl ?_
  refine T_if_eq 22 (dk dtk_X11_common 5 rfl) (by decide) (fun c2 => ?_) (fun c2 => ?_)
  · have h := h.1 c2
    refine T_iconst (v := 0) (dk dtk_X11_common 10 rfl) (by decide +kernel) ?_
    exact h
  · have h := h.2 c2
    refine T_aload_n 0 (dk dtk_X11_common 6 rfl) rfl rfl ?_
    refine T_getR 0 2 60 (dk dtk_X11_common 7 rfl) kfl_X11_28 kk_0 (kl_0 hq) (by decide) rfl kr_0_2 ?_
    refine T_getI 60 6 (dk dtk_X11_common 8 rfl) kfl_X11_136 kk_60 (kl_60 hq) (by decide) rfl ?_
    refine T_goto 23 (dk dtk_X11_common 9 rfl) (by decide) ?_
    exact h
set_option maxRecDepth 100000 in
set_option maxHeartbeats 4000000 in
theorem kg_X11_common_23 {G : kG} {q : kP} {d : Nat} {x : gd} {P : Option gv → gd → Prop} {X : String → gd → Prop} (hq : kV q) (l1 : Int32) (l2 : Int32) (s0 : Int32) (s1 : Int32)
    (h : KE G q (d + 6) zk_X11_needIndex 0 [(0, vi s1), (1, vi s0)] [] x (rv (fun x1 => KT G q (d + 6) zk_X11_wasTried 0 [(0, vr 0), (1, vi l1)] [] x1 (ri (fun r3 x2 => ((r3 = (0 : Int32) → P (some (vi ((1 <<< ((x2.1 60 9) &&& 31 : Int32)) - 1))) x2) ∧ (¬ (r3 = (0 : Int32)) → vp_in l1 2 ∧ (∀ u6, u6 = (kf q).1 7 (l1 : Int32).toNatClampNeg → ∃ c7, u6 = some c7 ∧ kiT q c7 ∧ vp_in l2 24 ∧ P (some (vi (x2.1 (c7 + 8) (l2 : Int32).toNatClampNeg))) x2))))))) X) :
    KE G q (d + 7) zk_X11_common 23 [(0, vr 0), (1, vi l1), (2, vi l2)] [vi s0, vi s1] x P X := by
  refine KD_Sv [vi s1, vi s0] [] rfl (dk dtk_X11_common 11 rfl) kcs_X11_163 rfl (Nat.le_of_ble_eq_true rfl) (Nat.le_of_ble_eq_true rfl) (gok_i (av_c (gkr (kl_0 hq)) (av_c rfl (av_c rfl av_n))) as_n) rfl h (fun x1 h => ?_)
  refine T_aload_n 0 (dk dtk_X11_common 12 rfl) rfl rfl ?_
  refine T_iload_n 1 (dk dtk_X11_common 13 rfl) rfl rfl ?_
  refine KC_Vi [vi l1] [] rfl (dk dtk_X11_common 14 rfl) kcv_X11_309 rfl kk_0 rfl (kl_0 hq) (Nat.le_of_ble_eq_true rfl) (Nat.le_of_ble_eq_true rfl) (gok_i (av_c (gkr (kl_0 hq)) (av_c rfl (av_c rfl av_n))) as_n) rfl h (fun r3 x2 h => ?_)
  refine T_if_eq 48 (dk dtk_X11_common 15 rfl) (by decide) (fun c4 => ?_) (fun c4 => ?_)
  · have h := h.1 c4
    refine T_iconst (v := 1) (dk dtk_X11_common 24 rfl) (by decide +kernel) ?_
    refine T_aload_n 0 (dk dtk_X11_common 25 rfl) rfl rfl ?_
    refine T_getR 0 2 60 (dk dtk_X11_common 26 rfl) kfl_X11_28 kk_0 (kl_0 hq) (by decide) rfl kr_0_2 ?_
    refine T_getI 60 9 (dk dtk_X11_common 27 rfl) kfl_X11_139 kk_60 (kl_60 hq) (by decide) rfl ?_
    refine T_ishl (dk dtk_X11_common 28 rfl) ?_
    refine T_iconst (v := 1) (dk dtk_X11_common 29 rfl) (by decide +kernel) ?_
    refine T_isub (dk dtk_X11_common 30 rfl) ?_
    exact KE_iret (dk dtk_X11_common 31 rfl) rfl rfl h
  · have h := h.2 c4
    refine T_aload_n 0 (dk dtk_X11_common 16 rfl) rfl rfl ?_
    refine T_getR 0 6 7 (dk dtk_X11_common 17 rfl) kfl_X11_59 kk_0 (kl_0 hq) (by decide) rfl kr_0_6 ?_
    refine T_iload_n 1 (dk dtk_X11_common 18 rfl) rfl rfl ?_
    obtain ⟨h5, h⟩ := h
    obtain ⟨u6, eu6⟩ : ∃ z, z = (kf q).1 7 (l1 : Int32).toNatClampNeg := ⟨_, rfl⟩
    have h := h u6 eu6
    refine T_aaldT 7 2 (dk dtk_X11_common 19 rfl) kk_7 (kl_7 hq) h5 ?_
    rw [← eu6]
    obtain ⟨c7, rfl, g8, h⟩ := h
    refine T_getR c7 7 (c7 + 8) (dk dtk_X11_common 20 rfl) kfl_X11_348 (kk_T0 g8) (kl_T0 hq g8) (by decide) rfl (kr_T_7 g8) ?_
    refine T_iload_n 2 (dk dtk_X11_common 21 rfl) rfl rfl ?_
    obtain ⟨h9, h⟩ := h
    refine T_iald (c7 + 8) 24 (dk dtk_X11_common 22 rfl) (kk_T8 g8) (kl_T8 hq g8) h9 ?_
    refine T_goto 59 (dk dtk_X11_common 23 rfl) (by decide) ?_
    exact KE_iret (dk dtk_X11_common 31 rfl) rfl rfl h
set_option maxRecDepth 100000 in
theorem dtk_X11_ring : dck cX11_ring [(0, .iload_n 1, 1), (1, .invokestatic 151, 3), (4, .aload_n 0, 1), (5, .iload_n 1, 1), (6, .invokevirtual 309, 3), (9, .ifCond .eq 15, 3), (12, .aload_n 0, 1), (13, .getfield 59, 3), (16, .iload_n 1, 1), (17, .aaload, 1), (18, .invokevirtual 351, 3), (21, .goto 4, 3), (24, .iconst 0, 1), (25, .ireturn, 1)] = true := by decide +kernel
set_option maxRecDepth 100000 in
set_option maxHeartbeats 4000000 in
theorem kg_X11_ring_0 {G : kG} {q : kP} {d : Nat} {x : gd} {P : Option gv → gd → Prop} {X : String → gd → Prop} (hq : kV q) (l1 : Int32)
    (h : KE G q (d + 6) zk_X11_needWay 0 [(0, vi l1)] [] x (rv (fun x1 => KT G q (d + 6) zk_X11_wasTried 0 [(0, vr 0), (1, vi l1)] [] x1 (ri (fun r3 x2 => ((r3 = (0 : Int32) → P (some (vi 0)) x2) ∧ (¬ (r3 = (0 : Int32)) → vp_in l1 2 ∧ (∀ u6, u6 = (kf q).1 7 (l1 : Int32).toNatClampNeg → ∃ c7, u6 = some c7 ∧ kiT q c7 ∧ KT G q (d + 6) zk_X10_shortestRing 0 [(0, vr c7)] [] x2 (ri (fun r10 x9 => P (some (vi r10)) x9))))))))) X) :
    KE G q (d + 7) zk_X11_ring 0 [(0, vr 0), (1, vi l1)] [] x P X := by
  refine T_iload_n 1 (dk dtk_X11_ring 0 rfl) rfl rfl ?_
  refine KD_Sv [vi l1] [] rfl (dk dtk_X11_ring 1 rfl) kcs_X11_151 rfl (Nat.le_of_ble_eq_true rfl) (Nat.le_of_ble_eq_true rfl) (gok_i (av_c (gkr (kl_0 hq)) (av_c rfl av_n)) as_n) rfl h (fun x1 h => ?_)
  refine T_aload_n 0 (dk dtk_X11_ring 2 rfl) rfl rfl ?_
  refine T_iload_n 1 (dk dtk_X11_ring 3 rfl) rfl rfl ?_
  refine KC_Vi [vi l1] [] rfl (dk dtk_X11_ring 4 rfl) kcv_X11_309 rfl kk_0 rfl (kl_0 hq) (Nat.le_of_ble_eq_true rfl) (Nat.le_of_ble_eq_true rfl) (gok_i (av_c (gkr (kl_0 hq)) (av_c rfl av_n)) as_n) rfl h (fun r3 x2 h => ?_)
  refine T_if_eq 24 (dk dtk_X11_ring 5 rfl) (by decide) (fun c4 => ?_) (fun c4 => ?_)
  · have h := h.1 c4
    refine T_iconst (v := 0) (dk dtk_X11_ring 12 rfl) (by decide +kernel) ?_
    exact KE_iret (dk dtk_X11_ring 13 rfl) rfl rfl h
  · have h := h.2 c4
    refine T_aload_n 0 (dk dtk_X11_ring 6 rfl) rfl rfl ?_
    refine T_getR 0 6 7 (dk dtk_X11_ring 7 rfl) kfl_X11_59 kk_0 (kl_0 hq) (by decide) rfl kr_0_6 ?_
    refine T_iload_n 1 (dk dtk_X11_ring 8 rfl) rfl rfl ?_
    obtain ⟨h5, h⟩ := h
    obtain ⟨u6, eu6⟩ : ∃ z, z = (kf q).1 7 (l1 : Int32).toNatClampNeg := ⟨_, rfl⟩
    have h := h u6 eu6
    refine T_aaldT 7 2 (dk dtk_X11_ring 9 rfl) kk_7 (kl_7 hq) h5 ?_
    rw [← eu6]
    obtain ⟨c7, rfl, g8, h⟩ := h
    refine T_sub (lv2 := []) [] rfl ?_
    refine KC_Vi [] [] rfl (dk dtk_X11_ring 10 rfl) kcv_X11_351 rfl (kk_T0 g8) rfl (kl_T0 hq g8) (Nat.le_of_ble_eq_true rfl) (Nat.le_of_ble_eq_true rfl) (gok_i av_n as_n) rfl h (fun r10 x9 h => ?_)
    refine T_goto 25 (dk dtk_X11_ring 11 rfl) (by decide) ?_
    exact KE_iret (dk dtk_X11_ring 13 rfl) rfl rfl h
end
section
set_option maxRecDepth 100000 in
theorem dtk_X11_alike : dck cX11_alike [(0, .aload_n 0, 1), (1, .iconst 0, 1), (2, .invokevirtual 309, 3), (5, .ifCond .eq 35, 3), (8, .aload_n 0, 1), (9, .iconst 1, 1), (10, .invokevirtual 309, 3), (13, .ifCond .eq 27, 3), (16, .aload_n 0, 1), (17, .getfield 59, 3), (20, .iconst 0, 1), (21, .aaload, 1), (22, .getfield 313, 3), (25, .ifCond .ne 15, 3), (28, .aload_n 0, 1), (29, .getfield 59, 3), (32, .iconst 1, 1), (33, .aaload, 1), (34, .getfield 313, 3), (37, .ifCond .eq 5, 3), (40, .iconst (-1), 1), (41, .ireturn, 1), (42, .aload_n 0, 1), (43, .getfield 59, 3), (46, .iconst 0, 1), (47, .aaload, 1), (48, .aload_n 0, 1), (49, .getfield 59, 3), (52, .iconst 1, 1), (53, .aaload, 1), (54, .aload_n 0, 1), (55, .getfield 28, 3), (58, .getfield 136, 3), (61, .invokevirtual 354, 3), (64, .ifCond .eq 7, 3), (67, .iconst 1, 1), (68, .goto 4, 3), (71, .iconst 0, 1), (72, .ireturn, 1)] = true := by decide +kernel
set_option maxRecDepth 100000 in
set_option maxHeartbeats 4000000 in
theorem kg_X11_alike_0 {G : kG} {q : kP} {d : Nat} {x : gd} {P : Option gv → gd → Prop} (hq : kV q) 
    (h : KT G q d zk_X11_wasTried 0 [(0, vr 0), (1, vi 0)] [] x (ri (fun r2 x1 => ((r2 = (0 : Int32) → P (some (vi (-1))) x1) ∧ (¬ (r2 = (0 : Int32)) → KT G q d zk_X11_wasTried 0 [(0, vr 0), (1, vi 1)] [] x1 (ri (fun r5 x4 => ((r5 = (0 : Int32) → P (some (vi (-1))) x4) ∧ (¬ (r5 = (0 : Int32)) → vp_in 0 2 ∧ (∀ u8, u8 = (kf q).1 7 (0 : Int32).toNatClampNeg → ∃ c9, u8 = some c9 ∧ kiT q c9 ∧ ((¬ ((x4.1 c9 1) = (0 : Int32)) → P (some (vi (-1))) x4) ∧ ((x4.1 c9 1) = (0 : Int32) → vp_in 1 2 ∧ (∀ u13, u13 = (kf q).1 7 (1 : Int32).toNatClampNeg → ∃ c14, u13 = some c14 ∧ kiT q c14 ∧ (((x4.1 c14 1) = (0 : Int32) → vp_in 0 2 ∧ (∀ u18, u18 = (kf q).1 7 (0 : Int32).toNatClampNeg → vp_in 1 2 ∧ (∀ u20, u20 = (kf q).1 7 (1 : Int32).toNatClampNeg → ∃ c21, u20 = some c21 ∧ kiT q c21 ∧ ∃ c23, u18 = some c23 ∧ kiT q c23 ∧ KT G q d zk_X10_sameOutcomes 0 [(0, vr c23), (1, vr c21), (2, vi (x4.1 60 6))] [] x4 (ri (fun r26 x25 => ((r26 = (0 : Int32) → P (some (vi 0)) x25) ∧ (¬ (r26 = (0 : Int32)) → P (some (vi 1)) x25))))))) ∧ (¬ ((x4.1 c14 1) = (0 : Int32)) → P (some (vi (-1))) x4))))))))))))))) :
    KT G q (d + 1) zk_X11_alike 0 [(0, vr 0)] [] x P := by
  refine T_aload_n 0 (dk dtk_X11_alike 0 rfl) rfl rfl ?_
  refine T_iconst (v := 0) (dk dtk_X11_alike 1 rfl) (by decide +kernel) ?_
  refine KC_Vi [vi 0] [] rfl (dk dtk_X11_alike 2 rfl) kcv_X11_309 rfl kk_0 rfl (kl_0 hq) (Nat.le_of_ble_eq_true rfl) (Nat.le_of_ble_eq_true rfl) (gok_i (av_c (gkr (kl_0 hq)) av_n) as_n) rfl h (fun r2 x1 h => ?_)
  refine T_if_eq 40 (dk dtk_X11_alike 3 rfl) (by decide) (fun c3 => ?_) (fun c3 => ?_)
  · have h := h.1 c3
    refine T_iconst (v := (-1)) (dk dtk_X11_alike 20 rfl) (by decide +kernel) ?_
    exact KT_iret (dk dtk_X11_alike 21 rfl) rfl rfl h
  · have h := h.2 c3
    refine T_aload_n 0 (dk dtk_X11_alike 4 rfl) rfl rfl ?_
    refine T_iconst (v := 1) (dk dtk_X11_alike 5 rfl) (by decide +kernel) ?_
    refine KC_Vi [vi 1] [] rfl (dk dtk_X11_alike 6 rfl) kcv_X11_309 rfl kk_0 rfl (kl_0 hq) (Nat.le_of_ble_eq_true rfl) (Nat.le_of_ble_eq_true rfl) (gok_i (av_c (gkr (kl_0 hq)) av_n) as_n) rfl h (fun r5 x4 h => ?_)
    refine T_if_eq 40 (dk dtk_X11_alike 7 rfl) (by decide) (fun c6 => ?_) (fun c6 => ?_)
    · have h := h.1 c6
      refine T_iconst (v := (-1)) (dk dtk_X11_alike 20 rfl) (by decide +kernel) ?_
      exact KT_iret (dk dtk_X11_alike 21 rfl) rfl rfl h
    · have h := h.2 c6
      refine T_aload_n 0 (dk dtk_X11_alike 8 rfl) rfl rfl ?_
      refine T_getR 0 6 7 (dk dtk_X11_alike 9 rfl) kfl_X11_59 kk_0 (kl_0 hq) (by decide) rfl kr_0_6 ?_
      refine T_iconst (v := 0) (dk dtk_X11_alike 10 rfl) (by decide +kernel) ?_
      obtain ⟨h7, h⟩ := h
      obtain ⟨u8, eu8⟩ : ∃ z, z = (kf q).1 7 (0 : Int32).toNatClampNeg := ⟨_, rfl⟩
      have h := h u8 eu8
      refine T_aaldT 7 2 (dk dtk_X11_alike 11 rfl) kk_7 (kl_7 hq) h7 ?_
      rw [← eu8]
      obtain ⟨c9, rfl, g10, h⟩ := h
      refine T_getI c9 1 (dk dtk_X11_alike 12 rfl) kfl_X11_313 (kk_T0 g10) (kl_T0 hq g10) (by decide) rfl ?_
      refine T_if_ne 40 (dk dtk_X11_alike 13 rfl) (by decide) (fun c11 => ?_) (fun c11 => ?_)
      · have h := h.1 c11
        refine T_iconst (v := (-1)) (dk dtk_X11_alike 20 rfl) (by decide +kernel) ?_
        exact KT_iret (dk dtk_X11_alike 21 rfl) rfl rfl h
      · have h := h.2 c11
        refine T_aload_n 0 (dk dtk_X11_alike 14 rfl) rfl rfl ?_
        refine T_getR 0 6 7 (dk dtk_X11_alike 15 rfl) kfl_X11_59 kk_0 (kl_0 hq) (by decide) rfl kr_0_6 ?_
        refine T_iconst (v := 1) (dk dtk_X11_alike 16 rfl) (by decide +kernel) ?_
        obtain ⟨h12, h⟩ := h
        obtain ⟨u13, eu13⟩ : ∃ z, z = (kf q).1 7 (1 : Int32).toNatClampNeg := ⟨_, rfl⟩
        have h := h u13 eu13
        refine T_aaldT 7 2 (dk dtk_X11_alike 17 rfl) kk_7 (kl_7 hq) h12 ?_
        rw [← eu13]
        obtain ⟨c14, rfl, g15, h⟩ := h
        refine T_getI c14 1 (dk dtk_X11_alike 18 rfl) kfl_X11_313 (kk_T0 g15) (kl_T0 hq g15) (by decide) rfl ?_
        refine T_if_eq 42 (dk dtk_X11_alike 19 rfl) (by decide) (fun c16 => ?_) (fun c16 => ?_)
        · have h := h.1 c16
          refine T_aload_n 0 (dk dtk_X11_alike 22 rfl) rfl rfl ?_
          refine T_getR 0 6 7 (dk dtk_X11_alike 23 rfl) kfl_X11_59 kk_0 (kl_0 hq) (by decide) rfl kr_0_6 ?_
          refine T_iconst (v := 0) (dk dtk_X11_alike 24 rfl) (by decide +kernel) ?_
          obtain ⟨h17, h⟩ := h
          obtain ⟨u18, eu18⟩ : ∃ z, z = (kf q).1 7 (0 : Int32).toNatClampNeg := ⟨_, rfl⟩
          have h := h u18 eu18
          refine T_aaldT 7 2 (dk dtk_X11_alike 25 rfl) kk_7 (kl_7 hq) h17 ?_
          rw [← eu18]
          refine T_aload_n 0 (dk dtk_X11_alike 26 rfl) rfl rfl ?_
          refine T_getR 0 6 7 (dk dtk_X11_alike 27 rfl) kfl_X11_59 kk_0 (kl_0 hq) (by decide) rfl kr_0_6 ?_
          refine T_iconst (v := 1) (dk dtk_X11_alike 28 rfl) (by decide +kernel) ?_
          obtain ⟨h19, h⟩ := h
          obtain ⟨u20, eu20⟩ : ∃ z, z = (kf q).1 7 (1 : Int32).toNatClampNeg := ⟨_, rfl⟩
          have h := h u20 eu20
          refine T_aaldT 7 2 (dk dtk_X11_alike 29 rfl) kk_7 (kl_7 hq) h19 ?_
          rw [← eu20]
          refine T_aload_n 0 (dk dtk_X11_alike 30 rfl) rfl rfl ?_
          refine T_getR 0 2 60 (dk dtk_X11_alike 31 rfl) kfl_X11_28 kk_0 (kl_0 hq) (by decide) rfl kr_0_2 ?_
          refine T_getI 60 6 (dk dtk_X11_alike 32 rfl) kfl_X11_136 kk_60 (kl_60 hq) (by decide) rfl ?_
          obtain ⟨c21, rfl, g22, h⟩ := h
          obtain ⟨c23, rfl, g24, h⟩ := h
          refine T_sub (lv2 := []) [] rfl ?_
          refine KC_Vi [vr c21, vi (x4.1 60 6)] [] rfl (dk dtk_X11_alike 33 rfl) kcv_X11_354 rfl (kk_T0 g24) rfl (kl_T0 hq g24) (Nat.le_of_ble_eq_true rfl) (Nat.le_of_ble_eq_true rfl) (gok_i av_n as_n) rfl h (fun r26 x25 h => ?_)
          refine T_if_eq 71 (dk dtk_X11_alike 34 rfl) (by decide) (fun c27 => ?_) (fun c27 => ?_)
          · have h := h.1 c27
            refine T_iconst (v := 0) (dk dtk_X11_alike 37 rfl) (by decide +kernel) ?_
            exact KT_iret (dk dtk_X11_alike 38 rfl) rfl rfl h
          · have h := h.2 c27
            refine T_iconst (v := 1) (dk dtk_X11_alike 35 rfl) (by decide +kernel) ?_
            refine T_goto 72 (dk dtk_X11_alike 36 rfl) (by decide) ?_
            exact KT_iret (dk dtk_X11_alike 38 rfl) rfl rfl h
        · have h := h.2 c16
          refine T_iconst (v := (-1)) (dk dtk_X11_alike 20 rfl) (by decide +kernel) ?_
          exact KT_iret (dk dtk_X11_alike 21 rfl) rfl rfl h
set_option maxRecDepth 100000 in
theorem dtk_X11_forgetAll : dck cX11_forgetAll [(0, .aload_n 0, 1), (1, .iconst 0, 1), (2, .putfield 110, 3), (5, .aload_n 0, 1), (6, .iconst 0, 1), (7, .putfield 358, 3), (10, .iconst 0, 1), (11, .istore_n 1, 1), (12, .iload_n 1, 1), (13, .iconst 2, 1), (14, .if_icmp .ge 28, 3), (17, .aload_n 0, 1), (18, .getfield 59, 3), (21, .iload_n 1, 1), (22, .aaload, 1), (23, .ifnull 13, 3), (26, .aload_n 0, 1), (27, .getfield 59, 3), (30, .iload_n 1, 1), (31, .aaload, 1), (32, .iconst 0, 1), (33, .putfield 306, 3), (36, .iinc 1 1, 3), (39, .goto (-27), 3), (42, .return_, 1)] = true := by decide +kernel
set_option maxRecDepth 100000 in
set_option maxHeartbeats 4000000 in
theorem kg_X11_forgetAll_0 {G : kG} {q : kP} {d : Nat} {x : gd} {P : Option gv → gd → Prop} (hq : kV q) 
    (h : (∀ x1 : gd, x1 = si x 0 9 0 → (∀ x2 : gd, x2 = si x1 0 10 0 → KT G q d zk_X11_forgetAll 12 [(0, vr 0), (1, vi 0)] [] x2 P))) :
    KT G q d zk_X11_forgetAll 0 [(0, vr 0)] [] x P := by
  refine T_aload_n 0 (dk dtk_X11_forgetAll 0 rfl) rfl rfl ?_
  refine T_iconst (v := 0) (dk dtk_X11_forgetAll 1 rfl) (by decide +kernel) ?_
  obtain ⟨x1, ex1⟩ : ∃ z, z = si x 0 9 0 := ⟨_, rfl⟩
  have h := h x1 ex1
  refine T_putI 0 9 (dk dtk_X11_forgetAll 2 rfl) kfl_X11_110 kk_0 (kl_0 hq) (by decide) rfl ⟨rfl, rfl⟩ ?_
  rw [← ex1]
  refine T_aload_n 0 (dk dtk_X11_forgetAll 3 rfl) rfl rfl ?_
  refine T_iconst (v := 0) (dk dtk_X11_forgetAll 4 rfl) (by decide +kernel) ?_
  obtain ⟨x2, ex2⟩ : ∃ z, z = si x1 0 10 0 := ⟨_, rfl⟩
  have h := h x2 ex2
  refine T_putI 0 10 (dk dtk_X11_forgetAll 5 rfl) kfl_X11_358 kk_0 (kl_0 hq) (by decide) rfl ⟨rfl, rfl⟩ ?_
  rw [← ex2]
  refine T_iconst (v := 0) (dk dtk_X11_forgetAll 6 rfl) (by decide +kernel) ?_
  refine T_istore_n (lv2 := [(1, vi 0), (0, vr 0)]) (dk dtk_X11_forgetAll 7 rfl) rfl (by decide) rfl ?_
  exact T_sub [1, 0] rfl h
set_option maxRecDepth 100000 in
set_option maxHeartbeats 4000000 in
theorem kg_X11_forgetAll_12 {G : kG} {q : kP} {d : Nat} {x : gd} {P : Option gv → gd → Prop} (hq : kV q) (l1 : Int32)
    (h : (((2 : Int32) ≤ l1 → P none x) ∧ (¬ ((2 : Int32) ≤ l1) → vp_in l1 2 ∧ (∀ u3, u3 = (kf q).1 7 (l1 : Int32).toNatClampNeg → ((u3 = none → KT G q d zk_X11_forgetAll 12 [(0, vr 0), (1, vi (l1 + 1))] [] x P) ∧ (∀ c5, u3 = some c5 → vp_in l1 2 ∧ (∀ u7, u7 = (kf q).1 7 (l1 : Int32).toNatClampNeg → ∃ c8, u7 = some c8 ∧ kiT q c8 ∧ (∀ x10 : gd, x10 = si x c8 0 0 → KT G q d zk_X11_forgetAll 12 [(0, vr 0), (1, vi (l1 + 1))] [] x10 P)))))))) :
    KT G q d zk_X11_forgetAll 12 [(0, vr 0), (1, vi l1)] [] x P := by
  refine T_iload_n 1 (dk dtk_X11_forgetAll 8 rfl) rfl rfl ?_
  refine T_iconst (v := 2) (dk dtk_X11_forgetAll 9 rfl) (by decide +kernel) ?_
  refine T_icmp_ge 42 (dk dtk_X11_forgetAll 10 rfl) (by decide) (fun c1 => ?_) (fun c1 => ?_)
  · have h := h.1 c1
    exact KT_vret (dk dtk_X11_forgetAll 24 rfl) rfl h
  · have h := h.2 c1
    refine T_aload_n 0 (dk dtk_X11_forgetAll 11 rfl) rfl rfl ?_
    refine T_getR 0 6 7 (dk dtk_X11_forgetAll 12 rfl) kfl_X11_59 kk_0 (kl_0 hq) (by decide) rfl kr_0_6 ?_
    refine T_iload_n 1 (dk dtk_X11_forgetAll 13 rfl) rfl rfl ?_
    obtain ⟨h2, h⟩ := h
    obtain ⟨u3, eu3⟩ : ∃ z, z = (kf q).1 7 (l1 : Int32).toNatClampNeg := ⟨_, rfl⟩
    have h := h u3 eu3
    refine T_aaldT 7 2 (dk dtk_X11_forgetAll 14 rfl) kk_7 (kl_7 hq) h2 ?_
    rw [← eu3]
    refine T_ifnull 36 (dk dtk_X11_forgetAll 15 rfl) (by decide) (fun c4 => ?_) (fun c5 c4 => ?_)
    · have h := h.1 c4
      refine T_iinc (v := l1 + 1) (lv2 := [(1, vi (l1 + 1)), (0, vr 0)]) 1 (dk dtk_X11_forgetAll 22 rfl) rfl rfl (by decide) rfl ?_
      refine T_goto 12 (dk dtk_X11_forgetAll 23 rfl) (by decide) ?_
      exact T_sub [1, 0] rfl h
    · have h := h.2 c5 c4
      refine T_aload_n 0 (dk dtk_X11_forgetAll 16 rfl) rfl rfl ?_
      refine T_getR 0 6 7 (dk dtk_X11_forgetAll 17 rfl) kfl_X11_59 kk_0 (kl_0 hq) (by decide) rfl kr_0_6 ?_
      refine T_iload_n 1 (dk dtk_X11_forgetAll 18 rfl) rfl rfl ?_
      obtain ⟨h6, h⟩ := h
      obtain ⟨u7, eu7⟩ : ∃ z, z = (kf q).1 7 (l1 : Int32).toNatClampNeg := ⟨_, rfl⟩
      have h := h u7 eu7
      refine T_aaldT 7 2 (dk dtk_X11_forgetAll 19 rfl) kk_7 (kl_7 hq) h6 ?_
      rw [← eu7]
      refine T_iconst (v := 0) (dk dtk_X11_forgetAll 20 rfl) (by decide +kernel) ?_
      obtain ⟨c8, rfl, g9, h⟩ := h
      obtain ⟨x10, ex10⟩ : ∃ z, z = si x c8 0 0 := ⟨_, rfl⟩
      have h := h x10 ex10
      refine T_putI c8 0 (dk dtk_X11_forgetAll 21 rfl) kfl_X11_306 (kk_T0 g9) (kl_T0 hq g9) (by decide) rfl ⟨rfl, rfl⟩ ?_
      rw [← ex10]
      refine T_iinc (v := l1 + 1) (lv2 := [(1, vi (l1 + 1)), (0, vr 0)]) 1 (dk dtk_X11_forgetAll 22 rfl) rfl rfl (by decide) rfl ?_
      refine T_goto 12 (dk dtk_X11_forgetAll 23 rfl) (by decide) ?_
      exact T_sub [1, 0] rfl h
set_option maxRecDepth 100000 in
theorem dtk_X11_beginRun : dck cX11_beginRun [(0, .aload_n 0, 1), (1, .getfield 46, 3), (4, .iload_n 1, 1), (5, .invokevirtual 361, 3), (8, .aload_n 0, 1), (9, .getfield 46, 3), (12, .invokevirtual 364, 3), (15, .aload_n 0, 1), (16, .getfield 53, 3), (19, .invokevirtual 367, 3), (22, .aload_n 0, 1), (23, .iconst 1, 1), (24, .putfield 358, 3), (27, .return_, 1)] = true := by decide +kernel
set_option maxRecDepth 100000 in
set_option maxHeartbeats 4000000 in
theorem kg_X11_beginRun_0 {G : kG} {q : kP} {d : Nat} {x : gd} {P : Option gv → gd → Prop} (hq : kV q) (l1 : Int32)
    (h : KT G q d zk_X5_reset 0 [(0, vr 120), (1, vi l1)] [] x (rv (fun x1 => KT G q d zk_X5_listChoices 0 [(0, vr 120)] [] x1 (rv (fun x2 => KT G q d zk_X4_clear 0 [(0, vr 160)] [] x2 (rv (fun x3 => (∀ x4 : gd, x4 = si x3 0 10 1 → P none x4)))))))) :
    KT G q (d + 1) zk_X11_beginRun 0 [(0, vr 0), (1, vi l1)] [] x P := by
  refine T_aload_n 0 (dk dtk_X11_beginRun 0 rfl) rfl rfl ?_
  refine T_getR 0 4 120 (dk dtk_X11_beginRun 1 rfl) kfl_X11_46 kk_0 (kl_0 hq) (by decide) rfl kr_0_4 ?_
  refine T_iload_n 1 (dk dtk_X11_beginRun 2 rfl) rfl rfl ?_
  refine T_sub (lv2 := [(0, vr 0)]) [0] rfl ?_
  refine KC_Vv [vi l1] [] rfl (dk dtk_X11_beginRun 3 rfl) kcv_X11_361 rfl kk_120 rfl (kl_120 hq) (Nat.le_of_ble_eq_true rfl) (Nat.le_of_ble_eq_true rfl) (gok_i (av_c (gkr (kl_0 hq)) av_n) as_n) rfl h (fun x1 h => ?_)
  refine T_aload_n 0 (dk dtk_X11_beginRun 4 rfl) rfl rfl ?_
  refine T_getR 0 4 120 (dk dtk_X11_beginRun 5 rfl) kfl_X11_46 kk_0 (kl_0 hq) (by decide) rfl kr_0_4 ?_
  refine KC_Vv [] [] rfl (dk dtk_X11_beginRun 6 rfl) kcv_X11_364 rfl kk_120 rfl (kl_120 hq) (Nat.le_of_ble_eq_true rfl) (Nat.le_of_ble_eq_true rfl) (gok_i (av_c (gkr (kl_0 hq)) av_n) as_n) rfl h (fun x2 h => ?_)
  refine T_aload_n 0 (dk dtk_X11_beginRun 7 rfl) rfl rfl ?_
  refine T_getR 0 5 160 (dk dtk_X11_beginRun 8 rfl) kfl_X11_53 kk_0 (kl_0 hq) (by decide) rfl kr_0_5 ?_
  refine KC_Vv [] [] rfl (dk dtk_X11_beginRun 9 rfl) kcv_X11_367 rfl kk_160 rfl (kl_160 hq) (Nat.le_of_ble_eq_true rfl) (Nat.le_of_ble_eq_true rfl) (gok_i (av_c (gkr (kl_0 hq)) av_n) as_n) rfl h (fun x3 h => ?_)
  refine T_aload_n 0 (dk dtk_X11_beginRun 10 rfl) rfl rfl ?_
  refine T_iconst (v := 1) (dk dtk_X11_beginRun 11 rfl) (by decide +kernel) ?_
  obtain ⟨x4, ex4⟩ : ∃ z, z = si x3 0 10 1 := ⟨_, rfl⟩
  have h := h x4 ex4
  refine T_putI 0 10 (dk dtk_X11_beginRun 12 rfl) kfl_X11_358 kk_0 (kl_0 hq) (by decide) rfl ⟨rfl, rfl⟩ ?_
  rw [← ex4]
  exact KT_vret (dk dtk_X11_beginRun 13 rfl) rfl h
set_option maxRecDepth 100000 in
theorem dtk_X11_doChoice : dck cX11_doChoice [(0, .iload_n 1, 1), (1, .ifCond .lt 27, 3), (4, .iload_n 1, 1), (5, .aload_n 0, 1), (6, .getfield 46, 3), (9, .getfield 157, 3), (12, .if_icmp .ge 16, 3), (15, .aload_n 0, 1), (16, .getfield 53, 3), (19, .getfield 186, 3), (22, .sipush 400, 3), (25, .if_icmp .lt 4, 3), (28, .return_, 1), (29, .aload_n 0, 1), (30, .getfield 46, 3), (33, .iload_n 1, 1), (34, .invokevirtual 370, 3), (37, .aload_n 0, 1), (38, .getfield 53, 3), (41, .iload_n 1, 1), (42, .aload_n 0, 1), (43, .getfield 46, 3), (46, .getfield 373, 3), (49, .invokevirtual 377, 3), (52, .aload_n 0, 1), (53, .getfield 46, 3), (56, .invokevirtual 364, 3), (59, .return_, 1)] = true := by decide +kernel
set_option maxRecDepth 100000 in
set_option maxHeartbeats 4000000 in
theorem kg_X11_doChoice_0 {G : kG} {q : kP} {d : Nat} {x : gd} {P : Option gv → gd → Prop} (hq : kV q) (l1 : Int32)
    (h : ((l1 < (0 : Int32) → P none x) ∧ (¬ (l1 < (0 : Int32)) → (((x.1 120 13) ≤ l1 → P none x) ∧ (¬ ((x.1 120 13) ≤ l1) → (((x.1 160 2) < (400 : Int32) → KT G q d zk_X5_perform 0 [(0, vr 120), (1, vi l1)] [] x (rv (fun x4 => KT G q d zk_X4_note 0 [(0, vr 160), (1, vi l1), (2, vr 140)] [] x4 (rv (fun x5 => KT G q d zk_X5_listChoices 0 [(0, vr 120)] [] x5 (rv (fun x6 => P none x6))))))) ∧ (¬ ((x.1 160 2) < (400 : Int32)) → P none x))))))) :
    KT G q (d + 1) zk_X11_doChoice 0 [(0, vr 0), (1, vi l1)] [] x P := by
  refine T_iload_n 1 (dk dtk_X11_doChoice 0 rfl) rfl rfl ?_
  refine T_if_lt 28 (dk dtk_X11_doChoice 1 rfl) (by decide) (fun c1 => ?_) (fun c1 => ?_)
  · have h := h.1 c1
    exact KT_vret (dk dtk_X11_doChoice 12 rfl) rfl h
  · have h := h.2 c1
    refine T_iload_n 1 (dk dtk_X11_doChoice 2 rfl) rfl rfl ?_
    refine T_aload_n 0 (dk dtk_X11_doChoice 3 rfl) rfl rfl ?_
    refine T_getR 0 4 120 (dk dtk_X11_doChoice 4 rfl) kfl_X11_46 kk_0 (kl_0 hq) (by decide) rfl kr_0_4 ?_
    refine T_getI 120 13 (dk dtk_X11_doChoice 5 rfl) kfl_X11_157 kk_120 (kl_120 hq) (by decide) rfl ?_
    refine T_icmp_ge 28 (dk dtk_X11_doChoice 6 rfl) (by decide) (fun c2 => ?_) (fun c2 => ?_)
    · have h := h.1 c2
      exact KT_vret (dk dtk_X11_doChoice 12 rfl) rfl h
    · have h := h.2 c2
      refine T_aload_n 0 (dk dtk_X11_doChoice 7 rfl) rfl rfl ?_
      refine T_getR 0 5 160 (dk dtk_X11_doChoice 8 rfl) kfl_X11_53 kk_0 (kl_0 hq) (by decide) rfl kr_0_5 ?_
      refine T_getI 160 2 (dk dtk_X11_doChoice 9 rfl) kfl_X11_186 kk_160 (kl_160 hq) (by decide) rfl ?_
      refine T_sipush (v := 400) (dk dtk_X11_doChoice 10 rfl) (by decide +kernel) ?_
      refine T_icmp_lt 29 (dk dtk_X11_doChoice 11 rfl) (by decide) (fun c3 => ?_) (fun c3 => ?_)
      · have h := h.1 c3
        refine T_aload_n 0 (dk dtk_X11_doChoice 13 rfl) rfl rfl ?_
        refine T_getR 0 4 120 (dk dtk_X11_doChoice 14 rfl) kfl_X11_46 kk_0 (kl_0 hq) (by decide) rfl kr_0_4 ?_
        refine T_iload_n 1 (dk dtk_X11_doChoice 15 rfl) rfl rfl ?_
        refine KC_Vv [vi l1] [] rfl (dk dtk_X11_doChoice 16 rfl) kcv_X11_370 rfl kk_120 rfl (kl_120 hq) (Nat.le_of_ble_eq_true rfl) (Nat.le_of_ble_eq_true rfl) (gok_i (av_c (gkr (kl_0 hq)) (av_c rfl av_n)) as_n) rfl h (fun x4 h => ?_)
        refine T_aload_n 0 (dk dtk_X11_doChoice 17 rfl) rfl rfl ?_
        refine T_getR 0 5 160 (dk dtk_X11_doChoice 18 rfl) kfl_X11_53 kk_0 (kl_0 hq) (by decide) rfl kr_0_5 ?_
        refine T_iload_n 1 (dk dtk_X11_doChoice 19 rfl) rfl rfl ?_
        refine T_aload_n 0 (dk dtk_X11_doChoice 20 rfl) rfl rfl ?_
        refine T_getR 0 4 120 (dk dtk_X11_doChoice 21 rfl) kfl_X11_46 kk_0 (kl_0 hq) (by decide) rfl kr_0_4 ?_
        refine T_getR 120 2 140 (dk dtk_X11_doChoice 22 rfl) kfl_X11_373 kk_120 (kl_120 hq) (by decide) rfl kr_120_2 ?_
        refine T_sub (lv2 := [(0, vr 0)]) [0] rfl ?_
        refine KC_Vv [vi l1, vr 140] [] rfl (dk dtk_X11_doChoice 23 rfl) kcv_X11_377 rfl kk_160 rfl (kl_160 hq) (Nat.le_of_ble_eq_true rfl) (Nat.le_of_ble_eq_true rfl) (gok_i (av_c (gkr (kl_0 hq)) av_n) as_n) rfl h (fun x5 h => ?_)
        refine T_aload_n 0 (dk dtk_X11_doChoice 24 rfl) rfl rfl ?_
        refine T_getR 0 4 120 (dk dtk_X11_doChoice 25 rfl) kfl_X11_46 kk_0 (kl_0 hq) (by decide) rfl kr_0_4 ?_
        refine T_sub (lv2 := []) [] rfl ?_
        refine KC_Vv [] [] rfl (dk dtk_X11_doChoice 26 rfl) kcv_X11_364 rfl kk_120 rfl (kl_120 hq) (Nat.le_of_ble_eq_true rfl) (Nat.le_of_ble_eq_true rfl) (gok_i av_n as_n) rfl h (fun x6 h => ?_)
        exact KT_vret (dk dtk_X11_doChoice 27 rfl) rfl h
      · have h := h.2 c3
        exact KT_vret (dk dtk_X11_doChoice 12 rfl) rfl h
set_option maxRecDepth 100000 in
theorem dtk_X11_wasTried : dck cX11_wasTried [(0, .aload_n 0, 1), (1, .getfield 59, 3), (4, .iload_n 1, 1), (5, .aaload, 1), (6, .ifnull 19, 3), (9, .aload_n 0, 1), (10, .getfield 59, 3), (13, .iload_n 1, 1), (14, .aaload, 1), (15, .getfield 306, 3), (18, .ifCond .le 7, 3), (21, .iconst 1, 1), (22, .goto 4, 3), (25, .iconst 0, 1), (26, .ireturn, 1)] = true := by decide +kernel
set_option maxRecDepth 100000 in
set_option maxHeartbeats 4000000 in
theorem kg_X11_wasTried_0 {G : kG} {q : kP} {d : Nat} {x : gd} {P : Option gv → gd → Prop} (hq : kV q) (l1 : Int32)
    (h : vp_in l1 2 ∧ (∀ u2, u2 = (kf q).1 7 (l1 : Int32).toNatClampNeg → ((u2 = none → P (some (vi 0)) x) ∧ (∀ c4, u2 = some c4 → vp_in l1 2 ∧ (∀ u6, u6 = (kf q).1 7 (l1 : Int32).toNatClampNeg → ∃ c7, u6 = some c7 ∧ kiT q c7 ∧ (((x.1 c7 0) ≤ (0 : Int32) → P (some (vi 0)) x) ∧ (¬ ((x.1 c7 0) ≤ (0 : Int32)) → P (some (vi 1)) x))))))) :
    KT G q d zk_X11_wasTried 0 [(0, vr 0), (1, vi l1)] [] x P := by
  refine T_aload_n 0 (dk dtk_X11_wasTried 0 rfl) rfl rfl ?_
  refine T_getR 0 6 7 (dk dtk_X11_wasTried 1 rfl) kfl_X11_59 kk_0 (kl_0 hq) (by decide) rfl kr_0_6 ?_
  refine T_iload_n 1 (dk dtk_X11_wasTried 2 rfl) rfl rfl ?_
  obtain ⟨h1, h⟩ := h
  obtain ⟨u2, eu2⟩ : ∃ z, z = (kf q).1 7 (l1 : Int32).toNatClampNeg := ⟨_, rfl⟩
  have h := h u2 eu2
  refine T_aaldT 7 2 (dk dtk_X11_wasTried 3 rfl) kk_7 (kl_7 hq) h1 ?_
  rw [← eu2]
  refine T_ifnull 25 (dk dtk_X11_wasTried 4 rfl) (by decide) (fun c3 => ?_) (fun c4 c3 => ?_)
  · have h := h.1 c3
    refine T_iconst (v := 0) (dk dtk_X11_wasTried 13 rfl) (by decide +kernel) ?_
    exact KT_iret (dk dtk_X11_wasTried 14 rfl) rfl rfl h
  · have h := h.2 c4 c3
    refine T_aload_n 0 (dk dtk_X11_wasTried 5 rfl) rfl rfl ?_
    refine T_getR 0 6 7 (dk dtk_X11_wasTried 6 rfl) kfl_X11_59 kk_0 (kl_0 hq) (by decide) rfl kr_0_6 ?_
    refine T_iload_n 1 (dk dtk_X11_wasTried 7 rfl) rfl rfl ?_
    obtain ⟨h5, h⟩ := h
    obtain ⟨u6, eu6⟩ : ∃ z, z = (kf q).1 7 (l1 : Int32).toNatClampNeg := ⟨_, rfl⟩
    have h := h u6 eu6
    refine T_aaldT 7 2 (dk dtk_X11_wasTried 8 rfl) kk_7 (kl_7 hq) h5 ?_
    rw [← eu6]
    obtain ⟨c7, rfl, g8, h⟩ := h
    refine T_getI c7 0 (dk dtk_X11_wasTried 9 rfl) kfl_X11_306 (kk_T0 g8) (kl_T0 hq g8) (by decide) rfl ?_
    refine T_if_le 25 (dk dtk_X11_wasTried 10 rfl) (by decide) (fun c9 => ?_) (fun c9 => ?_)
    · have h := h.1 c9
      refine T_iconst (v := 0) (dk dtk_X11_wasTried 13 rfl) (by decide +kernel) ?_
      exact KT_iret (dk dtk_X11_wasTried 14 rfl) rfl rfl h
    · have h := h.2 c9
      refine T_iconst (v := 1) (dk dtk_X11_wasTried 11 rfl) (by decide +kernel) ?_
      refine T_goto 26 (dk dtk_X11_wasTried 12 rfl) (by decide) ?_
      exact KT_iret (dk dtk_X11_wasTried 14 rfl) rfl rfl h
set_option maxRecDepth 100000 in
theorem dtk_X11_firstState : dck cX11_firstState [(0, .aload_n 0, 1), (1, .iload_n 1, 1), (2, .invokevirtual 309, 3), (5, .ifCond .eq 17, 3), (8, .aload_n 0, 1), (9, .getfield 59, 3), (12, .iload_n 1, 1), (13, .aaload, 1), (14, .getfield 381, 3), (17, .iload_n 2, 1), (18, .iaload, 1), (19, .goto 4, 3), (22, .iconst (-1), 1), (23, .ireturn, 1)] = true := by decide +kernel
set_option maxRecDepth 100000 in
set_option maxHeartbeats 4000000 in
theorem kg_X11_firstState_0 {G : kG} {q : kP} {d : Nat} {x : gd} {P : Option gv → gd → Prop} (hq : kV q) (l1 : Int32) (l2 : Int32)
    (h : KT G q d zk_X11_wasTried 0 [(0, vr 0), (1, vi l1)] [] x (ri (fun r2 x1 => ((r2 = (0 : Int32) → P (some (vi (-1))) x1) ∧ (¬ (r2 = (0 : Int32)) → vp_in l1 2 ∧ (∀ u5, u5 = (kf q).1 7 (l1 : Int32).toNatClampNeg → ∃ c6, u5 = some c6 ∧ kiT q c6 ∧ vp_in l2 11 ∧ P (some (vi (x1.1 (c6 + 7) (l2 : Int32).toNatClampNeg))) x1)))))) :
    KT G q (d + 1) zk_X11_firstState 0 [(0, vr 0), (1, vi l1), (2, vi l2)] [] x P := by
  refine T_aload_n 0 (dk dtk_X11_firstState 0 rfl) rfl rfl ?_
  refine T_iload_n 1 (dk dtk_X11_firstState 1 rfl) rfl rfl ?_
  refine KC_Vi [vi l1] [] rfl (dk dtk_X11_firstState 2 rfl) kcv_X11_309 rfl kk_0 rfl (kl_0 hq) (Nat.le_of_ble_eq_true rfl) (Nat.le_of_ble_eq_true rfl) (gok_i (av_c (gkr (kl_0 hq)) (av_c rfl (av_c rfl av_n))) as_n) rfl h (fun r2 x1 h => ?_)
  refine T_if_eq 22 (dk dtk_X11_firstState 3 rfl) (by decide) (fun c3 => ?_) (fun c3 => ?_)
  · have h := h.1 c3
    refine T_iconst (v := (-1)) (dk dtk_X11_firstState 12 rfl) (by decide +kernel) ?_
    exact KT_iret (dk dtk_X11_firstState 13 rfl) rfl rfl h
  · have h := h.2 c3
    refine T_aload_n 0 (dk dtk_X11_firstState 4 rfl) rfl rfl ?_
    refine T_getR 0 6 7 (dk dtk_X11_firstState 5 rfl) kfl_X11_59 kk_0 (kl_0 hq) (by decide) rfl kr_0_6 ?_
    refine T_iload_n 1 (dk dtk_X11_firstState 6 rfl) rfl rfl ?_
    obtain ⟨h4, h⟩ := h
    obtain ⟨u5, eu5⟩ : ∃ z, z = (kf q).1 7 (l1 : Int32).toNatClampNeg := ⟨_, rfl⟩
    have h := h u5 eu5
    refine T_aaldT 7 2 (dk dtk_X11_firstState 7 rfl) kk_7 (kl_7 hq) h4 ?_
    rw [← eu5]
    obtain ⟨c6, rfl, g7, h⟩ := h
    refine T_getR c6 6 (c6 + 7) (dk dtk_X11_firstState 8 rfl) kfl_X11_381 (kk_T0 g7) (kl_T0 hq g7) (by decide) rfl (kr_T_6 g7) ?_
    refine T_iload_n 2 (dk dtk_X11_firstState 9 rfl) rfl rfl ?_
    obtain ⟨h8, h⟩ := h
    refine T_iald (c6 + 7) 11 (dk dtk_X11_firstState 10 rfl) (kk_T7 g7) (kl_T7 hq g7) h8 ?_
    refine T_goto 23 (dk dtk_X11_firstState 11 rfl) (by decide) ?_
    exact KT_iret (dk dtk_X11_firstState 13 rfl) rfl rfl h
set_option maxRecDepth 100000 in
theorem dtk_X11_needCompiled : dck cX11_needCompiled [(0, .aload_n 0, 1), (1, .getfield 110, 3), (4, .ifCond .ne 14, 3), (7, .new 102, 3), (10, .dup, 1), (11, .ldc_w 384, 3), (14, .invokespecial 191, 3), (17, .athrow, 1), (18, .return_, 1)] = true := by decide +kernel
set_option maxRecDepth 100000 in
set_option maxHeartbeats 4000000 in
theorem kg_X11_needCompiled_0 {G : kG} {q : kP} {d : Nat} {x : gd} {P : Option gv → gd → Prop} {X : String → gd → Prop} (hq : kV q) 
    (h : ((¬ ((x.1 0 9) = (0 : Int32)) → P none x) ∧ ((x.1 0 9) = (0 : Int32) → X iSE x))) :
    KE G q (d + 6) zk_X11_needCompiled 0 [(0, vr 0)] [] x P X := by
  refine T_aload_n 0 (dk dtk_X11_needCompiled 0 rfl) rfl rfl ?_
  refine T_getI 0 9 (dk dtk_X11_needCompiled 1 rfl) kfl_X11_110 kk_0 (kl_0 hq) (by decide) rfl ?_
  refine T_if_ne 18 (dk dtk_X11_needCompiled 2 rfl) (by decide) (fun c1 => ?_) (fun c1 => ?_)
  · have h := h.1 c1
    exact KE_vret (dk dtk_X11_needCompiled 8 rfl) rfl h
  · have h := h.2 c1
    exact T_thrW kth_X11_102_384 (dk dtk_X11_needCompiled 3 rfl) (dk dtk_X11_needCompiled 4 rfl) (dk dtk_X11_needCompiled 5 rfl) (dk dtk_X11_needCompiled 6 rfl) (dk dtk_X11_needCompiled 7 rfl) (by intro z hz; cases hz) (by omega) (Nat.le_of_ble_eq_true rfl) (Or.inr ⟨rfl, _, rfl, h⟩)
set_option maxRecDepth 100000 in
theorem dtk_X11_needRun : dck cX11_needRun [(0, .aload_n 0, 1), (1, .getfield 358, 3), (4, .ifCond .ne 14, 3), (7, .new 102, 3), (10, .dup, 1), (11, .ldc_w 386, 3), (14, .invokespecial 191, 3), (17, .athrow, 1), (18, .return_, 1)] = true := by decide +kernel
set_option maxRecDepth 100000 in
set_option maxHeartbeats 4000000 in
theorem kg_X11_needRun_0 {G : kG} {q : kP} {d : Nat} {x : gd} {P : Option gv → gd → Prop} {X : String → gd → Prop} (hq : kV q) 
    (h : ((¬ ((x.1 0 10) = (0 : Int32)) → P none x) ∧ ((x.1 0 10) = (0 : Int32) → X iSE x))) :
    KE G q (d + 6) zk_X11_needRun 0 [(0, vr 0)] [] x P X := by
  refine T_aload_n 0 (dk dtk_X11_needRun 0 rfl) rfl rfl ?_
  refine T_getI 0 10 (dk dtk_X11_needRun 1 rfl) kfl_X11_358 kk_0 (kl_0 hq) (by decide) rfl ?_
  refine T_if_ne 18 (dk dtk_X11_needRun 2 rfl) (by decide) (fun c1 => ?_) (fun c1 => ?_)
  · have h := h.1 c1
    exact KE_vret (dk dtk_X11_needRun 8 rfl) rfl h
  · have h := h.2 c1
    exact T_thrW kth_X11_102_386 (dk dtk_X11_needRun 3 rfl) (dk dtk_X11_needRun 4 rfl) (dk dtk_X11_needRun 5 rfl) (dk dtk_X11_needRun 6 rfl) (dk dtk_X11_needRun 7 rfl) (by intro z hz; cases hz) (by omega) (Nat.le_of_ble_eq_true rfl) (Or.inr ⟨rfl, _, rfl, h⟩)
set_option maxRecDepth 100000 in
theorem dtk_X11_needWay : dck cX11_needWay [(0, .iload_n 0, 1), (1, .ifCond .lt 8, 3), (4, .iload_n 0, 1), (5, .iconst 2, 1), (6, .if_icmp .lt 14, 3), (9, .new 70, 3), (12, .dup, 1), (13, .ldc_w 388, 3), (16, .invokespecial 74, 3), (19, .athrow, 1), (20, .return_, 1)] = true := by decide +kernel
set_option maxRecDepth 100000 in
set_option maxHeartbeats 4000000 in
theorem kg_X11_needWay_0 {G : kG} {q : kP} {d : Nat} {x : gd} {P : Option gv → gd → Prop} {X : String → gd → Prop} (hq : kV q) (l0 : Int32)
    (h : ((l0 < (0 : Int32) → KE G q (d + 6) zk_X11_needWay 9 [] [] x P X) ∧ (¬ (l0 < (0 : Int32)) → ((l0 < (2 : Int32) → P none x) ∧ (¬ (l0 < (2 : Int32)) → KE G q (d + 6) zk_X11_needWay 9 [] [] x P X))))) :
    KE G q (d + 6) zk_X11_needWay 0 [(0, vi l0)] [] x P X := by
  refine T_iload_n 0 (dk dtk_X11_needWay 0 rfl) rfl rfl ?_
  refine T_if_lt 9 (dk dtk_X11_needWay 1 rfl) (by decide) (fun c1 => ?_) (fun c1 => ?_)
  · have h := h.1 c1
    exact T_sub [] rfl h
  · have h := h.2 c1
    refine T_iload_n 0 (dk dtk_X11_needWay 2 rfl) rfl rfl ?_
    refine T_iconst (v := 2) (dk dtk_X11_needWay 3 rfl) (by decide +kernel) ?_
    refine T_icmp_lt 20 (dk dtk_X11_needWay 4 rfl) (by decide) (fun c2 => ?_) (fun c2 => ?_)
    · have h := h.1 c2
      exact KE_vret (dk dtk_X11_needWay 10 rfl) rfl h
    · have h := h.2 c2
      exact T_sub [] rfl h
set_option maxRecDepth 100000 in
set_option maxHeartbeats 4000000 in
theorem kg_X11_needWay_9 {G : kG} {q : kP} {d : Nat} {x : gd} {P : Option gv → gd → Prop} {X : String → gd → Prop} (hq : kV q) 
    (h : X iAE x) :
    KE G q (d + 6) zk_X11_needWay 9 [] [] x P X := by
  exact T_thrW kth_X11_70_388 (dk dtk_X11_needWay 5 rfl) (dk dtk_X11_needWay 6 rfl) (dk dtk_X11_needWay 7 rfl) (dk dtk_X11_needWay 8 rfl) (dk dtk_X11_needWay 9 rfl) (by intro z hz; cases hz) (by omega) (Nat.le_of_ble_eq_true rfl) (Or.inr ⟨rfl, _, rfl, h⟩)
set_option maxRecDepth 100000 in
theorem dtk_X11_needFinding : dck cX11_needFinding [(0, .iload_n 0, 1), (1, .ifCond .lt 9, 3), (4, .iload_n 0, 1), (5, .bipush 11, 2), (7, .if_icmp .lt 14, 3), (10, .new 70, 3), (13, .dup, 1), (14, .ldc_w 340, 3), (17, .invokespecial 74, 3), (20, .athrow, 1), (21, .return_, 1)] = true := by decide +kernel
set_option maxRecDepth 100000 in
set_option maxHeartbeats 4000000 in
theorem kg_X11_needFinding_0 {G : kG} {q : kP} {d : Nat} {x : gd} {P : Option gv → gd → Prop} {X : String → gd → Prop} (hq : kV q) (l0 : Int32)
    (h : ((l0 < (0 : Int32) → KE G q (d + 6) zk_X11_needFinding 10 [] [] x P X) ∧ (¬ (l0 < (0 : Int32)) → ((l0 < (11 : Int32) → P none x) ∧ (¬ (l0 < (11 : Int32)) → KE G q (d + 6) zk_X11_needFinding 10 [] [] x P X))))) :
    KE G q (d + 6) zk_X11_needFinding 0 [(0, vi l0)] [] x P X := by
  refine T_iload_n 0 (dk dtk_X11_needFinding 0 rfl) rfl rfl ?_
  refine T_if_lt 10 (dk dtk_X11_needFinding 1 rfl) (by decide) (fun c1 => ?_) (fun c1 => ?_)
  · have h := h.1 c1
    exact T_sub [] rfl h
  · have h := h.2 c1
    refine T_iload_n 0 (dk dtk_X11_needFinding 2 rfl) rfl rfl ?_
    refine T_bipush (v := 11) (dk dtk_X11_needFinding 3 rfl) (by decide +kernel) ?_
    refine T_icmp_lt 21 (dk dtk_X11_needFinding 4 rfl) (by decide) (fun c2 => ?_) (fun c2 => ?_)
    · have h := h.1 c2
      exact KE_vret (dk dtk_X11_needFinding 10 rfl) rfl h
    · have h := h.2 c2
      exact T_sub [] rfl h
set_option maxRecDepth 100000 in
set_option maxHeartbeats 4000000 in
theorem kg_X11_needFinding_10 {G : kG} {q : kP} {d : Nat} {x : gd} {P : Option gv → gd → Prop} {X : String → gd → Prop} (hq : kV q) 
    (h : X iAE x) :
    KE G q (d + 6) zk_X11_needFinding 10 [] [] x P X := by
  exact T_thrW kth_X11_70_340 (dk dtk_X11_needFinding 5 rfl) (dk dtk_X11_needFinding 6 rfl) (dk dtk_X11_needFinding 7 rfl) (dk dtk_X11_needFinding 8 rfl) (dk dtk_X11_needFinding 9 rfl) (by intro z hz; cases hz) (by omega) (Nat.le_of_ble_eq_true rfl) (Or.inr ⟨rfl, _, rfl, h⟩)
set_option maxRecDepth 100000 in
theorem dtk_X11_needIndex : dck cX11_needIndex [(0, .iload_n 0, 1), (1, .ifCond .lt 8, 3), (4, .iload_n 0, 1), (5, .iload_n 1, 1), (6, .if_icmp .lt 14, 3), (9, .new 127, 3), (12, .dup, 1), (13, .ldc_w 390, 3), (16, .invokespecial 131, 3), (19, .athrow, 1), (20, .return_, 1)] = true := by decide +kernel
set_option maxRecDepth 100000 in
set_option maxHeartbeats 4000000 in
theorem kg_X11_needIndex_0 {G : kG} {q : kP} {d : Nat} {x : gd} {P : Option gv → gd → Prop} {X : String → gd → Prop} (hq : kV q) (l0 : Int32) (l1 : Int32)
    (h : ((l0 < (0 : Int32) → KE G q (d + 6) zk_X11_needIndex 9 [] [] x P X) ∧ (¬ (l0 < (0 : Int32)) → ((l0 < l1 → P none x) ∧ (¬ (l0 < l1) → KE G q (d + 6) zk_X11_needIndex 9 [] [] x P X))))) :
    KE G q (d + 6) zk_X11_needIndex 0 [(0, vi l0), (1, vi l1)] [] x P X := by
  refine T_iload_n 0 (dk dtk_X11_needIndex 0 rfl) rfl rfl ?_
  refine T_if_lt 9 (dk dtk_X11_needIndex 1 rfl) (by decide) (fun c1 => ?_) (fun c1 => ?_)
  · have h := h.1 c1
    exact T_sub [] rfl h
  · have h := h.2 c1
    refine T_iload_n 0 (dk dtk_X11_needIndex 2 rfl) rfl rfl ?_
    refine T_iload_n 1 (dk dtk_X11_needIndex 3 rfl) rfl rfl ?_
    refine T_icmp_lt 20 (dk dtk_X11_needIndex 4 rfl) (by decide) (fun c2 => ?_) (fun c2 => ?_)
    · have h := h.1 c2
      exact KE_vret (dk dtk_X11_needIndex 10 rfl) rfl h
    · have h := h.2 c2
      exact T_sub [] rfl h
set_option maxRecDepth 100000 in
set_option maxHeartbeats 4000000 in
theorem kg_X11_needIndex_9 {G : kG} {q : kP} {d : Nat} {x : gd} {P : Option gv → gd → Prop} {X : String → gd → Prop} (hq : kV q) 
    (h : X iOE x) :
    KE G q (d + 6) zk_X11_needIndex 9 [] [] x P X := by
  exact T_thrW kth_X11_127_390 (dk dtk_X11_needIndex 5 rfl) (dk dtk_X11_needIndex 6 rfl) (dk dtk_X11_needIndex 7 rfl) (dk dtk_X11_needIndex 8 rfl) (dk dtk_X11_needIndex 9 rfl) (by intro z hz; cases hz) (by omega) (Nat.le_of_ble_eq_true rfl) (Or.inr ⟨rfl, _, rfl, h⟩)
set_option maxRecDepth 100000 in
theorem dtk_X11_needWhat : dck cX11_needWhat [(0, .iload_n 0, 1), (1, .ifCond .lt 8, 3), (4, .iload_n 0, 1), (5, .iload_n 1, 1), (6, .if_icmp .lt 13, 3), (9, .new 127, 3), (12, .dup, 1), (13, .ldc 129, 2), (15, .invokespecial 131, 3), (18, .athrow, 1), (19, .return_, 1)] = true := by decide +kernel
set_option maxRecDepth 100000 in
set_option maxHeartbeats 4000000 in
theorem kg_X11_needWhat_0 {G : kG} {q : kP} {d : Nat} {x : gd} {P : Option gv → gd → Prop} {X : String → gd → Prop} (hq : kV q) (l0 : Int32) (l1 : Int32)
    (h : ((l0 < (0 : Int32) → KE G q (d + 6) zk_X11_needWhat 9 [] [] x P X) ∧ (¬ (l0 < (0 : Int32)) → ((l0 < l1 → P none x) ∧ (¬ (l0 < l1) → KE G q (d + 6) zk_X11_needWhat 9 [] [] x P X))))) :
    KE G q (d + 6) zk_X11_needWhat 0 [(0, vi l0), (1, vi l1)] [] x P X := by
  refine T_iload_n 0 (dk dtk_X11_needWhat 0 rfl) rfl rfl ?_
  refine T_if_lt 9 (dk dtk_X11_needWhat 1 rfl) (by decide) (fun c1 => ?_) (fun c1 => ?_)
  · have h := h.1 c1
    exact T_sub [] rfl h
  · have h := h.2 c1
    refine T_iload_n 0 (dk dtk_X11_needWhat 2 rfl) rfl rfl ?_
    refine T_iload_n 1 (dk dtk_X11_needWhat 3 rfl) rfl rfl ?_
    refine T_icmp_lt 19 (dk dtk_X11_needWhat 4 rfl) (by decide) (fun c2 => ?_) (fun c2 => ?_)
    · have h := h.1 c2
      exact KE_vret (dk dtk_X11_needWhat 10 rfl) rfl h
    · have h := h.2 c2
      exact T_sub [] rfl h
set_option maxRecDepth 100000 in
set_option maxHeartbeats 4000000 in
theorem kg_X11_needWhat_9 {G : kG} {q : kP} {d : Nat} {x : gd} {P : Option gv → gd → Prop} {X : String → gd → Prop} (hq : kV q) 
    (h : X iOE x) :
    KE G q (d + 6) zk_X11_needWhat 9 [] [] x P X := by
  exact T_thr kth_X11_127_129 (dk dtk_X11_needWhat 5 rfl) (dk dtk_X11_needWhat 6 rfl) (dk dtk_X11_needWhat 7 rfl) (dk dtk_X11_needWhat 8 rfl) (dk dtk_X11_needWhat 9 rfl) (by intro z hz; cases hz) (by omega) (Nat.le_of_ble_eq_true rfl) (Or.inr ⟨rfl, _, rfl, h⟩)
end
section
/-! rows that make, fused; what was made stays in order -/
theorem gokv_le {L L' : List Nat} (h : ∀ c ∈ L, c ∈ L') {v : gv} (hv : gokv L v = true) : gokv L' v = true := by
  rcases v with a | a | a
  · rfl
  · rfl
  · cases a with
    | none => rfl
    | some c =>
      have hv : (L.elem c || decide (900 ≤ c ∧ c < 905)) = true := hv
      show (L'.elem c || decide (900 ≤ c ∧ c < 905)) = true
      rcases Bool.or_eq_true _ _ ▸ hv with h1 | h1
      · rw [List.elem_iff.mpr (h c (List.elem_iff.mp h1)), Bool.true_or]
      · rw [h1, Bool.or_true]
theorem gok_le {L L' : List Nat} (h : ∀ c ∈ L, c ∈ L') {lv : List (Nat × gv)} {st : List gv} (hk : gok L lv st = true) : gok L' lv st = true := by
  have h1 := (Bool.and_eq_true _ _ ▸ hk).1
  have h2 := (Bool.and_eq_true _ _ ▸ hk).2
  refine gok_i (List.all_eq_true.mpr fun v hv => gokv_le h (List.all_eq_true.mp h1 v hv)) (List.all_eq_true.mpr fun v hv => gokv_le h (List.all_eq_true.mp h2 v hv))
theorem gok_l {L : List Nat} {lv : List (Nat × gv)} {st : List gv} (hk : gok L lv st = true) : lv.all (fun q => gokv L q.2) = true := (Bool.and_eq_true _ _ ▸ hk).1
theorem gok_s {L : List Nat} {lv : List (Nat × gv)} {st : List gv} (hk : gok L lv st = true) : st.all (gokv L) = true := (Bool.and_eq_true _ _ ▸ hk).2
theorem kmd_le {q q' : kP} {c : Nat} (h : kle q q') (hm : kmd q c) : kmd q' c := by
  rcases hm with g | ⟨e, g⟩ | ⟨e, g⟩ | ⟨e, g⟩ | ⟨e, g⟩ | ⟨k, hk, g⟩ | ⟨k, hk, g⟩ | ⟨k, hk, g⟩
  · exact Or.inl g
  · exact Or.inr (Or.inl ⟨h.2.1.1 e, g⟩)
  · exact Or.inr (Or.inr (Or.inl ⟨h.2.1.2.1 e, g⟩))
  · exact Or.inr (Or.inr (Or.inr (Or.inl ⟨h.2.1.2.2.1 e, g⟩)))
  · exact Or.inr (Or.inr (Or.inr (Or.inr (Or.inl ⟨h.2.1.2.2.2 e, g⟩))))
  · exact Or.inr (Or.inr (Or.inr (Or.inr (Or.inr (Or.inl ⟨k, Nat.lt_of_lt_of_le hk h.2.2.1.1, g⟩)))))
  · exact Or.inr (Or.inr (Or.inr (Or.inr (Or.inr (Or.inr (Or.inl ⟨k, Nat.lt_of_lt_of_le hk h.2.2.1.2.1, g⟩))))))
  · exact Or.inr (Or.inr (Or.inr (Or.inr (Or.inr (Or.inr (Or.inr ⟨k, Nat.lt_of_lt_of_le hk h.2.2.1.2.2, g⟩))))))
/-! each is more than before -/
theorem kKn_le (q : kP) : kle q (kKn q) := ⟨fun c h => List.mem_append_left _ h, ⟨id, id, id, id⟩, ⟨Nat.le_succ _, Nat.le_refl _, Nat.le_refl _⟩,
  by show q.ce + 1 + (q.kn + q.o0 + q.o1 + (cond q.hi 30 0) + (cond q.ex 30 0) + (cond q.t0 30 0) + cond q.t1 30 0) ≤ q.ce + (q.kn + 1 + q.o0 + q.o1 + (cond q.hi 30 0) + (cond q.ex 30 0) + (cond q.t0 30 0) + cond q.t1 30 0); omega,
  by show q.sl + 228 + (228 * q.kn + 24 * q.o0 + 24 * q.o1 + (cond q.hi 400 0) + (cond q.ex 20000 0) + (cond q.t0 20000 0) + cond q.t1 20000 0) ≤ q.sl + (228 * (q.kn + 1) + 24 * q.o0 + 24 * q.o1 + (cond q.hi 400 0) + (cond q.ex 20000 0) + (cond q.t0 20000 0) + cond q.t1 20000 0); omega⟩
theorem kO0_le (q : kP) : kle q (kO0 q) := ⟨fun c h => List.mem_append_left _ h, ⟨id, id, id, id⟩, ⟨Nat.le_refl _, Nat.le_succ _, Nat.le_refl _⟩,
  by show q.ce + 1 + (q.kn + q.o0 + q.o1 + (cond q.hi 30 0) + (cond q.ex 30 0) + (cond q.t0 30 0) + cond q.t1 30 0) ≤ q.ce + (q.kn + (q.o0 + 1) + q.o1 + (cond q.hi 30 0) + (cond q.ex 30 0) + (cond q.t0 30 0) + cond q.t1 30 0); omega,
  by show q.sl + 24 + (228 * q.kn + 24 * q.o0 + 24 * q.o1 + (cond q.hi 400 0) + (cond q.ex 20000 0) + (cond q.t0 20000 0) + cond q.t1 20000 0) ≤ q.sl + (228 * q.kn + 24 * (q.o0 + 1) + 24 * q.o1 + (cond q.hi 400 0) + (cond q.ex 20000 0) + (cond q.t0 20000 0) + cond q.t1 20000 0); omega⟩
theorem kO1_le (q : kP) : kle q (kO1 q) := ⟨fun c h => List.mem_append_left _ h, ⟨id, id, id, id⟩, ⟨Nat.le_refl _, Nat.le_refl _, Nat.le_succ _⟩,
  by show q.ce + 1 + (q.kn + q.o0 + q.o1 + (cond q.hi 30 0) + (cond q.ex 30 0) + (cond q.t0 30 0) + cond q.t1 30 0) ≤ q.ce + (q.kn + q.o0 + (q.o1 + 1) + (cond q.hi 30 0) + (cond q.ex 30 0) + (cond q.t0 30 0) + cond q.t1 30 0); omega,
  by show q.sl + 24 + (228 * q.kn + 24 * q.o0 + 24 * q.o1 + (cond q.hi 400 0) + (cond q.ex 20000 0) + (cond q.t0 20000 0) + cond q.t1 20000 0) ≤ q.sl + (228 * q.kn + 24 * q.o0 + 24 * (q.o1 + 1) + (cond q.hi 400 0) + (cond q.ex 20000 0) + (cond q.t0 20000 0) + cond q.t1 20000 0); omega⟩
theorem kEt_le (q : kP) (o : Nat) : kle q (kEt q o) := kle_rf q
theorem kHi_le {q : kP} (h : q.hi = false) : kle q (kHi q) := ⟨fun c h => List.mem_append_left _ h, ⟨fun _ => rfl, id, id, id⟩, ⟨Nat.le_refl _, Nat.le_refl _, Nat.le_refl _⟩,
  by unfold wC; rw [h]; show q.ce + 22 + (q.kn + q.o0 + q.o1 + 0 + (cond q.ex 30 0) + (cond q.t0 30 0) + cond q.t1 30 0) ≤ q.ce + (q.kn + q.o0 + q.o1 + 30 + (cond q.ex 30 0) + (cond q.t0 30 0) + cond q.t1 30 0); omega,
  by unfold wS; rw [h]; show q.sl + 286 + (228 * q.kn + 24 * q.o0 + 24 * q.o1 + 0 + (cond q.ex 20000 0) + (cond q.t0 20000 0) + cond q.t1 20000 0) ≤ q.sl + (228 * q.kn + 24 * q.o0 + 24 * q.o1 + 400 + (cond q.ex 20000 0) + (cond q.t0 20000 0) + cond q.t1 20000 0); omega⟩
theorem kEx_le {q : kP} (h : q.ex = false) : kle q (kEx q) := ⟨fun c h => List.mem_append_left _ h, ⟨id, fun _ => rfl, id, id⟩, ⟨Nat.le_refl _, Nat.le_refl _, Nat.le_refl _⟩,
  by unfold wC; rw [h]; show q.ce + 12 + (q.kn + q.o0 + q.o1 + (cond q.hi 30 0) + 0 + (cond q.t0 30 0) + cond q.t1 30 0) ≤ q.ce + (q.kn + q.o0 + q.o1 + (cond q.hi 30 0) + 30 + (cond q.t0 30 0) + cond q.t1 30 0); omega,
  by unfold wS; rw [h]; show q.sl + 14716 + (228 * q.kn + 24 * q.o0 + 24 * q.o1 + (cond q.hi 400 0) + 0 + (cond q.t0 20000 0) + cond q.t1 20000 0) ≤ q.sl + (228 * q.kn + 24 * q.o0 + 24 * q.o1 + (cond q.hi 400 0) + 20000 + (cond q.t0 20000 0) + cond q.t1 20000 0); omega⟩
theorem kT0_le {q : kP} (h : q.t0 = false) : kle q (kT0 q) := ⟨fun c h => List.mem_append_left _ h, ⟨id, id, fun _ => rfl, id⟩, ⟨Nat.le_refl _, Nat.le_refl _, Nat.le_refl _⟩,
  by unfold wC; rw [h]; show q.ce + 9 + (q.kn + q.o0 + q.o1 + (cond q.hi 30 0) + (cond q.ex 30 0) + 0 + cond q.t1 30 0) ≤ q.ce + (q.kn + q.o0 + q.o1 + (cond q.hi 30 0) + (cond q.ex 30 0) + 30 + cond q.t1 30 0); omega,
  by unfold wS; rw [h]; show q.sl + 15055 + (228 * q.kn + 24 * q.o0 + 24 * q.o1 + (cond q.hi 400 0) + (cond q.ex 20000 0) + 0 + cond q.t1 20000 0) ≤ q.sl + (228 * q.kn + 24 * q.o0 + 24 * q.o1 + (cond q.hi 400 0) + (cond q.ex 20000 0) + 20000 + cond q.t1 20000 0); omega⟩
theorem kT1_le {q : kP} (h : q.t1 = false) : kle q (kT1 q) := ⟨fun c h => List.mem_append_left _ h, ⟨id, id, id, fun _ => rfl⟩, ⟨Nat.le_refl _, Nat.le_refl _, Nat.le_refl _⟩,
  by unfold wC; rw [h]; show q.ce + 9 + (q.kn + q.o0 + q.o1 + (cond q.hi 30 0) + (cond q.ex 30 0) + (cond q.t0 30 0) + 0) ≤ q.ce + (q.kn + q.o0 + q.o1 + (cond q.hi 30 0) + (cond q.ex 30 0) + (cond q.t0 30 0) + 30); omega,
  by unfold wS; rw [h]; show q.sl + 15055 + (228 * q.kn + 24 * q.o0 + 24 * q.o1 + (cond q.hi 400 0) + (cond q.ex 20000 0) + (cond q.t0 20000 0) + 0) ≤ q.sl + (228 * q.kn + 24 * q.o0 + 24 * q.o1 + (cond q.hi 400 0) + (cond q.ex 20000 0) + (cond q.t0 20000 0) + 20000); omega⟩
/-! and in order -/
theorem kKn_U {q : kP} (hu : kU q) (he : q.ex = true) (hk : q.kn < 3000) : kU (kKn q) := by
  obtain ⟨⟨v1, v2, v3, v4, v5, v6, v7, v8⟩, hm, ⟨z1, z2, z3⟩, ht, b1, b2, b3⟩ := hu
  have L : ∀ {c}, c ∈ q.L → c ∈ (kKn q).L := fun h => List.mem_append_left _ h
  refine ⟨⟨fun c h => L (v1 c h), fun e c h => L (v2 e c h), fun e c h => L (v3 e c h), fun e c h => L (v4 e c h), fun e c h => L (v5 e c h), fun k hk => ?_, fun k hk => L (v7 k hk), fun k hk => L (v8 k hk)⟩, fun c hc => ?_, ⟨fun e => ?_, z2, z3⟩, fun o e => kle_T (kKn_le q) (ht o e), ?_, b2, b3⟩
  · have hk : k < q.kn + 1 := hk
    by_cases e : k < q.kn
    · exact L (v6 k e)
    · rw [show k = q.kn by omega]; exact List.mem_append_right _ (List.mem_singleton.mpr rfl)
  · rcases List.mem_append.mp hc with g | g
    · exact kmd_le (kKn_le q) (hm c g)
    · exact Or.inr (Or.inr (Or.inr (Or.inr (Or.inr (Or.inl ⟨q.kn, Nat.lt_succ_self _, List.mem_singleton.mp g⟩)))))
  · have e : q.ex = false := e
    rw [he] at e; cases e
  · show q.kn + 1 ≤ 3000
    omega
theorem kO0_U {q : kP} (hu : kU q) (he : q.t0 = true) (hk : q.o0 < 3000) : kU (kO0 q) := by
  obtain ⟨⟨v1, v2, v3, v4, v5, v6, v7, v8⟩, hm, ⟨z1, z2, z3⟩, ht, b1, b2, b3⟩ := hu
  have L : ∀ {c}, c ∈ q.L → c ∈ (kO0 q).L := fun h => List.mem_append_left _ h
  refine ⟨⟨fun c h => L (v1 c h), fun e c h => L (v2 e c h), fun e c h => L (v3 e c h), fun e c h => L (v4 e c h), fun e c h => L (v5 e c h), fun k hk => L (v6 k hk), fun k hk => ?_, fun k hk => L (v8 k hk)⟩, fun c hc => ?_, ⟨z1, fun e => ?_, z3⟩, fun o e => kle_T (kO0_le q) (ht o e), b1, ?_, b3⟩
  · have hk : k < q.o0 + 1 := hk
    by_cases e : k < q.o0
    · exact L (v7 k e)
    · rw [show k = q.o0 by omega]; exact List.mem_append_right _ (List.mem_singleton.mpr rfl)
  · rcases List.mem_append.mp hc with g | g
    · exact kmd_le (kO0_le q) (hm c g)
    · exact Or.inr (Or.inr (Or.inr (Or.inr (Or.inr (Or.inr (Or.inl ⟨q.o0, Nat.lt_succ_self _, List.mem_singleton.mp g⟩))))))
  · have e : q.t0 = false := e
    rw [he] at e; cases e
  · show q.o0 + 1 ≤ 3000
    omega
theorem kO1_U {q : kP} (hu : kU q) (he : q.t1 = true) (hk : q.o1 < 3000) : kU (kO1 q) := by
  obtain ⟨⟨v1, v2, v3, v4, v5, v6, v7, v8⟩, hm, ⟨z1, z2, z3⟩, ht, b1, b2, b3⟩ := hu
  have L : ∀ {c}, c ∈ q.L → c ∈ (kO1 q).L := fun h => List.mem_append_left _ h
  refine ⟨⟨fun c h => L (v1 c h), fun e c h => L (v2 e c h), fun e c h => L (v3 e c h), fun e c h => L (v4 e c h), fun e c h => L (v5 e c h), fun k hk => L (v6 k hk), fun k hk => L (v7 k hk), fun k hk => ?_⟩, fun c hc => ?_, ⟨z1, z2, fun e => ?_⟩, fun o e => kle_T (kO1_le q) (ht o e), b1, b2, ?_⟩
  · have hk : k < q.o1 + 1 := hk
    by_cases e : k < q.o1
    · exact L (v8 k e)
    · rw [show k = q.o1 by omega]; exact List.mem_append_right _ (List.mem_singleton.mpr rfl)
  · rcases List.mem_append.mp hc with g | g
    · exact kmd_le (kO1_le q) (hm c g)
    · exact Or.inr (Or.inr (Or.inr (Or.inr (Or.inr (Or.inr (Or.inr ⟨q.o1, Nat.lt_succ_self _, List.mem_singleton.mp g⟩))))))
  · have e : q.t1 = false := e
    rw [he] at e; cases e
  · show q.o1 + 1 ≤ 3000
    omega
theorem kEt_U {q : kP} {o : Nat} (hu : kU q) (he : q.ex = true) (ho : kiT q o) : kU (kEt q o) := by
  obtain ⟨hv, hm, ⟨z1, z2, z3⟩, ht, hb⟩ := hu
  refine ⟨hv, hm, ⟨fun e => ?_, z2, z3⟩, fun o' e => ?_, hb⟩
  · have e : q.ex = false := e
    rw [he] at e; cases e
  · have e : some o = some o' := e
    cases e; exact ho
theorem kHi_U {q : kP} (hu : kU q) (h0 : q.hi = false) : kU (kHi q) := by
  obtain ⟨⟨v1, v2, v3, v4, v5, v6, v7, v8⟩, hm, hz, ht, hb⟩ := hu
  have L : ∀ {c}, c ∈ q.L → c ∈ (kHi q).L := fun h => List.mem_append_left _ h
  refine ⟨⟨fun c h => L (v1 c h), fun e c h => List.mem_append_right _ ((by decide +kernel : ∀ c ∈ klH, c ∈ 180 :: news_180) c h), fun e c h => L (v3 e c h), fun e c h => L (v4 e c h), fun e c h => L (v5 e c h), fun k hk => L (v6 k hk), fun k hk => L (v7 k hk), fun k hk => L (v8 k hk)⟩, fun c hc => ?_, hz, fun o e => kle_T (kHi_le h0) (ht o e), hb⟩
  rcases List.mem_append.mp hc with g | g
  · exact kmd_le (kHi_le h0) (hm c g)
  · exact Or.inr (Or.inl ⟨rfl, (by decide +kernel : ∀ c ∈ 180 :: news_180, c ∈ klH) c g⟩)
theorem kEx_U {q : kP} (hu : kU q) (h0 : q.ex = false) : kU (kEx q) := by
  obtain ⟨⟨v1, v2, v3, v4, v5, v6, v7, v8⟩, hm, hz, ht, hb⟩ := hu
  have L : ∀ {c}, c ∈ q.L → c ∈ (kEx q).L := fun h => List.mem_append_left _ h
  refine ⟨⟨fun c h => L (v1 c h), fun e c h => L (v2 e c h), fun e c h => List.mem_append_right _ ((by decide +kernel : ∀ c ∈ klE, c ∈ 200 :: news_200) c h), fun e c h => L (v4 e c h), fun e c h => L (v5 e c h), fun k hk => L (v6 k hk), fun k hk => L (v7 k hk), fun k hk => L (v8 k hk)⟩, fun c hc => ?_, ⟨fun _ => hz.1 h0, hz.2⟩, fun o e => kle_T (kEx_le h0) (ht o e), hb⟩
  rcases List.mem_append.mp hc with g | g
  · exact kmd_le (kEx_le h0) (hm c g)
  · exact Or.inr (Or.inr (Or.inl ⟨rfl, (by decide +kernel : ∀ c ∈ 200 :: news_200, c ∈ klE) c g⟩))
theorem kT0_U {q : kP} (hu : kU q) (h0 : q.t0 = false) : kU (kT0 q) := by
  obtain ⟨⟨v1, v2, v3, v4, v5, v6, v7, v8⟩, hm, hz, ht, hb⟩ := hu
  have L : ∀ {c}, c ∈ q.L → c ∈ (kT0 q).L := fun h => List.mem_append_left _ h
  refine ⟨⟨fun c h => L (v1 c h), fun e c h => L (v2 e c h), fun e c h => L (v3 e c h), fun e c h => List.mem_append_right _ ((by decide +kernel : ∀ c ∈ klA, c ∈ 260 :: news_260) c h), fun e c h => L (v5 e c h), fun k hk => L (v6 k hk), fun k hk => L (v7 k hk), fun k hk => L (v8 k hk)⟩, fun c hc => ?_, ⟨hz.1, fun _ => hz.2.1 h0, hz.2.2⟩, fun o e => kle_T (kT0_le h0) (ht o e), hb⟩
  rcases List.mem_append.mp hc with g | g
  · exact kmd_le (kT0_le h0) (hm c g)
  · exact Or.inr (Or.inr (Or.inr (Or.inl ⟨rfl, (by decide +kernel : ∀ c ∈ 260 :: news_260, c ∈ klA) c g⟩)))
theorem kT1_U {q : kP} (hu : kU q) (h0 : q.t1 = false) : kU (kT1 q) := by
  obtain ⟨⟨v1, v2, v3, v4, v5, v6, v7, v8⟩, hm, hz, ht, hb⟩ := hu
  have L : ∀ {c}, c ∈ q.L → c ∈ (kT1 q).L := fun h => List.mem_append_left _ h
  refine ⟨⟨fun c h => L (v1 c h), fun e c h => L (v2 e c h), fun e c h => L (v3 e c h), fun e c h => L (v4 e c h), fun e c h => List.mem_append_right _ ((by decide +kernel : ∀ c ∈ klB, c ∈ 280 :: news_280) c h), fun k hk => L (v6 k hk), fun k hk => L (v7 k hk), fun k hk => L (v8 k hk)⟩, fun c hc => ?_, ⟨hz.1, hz.2.1, fun _ => hz.2.2 h0⟩, fun o e => kle_T (kT1_le h0) (ht o e), hb⟩
  rcases List.mem_append.mp hc with g | g
  · exact kmd_le (kT1_le h0) (hm c g)
  · exact Or.inr (Or.inr (Or.inr (Or.inr (Or.inl ⟨rfl, (by decide +kernel : ∀ c ∈ 280 :: news_280, c ∈ klB) c g⟩))))
/-! what is not made -/
theorem kmd_no {q : kP} {c : Nat} (h1 : c ∉ kl0) (h2 : q.hi = true → c ∉ klH) (h3 : q.ex = true → c ∉ klE) (h4 : q.t0 = true → c ∉ klA) (h5 : q.t1 = true → c ∉ klB) (h6 : c < 1000 + 0 ∨ 1000 + q.kn ≤ c) (h7 : c < 4000 ∨ 4000 + q.o0 ≤ c) (h8 : c < 7000 ∨ 7000 + q.o1 ≤ c) : ¬ kmd q c := by
  rintro (g | ⟨e, g⟩ | ⟨e, g⟩ | ⟨e, g⟩ | ⟨e, g⟩ | ⟨k, hk, g⟩ | ⟨k, hk, g⟩ | ⟨k, hk, g⟩)
  · exact h1 g
  · exact h2 e g
  · exact h3 e g
  · exact h4 e g
  · exact h5 e g
  · omega
  · omega
  · omega
theorem kl_far {c : Nat} (h : 1000 ≤ c) : c ∉ kl0 ∧ c ∉ klH ∧ c ∉ klE ∧ c ∉ klA ∧ c ∉ klB := by
  have b : ∀ l : List Nat, l.all (fun k => decide (k < 1000)) = true → c ∉ l := fun l hl hc => by
    have := of_decide_eq_true (List.all_eq_true.mp hl c hc)
    omega
  exact ⟨b _ (by decide +kernel), b _ (by decide +kernel), b _ (by decide +kernel), b _ (by decide +kernel), b _ (by decide +kernel)⟩
theorem aI_W : Cond.arrayClass .int ∈ W0 := W0_in (tp_1 (List.mem_of_getElem? (i := 82) (by decide +kernel))) rfl
def oM (q : kP) (o : Nat) : Nat := if o = 260 then q.o0 else q.o1
def oC (q : kP) (o : Nat) : Nat := if o = 260 then 4000 + q.o0 else 7000 + q.o1
def kOr (q : kP) (o : Nat) : kP := if o = 260 then kO0 q else kO1 q
theorem kOr_le (q : kP) (o : Nat) : kle q (kOr q o) := by
  unfold kOr; split
  · exact kO0_le q
  · exact kO1_le q
theorem kOr_U {q : kP} {o : Nat} (hu : kU q) (ho : kiT q o) (hk : oM q o < 3000) : kU (kOr q o) := by
  rcases ho with ⟨rfl, h⟩ | ⟨rfl, h⟩
  · exact kO0_U hu h hk
  · exact kO1_U hu h hk
section KFU
variable {G : kG} {d : Nat} {y : gy} {pc : Nat} {lv : List (Nat × gv)} {st : List gv} {x : gd} {q : kP} {Q : gr → gd → gf → Prop}
theorem T_krow {i : Int32} (hd1 : decode y.2.1 pc = .ok (.newarray .int, 2)) (hd2 : decode y.2.1 (pc + 2) = .ok (.aastore, 1)) (hu : kU q) (he : q.ex = true) (hi : i.toNatClampNeg = q.kn) (hin : vp_in i 3000) (hok : gok (kf q).2.1 lv st = true)
    (k : T (kE G) d y (pc + 3) lv st (znew x (1000 + q.kn)) (kf (kKn q)) Q) : T (kE G) d y pc lv (vi 228 :: vi i :: vr 203 :: st) x (kf q) Q := by
  have hk : q.kn < 3000 := by
    have h0 : ¬ i < 0 := fun z => hin (Or.inl z)
    have h1 : ¬ 3000 ≤ i.toNatClampNeg := fun z => hin (Or.inr z)
    omega
  obtain ⟨n0, nH, nE, nA, nB⟩ := kl_far (c := 1000 + q.kn) (by omega)
  have fr := kU_fr hu (c := 1000 + q.kn) (kmd_no n0 (fun _ => nH) (fun _ => nE) (fun _ => nA) (fun _ => nB) (by omega) (by omega) (by omega))
  have hK : kK (1000 + q.kn) = .inr (.int, 228) := by unfold kK; rw [if_neg (by omega), if_neg (by omega), if_pos (by omega)]
  have l203 : 203 ∈ (kf q).2.1 := kl_203 hu.1 he
  refine T_newI (1000 + q.kn) hd1 rfl (Or.inl rfl) aI_W hK (by decide) (by decide) (by decide) fr.1 (by omega) fr.2 (gok_i (gok_l hok) (as_c rfl (as_c (gkr l203) (gok_s hok)))) ?_
  refine T_aastA 203 (1000 + q.kn) (n := 3000) (n9 := 228) hd2 kk_203 (List.mem_append_left _ l203) hK (List.mem_append_right _ (List.mem_singleton.mpr rfl)) hin ?_
  refine T_refs (f2 := kf (kKn q)) rfl (fun c hc j g1 g2 => ?_) k
  show kR (kKn q) c j = (if c = 203 ∧ j = i.toNatClampNeg then some (1000 + q.kn) else if c = 1000 + q.kn then none else kR q c j)
  by_cases e1 : c = 1000 + q.kn
  · subst e1
    exact absurd (g2 _ _ hK) (by decide)
  by_cases e2 : c = 203
  · subst e2
    show (if j < q.kn + 1 then some (1000 + j) else none) = (if (203 : Nat) = 203 ∧ j = i.toNatClampNeg then some (1000 + q.kn) else if (203 : Nat) = 1000 + q.kn then none else (if j < q.kn then some (1000 + j) else none))
    by_cases e3 : j = q.kn
    · rw [if_pos (show j < q.kn + 1 by omega), if_pos ⟨rfl, e3.trans hi.symm⟩, e3]
    · by_cases e4 : j < q.kn
      · rw [if_pos (show j < q.kn + 1 by omega), if_neg (fun z => e3 (z.2.trans hi)), if_neg e1, if_pos e4]
      · rw [if_neg (show ¬ j < q.kn + 1 by omega), if_neg (fun z => e3 (z.2.trans hi)), if_neg e1, if_neg e4]
  · rw [if_neg (fun z => e2 z.1), if_neg e1]
    unfold kR
    rw [if_neg e2, if_neg e2]; rfl
theorem T_orow {i : Int32} {o : Nat} (hd1 : decode y.2.1 pc = .ok (.newarray .int, 2)) (hd2 : decode y.2.1 (pc + 2) = .ok (.aastore, 1)) (hu : kU q) (ho : kiT q o) (hi : i.toNatClampNeg = oM q o) (hin : vp_in i 3000) (hok : gok (kf q).2.1 lv st = true)
    (k : T (kE G) d y (pc + 3) lv st (znew x (oC q o)) (kf (kOr q o)) Q) : T (kE G) d y pc lv (vi 24 :: vi i :: vr (o + 13) :: st) x (kf q) Q := by
  have hk : oM q o < 3000 := by
    have h1 : ¬ 3000 ≤ i.toNatClampNeg := fun z => hin (Or.inr z)
    omega
  have l13 : (o + 13) ∈ (kf q).2.1 := kl_T13 hu.1 ho
  have hub := hu.2.2.2.2
  rcases ho with ⟨rfl, h⟩ | ⟨rfl, h⟩
  · have hk : q.o0 < 3000 := hk
    have hi : i.toNatClampNeg = q.o0 := hi
    have k : T (kE G) d y (pc + 3) lv st (znew x (4000 + q.o0)) (kf (kO0 q)) Q := k
    obtain ⟨n0, nH, nE, nA, nB⟩ := kl_far (c := 4000 + q.o0) (by omega)
    have fr := kU_fr hu (c := 4000 + q.o0) (kmd_no n0 (fun _ => nH) (fun _ => nE) (fun _ => nA) (fun _ => nB) (by omega) (by omega) (by omega))
    have hK : kK (4000 + q.o0) = .inr (.int, 24) := by unfold kK; rw [if_neg (by omega), if_neg (by omega), if_neg (by omega)]
    refine T_newI (4000 + q.o0) hd1 rfl (Or.inl rfl) aI_W hK (by decide) (by decide) (by decide) fr.1 (by omega) fr.2 (gok_i (gok_l hok) (as_c rfl (as_c (gkr l13) (gok_s hok)))) ?_
    refine T_aastA 273 (4000 + q.o0) (n := 3000) (n9 := 24) hd2 rfl (List.mem_append_left _ l13) hK (List.mem_append_right _ (List.mem_singleton.mpr rfl)) hin ?_
    refine T_refs (f2 := kf (kO0 q)) rfl (fun c hc j g1 g2 => ?_) k
    show kR (kO0 q) c j = (if c = 273 ∧ j = i.toNatClampNeg then some (4000 + q.o0) else if c = 4000 + q.o0 then none else kR q c j)
    by_cases e1 : c = 4000 + q.o0
    · subst e1
      exact absurd (g2 _ _ hK) (by decide)
    by_cases e2 : c = 273
    · subst e2
      show (if j < q.o0 + 1 then some (4000 + j) else none) = (if (273 : Nat) = 273 ∧ j = i.toNatClampNeg then some (4000 + q.o0) else if (273 : Nat) = 4000 + q.o0 then none else (if j < q.o0 then some (4000 + j) else none))
      by_cases e3 : j = q.o0
      · rw [if_pos (show j < q.o0 + 1 by omega), if_pos ⟨rfl, e3.trans hi.symm⟩, e3]
      · by_cases e4 : j < q.o0
        · rw [if_pos (show j < q.o0 + 1 by omega), if_neg (fun z => e3 (z.2.trans hi)), if_neg e1, if_pos e4]
        · rw [if_neg (show ¬ j < q.o0 + 1 by omega), if_neg (fun z => e3 (z.2.trans hi)), if_neg e1, if_neg e4]
    · rw [if_neg (fun z => e2 z.1), if_neg e1]
      unfold kR
      rw [if_neg e2, if_neg e2]; rfl
  · have hk : q.o1 < 3000 := hk
    have hi : i.toNatClampNeg = q.o1 := hi
    have k : T (kE G) d y (pc + 3) lv st (znew x (7000 + q.o1)) (kf (kO1 q)) Q := k
    obtain ⟨n0, nH, nE, nA, nB⟩ := kl_far (c := 7000 + q.o1) (by omega)
    have fr := kU_fr hu (c := 7000 + q.o1) (kmd_no n0 (fun _ => nH) (fun _ => nE) (fun _ => nA) (fun _ => nB) (by omega) (by omega) (by omega))
    have hK : kK (7000 + q.o1) = .inr (.int, 24) := by unfold kK; rw [if_neg (by omega), if_neg (by omega), if_neg (by omega)]
    refine T_newI (7000 + q.o1) hd1 rfl (Or.inl rfl) aI_W hK (by decide) (by decide) (by decide) fr.1 (by omega) fr.2 (gok_i (gok_l hok) (as_c rfl (as_c (gkr l13) (gok_s hok)))) ?_
    refine T_aastA 293 (7000 + q.o1) (n := 3000) (n9 := 24) hd2 rfl (List.mem_append_left _ l13) hK (List.mem_append_right _ (List.mem_singleton.mpr rfl)) hin ?_
    refine T_refs (f2 := kf (kO1 q)) rfl (fun c hc j g1 g2 => ?_) k
    show kR (kO1 q) c j = (if c = 293 ∧ j = i.toNatClampNeg then some (7000 + q.o1) else if c = 7000 + q.o1 then none else kR q c j)
    by_cases e1 : c = 7000 + q.o1
    · subst e1
      exact absurd (g2 _ _ hK) (by decide)
    by_cases e2 : c = 293
    · subst e2
      show (if j < q.o1 + 1 then some (7000 + j) else none) = (if (293 : Nat) = 293 ∧ j = i.toNatClampNeg then some (7000 + q.o1) else if (293 : Nat) = 7000 + q.o1 then none else (if j < q.o1 then some (7000 + j) else none))
      by_cases e3 : j = q.o1
      · rw [if_pos (show j < q.o1 + 1 by omega), if_pos ⟨rfl, e3.trans hi.symm⟩, e3]
      · by_cases e4 : j < q.o1
        · rw [if_pos (show j < q.o1 + 1 by omega), if_neg (fun z => e3 (z.2.trans hi)), if_neg e1, if_pos e4]
        · rw [if_neg (show ¬ j < q.o1 + 1 by omega), if_neg (fun z => e3 (z.2.trans hi)), if_neg e1, if_neg e4]
    · rw [if_neg (fun z => e2 z.1), if_neg e1]
      unfold kR
      rw [if_neg e2, if_neg e2]; rfl
theorem T_sett {o : Nat} (hd : decode zk_X2_explore.2.1 pc = .ok (.putfield 44, 3)) (hu : kU q) (he : q.ex = true)
    (k : T (kE G) d zk_X2_explore (pc + 3) lv st x (kf (kEt q o)) Q) : T (kE G) d zk_X2_explore pc lv (vr o :: vr 200 :: st) x (kf q) Q := by
  refine T_putR 200 7 o hd kfl_X2_44 kk_200 (kl_200 hu.1 he) (by decide) rfl (fun _ => ⟨rfl, rfl⟩) ?_
  refine T_refs (f2 := kf (kEt q o)) rfl (fun c hc j g1 g2 => ?_) k
  show kR (kEt q o) c j = (if c = 200 ∧ j = 7 then some o else kR q c j)
  by_cases e : c = 200 ∧ j = 7
  · obtain ⟨rfl, rfl⟩ := e
    rfl
  · rw [if_neg e]
    unfold kR
    rw [if_neg e, if_neg e]; rfl
theorem fr_H (hu : kU q) (h : q.hi = false) : ∀ c ∈ 180 :: news_180, c ∉ (kf q).2.1 ∧ NR (kf q) c := fun c hc =>
  kU_fr hu (kmd_no ((by decide +kernel : ∀ c ∈ 180 :: news_180, c ∉ kl0) c hc) (fun e => by rw [h] at e; cases e) (fun _ => (by decide +kernel : ∀ c ∈ 180 :: news_180, c ∉ klE) c hc) (fun _ => (by decide +kernel : ∀ c ∈ 180 :: news_180, c ∉ klA) c hc) (fun _ => (by decide +kernel : ∀ c ∈ 180 :: news_180, c ∉ klB) c hc) (Or.inl ((by decide +kernel : ∀ c ∈ 180 :: news_180, c < 1000) c hc)) (Or.inl ((by decide +kernel : ∀ c ∈ 180 :: news_180, c < 4000) c hc)) (Or.inl ((by decide +kernel : ∀ c ∈ 180 :: news_180, c < 7000) c hc)))
theorem fr_E (hu : kU q) (h : q.ex = false) : ∀ c ∈ 200 :: news_200, c ∉ (kf q).2.1 ∧ NR (kf q) c := fun c hc =>
  kU_fr hu (kmd_no ((by decide +kernel : ∀ c ∈ 200 :: news_200, c ∉ kl0) c hc) (fun _ => (by decide +kernel : ∀ c ∈ 200 :: news_200, c ∉ klH) c hc) (fun e => by rw [h] at e; cases e) (fun _ => (by decide +kernel : ∀ c ∈ 200 :: news_200, c ∉ klA) c hc) (fun _ => (by decide +kernel : ∀ c ∈ 200 :: news_200, c ∉ klB) c hc) (Or.inl ((by decide +kernel : ∀ c ∈ 200 :: news_200, c < 1000) c hc)) (Or.inl ((by decide +kernel : ∀ c ∈ 200 :: news_200, c < 4000) c hc)) (Or.inl ((by decide +kernel : ∀ c ∈ 200 :: news_200, c < 7000) c hc)))
theorem fr_A (hu : kU q) (h : q.t0 = false) : ∀ c ∈ 260 :: news_260, c ∉ (kf q).2.1 ∧ NR (kf q) c := fun c hc =>
  kU_fr hu (kmd_no ((by decide +kernel : ∀ c ∈ 260 :: news_260, c ∉ kl0) c hc) (fun _ => (by decide +kernel : ∀ c ∈ 260 :: news_260, c ∉ klH) c hc) (fun _ => (by decide +kernel : ∀ c ∈ 260 :: news_260, c ∉ klE) c hc) (fun e => by rw [h] at e; cases e) (fun _ => (by decide +kernel : ∀ c ∈ 260 :: news_260, c ∉ klB) c hc) (Or.inl ((by decide +kernel : ∀ c ∈ 260 :: news_260, c < 1000) c hc)) (Or.inl ((by decide +kernel : ∀ c ∈ 260 :: news_260, c < 4000) c hc)) (Or.inl ((by decide +kernel : ∀ c ∈ 260 :: news_260, c < 7000) c hc)))
theorem fr_B (hu : kU q) (h : q.t1 = false) : ∀ c ∈ 280 :: news_280, c ∉ (kf q).2.1 ∧ NR (kf q) c := fun c hc =>
  kU_fr hu (kmd_no ((by decide +kernel : ∀ c ∈ 280 :: news_280, c ∉ kl0) c hc) (fun _ => (by decide +kernel : ∀ c ∈ 280 :: news_280, c ∉ klH) c hc) (fun _ => (by decide +kernel : ∀ c ∈ 280 :: news_280, c ∉ klE) c hc) (fun _ => (by decide +kernel : ∀ c ∈ 280 :: news_280, c ∉ klA) c hc) (fun e => by rw [h] at e; cases e) (Or.inl ((by decide +kernel : ∀ c ∈ 280 :: news_280, c < 1000) c hc)) (Or.inl ((by decide +kernel : ∀ c ∈ 280 :: news_280, c < 4000) c hc)) (Or.inl ((by decide +kernel : ∀ c ∈ 280 :: news_280, c < 7000) c hc)))
theorem T_mkH (hu : kU q) (h0 : q.hi = false) (hok : gok (kf q).2.1 lv [vr 0] = true)
    (k : T (kE G) (d + 2) zk_X11_linear 56 lv [] (xops (znew x 180) ops_180) (kf (kHi q)) Q) : T (kE G) (d + 2) zk_X11_linear 46 lv [vr 0] x (kf q) Q := by
  have fr := fr_H hu h0
  have f0 := fr 180 List.mem_cons_self
  have l0 : 0 ∈ (kf q).2.1 := kl_0 hu.1
  refine T_newO 180 (dk dtk_X11_linear 23 rfl) kn_X11_278 kk_180 f0.1 (Or.inl (by decide)) f0.2 hok ?_
  refine T_dup (dk dtk_X11_linear 24 rfl) rfl ?_
  have l1 : 180 ∈ (fnew (kf q) 180 13).2.1 := List.mem_append_right _ (List.mem_singleton.mpr rfl)
  have ho1 : gok (fnew (kf q) 180 13).2.1 lv [vr 180, vr 0] = true := gok_i (gok_l (gok_le (fun c hc => List.mem_append_left _ hc) hok)) (as_c (gkr l1) (as_c (gkr (List.mem_append_left _ l0)) as_n))
  have hfr : ∀ c ∈ news_180, c ∉ (fnew (kf q) 180 13).2.1 ∧ NR (fnew (kf q) 180 13) c := ops_fr (l := [oN_ 180 13]) (N := 180 :: news_180) fr (by decide +kernel)
  refine T_callI [] [vr 180, vr 0] (d + 1) rfl (dk dtk_X11_linear 25 rfl) kci_X11_284 rfl (by omega) (Nat.le_of_ble_eq_true rfl) (Nat.le_of_ble_eq_true rfl) ho1 (kc_180 (d := d) l1 hfr ⟨rfl, ?_⟩)
  refine T_putR 0 8 180 (dk dtk_X11_linear 26 rfl) kfl_X11_280 kk_0 (ops_in (List.mem_append_left _ l0)) (by decide) rfl (fun _ => ⟨rfl, rfl⟩) ?_
  exact T_refs kHi_2 (fun c hc j g1 g2 => kHi_r rfl (Or.inr trivial) g1 g2) k
theorem T_mkE (hu : kU q) (h0 : q.ex = false) (hok : gok (kf q).2.1 lv [vr 0] = true) (hl0 : lv[0]? = some (0, vr 0))
    (k : T (kE G) (d + 4) zk_X11_attempt 53 lv [] (xops (znew x 200) ops_200) (kf (kEx q)) Q) : T (kE G) (d + 4) zk_X11_attempt 39 lv [vr 0] x (kf q) Q := by
  have fr := fr_E hu h0
  have f0 := fr 200 List.mem_cons_self
  have l0 : 0 ∈ (kf q).2.1 := kl_0 hu.1
  have l60 : 60 ∈ (kf q).2.1 := kl_60 hu.1
  refine T_newO 200 (dk dtk_X11_attempt 19 rfl) kn_X11_298 kk_200 f0.1 (Or.inl (by decide)) f0.2 hok ?_
  refine T_dup (dk dtk_X11_attempt 20 rfl) rfl ?_
  refine T_aload_n 0 (dk dtk_X11_attempt 21 rfl) rfl hl0 ?_
  refine T_getR 0 2 60 (dk dtk_X11_attempt 22 rfl) kfl_X11_28 kk_0 (List.mem_append_left _ l0) (by decide) rfl (show (if (0 : Nat) = 200 then none else kR q 0 2) = some 60 from rfl) ?_
  have l1 : 200 ∈ (fnew (kf q) 200 10).2.1 := List.mem_append_right _ (List.mem_singleton.mpr rfl)
  have ho1 : gok (fnew (kf q) 200 10).2.1 lv [vr 200, vr 0] = true := gok_i (gok_l (gok_le (fun c hc => List.mem_append_left _ hc) hok)) (as_c (gkr l1) (as_c (gkr (List.mem_append_left _ l0)) as_n))
  have hfr : ∀ c ∈ news_200, c ∉ (fnew (kf q) 200 10).2.1 ∧ NR (fnew (kf q) 200 10) c := ops_fr (l := [oN_ 200 10]) (N := 200 :: news_200) fr (by decide +kernel)
  refine T_callI [vr 60] [vr 200, vr 0] (d + 3) rfl (dk dtk_X11_attempt 23 rfl) kci_X11_300 rfl (by omega) (Nat.le_of_ble_eq_true rfl) (Nat.le_of_ble_eq_true rfl) ho1 (kc_200 (d := d) l1 (List.mem_append_left _ l60) hfr (show (if (60 : Nat) = 200 then none else kR q 60 0) = some 80 from rfl) ⟨rfl, ?_⟩)
  refine T_putR 0 7 200 (dk dtk_X11_attempt 24 rfl) kfl_X11_294 kk_0 (ops_in (List.mem_append_left _ l0)) (by decide) rfl (fun _ => ⟨rfl, rfl⟩) ?_
  exact T_refs kEx_2 (fun c hc j g1 g2 => kEx_r (hu.2.2.1.1 h0).1 (hu.2.2.1.1 h0).2 g1 g2) k
theorem T_mkT0 {i : Int32} (hu : kU q) (h0 : q.t0 = false) (hi : i.toNatClampNeg = 0) (hin : vp_in i 2) (hok : gok (kf q).2.1 lv [vi i, vr 7] = true)
    (k : T (kE G) (d + 2) zk_X11_attempt 75 lv [] (xops (znew x 260) ops_260) (kf (kT0 q)) Q) : T (kE G) (d + 2) zk_X11_attempt 67 lv [vi i, vr 7] x (kf q) Q := by
  have fr := fr_A hu h0
  have f0 := fr 260 List.mem_cons_self
  have l7 : 7 ∈ (kf q).2.1 := kl_7 hu.1
  refine T_newO 260 (dk dtk_X11_attempt 33 rfl) kn_X11_57 rfl f0.1 (Or.inl (by decide)) f0.2 hok ?_
  refine T_dup (dk dtk_X11_attempt 34 rfl) rfl ?_
  have l1 : 260 ∈ (fnew (kf q) 260 14).2.1 := List.mem_append_right _ (List.mem_singleton.mpr rfl)
  have ho1 : gok (fnew (kf q) 260 14).2.1 lv [vr 260, vi i, vr 7] = true := gok_i (gok_l (gok_le (fun c hc => List.mem_append_left _ hc) hok)) (as_c (gkr l1) (as_c rfl (as_c (gkr (List.mem_append_left _ l7)) as_n)))
  have hfr : ∀ c ∈ news_260, c ∉ (fnew (kf q) 260 14).2.1 ∧ NR (fnew (kf q) 260 14) c := ops_fr (l := [oN_ 260 14]) (N := 260 :: news_260) fr (by decide +kernel)
  refine T_callI [] [vr 260, vi i, vr 7] (d + 1) rfl (dk dtk_X11_attempt 35 rfl) kci_X11_301 rfl (by omega) (Nat.le_of_ble_eq_true rfl) (Nat.le_of_ble_eq_true rfl) ho1 (kc_260 (d := d) l1 hfr ⟨rfl, ?_⟩)
  refine T_aastT 7 260 (n := 2) (dk dtk_X11_attempt 36 rfl) kk_7 (ops_in (List.mem_append_left _ l7)) rfl (ops_in l1) hin ?_
  rw [hi]
  exact T_refs kT0_2 (fun c hc j g1 g2 => kT0_r (hu.2.2.1.2.1 h0) (Or.inr trivial) g1 g2) k
theorem T_mkT1 {i : Int32} (hu : kU q) (h0 : q.t1 = false) (hi : i.toNatClampNeg = 1) (hin : vp_in i 2) (hok : gok (kf q).2.1 lv [vi i, vr 7] = true)
    (k : T (kE G) (d + 2) zk_X11_attempt 75 lv [] (xops (znew x 280) ops_280) (kf (kT1 q)) Q) : T (kE G) (d + 2) zk_X11_attempt 67 lv [vi i, vr 7] x (kf q) Q := by
  have fr := fr_B hu h0
  have f0 := fr 280 List.mem_cons_self
  have l7 : 7 ∈ (kf q).2.1 := kl_7 hu.1
  refine T_newO 280 (dk dtk_X11_attempt 33 rfl) kn_X11_57 rfl f0.1 (Or.inl (by decide)) f0.2 hok ?_
  refine T_dup (dk dtk_X11_attempt 34 rfl) rfl ?_
  have l1 : 280 ∈ (fnew (kf q) 280 14).2.1 := List.mem_append_right _ (List.mem_singleton.mpr rfl)
  have ho1 : gok (fnew (kf q) 280 14).2.1 lv [vr 280, vi i, vr 7] = true := gok_i (gok_l (gok_le (fun c hc => List.mem_append_left _ hc) hok)) (as_c (gkr l1) (as_c rfl (as_c (gkr (List.mem_append_left _ l7)) as_n)))
  have hfr : ∀ c ∈ news_280, c ∉ (fnew (kf q) 280 14).2.1 ∧ NR (fnew (kf q) 280 14) c := ops_fr (l := [oN_ 280 14]) (N := 280 :: news_280) fr (by decide +kernel)
  refine T_callI [] [vr 280, vi i, vr 7] (d + 1) rfl (dk dtk_X11_attempt 35 rfl) kci_X11_301 rfl (by omega) (Nat.le_of_ble_eq_true rfl) (Nat.le_of_ble_eq_true rfl) ho1 (kc_280 (d := d) l1 hfr ⟨rfl, ?_⟩)
  refine T_aastT 7 280 (n := 2) (dk dtk_X11_attempt 36 rfl) kk_7 (ops_in (List.mem_append_left _ l7)) rfl (ops_in l1) hin ?_
  rw [hi]
  exact T_refs kT1_2 (fun c hc j g1 g2 => kT1_r (hu.2.2.1.2.2 h0) (Or.inr trivial) g1 g2) k
/-! makers: an end, with the shape that it leaves -/
def kmq (P : Option gv → gd → kP → Prop) (X : String → gd → kP → Prop) : gr → gd → gf → Prop := fun o x f => ∃ q, (f = kf q ∧ ∃ v, o = .inl v ∧ P v x q) ∨ (f = gth (kf q) ∧ ∃ c, o = .inr c ∧ X c x q)
abbrev KM (G : kG) (q : kP) (d : Nat) (y : gy) (pc : Nat) (lv : List (Nat × gv)) (st : List gv) (x : gd) (P : Option gv → gd → kP → Prop) (X : String → gd → kP → Prop) : Prop := T (kE G) d y pc lv st x (kf q) (kmq P X)
/-- no answer: the shape is in order, and more than before -/
def rm (q0 : kP) (F : gd → kP → Prop) : Option gv → gd → kP → Prop := fun v x q => v = none ∧ kU q ∧ kle q0 q ∧ F x q
variable {P P' : Option gv → gd → kP → Prop} {X X' : String → gd → kP → Prop} {z : gy}
theorem KM_iret {v : Int32} {ty : FieldType} (hd : decode y.2.1 pc = .ok (.ireturn, 1)) (hr : y.2.2.2.1 = some ty) (hn : narrow ty (.int v) = .int v) (hQ : P (some (vi v)) x q) : KM G q d y pc lv [vi v] x P X := T_iret hd hr hn ⟨q, Or.inl ⟨rfl, _, rfl, hQ⟩⟩
theorem KM_vret (hd : decode y.2.1 pc = .ok (.return_, 1)) (hr : y.2.2.2.1 = none) (hQ : P none x q) : KM G q d y pc lv [] x P X := T_vret hd hr ⟨q, Or.inl ⟨rfl, _, rfl, hQ⟩⟩
theorem KM_Vv {idx n c ci : Nat} {sl : List Bool} {F : gd → kP → Prop} (As rest : List gv) (hst : st = As.reverse ++ vr c :: rest) (hd : decode y.2.1 pc = .ok (.invokevirtual idx, 3)) (hM : gMv y.1.cls idx z n) (hn : As.length = n) (hK : kK c = .inl (ci, sl)) (hcl : (vwCl[ci]?).map (fun r => r.1) = some z.1.cls) (hc : c ∈ (kf q).2.1) (hfit : gsz (vr c :: As) ≤ z.2.2.1) (hcat : gsz rest ≤ 8) (hok : gok (kf q).2.1 lv rest = true) (hy : y.2.2.2.2 = [])
    (k : KM G q d z 0 (glv 0 (vr c :: As)) [] x (rm q F) X) (kk : ∀ x1 q1, kU q1 → kle q q1 → F x1 q1 → KM G q1 (d + 1) y (pc + 3) lv rest x1 P X) : KM G q (d + 1) y pc lv st x P X := by
  refine T_callV (E := kE G) As rest d hst hd hM hn hK hcl hc (Nat.le_refl _) hfit hcat hok (by rw [hy]; intro z hz; cases hz) ?_
  refine T_mono k (fun o x' f' w => ?_)
  obtain ⟨q', ⟨rfl, v, rfl, rfl, hU, hL, hF⟩ | ⟨rfl, s, rfl, hX⟩⟩ := w
  · exact kk x' q' hU hL hF
  · exact ⟨q', Or.inr ⟨rfl, s, rfl, hX⟩⟩
theorem KN_Vv {idx n c ci : Nat} {sl : List Bool} {F : gd → Prop} (As rest : List gv) (hst : st = As.reverse ++ vr c :: rest) (hd : decode y.2.1 pc = .ok (.invokevirtual idx, 3)) (hM : gMv y.1.cls idx z n) (hn : As.length = n) (hK : kK c = .inl (ci, sl)) (hcl : (vwCl[ci]?).map (fun r => r.1) = some z.1.cls) (hc : c ∈ (kf q).2.1) (hfit : gsz (vr c :: As) ≤ z.2.2.1) (hcat : gsz rest ≤ 8) (hok : gok (kf q).2.1 lv rest = true) (hy : y.2.2.2.2 = [])
    (k : KE G q d z 0 (glv 0 (vr c :: As)) [] x (rv F) (fun c9 x9 => X c9 x9 q)) (kk : ∀ x1, F x1 → KM G q (d + 1) y (pc + 3) lv rest x1 P X) : KM G q (d + 1) y pc lv st x P X := by
  refine T_callV (E := kE G) As rest d hst hd hM hn hK hcl hc (Nat.le_refl _) hfit hcat hok (by rw [hy]; intro z hz; cases hz) ?_
  refine T_mono k (fun o x' f' w => ?_)
  rcases w with ⟨rfl, v, rfl, rfl, hF⟩ | ⟨rfl, s, rfl, hX⟩
  · exact kk x' hF
  · exact ⟨q, Or.inr ⟨rfl, s, rfl, hX⟩⟩
theorem KN_Sv {idx n : Nat} {F : gd → Prop} (As rest : List gv) (hst : st = As.reverse ++ rest) (hd : decode y.2.1 pc = .ok (.invokestatic idx, 3)) (hM : gMs y.1.cls idx z n) (hn : As.length = n) (hfit : gsz As ≤ z.2.2.1) (hcat : gsz rest ≤ 8) (hok : gok (kf q).2.1 lv rest = true) (hy : y.2.2.2.2 = [])
    (k : KE G q d z 0 (glv 0 As) [] x (rv F) (fun c9 x9 => X c9 x9 q)) (kk : ∀ x1, F x1 → KM G q (d + 1) y (pc + 3) lv rest x1 P X) : KM G q (d + 1) y pc lv st x P X := by
  refine T_callS (E := kE G) As rest d hst hd hM hn (Nat.le_refl _) hfit hcat hok (by rw [hy]; intro z hz; cases hz) ?_
  refine T_mono k (fun o x' f' w => ?_)
  rcases w with ⟨rfl, v, rfl, rfl, hF⟩ | ⟨rfl, s, rfl, hX⟩
  · exact kk x' hF
  · exact ⟨q, Or.inr ⟨rfl, s, rfl, hX⟩⟩
end KFU
/-! a caught exception: one cell more was made -/
def kTh (q : kP) : kP := kmk q.hi q.ex q.t0 q.t1 q.et q.kn q.o0 q.o1 q.L (q.ce + 1) (q.sl + 6)
theorem kTh_U {q : kP} (h : kU q) : kU (kTh q) := h
def gcatch (E : gE) (d : Nat) (y : gy) (pc : Nat) (lv : List (Nat × gv)) (st : List gv) (hpc : Nat) (Q : gr → gd → gf → Prop) (o : gr) (x : gd) (f : gf) : Prop := match o with
  | .inl v => T E d y pc lv (v.toList ++ st) x f Q
  | .inr X => X = iSE ∧ T E d y hpc lv [] x f Q
section GCA
variable {E : gE} {d : Nat} {y : gy} {pc : Nat} {lv : List (Nat × gv)} {st : List gv} {x : gd} {f : gf} {Q : gr → gd → gf → Prop}
theorem T_catchV {z : gy} {c ci idx n : Nat} {sl : List Bool} (As rest : List gv) (d1 : Nat) (hst : st = As.reverse ++ vr c :: rest) (hd : decode y.2.1 pc = .ok (.invokevirtual idx, 3)) (hM : gMv y.1.cls idx z n) (hn : As.length = n) (hK : E.2.2.2.1 c = .inl (ci, sl)) (hcl : (vwCl[ci]?).map (fun r => r.1) = some z.1.cls) (hc : c ∈ f.2.1) (hd1 : d1 + 1 ≤ d)
    (hfit : gsz (vr c :: As) ≤ z.2.2.1) (hcat : gsz rest ≤ 8) (hok : gok f.2.1 lv rest = true) (hz : z.2.2.2.2 = []) (e9 : ExceptionTableEntry) (htab : tableOf y.2.2.2.2 = [e9]) (hcov : covers e9 pc = true) (h0 : e9.catchType ≠ 0) (hlink : Cond.classLink y.1.cls e9.catchType iSE ∈ W0) {n3 : Fin 4} {i3 : Nat} (hi3 : (n3 : Nat) = i3) (hd2 : decode y.2.1 e9.handlerPc = .ok (.astore_n n3, 1)) (hn3 : i3 < y.2.2.1) (h9 : gst1 i3 lv = lv)
    (k : T E d1 z 0 (glv 0 (vr c :: As)) [] x f (gcatch E d y (pc + 3) lv rest (e9.handlerPc + 1) Q)) : T E d y pc lv st x f Q := by
  obtain ⟨⟨m1, m2, m3, m4, m5⟩, m6, m7, m8⟩ := hM
  obtain ⟨o1, x1, f1, hk, hle, hw1⟩ := k
  have hlv : lv.all (fun q => gokv f.2.1 q.2) = true := (Bool.and_eq_true _ _ ▸ hok).1
  have hrs : rest.all (gokv f.2.1) = true := (Bool.and_eq_true _ _ ▸ hok).2
  have hrun : ∀ (p : Program) (e : Env) (R : Room) (s : State) (m : MethodId) (args : Array Value) (below : List Frame) (meth : Method) (c0 : Code) (A : Nat → Prop) (H : Heap) (locs : List Loc) (cells slots : Nat) (ls : Array Slot) (ad : Nat → Nat), gC E d y p R s m args meth c0 A → gP E x f ad A H → va_S A s.heap H locs → lv_has ls y.2.2.1 (glc ad lv) → cells + (f1.2.2.1 - f.2.2.1) ≤ R.cells → slots + (f1.2.2.2 - f.2.2.2) ≤ R.slots →
      vx_Run p E.1 e R s m args below meth c0 H locs cells slots (f1.2.2.1 - f.2.2.1) (f1.2.2.2 - f.2.2.2) (F0 m pc ls (st.map (gcv ad))) (rest.map (gcv ad)) (gQc E (gA f ad H.size) f ad o1 x1 f1 ((vr c :: As).map (gcv ad)).toArray) (gXC E (gA f ad H.size) f ad o1 x1 f1) (gA f ad H.size) := by
    intro p e R s m args below meth c0 A H locs cells slots ls ad C hP hS hl hc1 hs1
    obtain ⟨i, hi0, hi⟩ := gwl_at (E := E) (x := x) (ad := ad) hc
    rw [gce_obj hK] at hi
    have hr9 : ∃ r : vw_C, vwCl[ci]? = some r ∧ r.1 = z.1.cls := by
      cases h9 : vwCl[ci]? with
      | none => rw [h9] at hcl; cases hcl
      | some r => rw [h9] at hcl; exact ⟨r, rfl, Option.some.inj hcl⟩
    obtain ⟨r, hr1, hr2⟩ := hr9
    have hrec := va_recv C.2.2.2.1.1 hP.1.1 hr1 hi
    rw [hr2] at hrec
    have hG : GoodIn W0 (wsV y.1.cls idx z.1.cls z.1 (gws z)) := by
      intro w hw
      rcases List.mem_append.mp hw with h | h
      · refine W0_good w ?_
        simp only [List.mem_cons, List.not_mem_nil, or_false] at h
        rcases h with rfl | rfl | rfl | rfl
        · exact m1
        · exact m2
        · exact m3
        · exact m4
      · exact gwsz m5 w h
    have hroom : 8 + (z.2.2.1 + 11) + 41 * d1 ≤ R.locals := by
      have hq := C.2.2.1.2
      omega
    have hstk : st.map (gcv ad) = (As.map (gcv ad)).reverse ++ Value.ref (ad c) :: rest.map (gcv ad) := by
      rw [hst, List.map_append, List.map_reverse]
      rfl
    exact vx_runV (As := As.map (gcv ad)) (C := z.1.cls) (b := ad c) (Pc := va_Pc ((vr c :: As).map (gcv ad)) (gst E x f ad H.size)) ⟨C.1.1, C.1.2.1, C.1.2.2.1, C.1.2.2.2.1, C.1.2.2.2.2⟩ (gM_of C.2.2.2.1.2.2.2 m7 hfit hw1 ad H.size)
      (cwV (bytes := z.2.1) (maxL := z.2.2.1) (ret := z.2.2.2.1) (ws' := W0) n C.1.2.2.2.2 hG (by rw [gws, gcw, hz]) rfl rfl ⟨rfl, m6⟩ ⟨Nat.le_trans hd1 C.2.2.1.1, hroom⟩) ⟨gst_blind, hrec, fun U hU hW => ⟨rfl, gst_in C hP hS hU hW⟩⟩ rfl (by rw [List.length_map]; exact hn) hl.1 hstk (lv_room (by rw [gsz_c]; exact hcat)) hd ⟨hc1, hs1⟩
  cases o1 with
  | inl v =>
    obtain ⟨o, x', f', hQ, hle2, hw2⟩ := hk
    refine ⟨o, x', f', hQ, gle_tr hle hle2, ?_⟩
    intro p e R s m args below meth c0 A H locs cells slots ls ad C hP hS hl hc hs T9 hT X
    have a1 := hle.2.1
    have a2 := hle.2.2
    have b1 := hle2.2.1
    have b2 := hle2.2.2
    rcases hrun p e R s m args below meth c0 A H locs cells slots ls ad C hP hS hl (by omega) (by omega) T9 hT X with ⟨v', st₀, t, T', L, h0, X', hL, e1, e2, ⟨ad1, hex, ⟨v2, ev1, ev2⟩, hP1, hF⟩, stp⟩ | ⟨q, st₀, t, T', L, X0, ce, h0, X', hL, e1, e2, ⟨ad1, hex, hn, -⟩, -⟩
    · cases ev1
      cases ev2
      have hin := gA_in (sz := H.size) hP (fun q hq => C.2.2.2.2 q (Nat.le_trans hS.1 hq))
      obtain ⟨k1, k2, k3⟩ := vx_keep h0 e1 hS (fun q _ h => hin q h) hin hL hF
      have hP2 : gP E x1 f1 ad1 A T'.heap := by rw [e1]; exact gP_w hP1 hin
      have hl2 : lv_has ls y.2.2.1 (glc ad1 lv) := by rw [glc_live hex hlv]; exact hl
      have hw3 := hw2 p e R s m args below meth c0 A T'.heap (locs ++ L) (cells + (f1.2.2.1 - f.2.2.1)) (slots + (f1.2.2.2 - f.2.2.2)) ls ad1 C hP2 k3 hl2 (by omega) (by omega)
      rw [List.map_append, gst_live hex hrs] at hw3
      have hv : (v.toList).map (gcv ad1) = (v.map (gcv ad1)).toList := by cases v <;> rfl
      rw [hv] at hw3
      rw [show cells + (f1.2.2.1 - f.2.2.1) + (f'.2.2.1 - f1.2.2.1) = cells + (f'.2.2.1 - f.2.2.1) by omega, show slots + (f1.2.2.2 - f.2.2.2) + (f'.2.2.2 - f1.2.2.2) = slots + (f'.2.2.2 - f.2.2.2) by omega] at hw3
      obtain ⟨t2, s1, s2⟩ := hw3 T' rfl X'
      refine ⟨t2, stp t2 s1, vx_MQ_mono s2 (fun _ _ _ _ q => ?_) (fun _ _ _ q => ?_)⟩
      · obtain ⟨ad2, g1, g2⟩ := q; exact ⟨ad2, gex_tr hle hex g1, g2⟩
      · obtain ⟨ad2, g1, g2⟩ := q; exact ⟨ad2, gex_tr hle hex g1, g2⟩
    · cases hn
  | inr X1 =>
    obtain ⟨rfl, o, x', f', hQ, hle2, hw2⟩ := hk
    refine ⟨o, x', f', hQ, gle_tr hle hle2, ?_⟩
    intro p e R s m args below meth c0 A H locs cells slots ls ad C hP hS hl hc hs T9 hT X
    have a1 := hle.2.1
    have a2 := hle.2.2
    have b1 := hle2.2.1
    have b2 := hle2.2.2
    rcases hrun p e R s m args below meth c0 A H locs cells slots ls ad C hP hS hl (by omega) (by omega) T9 hT X with ⟨v', st₀, t, T', L, h0, X', hL, e1, e2, ⟨ad1, hex, ⟨v2, ev1, -⟩, -⟩, -⟩ | ⟨q, st₀, t, T', L, X0, ce, h00, X', hL, e1, e2, ⟨ad1, hex, hn, hP1, hF⟩, hce, hcv, hcl, stp⟩
    · cases ev1
    · cases hn
      have hin := gA_in (sz := H.size) hP (fun q hq => C.2.2.2.2 q (Nat.le_trans hS.1 hq))
      obtain ⟨k1, k2, k3⟩ := vx_keep h00 e1 hS (fun q _ h => hin q h) hin hL hF
      have hP2 : gP E x1 f1 ad1 A T'.heap := by rw [e1]; exact gP_w hP1 hin
      have hl2 : lv_has ls y.2.2.1 (glc ad1 lv) := by rw [glc_live hex hlv]; exact hl
      have hw3 := fun (ls2 : Array Slot) (hl3 : lv_has ls2 y.2.2.1 (glc ad1 lv)) => hw2 p e R s m args below meth c0 A T'.heap (locs ++ L) (cells + (f1.2.2.1 - f.2.2.1)) (slots + (f1.2.2.2 - f.2.2.2)) ls2 ad1 C hP2 k3 hl3 (by omega) (by omega)
      rw [show cells + (f1.2.2.1 - f.2.2.1) + (f'.2.2.1 - f1.2.2.1) = cells + (f'.2.2.1 - f.2.2.1) by omega, show slots + (f1.2.2.2 - f.2.2.2) + (f'.2.2.2 - f1.2.2.2) = slots + (f'.2.2.2 - f.2.2.2) by omega] at hw3
      have hfl : (i3, Value.ref q) :: (glc ad1 lv).filter (fun q => !(q.1 == i3) && !(q.1 + 1 == i3 && q.2.category == 2)) = (i3, Value.ref q) :: glc ad1 lv := by
        have := gst1_c (ad := ad1) (i := i3) (v := vi 0) (lv := lv) rfl
        rw [h9] at this
        have h5 := (List.cons.inj this).2
        rw [h5]; rfl
      have hcat9 := vx_catch (own := y.1.cls) (name := iSE) (E := iSE) (ce := ce) (q := q) (pc := pc) (ls := ls) (rest := rest.map (gcv ad)) C.1.2.2.2.1 [] e9 [] (by rw [C.2.1.2.2.1, htab]; rfl) (fun z hz => nomatch hz) hcov h0 (C.1.2.2.2.2 _ hlink) (show (Cond.castable iSE iSE).before args s = true from C.2.2.2.1.2.1.2.1 (.castable iSE iSE) (by decide)) (by rw [e1]; exact hce) hcv hcl (lv_astore_n (x := q) C.1.1 C.1.2.1 hd2 hi3 hl2 hn3 hfl (fun ls2 hl3 => hw3 ls2 ⟨hl3.1, hl3.2.1, fun z hz => hl3.2.2 z (List.mem_cons_of_mem _ hz)⟩))
      obtain ⟨t2, s1, s2⟩ := hcat9 T' rfl X'
      refine ⟨t2, stp.trans s1, vx_MQ_mono s2 (fun _ _ _ _ q => ?_) (fun _ _ _ q => ?_)⟩
      · obtain ⟨ad2, g1, g2⟩ := q; exact ⟨ad2, gex_tr hle hex g1, g2⟩
      · obtain ⟨ad2, g1, g2⟩ := q; exact ⟨ad2, gex_tr hle hex g1, g2⟩
end GCA
section KCA
variable {G : kG} {d : Nat} {z : gy} {pc : Nat} {lv : List (Nat × gv)} {st : List gv} {x : gd} {q : kP} {P : Option gv → gd → kP → Prop} {X : String → gd → kP → Prop} {Q : gr → gd → gf → Prop}
def kce : ExceptionTableEntry := ⟨15, 38, 41, 102⟩
theorem kce_l : Cond.classLink RX11 102 iSE ∈ W0 := W0_in (tp_3 (List.mem_of_getElem? (i := 104) (by decide +kernel))) rfl
theorem KH_Vv {idx n c ci : Nat} {sl : List Bool} {F : gd → Prop} {y : gy} (As rest : List gv) (hst : st = As.reverse ++ vr c :: rest) (hd : decode y.2.1 pc = .ok (.invokevirtual idx, 3)) (hM : gMv y.1.cls idx z n) (hn : As.length = n) (hK : kK c = .inl (ci, sl)) (hcl : (vwCl[ci]?).map (fun r => r.1) = some z.1.cls) (hc : c ∈ (kf q).2.1) (hfit : gsz (vr c :: As) ≤ z.2.2.1) (hcat : gsz rest ≤ 8) (hok : gok (kf q).2.1 lv rest = true) (hy : ∀ z ∈ tableOf y.2.2.2.2, covers z pc = false)
    (k : KT G q d z 0 (glv 0 (vr c :: As)) [] x (rv F)) (kk : ∀ x1, F x1 → T (kE G) (d + 1) y (pc + 3) lv rest x1 (kf q) Q) : T (kE G) (d + 1) y pc lv st x (kf q) Q :=
  T_callV As rest d hst hd hM hn hK hcl hc (Nat.le_refl _) hfit hcat hok hy (T_mono k (fun o x' f' w => by obtain ⟨rfl, v, rfl, rfl, hr⟩ := w; exact kk x' hr))
theorem KH_Vi {idx n c ci : Nat} {sl : List Bool} {F : Int32 → gd → Prop} {y : gy} (As rest : List gv) (hst : st = As.reverse ++ vr c :: rest) (hd : decode y.2.1 pc = .ok (.invokevirtual idx, 3)) (hM : gMv y.1.cls idx z n) (hn : As.length = n) (hK : kK c = .inl (ci, sl)) (hcl : (vwCl[ci]?).map (fun r => r.1) = some z.1.cls) (hc : c ∈ (kf q).2.1) (hfit : gsz (vr c :: As) ≤ z.2.2.1) (hcat : gsz rest ≤ 8) (hok : gok (kf q).2.1 lv rest = true) (hy : ∀ z ∈ tableOf y.2.2.2.2, covers z pc = false)
    (k : KT G q d z 0 (glv 0 (vr c :: As)) [] x (ri F)) (kk : ∀ r x1, F r x1 → T (kE G) (d + 1) y (pc + 3) lv (vi r :: rest) x1 (kf q) Q) : T (kE G) (d + 1) y pc lv st x (kf q) Q :=
  T_callV As rest d hst hd hM hn hK hcl hc (Nat.le_refl _) hfit hcat hok hy (T_mono k (fun o x' f' w => by obtain ⟨rfl, v, rfl, r, rfl, hr⟩ := w; exact kk r x' hr))
theorem KJ_Vi {idx n c ci : Nat} {sl : List Bool} {F : Int32 → gd → Prop} (As rest : List gv) (hst : st = As.reverse ++ vr c :: rest) (hd : decode zk_X11_compile.2.1 pc = .ok (.invokevirtual idx, 3)) (hM : gMv RX11 idx z n) (hn : As.length = n) (hK : kK c = .inl (ci, sl)) (hcl : (vwCl[ci]?).map (fun r => r.1) = some z.1.cls) (hc : c ∈ (kf q).2.1) (hfit : gsz (vr c :: As) ≤ z.2.2.1) (hcat : gsz rest ≤ 8) (hok : gok (kf q).2.1 lv rest = true) (hz : z.2.2.2.2 = []) (hcov : covers kce pc = true) (h9 : gst1 3 lv = lv)
    (k : KT G q d z 0 (glv 0 (vr c :: As)) [] x (ri F)) (kk : ∀ r x1, F r x1 → KM G q (d + 1) zk_X11_compile (pc + 3) lv (vi r :: rest) x1 P X) : KM G q (d + 1) zk_X11_compile pc lv st x P X :=
  T_catchV (y := zk_X11_compile) As rest d hst hd hM hn hK hcl hc (Nat.le_refl _) hfit hcat hok hz kce rfl hcov (by decide) kce_l rfl (dk dtk_X11_compile 21 rfl) (by decide) h9 (T_mono k (fun o x' f' w => by obtain ⟨rfl, v, rfl, r, rfl, hr⟩ := w; exact kk r x' hr))
theorem KJ_cat {idx n c ci : Nat} {sl : List Bool} {F : gd → Prop} (As rest : List gv) (hst : st = As.reverse ++ vr c :: rest) (hd : decode zk_X11_compile.2.1 pc = .ok (.invokevirtual idx, 3)) (hM : gMv RX11 idx z n) (hn : As.length = n) (hK : kK c = .inl (ci, sl)) (hcl : (vwCl[ci]?).map (fun r => r.1) = some z.1.cls) (hc : c ∈ (kf q).2.1) (hfit : gsz (vr c :: As) ≤ z.2.2.1) (hcat : gsz rest ≤ 8) (hok : gok (kf q).2.1 lv rest = true) (hz : z.2.2.2.2 = []) (hcov : covers kce pc = true) (h9 : gst1 3 lv = lv)
    (k : KE G q d z 0 (glv 0 (vr c :: As)) [] x (rv F) (fun c9 x9 => c9 = iSE ∧ KM G (kTh q) (d + 1) zk_X11_compile 42 lv [] x9 P X)) (kk : ∀ x1, F x1 → KM G q (d + 1) zk_X11_compile (pc + 3) lv rest x1 P X) : KM G q (d + 1) zk_X11_compile pc lv st x P X :=
  T_catchV (y := zk_X11_compile) As rest d hst hd hM hn hK hcl hc (Nat.le_refl _) hfit hcat hok hz kce rfl hcov (by decide) kce_l rfl (dk dtk_X11_compile 21 rfl) (by decide) h9 (T_mono k (fun o x' f' w => by
    rcases w with ⟨rfl, v, rfl, rfl, hr⟩ | ⟨rfl, s, rfl, rfl, hk⟩
    · exact kk x' hr
    · exact ⟨rfl, hk⟩))
end KCA
end
