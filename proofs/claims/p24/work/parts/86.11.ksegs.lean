set_option maxRecDepth 100000 in
theorem dtk_X5_canAct : dck cX5_canAct [(0, .aload_n 0, 1), (1, .iload_n 1, 1), (2, .invokevirtual 94, 3), (5, .ifCond .ne 5, 3), (8, .iconst 0, 1), (9, .ireturn, 1), (10, .aload_n 0, 1), (11, .iload_n 1, 1), (12, .iconst 2, 1), (13, .invokevirtual 90, 3), (16, .istore_n 2, 1), (17, .aload_n 0, 1), (18, .getfield 21, 3), (21, .getfield 136, 3), (24, .iload_n 2, 1), (25, .iaload, 1), (26, .istore_n 3, 1), (27, .aload_n 0, 1), (28, .iload_n 1, 1), (29, .invokevirtual 130, 3), (32, .tableswitch 211 0 15 #[80, 82, 211, 211, 211, 106, 211, 211, 211, 211, 175, 211, 80, 80, 80, 140], 80), (112, .iconst 1, 1), (113, .ireturn, 1), (114, .aload_n 0, 1), (115, .iload_n 2, 1), (116, .invokevirtual 166, 3), (119, .ifCond .ne 13, 3), (122, .aload_n 0, 1), (123, .iload_n 1, 1), (124, .bipush 7, 2), (126, .invokevirtual 90, 3), (129, .ifCond .ne 7, 3), (132, .iconst 1, 1), (133, .goto 4, 3), (136, .iconst 0, 1), (137, .ireturn, 1), (138, .aload_n 0, 1), (139, .iload_n 1, 1), (140, .bipush 7, 2), (142, .invokevirtual 90, 3), (145, .ifCond .ne 25, 3), (148, .aload_n 0, 1), (149, .iload_n 3, 1), (150, .invokevirtual 113, 3), (153, .iconst (-1), 1), (154, .if_icmp .eq 12, 3), (157, .aload_n 0, 1), (158, .iload_n 3, 1), (159, .invokevirtual 113, 3), (162, .iload_n 1, 1), (163, .if_icmp .ne 7, 3), (166, .iconst 1, 1), (167, .goto 4, 3), (170, .iconst 0, 1), (171, .ireturn, 1), (172, .aload_n 0, 1), (173, .iload_n 1, 1), (174, .bipush 7, 2), (176, .invokevirtual 90, 3), (179, .ifCond .ne 26, 3), (182, .aload_n 0, 1), (183, .iload_n 1, 1), (184, .iconst 5, 1), (185, .invokevirtual 90, 3), (188, .iconst 1, 1), (189, .if_icmp .ne 16, 3), (192, .aload_n 0, 1), (193, .iload_n 3, 1), (194, .invokevirtual 113, 3), (197, .iconst (-1), 1), (198, .if_icmp .ne 7, 3), (201, .iconst 1, 1), (202, .goto 4, 3), (205, .iconst 0, 1), (206, .ireturn, 1), (207, .aload_n 0, 1), (208, .iload_n 1, 1), (209, .bipush 7, 2), (211, .invokevirtual 90, 3), (214, .ifCond .ne 27, 3), (217, .aload_n 0, 1), (218, .iload_n 3, 1), (219, .iconst 0, 1), (220, .invokevirtual 90, 3), (223, .iconst 2, 1), (224, .if_icmp .lt 17, 3), (227, .aload_n 0, 1), (228, .iload_n 3, 1), (229, .bipush 7, 2), (231, .invokevirtual 90, 3), (234, .ifCond .ne 7, 3), (237, .iconst 1, 1), (238, .goto 4, 3), (241, .iconst 0, 1), (242, .ireturn, 1), (243, .aload_n 0, 1), (244, .iload_n 1, 1), (245, .bipush 7, 2), (247, .invokevirtual 90, 3), (250, .ifCond .ne 7, 3), (253, .iconst 1, 1), (254, .goto 4, 3), (257, .iconst 0, 1), (258, .ireturn, 1)] = true := by decide +kernel
set_option maxRecDepth 100000 in
set_option maxHeartbeats 4000000 in
theorem kg_X5_canAct_0 {G : kG} {q : kP} {d : Nat} {x : gd} {P : Option gv → gd → Prop} (hq : kV q) {o : Nat} (ho : kiM q o) (l1 : Int32)
    (h : KT G q d zk_X5_isGoing 0 [(0, vr o), (1, vi l1)] [] x (ri (fun r2 x1 => ((¬ (r2 = (0 : Int32)) → KT G q d zk_X5_get 0 [(0, vr o), (1, vi l1), (2, vi 2)] [] x1 (ri (fun r5 x4 => vp_in r5 400 ∧ KT G q d zk_X5_sortOf 0 [(0, vr o), (1, vi l1)] [] x4 (ri (fun r8 x7 => (((r8 = 0 ∨ r8 = 12 ∨ r8 = 13 ∨ r8 = 14) → P (some (vi 1)) x7) ∧ ((r8 = 1) → KT G q d zk_X5_goesLate 0 [(0, vr o), (1, vi r5)] [] x7 (ri (fun r12 x11 => ((¬ (r12 = (0 : Int32)) → P (some (vi 1)) x11) ∧ (r12 = (0 : Int32) → KT G q d zk_X5_get 0 [(0, vr o), (1, vi l1), (2, vi 7)] [] x11 (ri (fun r15 x14 => ((¬ (r15 = (0 : Int32)) → P (some (vi 0)) x14) ∧ (r15 = (0 : Int32) → P (some (vi 1)) x14))))))))) ∧ ((r8 = 5) → KT G q d zk_X5_get 0 [(0, vr o), (1, vi l1), (2, vi 7)] [] x7 (ri (fun r19 x18 => ((¬ (r19 = (0 : Int32)) → P (some (vi 0)) x18) ∧ (r19 = (0 : Int32) → KT G q d zk_X5_holder 0 [(0, vr o), (1, vi (x4.1 85 (r5 : Int32).toNatClampNeg))] [] x18 (ri (fun r22 x21 => ((r22 = (-1 : Int32) → P (some (vi 1)) x21) ∧ (¬ (r22 = (-1 : Int32)) → KT G q d zk_X5_holder 0 [(0, vr o), (1, vi (x4.1 85 (r5 : Int32).toNatClampNeg))] [] x21 (ri (fun r25 x24 => ((¬ (r25 = l1) → P (some (vi 0)) x24) ∧ (r25 = l1 → P (some (vi 1)) x24))))))))))))) ∧ ((r8 = 15) → KT G q d zk_X5_get 0 [(0, vr o), (1, vi l1), (2, vi 7)] [] x7 (ri (fun r29 x28 => ((¬ (r29 = (0 : Int32)) → P (some (vi 0)) x28) ∧ (r29 = (0 : Int32) → KT G q d zk_X5_get 0 [(0, vr o), (1, vi l1), (2, vi 5)] [] x28 (ri (fun r32 x31 => ((¬ (r32 = (1 : Int32)) → P (some (vi 0)) x31) ∧ (r32 = (1 : Int32) → KT G q d zk_X5_holder 0 [(0, vr o), (1, vi (x4.1 85 (r5 : Int32).toNatClampNeg))] [] x31 (ri (fun r35 x34 => ((¬ (r35 = (-1 : Int32)) → P (some (vi 0)) x34) ∧ (r35 = (-1 : Int32) → P (some (vi 1)) x34))))))))))))) ∧ ((r8 = 10) → KT G q d zk_X5_get 0 [(0, vr o), (1, vi l1), (2, vi 7)] [] x7 (ri (fun r39 x38 => ((¬ (r39 = (0 : Int32)) → P (some (vi 0)) x38) ∧ (r39 = (0 : Int32) → KT G q d zk_X5_get 0 [(0, vr o), (1, vi (x4.1 85 (r5 : Int32).toNatClampNeg)), (2, vi 0)] [] x38 (ri (fun r42 x41 => ((r42 < (2 : Int32) → P (some (vi 0)) x41) ∧ (¬ (r42 < (2 : Int32)) → KT G q d zk_X5_get 0 [(0, vr o), (1, vi (x4.1 85 (r5 : Int32).toNatClampNeg)), (2, vi 7)] [] x41 (ri (fun r45 x44 => ((¬ (r45 = (0 : Int32)) → P (some (vi 0)) x44) ∧ (r45 = (0 : Int32) → P (some (vi 1)) x44))))))))))))) ∧ ((∀ k ∈ [(0 : Int32), (12 : Int32), (13 : Int32), (14 : Int32), (1 : Int32), (5 : Int32), (15 : Int32), (10 : Int32)], ¬ r8 = k) → KT G q d zk_X5_get 0 [(0, vr o), (1, vi l1), (2, vi 7)] [] x7 (ri (fun r49 x48 => ((¬ (r49 = (0 : Int32)) → P (some (vi 0)) x48) ∧ (r49 = (0 : Int32) → P (some (vi 1)) x48))))))))))) ∧ (r2 = (0 : Int32) → P (some (vi 0)) x1))))) :
    KT G q (d + 1) zk_X5_canAct 0 [(0, vr o), (1, vi l1)] [] x P := by
  refine T_aload_n 0 (dk dtk_X5_canAct 0 rfl) rfl rfl ?_
  refine T_iload_n 1 (dk dtk_X5_canAct 1 rfl) rfl rfl ?_
  refine KC_Vi [vi l1] [] rfl (dk dtk_X5_canAct 2 rfl) kcv_X5_94 rfl (kk_M0 ho) rfl (kl_M0 hq ho) (Nat.le_of_ble_eq_true rfl) (Nat.le_of_ble_eq_true rfl) (gok_i (av_c (gkr (kl_M0 hq ho)) (av_c rfl av_n)) as_n) rfl h (fun r2 x1 h => ?_)
  refine T_if_ne 10 (dk dtk_X5_canAct 3 rfl) (by decide) (fun c3 => ?_) (fun c3 => ?_)
  · have h := h.1 c3
    refine T_aload_n 0 (dk dtk_X5_canAct 6 rfl) rfl rfl ?_
    refine T_iload_n 1 (dk dtk_X5_canAct 7 rfl) rfl rfl ?_
    refine T_iconst (v := 2) (dk dtk_X5_canAct 8 rfl) (by decide +kernel) ?_
    refine KC_Vi [vi l1, vi 2] [] rfl (dk dtk_X5_canAct 9 rfl) kcv_X5_90 rfl (kk_M0 ho) rfl (kl_M0 hq ho) (Nat.le_of_ble_eq_true rfl) (Nat.le_of_ble_eq_true rfl) (gok_i (av_c (gkr (kl_M0 hq ho)) (av_c rfl av_n)) as_n) rfl h (fun r5 x4 h => ?_)
    refine T_istore_n (lv2 := [(2, vi r5), (0, vr o), (1, vi l1)]) (dk dtk_X5_canAct 10 rfl) rfl (by decide) rfl ?_
    refine T_aload_n 1 (dk dtk_X5_canAct 11 rfl) rfl rfl ?_
    refine T_getR o 1 80 (dk dtk_X5_canAct 12 rfl) kfl_X5_21 (kk_M0 ho) (kl_M0 hq ho) (by decide) rfl (kr_M_1 ho) ?_
    refine T_getR 80 4 85 (dk dtk_X5_canAct 13 rfl) kfl_X5_136 kk_80 (kl_80 hq) (by decide) rfl kr_80_4 ?_
    refine T_iload_n 0 (dk dtk_X5_canAct 14 rfl) rfl rfl ?_
    obtain ⟨h6, h⟩ := h
    refine T_iald 85 400 (dk dtk_X5_canAct 15 rfl) kk_85 (kl_85 hq) h6 ?_
    refine T_istore_n (lv2 := [(3, vi (x4.1 85 (r5 : Int32).toNatClampNeg)), (2, vi r5), (0, vr o), (1, vi l1)]) (dk dtk_X5_canAct 16 rfl) rfl (by decide) rfl ?_
    refine T_aload_n 2 (dk dtk_X5_canAct 17 rfl) rfl rfl ?_
    refine T_iload_n 3 (dk dtk_X5_canAct 18 rfl) rfl rfl ?_
    refine KC_Vi [vi l1] [] rfl (dk dtk_X5_canAct 19 rfl) kcv_X5_130 rfl (kk_M0 ho) rfl (kl_M0 hq ho) (Nat.le_of_ble_eq_true rfl) (Nat.le_of_ble_eq_true rfl) (gok_i (av_c rfl (av_c rfl (av_c (gkr (kl_M0 hq ho)) (av_c rfl av_n)))) as_n) rfl h (fun r8 x7 h => ?_)
    by_cases c9 : r8 = 0 ∨ r8 = 12 ∨ r8 = 13 ∨ r8 = 14
    · have h := h.1 c9
      refine T_table 80 112 (dk dtk_X5_canAct 20 rfl) (by decide) (by rcases c9 with q9 | q9 | q9 | q9 <;> rw [q9] <;> decide +kernel) (by decide) ?_
      refine T_iconst (v := 1) (dk dtk_X5_canAct 21 rfl) (by decide +kernel) ?_
      exact KT_iret (dk dtk_X5_canAct 22 rfl) rfl rfl h
    · have h := h.2
      by_cases c10 : r8 = 1
      · have h := h.1 c10
        refine T_table 82 114 (dk dtk_X5_canAct 20 rfl) (by decide) (by rw [c10]; decide +kernel) (by decide) ?_
        refine T_aload_n 2 (dk dtk_X5_canAct 23 rfl) rfl rfl ?_
        refine T_iload_n 1 (dk dtk_X5_canAct 24 rfl) rfl rfl ?_
        refine T_sub (lv2 := [(0, vr o), (1, vi l1)]) [2, 3] rfl ?_
        refine KC_Vi [vi r5] [] rfl (dk dtk_X5_canAct 25 rfl) kcv_X5_166 rfl (kk_M0 ho) rfl (kl_M0 hq ho) (Nat.le_of_ble_eq_true rfl) (Nat.le_of_ble_eq_true rfl) (gok_i (av_c (gkr (kl_M0 hq ho)) (av_c rfl av_n)) as_n) rfl h (fun r12 x11 h => ?_)
        refine T_if_ne 132 (dk dtk_X5_canAct 26 rfl) (by decide) (fun c13 => ?_) (fun c13 => ?_)
        · have h := h.1 c13
          refine T_iconst (v := 1) (dk dtk_X5_canAct 32 rfl) (by decide +kernel) ?_
          refine T_goto 137 (dk dtk_X5_canAct 33 rfl) (by decide) ?_
          exact KT_iret (dk dtk_X5_canAct 35 rfl) rfl rfl h
        · have h := h.2 c13
          refine T_aload_n 0 (dk dtk_X5_canAct 27 rfl) rfl rfl ?_
          refine T_iload_n 1 (dk dtk_X5_canAct 28 rfl) rfl rfl ?_
          refine T_bipush (v := 7) (dk dtk_X5_canAct 29 rfl) (by decide +kernel) ?_
          refine T_sub (lv2 := []) [] rfl ?_
          refine KC_Vi [vi l1, vi 7] [] rfl (dk dtk_X5_canAct 30 rfl) kcv_X5_90 rfl (kk_M0 ho) rfl (kl_M0 hq ho) (Nat.le_of_ble_eq_true rfl) (Nat.le_of_ble_eq_true rfl) (gok_i av_n as_n) rfl h (fun r15 x14 h => ?_)
          refine T_if_ne 136 (dk dtk_X5_canAct 31 rfl) (by decide) (fun c16 => ?_) (fun c16 => ?_)
          · have h := h.1 c16
            refine T_iconst (v := 0) (dk dtk_X5_canAct 34 rfl) (by decide +kernel) ?_
            exact KT_iret (dk dtk_X5_canAct 35 rfl) rfl rfl h
          · have h := h.2 c16
            refine T_iconst (v := 1) (dk dtk_X5_canAct 32 rfl) (by decide +kernel) ?_
            refine T_goto 137 (dk dtk_X5_canAct 33 rfl) (by decide) ?_
            exact KT_iret (dk dtk_X5_canAct 35 rfl) rfl rfl h
      · have h := h.2
        by_cases c17 : r8 = 5
        · have h := h.1 c17
          refine T_table 106 138 (dk dtk_X5_canAct 20 rfl) (by decide) (by rw [c17]; decide +kernel) (by decide) ?_
          refine T_aload_n 2 (dk dtk_X5_canAct 36 rfl) rfl rfl ?_
          refine T_iload_n 3 (dk dtk_X5_canAct 37 rfl) rfl rfl ?_
          refine T_bipush (v := 7) (dk dtk_X5_canAct 38 rfl) (by decide +kernel) ?_
          refine T_sub (lv2 := [(3, vi (x4.1 85 (r5 : Int32).toNatClampNeg)), (0, vr o), (1, vi l1)]) [0, 2, 3] rfl ?_
          refine KC_Vi [vi l1, vi 7] [] rfl (dk dtk_X5_canAct 39 rfl) kcv_X5_90 rfl (kk_M0 ho) rfl (kl_M0 hq ho) (Nat.le_of_ble_eq_true rfl) (Nat.le_of_ble_eq_true rfl) (gok_i (av_c rfl (av_c (gkr (kl_M0 hq ho)) (av_c rfl av_n))) as_n) rfl h (fun r19 x18 h => ?_)
          refine T_if_ne 170 (dk dtk_X5_canAct 40 rfl) (by decide) (fun c20 => ?_) (fun c20 => ?_)
          · have h := h.1 c20
            refine T_iconst (v := 0) (dk dtk_X5_canAct 53 rfl) (by decide +kernel) ?_
            exact KT_iret (dk dtk_X5_canAct 54 rfl) rfl rfl h
          · have h := h.2 c20
            refine T_aload_n 1 (dk dtk_X5_canAct 41 rfl) rfl rfl ?_
            refine T_iload_n 0 (dk dtk_X5_canAct 42 rfl) rfl rfl ?_
            refine KC_Vi [vi (x4.1 85 (r5 : Int32).toNatClampNeg)] [] rfl (dk dtk_X5_canAct 43 rfl) kcv_X5_113 rfl (kk_M0 ho) rfl (kl_M0 hq ho) (Nat.le_of_ble_eq_true rfl) (Nat.le_of_ble_eq_true rfl) (gok_i (av_c rfl (av_c (gkr (kl_M0 hq ho)) (av_c rfl av_n))) as_n) rfl h (fun r22 x21 h => ?_)
            refine T_iconst (v := (-1)) (dk dtk_X5_canAct 44 rfl) (by decide +kernel) ?_
            refine T_icmp_eq 166 (dk dtk_X5_canAct 45 rfl) (by decide) (fun c23 => ?_) (fun c23 => ?_)
            · have h := h.1 c23
              refine T_iconst (v := 1) (dk dtk_X5_canAct 51 rfl) (by decide +kernel) ?_
              refine T_goto 171 (dk dtk_X5_canAct 52 rfl) (by decide) ?_
              exact KT_iret (dk dtk_X5_canAct 54 rfl) rfl rfl h
            · have h := h.2 c23
              refine T_aload_n 1 (dk dtk_X5_canAct 46 rfl) rfl rfl ?_
              refine T_iload_n 0 (dk dtk_X5_canAct 47 rfl) rfl rfl ?_
              refine T_sub (lv2 := [(1, vi l1)]) [2] rfl ?_
              refine KC_Vi [vi (x4.1 85 (r5 : Int32).toNatClampNeg)] [] rfl (dk dtk_X5_canAct 48 rfl) kcv_X5_113 rfl (kk_M0 ho) rfl (kl_M0 hq ho) (Nat.le_of_ble_eq_true rfl) (Nat.le_of_ble_eq_true rfl) (gok_i (av_c rfl av_n) as_n) rfl h (fun r25 x24 h => ?_)
              refine T_iload_n 0 (dk dtk_X5_canAct 49 rfl) rfl rfl ?_
              refine T_icmp_ne 170 (dk dtk_X5_canAct 50 rfl) (by decide) (fun c26 => ?_) (fun c26 => ?_)
              · have h := h.1 c26
                refine T_iconst (v := 0) (dk dtk_X5_canAct 53 rfl) (by decide +kernel) ?_
                exact KT_iret (dk dtk_X5_canAct 54 rfl) rfl rfl h
              · have h := h.2 c26
                refine T_iconst (v := 1) (dk dtk_X5_canAct 51 rfl) (by decide +kernel) ?_
                refine T_goto 171 (dk dtk_X5_canAct 52 rfl) (by decide) ?_
                exact KT_iret (dk dtk_X5_canAct 54 rfl) rfl rfl h
        · have h := h.2
          by_cases c27 : r8 = 15
          · have h := h.1 c27
            refine T_table 140 172 (dk dtk_X5_canAct 20 rfl) (by decide) (by rw [c27]; decide +kernel) (by decide) ?_
            refine T_aload_n 2 (dk dtk_X5_canAct 55 rfl) rfl rfl ?_
            refine T_iload_n 3 (dk dtk_X5_canAct 56 rfl) rfl rfl ?_
            refine T_bipush (v := 7) (dk dtk_X5_canAct 57 rfl) (by decide +kernel) ?_
            refine T_sub (lv2 := [(3, vi (x4.1 85 (r5 : Int32).toNatClampNeg)), (0, vr o), (1, vi l1)]) [0, 2, 3] rfl ?_
            refine KC_Vi [vi l1, vi 7] [] rfl (dk dtk_X5_canAct 58 rfl) kcv_X5_90 rfl (kk_M0 ho) rfl (kl_M0 hq ho) (Nat.le_of_ble_eq_true rfl) (Nat.le_of_ble_eq_true rfl) (gok_i (av_c rfl (av_c (gkr (kl_M0 hq ho)) (av_c rfl av_n))) as_n) rfl h (fun r29 x28 h => ?_)
            refine T_if_ne 205 (dk dtk_X5_canAct 59 rfl) (by decide) (fun c30 => ?_) (fun c30 => ?_)
            · have h := h.1 c30
              refine T_iconst (v := 0) (dk dtk_X5_canAct 73 rfl) (by decide +kernel) ?_
              exact KT_iret (dk dtk_X5_canAct 74 rfl) rfl rfl h
            · have h := h.2 c30
              refine T_aload_n 1 (dk dtk_X5_canAct 60 rfl) rfl rfl ?_
              refine T_iload_n 2 (dk dtk_X5_canAct 61 rfl) rfl rfl ?_
              refine T_iconst (v := 5) (dk dtk_X5_canAct 62 rfl) (by decide +kernel) ?_
              refine T_sub (lv2 := [(3, vi (x4.1 85 (r5 : Int32).toNatClampNeg)), (0, vr o)]) [0, 1] rfl ?_
              refine KC_Vi [vi l1, vi 5] [] rfl (dk dtk_X5_canAct 63 rfl) kcv_X5_90 rfl (kk_M0 ho) rfl (kl_M0 hq ho) (Nat.le_of_ble_eq_true rfl) (Nat.le_of_ble_eq_true rfl) (gok_i (av_c rfl (av_c (gkr (kl_M0 hq ho)) av_n)) as_n) rfl h (fun r32 x31 h => ?_)
              refine T_iconst (v := 1) (dk dtk_X5_canAct 64 rfl) (by decide +kernel) ?_
              refine T_icmp_ne 205 (dk dtk_X5_canAct 65 rfl) (by decide) (fun c33 => ?_) (fun c33 => ?_)
              · have h := h.1 c33
                refine T_iconst (v := 0) (dk dtk_X5_canAct 73 rfl) (by decide +kernel) ?_
                exact KT_iret (dk dtk_X5_canAct 74 rfl) rfl rfl h
              · have h := h.2 c33
                refine T_aload_n 1 (dk dtk_X5_canAct 66 rfl) rfl rfl ?_
                refine T_iload_n 0 (dk dtk_X5_canAct 67 rfl) rfl rfl ?_
                refine T_sub (lv2 := []) [] rfl ?_
                refine KC_Vi [vi (x4.1 85 (r5 : Int32).toNatClampNeg)] [] rfl (dk dtk_X5_canAct 68 rfl) kcv_X5_113 rfl (kk_M0 ho) rfl (kl_M0 hq ho) (Nat.le_of_ble_eq_true rfl) (Nat.le_of_ble_eq_true rfl) (gok_i av_n as_n) rfl h (fun r35 x34 h => ?_)
                refine T_iconst (v := (-1)) (dk dtk_X5_canAct 69 rfl) (by decide +kernel) ?_
                refine T_icmp_ne 205 (dk dtk_X5_canAct 70 rfl) (by decide) (fun c36 => ?_) (fun c36 => ?_)
                · have h := h.1 c36
                  refine T_iconst (v := 0) (dk dtk_X5_canAct 73 rfl) (by decide +kernel) ?_
                  exact KT_iret (dk dtk_X5_canAct 74 rfl) rfl rfl h
                · have h := h.2 c36
                  refine T_iconst (v := 1) (dk dtk_X5_canAct 71 rfl) (by decide +kernel) ?_
                  refine T_goto 206 (dk dtk_X5_canAct 72 rfl) (by decide) ?_
                  exact KT_iret (dk dtk_X5_canAct 74 rfl) rfl rfl h
          · have h := h.2
            by_cases c37 : r8 = 10
            · have h := h.1 c37
              refine T_table 175 207 (dk dtk_X5_canAct 20 rfl) (by decide) (by rw [c37]; decide +kernel) (by decide) ?_
              refine T_aload_n 2 (dk dtk_X5_canAct 75 rfl) rfl rfl ?_
              refine T_iload_n 3 (dk dtk_X5_canAct 76 rfl) rfl rfl ?_
              refine T_bipush (v := 7) (dk dtk_X5_canAct 77 rfl) (by decide +kernel) ?_
              refine T_sub (lv2 := [(3, vi (x4.1 85 (r5 : Int32).toNatClampNeg)), (0, vr o)]) [0, 2] rfl ?_
              refine KC_Vi [vi l1, vi 7] [] rfl (dk dtk_X5_canAct 78 rfl) kcv_X5_90 rfl (kk_M0 ho) rfl (kl_M0 hq ho) (Nat.le_of_ble_eq_true rfl) (Nat.le_of_ble_eq_true rfl) (gok_i (av_c rfl (av_c (gkr (kl_M0 hq ho)) av_n)) as_n) rfl h (fun r39 x38 h => ?_)
              refine T_if_ne 241 (dk dtk_X5_canAct 79 rfl) (by decide) (fun c40 => ?_) (fun c40 => ?_)
              · have h := h.1 c40
                refine T_iconst (v := 0) (dk dtk_X5_canAct 93 rfl) (by decide +kernel) ?_
                exact KT_iret (dk dtk_X5_canAct 94 rfl) rfl rfl h
              · have h := h.2 c40
                refine T_aload_n 1 (dk dtk_X5_canAct 80 rfl) rfl rfl ?_
                refine T_iload_n 0 (dk dtk_X5_canAct 81 rfl) rfl rfl ?_
                refine T_iconst (v := 0) (dk dtk_X5_canAct 82 rfl) (by decide +kernel) ?_
                refine KC_Vi [vi (x4.1 85 (r5 : Int32).toNatClampNeg), vi 0] [] rfl (dk dtk_X5_canAct 83 rfl) kcv_X5_90 rfl (kk_M0 ho) rfl (kl_M0 hq ho) (Nat.le_of_ble_eq_true rfl) (Nat.le_of_ble_eq_true rfl) (gok_i (av_c rfl (av_c (gkr (kl_M0 hq ho)) av_n)) as_n) rfl h (fun r42 x41 h => ?_)
                refine T_iconst (v := 2) (dk dtk_X5_canAct 84 rfl) (by decide +kernel) ?_
                refine T_icmp_lt 241 (dk dtk_X5_canAct 85 rfl) (by decide) (fun c43 => ?_) (fun c43 => ?_)
                · have h := h.1 c43
                  refine T_iconst (v := 0) (dk dtk_X5_canAct 93 rfl) (by decide +kernel) ?_
                  exact KT_iret (dk dtk_X5_canAct 94 rfl) rfl rfl h
                · have h := h.2 c43
                  refine T_aload_n 1 (dk dtk_X5_canAct 86 rfl) rfl rfl ?_
                  refine T_iload_n 0 (dk dtk_X5_canAct 87 rfl) rfl rfl ?_
                  refine T_bipush (v := 7) (dk dtk_X5_canAct 88 rfl) (by decide +kernel) ?_
                  refine T_sub (lv2 := []) [] rfl ?_
                  refine KC_Vi [vi (x4.1 85 (r5 : Int32).toNatClampNeg), vi 7] [] rfl (dk dtk_X5_canAct 89 rfl) kcv_X5_90 rfl (kk_M0 ho) rfl (kl_M0 hq ho) (Nat.le_of_ble_eq_true rfl) (Nat.le_of_ble_eq_true rfl) (gok_i av_n as_n) rfl h (fun r45 x44 h => ?_)
                  refine T_if_ne 241 (dk dtk_X5_canAct 90 rfl) (by decide) (fun c46 => ?_) (fun c46 => ?_)
                  · have h := h.1 c46
                    refine T_iconst (v := 0) (dk dtk_X5_canAct 93 rfl) (by decide +kernel) ?_
                    exact KT_iret (dk dtk_X5_canAct 94 rfl) rfl rfl h
                  · have h := h.2 c46
                    refine T_iconst (v := 1) (dk dtk_X5_canAct 91 rfl) (by decide +kernel) ?_
                    refine T_goto 242 (dk dtk_X5_canAct 92 rfl) (by decide) ?_
                    exact KT_iret (dk dtk_X5_canAct 94 rfl) rfl rfl h
            · have h := h.2
              have n47 : ∀ k ∈ [(0 : Int32), (12 : Int32), (13 : Int32), (14 : Int32), (1 : Int32), (5 : Int32), (15 : Int32), (10 : Int32)], ¬ r8 = k := (gno (fun q9 => c9 (Or.inl q9)) (gno (fun q9 => c9 (Or.inr (Or.inl q9))) (gno (fun q9 => c9 (Or.inr (Or.inr (Or.inl q9)))) (gno (fun q9 => c9 (Or.inr (Or.inr (Or.inr (q9))))) (gno c10 (gno c17 (gno c27 (gno c37 gno0))))))))
              have h := h n47
              refine T_table 211 243 (dk dtk_X5_canAct 20 rfl) (by decide) (gtab_d [(0 : Int32), (12 : Int32), (13 : Int32), (14 : Int32), (1 : Int32), (5 : Int32), (15 : Int32), (10 : Int32)] (by decide +kernel) n47) (by decide) ?_
              refine T_aload_n 2 (dk dtk_X5_canAct 95 rfl) rfl rfl ?_
              refine T_iload_n 3 (dk dtk_X5_canAct 96 rfl) rfl rfl ?_
              refine T_bipush (v := 7) (dk dtk_X5_canAct 97 rfl) (by decide +kernel) ?_
              refine T_sub (lv2 := []) [] rfl ?_
              refine KC_Vi [vi l1, vi 7] [] rfl (dk dtk_X5_canAct 98 rfl) kcv_X5_90 rfl (kk_M0 ho) rfl (kl_M0 hq ho) (Nat.le_of_ble_eq_true rfl) (Nat.le_of_ble_eq_true rfl) (gok_i av_n as_n) rfl h (fun r49 x48 h => ?_)
              refine T_if_ne 257 (dk dtk_X5_canAct 99 rfl) (by decide) (fun c50 => ?_) (fun c50 => ?_)
              · have h := h.1 c50
                refine T_iconst (v := 0) (dk dtk_X5_canAct 102 rfl) (by decide +kernel) ?_
                exact KT_iret (dk dtk_X5_canAct 103 rfl) rfl rfl h
              · have h := h.2 c50
                refine T_iconst (v := 1) (dk dtk_X5_canAct 100 rfl) (by decide +kernel) ?_
                refine T_goto 258 (dk dtk_X5_canAct 101 rfl) (by decide) ?_
                exact KT_iret (dk dtk_X5_canAct 103 rfl) rfl rfl h
  · have h := h.2 c3
    refine T_iconst (v := 0) (dk dtk_X5_canAct 4 rfl) (by decide +kernel) ?_
    exact KT_iret (dk dtk_X5_canAct 5 rfl) rfl rfl h
set_option maxRecDepth 100000 in
theorem dtk_X5_listChoices : dck cX5_listChoices [(0, .aload_n 0, 1), (1, .iconst 0, 1), (2, .putfield 98, 3), (5, .iconst 0, 1), (6, .istore_n 1, 1), (7, .iload_n 1, 1), (8, .aload_n 0, 1), (9, .getfield 11, 3), (12, .getfield 67, 3), (15, .if_icmp .ge 57, 3), (18, .aload_n 0, 1), (19, .iload_n 1, 1), (20, .invokevirtual 169, 3), (23, .ifCond .eq 8, 3), (26, .aload_n 0, 1), (27, .iload_n 1, 1), (28, .invokevirtual 172, 3), (31, .iconst 0, 1), (32, .istore_n 2, 1), (33, .iload_n 2, 1), (34, .aload_n 0, 1), (35, .iload_n 1, 1), (36, .bipush 7, 2), (38, .invokevirtual 90, 3), (41, .if_icmp .ge 25, 3), (44, .aload_n 0, 1), (45, .iload_n 1, 1), (46, .iload_n 2, 1), (47, .invokevirtual 175, 3), (50, .ifCond .eq 10, 3), (53, .aload_n 0, 1), (54, .iload_n 1, 1), (55, .iload_n 2, 1), (56, .iconst (-1), 1), (57, .invokevirtual 179, 3), (60, .iinc 2 1, 3), (63, .goto (-30), 3), (66, .iinc 1 1, 3), (69, .goto (-62), 3), (72, .return_, 1)] = true := by decide +kernel
set_option maxRecDepth 100000 in
set_option maxHeartbeats 4000000 in
theorem kg_X5_listChoices_0 {G : kG} {q : kP} {d : Nat} {x : gd} {P : Option gv → gd → Prop} (hq : kV q) {o : Nat} (ho : kiM q o)
    (h : (∀ x1 : gd, x1 = si x o 13 0 → KT G q (d + 1) zk_X5_listChoices 7 [(0, vr o), (1, vi 0)] [] x1 P)) :
    KT G q (d + 1) zk_X5_listChoices 0 [(0, vr o)] [] x P := by
  refine T_aload_n 0 (dk dtk_X5_listChoices 0 rfl) rfl rfl ?_
  refine T_iconst (v := 0) (dk dtk_X5_listChoices 1 rfl) (by decide +kernel) ?_
  obtain ⟨x1, ex1⟩ : ∃ z, z = si x o 13 0 := ⟨_, rfl⟩
  have h := h x1 ex1
  refine T_putI o 13 (dk dtk_X5_listChoices 2 rfl) kfl_X5_98 (kk_M0 ho) (kl_M0 hq ho) (by decide) rfl ⟨rfl, rfl⟩ ?_
  rw [← ex1]
  refine T_iconst (v := 0) (dk dtk_X5_listChoices 3 rfl) (by decide +kernel) ?_
  refine T_istore_n (lv2 := [(1, vi 0), (0, vr o)]) (dk dtk_X5_listChoices 4 rfl) rfl (by decide) rfl ?_
  exact T_sub [1, 0] rfl h
set_option maxRecDepth 100000 in
set_option maxHeartbeats 4000000 in
theorem kg_X5_listChoices_7 {G : kG} {q : kP} {d : Nat} {x : gd} {P : Option gv → gd → Prop} (hq : kV q) {o : Nat} (ho : kiM q o) (l1 : Int32)
    (h : (((x.1 60 10) ≤ l1 → P none x) ∧ (¬ ((x.1 60 10) ≤ l1) → KT G q d zk_X5_canAct 0 [(0, vr o), (1, vi l1)] [] x (ri (fun r3 x2 => ((r3 = (0 : Int32) → KT G q (d + 1) zk_X5_listChoices 33 [(0, vr o), (1, vi l1), (2, vi 0)] [] x2 P) ∧ (¬ (r3 = (0 : Int32)) → KT G q d zk_X5_listAct 0 [(0, vr o), (1, vi l1)] [] x2 (rv (fun x5 => KT G q (d + 1) zk_X5_listChoices 33 [(0, vr o), (1, vi l1), (2, vi 0)] [] x5 P))))))))) :
    KT G q (d + 1) zk_X5_listChoices 7 [(0, vr o), (1, vi l1)] [] x P := by
  refine T_iload_n 1 (dk dtk_X5_listChoices 5 rfl) rfl rfl ?_
  refine T_aload_n 0 (dk dtk_X5_listChoices 6 rfl) rfl rfl ?_
  refine T_getR o 0 60 (dk dtk_X5_listChoices 7 rfl) kfl_X5_11 (kk_M0 ho) (kl_M0 hq ho) (by decide) rfl (kr_M_0 ho) ?_
  refine T_getI 60 10 (dk dtk_X5_listChoices 8 rfl) kfl_X5_67 kk_60 (kl_60 hq) (by decide) rfl ?_
  refine T_icmp_ge 72 (dk dtk_X5_listChoices 9 rfl) (by decide) (fun c1 => ?_) (fun c1 => ?_)
  · have h := h.1 c1
    exact KT_vret (dk dtk_X5_listChoices 39 rfl) rfl h
  · have h := h.2 c1
    refine T_aload_n 0 (dk dtk_X5_listChoices 10 rfl) rfl rfl ?_
    refine T_iload_n 1 (dk dtk_X5_listChoices 11 rfl) rfl rfl ?_
    refine KC_Vi [vi l1] [] rfl (dk dtk_X5_listChoices 12 rfl) kcv_X5_169 rfl (kk_M0 ho) rfl (kl_M0 hq ho) (Nat.le_of_ble_eq_true rfl) (Nat.le_of_ble_eq_true rfl) (gok_i (av_c (gkr (kl_M0 hq ho)) (av_c rfl av_n)) as_n) rfl h (fun r3 x2 h => ?_)
    refine T_if_eq 31 (dk dtk_X5_listChoices 13 rfl) (by decide) (fun c4 => ?_) (fun c4 => ?_)
    · have h := h.1 c4
      refine T_iconst (v := 0) (dk dtk_X5_listChoices 17 rfl) (by decide +kernel) ?_
      refine T_istore_n (lv2 := [(2, vi 0), (0, vr o), (1, vi l1)]) (dk dtk_X5_listChoices 18 rfl) rfl (by decide) rfl ?_
      exact T_sub [1, 2, 0] rfl h
    · have h := h.2 c4
      refine T_aload_n 0 (dk dtk_X5_listChoices 14 rfl) rfl rfl ?_
      refine T_iload_n 1 (dk dtk_X5_listChoices 15 rfl) rfl rfl ?_
      refine KC_Vv [vi l1] [] rfl (dk dtk_X5_listChoices 16 rfl) kcv_X5_172 rfl (kk_M0 ho) rfl (kl_M0 hq ho) (Nat.le_of_ble_eq_true rfl) (Nat.le_of_ble_eq_true rfl) (gok_i (av_c (gkr (kl_M0 hq ho)) (av_c rfl av_n)) as_n) rfl h (fun x5 h => ?_)
      refine T_iconst (v := 0) (dk dtk_X5_listChoices 17 rfl) (by decide +kernel) ?_
      refine T_istore_n (lv2 := [(2, vi 0), (0, vr o), (1, vi l1)]) (dk dtk_X5_listChoices 18 rfl) rfl (by decide) rfl ?_
      exact T_sub [1, 2, 0] rfl h
set_option maxRecDepth 100000 in
set_option maxHeartbeats 4000000 in
theorem kg_X5_listChoices_33 {G : kG} {q : kP} {d : Nat} {x : gd} {P : Option gv → gd → Prop} (hq : kV q) {o : Nat} (ho : kiM q o) (l1 : Int32) (l2 : Int32)
    (h : KT G q d zk_X5_get 0 [(0, vr o), (1, vi l1), (2, vi 7)] [] x (ri (fun r2 x1 => ((r2 ≤ l2 → KT G q (d + 1) zk_X5_listChoices 7 [(0, vr o), (1, vi (l1 + 1))] [] x1 P) ∧ (¬ (r2 ≤ l2) → KT G q d zk_X5_isFirstOfCell 0 [(0, vr o), (1, vi l1), (2, vi l2)] [] x1 (ri (fun r5 x4 => ((r5 = (0 : Int32) → KT G q (d + 1) zk_X5_listChoices 33 [(0, vr o), (1, vi l1), (2, vi (l2 + 1))] [] x4 P) ∧ (¬ (r5 = (0 : Int32)) → KT G q d zk_X5_list 0 [(0, vr o), (1, vi l1), (2, vi l2), (3, vi (-1))] [] x4 (rv (fun x7 => KT G q (d + 1) zk_X5_listChoices 33 [(0, vr o), (1, vi l1), (2, vi (l2 + 1))] [] x7 P))))))))))) :
    KT G q (d + 1) zk_X5_listChoices 33 [(0, vr o), (1, vi l1), (2, vi l2)] [] x P := by
  refine T_iload_n 2 (dk dtk_X5_listChoices 19 rfl) rfl rfl ?_
  refine T_aload_n 0 (dk dtk_X5_listChoices 20 rfl) rfl rfl ?_
  refine T_iload_n 1 (dk dtk_X5_listChoices 21 rfl) rfl rfl ?_
  refine T_bipush (v := 7) (dk dtk_X5_listChoices 22 rfl) (by decide +kernel) ?_
  refine KC_Vi [vi l1, vi 7] [vi l2] rfl (dk dtk_X5_listChoices 23 rfl) kcv_X5_90 rfl (kk_M0 ho) rfl (kl_M0 hq ho) (Nat.le_of_ble_eq_true rfl) (Nat.le_of_ble_eq_true rfl) (gok_i (av_c (gkr (kl_M0 hq ho)) (av_c rfl (av_c rfl av_n))) (as_c rfl as_n)) rfl h (fun r2 x1 h => ?_)
  refine T_icmp_ge 66 (dk dtk_X5_listChoices 24 rfl) (by decide) (fun c3 => ?_) (fun c3 => ?_)
  · have h := h.1 c3
    refine T_iinc (v := l1 + 1) (lv2 := [(1, vi (l1 + 1)), (0, vr o), (2, vi l2)]) 1 (dk dtk_X5_listChoices 37 rfl) rfl rfl (by decide) rfl ?_
    refine T_goto 7 (dk dtk_X5_listChoices 38 rfl) (by decide) ?_
    exact T_sub [1, 0] rfl h
  · have h := h.2 c3
    refine T_aload_n 0 (dk dtk_X5_listChoices 25 rfl) rfl rfl ?_
    refine T_iload_n 1 (dk dtk_X5_listChoices 26 rfl) rfl rfl ?_
    refine T_iload_n 2 (dk dtk_X5_listChoices 27 rfl) rfl rfl ?_
    refine KC_Vi [vi l1, vi l2] [] rfl (dk dtk_X5_listChoices 28 rfl) kcv_X5_175 rfl (kk_M0 ho) rfl (kl_M0 hq ho) (Nat.le_of_ble_eq_true rfl) (Nat.le_of_ble_eq_true rfl) (gok_i (av_c (gkr (kl_M0 hq ho)) (av_c rfl (av_c rfl av_n))) as_n) rfl h (fun r5 x4 h => ?_)
    refine T_if_eq 60 (dk dtk_X5_listChoices 29 rfl) (by decide) (fun c6 => ?_) (fun c6 => ?_)
    · have h := h.1 c6
      refine T_iinc (v := l2 + 1) (lv2 := [(2, vi (l2 + 1)), (0, vr o), (1, vi l1)]) 2 (dk dtk_X5_listChoices 35 rfl) rfl rfl (by decide) rfl ?_
      refine T_goto 33 (dk dtk_X5_listChoices 36 rfl) (by decide) ?_
      exact T_sub [1, 2, 0] rfl h
    · have h := h.2 c6
      refine T_aload_n 0 (dk dtk_X5_listChoices 30 rfl) rfl rfl ?_
      refine T_iload_n 1 (dk dtk_X5_listChoices 31 rfl) rfl rfl ?_
      refine T_iload_n 2 (dk dtk_X5_listChoices 32 rfl) rfl rfl ?_
      refine T_iconst (v := (-1)) (dk dtk_X5_listChoices 33 rfl) (by decide +kernel) ?_
      refine KC_Vv [vi l1, vi l2, vi (-1)] [] rfl (dk dtk_X5_listChoices 34 rfl) kcv_X5_179 rfl (kk_M0 ho) rfl (kl_M0 hq ho) (Nat.le_of_ble_eq_true rfl) (Nat.le_of_ble_eq_true rfl) (gok_i (av_c (gkr (kl_M0 hq ho)) (av_c rfl (av_c rfl av_n))) as_n) rfl h (fun x7 h => ?_)
      refine T_iinc (v := l2 + 1) (lv2 := [(2, vi (l2 + 1)), (0, vr o), (1, vi l1)]) 2 (dk dtk_X5_listChoices 35 rfl) rfl rfl (by decide) rfl ?_
      refine T_goto 33 (dk dtk_X5_listChoices 36 rfl) (by decide) ?_
      exact T_sub [1, 2, 0] rfl h
set_option maxRecDepth 100000 in
theorem dtk_X5_list : dck cX5_list [(0, .aload_n 0, 1), (1, .getfield 98, 3), (4, .bipush 84, 2), (6, .if_icmp .ge 43, 3), (9, .aload_n 0, 1), (10, .getfield 33, 3), (13, .aload_n 0, 1), (14, .getfield 98, 3), (17, .iload_n 1, 1), (18, .iastore, 1), (19, .aload_n 0, 1), (20, .getfield 36, 3), (23, .aload_n 0, 1), (24, .getfield 98, 3), (27, .iload_n 2, 1), (28, .iastore, 1), (29, .aload_n 0, 1), (30, .getfield 39, 3), (33, .aload_n 0, 1), (34, .getfield 98, 3), (37, .iload_n 3, 1), (38, .iastore, 1), (39, .aload_n 0, 1), (40, .dup, 1), (41, .getfield 98, 3), (44, .iconst 1, 1), (45, .iadd, 1), (46, .putfield 98, 3), (49, .return_, 1)] = true := by decide +kernel
set_option maxRecDepth 100000 in
set_option maxHeartbeats 4000000 in
theorem kg_X5_list_0 {G : kG} {q : kP} {d : Nat} {x : gd} {P : Option gv → gd → Prop} (hq : kV q) {o : Nat} (ho : kiM q o) (l1 : Int32) (l2 : Int32) (l3 : Int32)
    (h : (((84 : Int32) ≤ (x.1 o 13) → P none x) ∧ (¬ ((84 : Int32) ≤ (x.1 o 13)) → vp_in (x.1 o 13) 84 ∧ (∀ x3 : gd, x3 = si x (o + 11) (x.1 o 13 : Int32).toNatClampNeg l1 → vp_in (x3.1 o 13) 84 ∧ (∀ x5 : gd, x5 = si x3 (o + 12) (x3.1 o 13 : Int32).toNatClampNeg l2 → vp_in (x5.1 o 13) 84 ∧ (∀ x7 : gd, x7 = si x5 (o + 13) (x5.1 o 13 : Int32).toNatClampNeg l3 → (∀ x8 : gd, x8 = si x7 o 13 ((x7.1 o 13) + 1) → P none x8))))))) :
    KT G q d zk_X5_list 0 [(0, vr o), (1, vi l1), (2, vi l2), (3, vi l3)] [] x P := by
  refine T_aload_n 0 (dk dtk_X5_list 0 rfl) rfl rfl ?_
  refine T_getI o 13 (dk dtk_X5_list 1 rfl) kfl_X5_98 (kk_M0 ho) (kl_M0 hq ho) (by decide) rfl ?_
  refine T_bipush (v := 84) (dk dtk_X5_list 2 rfl) (by decide +kernel) ?_
  refine T_icmp_ge 49 (dk dtk_X5_list 3 rfl) (by decide) (fun c1 => ?_) (fun c1 => ?_)
  · have h := h.1 c1
    exact KT_vret (dk dtk_X5_list 28 rfl) rfl h
  · have h := h.2 c1
    refine T_aload_n 0 (dk dtk_X5_list 4 rfl) rfl rfl ?_
    refine T_getR o 10 (o + 11) (dk dtk_X5_list 5 rfl) kfl_X5_33 (kk_M0 ho) (kl_M0 hq ho) (by decide) rfl (kr_M_10 ho) ?_
    refine T_aload_n 0 (dk dtk_X5_list 6 rfl) rfl rfl ?_
    refine T_getI o 13 (dk dtk_X5_list 7 rfl) kfl_X5_98 (kk_M0 ho) (kl_M0 hq ho) (by decide) rfl ?_
    refine T_iload_n 1 (dk dtk_X5_list 8 rfl) rfl rfl ?_
    obtain ⟨h2, h⟩ := h
    obtain ⟨x3, ex3⟩ : ∃ z, z = si x (o + 11) (x.1 o 13 : Int32).toNatClampNeg l1 := ⟨_, rfl⟩
    have h := h x3 ex3
    refine T_iast (o + 11) 84 (dk dtk_X5_list 9 rfl) (kk_M11 ho) (kl_M11 hq ho) h2 ?_
    rw [← ex3]
    refine T_aload_n 0 (dk dtk_X5_list 10 rfl) rfl rfl ?_
    refine T_getR o 11 (o + 12) (dk dtk_X5_list 11 rfl) kfl_X5_36 (kk_M0 ho) (kl_M0 hq ho) (by decide) rfl (kr_M_11 ho) ?_
    refine T_aload_n 0 (dk dtk_X5_list 12 rfl) rfl rfl ?_
    refine T_getI o 13 (dk dtk_X5_list 13 rfl) kfl_X5_98 (kk_M0 ho) (kl_M0 hq ho) (by decide) rfl ?_
    refine T_iload_n 2 (dk dtk_X5_list 14 rfl) rfl rfl ?_
    obtain ⟨h4, h⟩ := h
    obtain ⟨x5, ex5⟩ : ∃ z, z = si x3 (o + 12) (x3.1 o 13 : Int32).toNatClampNeg l2 := ⟨_, rfl⟩
    have h := h x5 ex5
    refine T_iast (o + 12) 84 (dk dtk_X5_list 15 rfl) (kk_M12 ho) (kl_M12 hq ho) h4 ?_
    rw [← ex5]
    refine T_aload_n 0 (dk dtk_X5_list 16 rfl) rfl rfl ?_
    refine T_getR o 12 (o + 13) (dk dtk_X5_list 17 rfl) kfl_X5_39 (kk_M0 ho) (kl_M0 hq ho) (by decide) rfl (kr_M_12 ho) ?_
    refine T_aload_n 0 (dk dtk_X5_list 18 rfl) rfl rfl ?_
    refine T_getI o 13 (dk dtk_X5_list 19 rfl) kfl_X5_98 (kk_M0 ho) (kl_M0 hq ho) (by decide) rfl ?_
    refine T_iload_n 3 (dk dtk_X5_list 20 rfl) rfl rfl ?_
    obtain ⟨h6, h⟩ := h
    obtain ⟨x7, ex7⟩ : ∃ z, z = si x5 (o + 13) (x5.1 o 13 : Int32).toNatClampNeg l3 := ⟨_, rfl⟩
    have h := h x7 ex7
    refine T_iast (o + 13) 84 (dk dtk_X5_list 21 rfl) (kk_M13 ho) (kl_M13 hq ho) h6 ?_
    rw [← ex7]
    refine T_aload_n 0 (dk dtk_X5_list 22 rfl) rfl rfl ?_
    refine T_dup (dk dtk_X5_list 23 rfl) rfl ?_
    refine T_getI o 13 (dk dtk_X5_list 24 rfl) kfl_X5_98 (kk_M0 ho) (kl_M0 hq ho) (by decide) rfl ?_
    refine T_iconst (v := 1) (dk dtk_X5_list 25 rfl) (by decide +kernel) ?_
    refine T_iadd (dk dtk_X5_list 26 rfl) ?_
    obtain ⟨x8, ex8⟩ : ∃ z, z = si x7 o 13 ((x7.1 o 13) + 1) := ⟨_, rfl⟩
    have h := h x8 ex8
    refine T_putI o 13 (dk dtk_X5_list 27 rfl) kfl_X5_98 (kk_M0 ho) (kl_M0 hq ho) (by decide) rfl ⟨rfl, rfl⟩ ?_
    rw [← ex8]
    exact KT_vret (dk dtk_X5_list 28 rfl) rfl h
set_option maxRecDepth 100000 in
theorem dtk_X5_listAct : dck cX5_listAct [(0, .aload_n 0, 1), (1, .iload_n 1, 1), (2, .iconst 2, 1), (3, .invokevirtual 90, 3), (6, .istore_n 2, 1), (7, .aload_n 0, 1), (8, .getfield 21, 3), (11, .getfield 136, 3), (14, .iload_n 2, 1), (15, .iaload, 1), (16, .istore_n 3, 1), (17, .aload_n 0, 1), (18, .iload_n 1, 1), (19, .invokevirtual 130, 3), (22, .bipush 8, 2), (24, .if_icmp .ne 33, 3), (27, .aload_n 0, 1), (28, .getfield 21, 3), (31, .getfield 182, 3), (34, .iload_n 2, 1), (35, .iaload, 1), (36, .iconst 1, 1), (37, .if_icmp .eq 20, 3), (40, .aload_n 0, 1), (41, .iload_n 3, 1), (42, .invokevirtual 113, 3), (45, .iload_n 1, 1), (46, .if_icmp .ne 11, 3), (49, .aload_n 0, 1), (50, .iload_n 3, 1), (51, .invokevirtual 185, 3), (54, .ifCond .ne 11, 3), (57, .aload_n 0, 1), (58, .iload_n 1, 1), (59, .iconst (-1), 1), (60, .iconst (-1), 1), (61, .invokevirtual 179, 3), (64, .return_, 1), (65, .aload_n 0, 1), (66, .iload_n 3, 1), (67, .invokevirtual 185, 3), (70, .istore 4, 2), (72, .iconst 0, 1), (73, .istore 5, 2), (75, .iload 5, 2), (77, .aload_n 0, 1), (78, .getfield 11, 3), (81, .getfield 67, 3), (84, .if_icmp .ge 28, 3), (87, .iload 4, 2), (89, .iload 5, 2), (91, .ishr, 1), (92, .iconst 1, 1), (93, .iand, 1), (94, .iconst 1, 1), (95, .if_icmp .ne 11, 3), (98, .aload_n 0, 1), (99, .iload_n 1, 1), (100, .iconst (-1), 1), (101, .iload 5, 2), (103, .invokevirtual 179, 3), (106, .iinc 5 1, 3), (109, .goto (-34), 3), (112, .return_, 1)] = true := by decide +kernel
set_option maxRecDepth 100000 in
set_option maxHeartbeats 4000000 in
theorem kg_X5_listAct_0 {G : kG} {q : kP} {d : Nat} {x : gd} {P : Option gv → gd → Prop} (hq : kV q) {o : Nat} (ho : kiM q o) (l1 : Int32)
    (h : KT G q d zk_X5_get 0 [(0, vr o), (1, vi l1), (2, vi 2)] [] x (ri (fun r2 x1 => vp_in r2 400 ∧ KT G q d zk_X5_sortOf 0 [(0, vr o), (1, vi l1)] [] x1 (ri (fun r5 x4 => ((¬ (r5 = (8 : Int32)) → KT G q (d + 1) zk_X5_listAct 57 [(0, vr o), (1, vi l1)] [] x4 P) ∧ (r5 = (8 : Int32) → vp_in r2 400 ∧ (((x4.1 84 (r2 : Int32).toNatClampNeg) = (1 : Int32) → KT G q (d + 1) zk_X5_listAct 57 [(0, vr o), (1, vi l1)] [] x4 P) ∧ (¬ ((x4.1 84 (r2 : Int32).toNatClampNeg) = (1 : Int32)) → KT G q d zk_X5_holder 0 [(0, vr o), (1, vi (x1.1 85 (r2 : Int32).toNatClampNeg))] [] x4 (ri (fun r10 x9 => ((¬ (r10 = l1) → KT G q (d + 1) zk_X5_listAct 57 [(0, vr o), (1, vi l1)] [] x9 P) ∧ (r10 = l1 → KT G q d zk_X5_waiters 0 [(0, vr o), (1, vi (x1.1 85 (r2 : Int32).toNatClampNeg))] [] x9 (ri (fun r13 x12 => ((¬ (r13 = (0 : Int32)) → KT G q d zk_X5_waiters 0 [(0, vr o), (1, vi (x1.1 85 (r2 : Int32).toNatClampNeg))] [] x12 (ri (fun r16 x15 => KT G q (d + 1) zk_X5_listAct 75 [(0, vr o), (1, vi l1), (4, vi r16), (5, vi 0)] [] x15 P))) ∧ (r13 = (0 : Int32) → KT G q (d + 1) zk_X5_listAct 57 [(0, vr o), (1, vi l1)] [] x12 P))))))))))))))))) :
    KT G q (d + 1) zk_X5_listAct 0 [(0, vr o), (1, vi l1)] [] x P := by
  refine T_aload_n 0 (dk dtk_X5_listAct 0 rfl) rfl rfl ?_
  refine T_iload_n 1 (dk dtk_X5_listAct 1 rfl) rfl rfl ?_
  refine T_iconst (v := 2) (dk dtk_X5_listAct 2 rfl) (by decide +kernel) ?_
  refine KC_Vi [vi l1, vi 2] [] rfl (dk dtk_X5_listAct 3 rfl) kcv_X5_90 rfl (kk_M0 ho) rfl (kl_M0 hq ho) (Nat.le_of_ble_eq_true rfl) (Nat.le_of_ble_eq_true rfl) (gok_i (av_c (gkr (kl_M0 hq ho)) (av_c rfl av_n)) as_n) rfl h (fun r2 x1 h => ?_)
  refine T_istore_n (lv2 := [(2, vi r2), (0, vr o), (1, vi l1)]) (dk dtk_X5_listAct 4 rfl) rfl (by decide) rfl ?_
  refine T_aload_n 1 (dk dtk_X5_listAct 5 rfl) rfl rfl ?_
  refine T_getR o 1 80 (dk dtk_X5_listAct 6 rfl) kfl_X5_21 (kk_M0 ho) (kl_M0 hq ho) (by decide) rfl (kr_M_1 ho) ?_
  refine T_getR 80 4 85 (dk dtk_X5_listAct 7 rfl) kfl_X5_136 kk_80 (kl_80 hq) (by decide) rfl kr_80_4 ?_
  refine T_iload_n 0 (dk dtk_X5_listAct 8 rfl) rfl rfl ?_
  obtain ⟨h3, h⟩ := h
  refine T_iald 85 400 (dk dtk_X5_listAct 9 rfl) kk_85 (kl_85 hq) h3 ?_
  refine T_istore_n (lv2 := [(3, vi (x1.1 85 (r2 : Int32).toNatClampNeg)), (2, vi r2), (0, vr o), (1, vi l1)]) (dk dtk_X5_listAct 10 rfl) rfl (by decide) rfl ?_
  refine T_aload_n 2 (dk dtk_X5_listAct 11 rfl) rfl rfl ?_
  refine T_iload_n 3 (dk dtk_X5_listAct 12 rfl) rfl rfl ?_
  refine KC_Vi [vi l1] [] rfl (dk dtk_X5_listAct 13 rfl) kcv_X5_130 rfl (kk_M0 ho) rfl (kl_M0 hq ho) (Nat.le_of_ble_eq_true rfl) (Nat.le_of_ble_eq_true rfl) (gok_i (av_c rfl (av_c rfl (av_c (gkr (kl_M0 hq ho)) (av_c rfl av_n)))) as_n) rfl h (fun r5 x4 h => ?_)
  refine T_bipush (v := 8) (dk dtk_X5_listAct 14 rfl) (by decide +kernel) ?_
  refine T_icmp_ne 57 (dk dtk_X5_listAct 15 rfl) (by decide) (fun c6 => ?_) (fun c6 => ?_)
  · have h := h.1 c6
    exact T_sub [2, 3] rfl h
  · have h := h.2 c6
    refine T_aload_n 2 (dk dtk_X5_listAct 16 rfl) rfl rfl ?_
    refine T_getR o 1 80 (dk dtk_X5_listAct 17 rfl) kfl_X5_21 (kk_M0 ho) (kl_M0 hq ho) (by decide) rfl (kr_M_1 ho) ?_
    refine T_getR 80 3 84 (dk dtk_X5_listAct 18 rfl) kfl_X5_182 kk_80 (kl_80 hq) (by decide) rfl kr_80_3 ?_
    refine T_iload_n 1 (dk dtk_X5_listAct 19 rfl) rfl rfl ?_
    obtain ⟨h7, h⟩ := h
    refine T_iald 84 400 (dk dtk_X5_listAct 20 rfl) kk_84 (kl_84 hq) h7 ?_
    refine T_iconst (v := 1) (dk dtk_X5_listAct 21 rfl) (by decide +kernel) ?_
    refine T_icmp_eq 57 (dk dtk_X5_listAct 22 rfl) (by decide) (fun c8 => ?_) (fun c8 => ?_)
    · have h := h.1 c8
      exact T_sub [2, 3] rfl h
    · have h := h.2 c8
      refine T_aload_n 2 (dk dtk_X5_listAct 23 rfl) rfl rfl ?_
      refine T_iload_n 0 (dk dtk_X5_listAct 24 rfl) rfl rfl ?_
      refine T_sub (lv2 := [(3, vi (x1.1 85 (r2 : Int32).toNatClampNeg)), (0, vr o), (1, vi l1)]) [0, 2, 3] rfl ?_
      refine KC_Vi [vi (x1.1 85 (r2 : Int32).toNatClampNeg)] [] rfl (dk dtk_X5_listAct 25 rfl) kcv_X5_113 rfl (kk_M0 ho) rfl (kl_M0 hq ho) (Nat.le_of_ble_eq_true rfl) (Nat.le_of_ble_eq_true rfl) (gok_i (av_c rfl (av_c (gkr (kl_M0 hq ho)) (av_c rfl av_n))) as_n) rfl h (fun r10 x9 h => ?_)
      refine T_iload_n 2 (dk dtk_X5_listAct 26 rfl) rfl rfl ?_
      refine T_icmp_ne 57 (dk dtk_X5_listAct 27 rfl) (by decide) (fun c11 => ?_) (fun c11 => ?_)
      · have h := h.1 c11
        exact T_sub [1, 2] rfl h
      · have h := h.2 c11
        refine T_aload_n 1 (dk dtk_X5_listAct 28 rfl) rfl rfl ?_
        refine T_iload_n 0 (dk dtk_X5_listAct 29 rfl) rfl rfl ?_
        refine KC_Vi [vi (x1.1 85 (r2 : Int32).toNatClampNeg)] [] rfl (dk dtk_X5_listAct 30 rfl) kcv_X5_185 rfl (kk_M0 ho) rfl (kl_M0 hq ho) (Nat.le_of_ble_eq_true rfl) (Nat.le_of_ble_eq_true rfl) (gok_i (av_c rfl (av_c (gkr (kl_M0 hq ho)) (av_c rfl av_n))) as_n) rfl h (fun r13 x12 h => ?_)
        refine T_if_ne 65 (dk dtk_X5_listAct 31 rfl) (by decide) (fun c14 => ?_) (fun c14 => ?_)
        · have h := h.1 c14
          refine T_aload_n 1 (dk dtk_X5_listAct 38 rfl) rfl rfl ?_
          refine T_iload_n 0 (dk dtk_X5_listAct 39 rfl) rfl rfl ?_
          refine T_sub (lv2 := [(0, vr o), (1, vi l1)]) [1, 2] rfl ?_
          refine KC_Vi [vi (x1.1 85 (r2 : Int32).toNatClampNeg)] [] rfl (dk dtk_X5_listAct 40 rfl) kcv_X5_185 rfl (kk_M0 ho) rfl (kl_M0 hq ho) (Nat.le_of_ble_eq_true rfl) (Nat.le_of_ble_eq_true rfl) (gok_i (av_c (gkr (kl_M0 hq ho)) (av_c rfl av_n)) as_n) rfl h (fun r16 x15 h => ?_)
          refine T_istore (lv2 := [(4, vi r16), (0, vr o), (1, vi l1)]) (dk dtk_X5_listAct 41 rfl) (by decide) rfl ?_
          refine T_iconst (v := 0) (dk dtk_X5_listAct 42 rfl) (by decide +kernel) ?_
          refine T_istore (lv2 := [(5, vi 0), (4, vi r16), (0, vr o), (1, vi l1)]) (dk dtk_X5_listAct 43 rfl) (by decide) rfl ?_
          exact T_sub [2, 3, 1, 0] rfl h
        · have h := h.2 c14
          exact T_sub [1, 2] rfl h
set_option maxRecDepth 100000 in
set_option maxHeartbeats 4000000 in
theorem kg_X5_listAct_57 {G : kG} {q : kP} {d : Nat} {x : gd} {P : Option gv → gd → Prop} (hq : kV q) {o : Nat} (ho : kiM q o) (l1 : Int32)
    (h : KT G q d zk_X5_list 0 [(0, vr o), (1, vi l1), (2, vi (-1)), (3, vi (-1))] [] x (rv (fun x1 => P none x1))) :
    KT G q (d + 1) zk_X5_listAct 57 [(0, vr o), (1, vi l1)] [] x P := by
  refine T_aload_n 0 (dk dtk_X5_listAct 32 rfl) rfl rfl ?_
  refine T_iload_n 1 (dk dtk_X5_listAct 33 rfl) rfl rfl ?_
  refine T_iconst (v := (-1)) (dk dtk_X5_listAct 34 rfl) (by decide +kernel) ?_
  refine T_iconst (v := (-1)) (dk dtk_X5_listAct 35 rfl) (by decide +kernel) ?_
  refine T_sub (lv2 := []) [] rfl ?_
  refine KC_Vv [vi l1, vi (-1), vi (-1)] [] rfl (dk dtk_X5_listAct 36 rfl) kcv_X5_179 rfl (kk_M0 ho) rfl (kl_M0 hq ho) (Nat.le_of_ble_eq_true rfl) (Nat.le_of_ble_eq_true rfl) (gok_i av_n as_n) rfl h (fun x1 h => ?_)
  exact KT_vret (dk dtk_X5_listAct 37 rfl) rfl h
set_option maxRecDepth 100000 in
set_option maxHeartbeats 4000000 in
theorem kg_X5_listAct_75 {G : kG} {q : kP} {d : Nat} {x : gd} {P : Option gv → gd → Prop} (hq : kV q) {o : Nat} (ho : kiM q o) (l1 : Int32) (l4 : Int32) (l5 : Int32)
    (h : (((x.1 60 10) ≤ l5 → P none x) ∧ (¬ ((x.1 60 10) ≤ l5) → ((¬ (((l4 >>> (l5 &&& 31 : Int32)) &&& 1) = (1 : Int32)) → KT G q (d + 1) zk_X5_listAct 75 [(0, vr o), (1, vi l1), (4, vi l4), (5, vi (l5 + 1))] [] x P) ∧ (((l4 >>> (l5 &&& 31 : Int32)) &&& 1) = (1 : Int32) → KT G q d zk_X5_list 0 [(0, vr o), (1, vi l1), (2, vi (-1)), (3, vi l5)] [] x (rv (fun x3 => KT G q (d + 1) zk_X5_listAct 75 [(0, vr o), (1, vi l1), (4, vi l4), (5, vi (l5 + 1))] [] x3 P))))))) :
    KT G q (d + 1) zk_X5_listAct 75 [(0, vr o), (1, vi l1), (4, vi l4), (5, vi l5)] [] x P := by
  refine T_iload 3 (dk dtk_X5_listAct 44 rfl) rfl ?_
  refine T_aload_n 0 (dk dtk_X5_listAct 45 rfl) rfl rfl ?_
  refine T_getR o 0 60 (dk dtk_X5_listAct 46 rfl) kfl_X5_11 (kk_M0 ho) (kl_M0 hq ho) (by decide) rfl (kr_M_0 ho) ?_
  refine T_getI 60 10 (dk dtk_X5_listAct 47 rfl) kfl_X5_67 kk_60 (kl_60 hq) (by decide) rfl ?_
  refine T_icmp_ge 112 (dk dtk_X5_listAct 48 rfl) (by decide) (fun c1 => ?_) (fun c1 => ?_)
  · have h := h.1 c1
    exact KT_vret (dk dtk_X5_listAct 63 rfl) rfl h
  · have h := h.2 c1
    refine T_iload 2 (dk dtk_X5_listAct 49 rfl) rfl ?_
    refine T_iload 3 (dk dtk_X5_listAct 50 rfl) rfl ?_
    refine T_ishr (dk dtk_X5_listAct 51 rfl) ?_
    refine T_iconst (v := 1) (dk dtk_X5_listAct 52 rfl) (by decide +kernel) ?_
    refine T_iand (dk dtk_X5_listAct 53 rfl) ?_
    refine T_iconst (v := 1) (dk dtk_X5_listAct 54 rfl) (by decide +kernel) ?_
    refine T_icmp_ne 106 (dk dtk_X5_listAct 55 rfl) (by decide) (fun c2 => ?_) (fun c2 => ?_)
    · have h := h.1 c2
      refine T_iinc (v := l5 + 1) (lv2 := [(5, vi (l5 + 1)), (0, vr o), (1, vi l1), (4, vi l4)]) 3 (dk dtk_X5_listAct 61 rfl) rfl rfl (by decide) rfl ?_
      refine T_goto 75 (dk dtk_X5_listAct 62 rfl) (by decide) ?_
      exact T_sub [1, 2, 3, 0] rfl h
    · have h := h.2 c2
      refine T_aload_n 0 (dk dtk_X5_listAct 56 rfl) rfl rfl ?_
      refine T_iload_n 1 (dk dtk_X5_listAct 57 rfl) rfl rfl ?_
      refine T_iconst (v := (-1)) (dk dtk_X5_listAct 58 rfl) (by decide +kernel) ?_
      refine T_iload 3 (dk dtk_X5_listAct 59 rfl) rfl ?_
      refine KC_Vv [vi l1, vi (-1), vi l5] [] rfl (dk dtk_X5_listAct 60 rfl) kcv_X5_179 rfl (kk_M0 ho) rfl (kl_M0 hq ho) (Nat.le_of_ble_eq_true rfl) (Nat.le_of_ble_eq_true rfl) (gok_i (av_c (gkr (kl_M0 hq ho)) (av_c rfl (av_c rfl (av_c rfl av_n)))) as_n) rfl h (fun x3 h => ?_)
      refine T_iinc (v := l5 + 1) (lv2 := [(5, vi (l5 + 1)), (0, vr o), (1, vi l1), (4, vi l4)]) 3 (dk dtk_X5_listAct 61 rfl) rfl rfl (by decide) rfl ?_
      refine T_goto 75 (dk dtk_X5_listAct 62 rfl) (by decide) ?_
      exact T_sub [1, 2, 3, 0] rfl h
set_option maxRecDepth 100000 in
theorem dtk_X5_isFirstOfCell : dck cX5_isFirstOfCell [(0, .iconst 0, 1), (1, .istore_n 3, 1), (2, .iload_n 3, 1), (3, .iload_n 2, 1), (4, .if_icmp .ge 26, 3), (7, .aload_n 0, 1), (8, .iload_n 1, 1), (9, .iload_n 3, 1), (10, .invokevirtual 121, 3), (13, .aload_n 0, 1), (14, .iload_n 1, 1), (15, .iload_n 2, 1), (16, .invokevirtual 121, 3), (19, .if_icmp .ne 5, 3), (22, .iconst 0, 1), (23, .ireturn, 1), (24, .iinc 3 1, 3), (27, .goto (-25), 3), (30, .iconst 1, 1), (31, .ireturn, 1)] = true := by decide +kernel
set_option maxRecDepth 100000 in
set_option maxHeartbeats 4000000 in
theorem kg_X5_isFirstOfCell_0 {G : kG} {q : kP} {d : Nat} {x : gd} {P : Option gv → gd → Prop} (hq : kV q) {o : Nat} (ho : kiM q o) (l1 : Int32) (l2 : Int32)
    (h : KT G q (d + 1) zk_X5_isFirstOfCell 2 [(0, vr o), (1, vi l1), (2, vi l2), (3, vi 0)] [] x P) :
    KT G q (d + 1) zk_X5_isFirstOfCell 0 [(0, vr o), (1, vi l1), (2, vi l2)] [] x P := by
  refine T_iconst (v := 0) (dk dtk_X5_isFirstOfCell 0 rfl) (by decide +kernel) ?_
  refine T_istore_n (lv2 := [(3, vi 0), (0, vr o), (1, vi l1), (2, vi l2)]) (dk dtk_X5_isFirstOfCell 1 rfl) rfl (by decide) rfl ?_
  exact T_sub [1, 2, 3, 0] rfl h
set_option maxRecDepth 100000 in
set_option maxHeartbeats 4000000 in
theorem kg_X5_isFirstOfCell_2 {G : kG} {q : kP} {d : Nat} {x : gd} {P : Option gv → gd → Prop} (hq : kV q) {o : Nat} (ho : kiM q o) (l1 : Int32) (l2 : Int32) (l3 : Int32)
    (h : ((l2 ≤ l3 → P (some (vi 1)) x) ∧ (¬ (l2 ≤ l3) → KT G q d zk_X5_lateCell 0 [(0, vr o), (1, vi l1), (2, vi l3)] [] x (ri (fun r3 x2 => KT G q d zk_X5_lateCell 0 [(0, vr o), (1, vi l1), (2, vi l2)] [] x2 (ri (fun r5 x4 => ((¬ (r3 = r5) → KT G q (d + 1) zk_X5_isFirstOfCell 2 [(0, vr o), (1, vi l1), (2, vi l2), (3, vi (l3 + 1))] [] x4 P) ∧ (r3 = r5 → P (some (vi 0)) x4))))))))) :
    KT G q (d + 1) zk_X5_isFirstOfCell 2 [(0, vr o), (1, vi l1), (2, vi l2), (3, vi l3)] [] x P := by
  refine T_iload_n 3 (dk dtk_X5_isFirstOfCell 2 rfl) rfl rfl ?_
  refine T_iload_n 2 (dk dtk_X5_isFirstOfCell 3 rfl) rfl rfl ?_
  refine T_icmp_ge 30 (dk dtk_X5_isFirstOfCell 4 rfl) (by decide) (fun c1 => ?_) (fun c1 => ?_)
  · have h := h.1 c1
    refine T_iconst (v := 1) (dk dtk_X5_isFirstOfCell 18 rfl) (by decide +kernel) ?_
    exact KT_iret (dk dtk_X5_isFirstOfCell 19 rfl) rfl rfl h
  · have h := h.2 c1
    refine T_aload_n 0 (dk dtk_X5_isFirstOfCell 5 rfl) rfl rfl ?_
    refine T_iload_n 1 (dk dtk_X5_isFirstOfCell 6 rfl) rfl rfl ?_
    refine T_iload_n 3 (dk dtk_X5_isFirstOfCell 7 rfl) rfl rfl ?_
    refine KC_Vi [vi l1, vi l3] [] rfl (dk dtk_X5_isFirstOfCell 8 rfl) kcv_X5_121 rfl (kk_M0 ho) rfl (kl_M0 hq ho) (Nat.le_of_ble_eq_true rfl) (Nat.le_of_ble_eq_true rfl) (gok_i (av_c (gkr (kl_M0 hq ho)) (av_c rfl (av_c rfl (av_c rfl av_n)))) as_n) rfl h (fun r3 x2 h => ?_)
    refine T_aload_n 0 (dk dtk_X5_isFirstOfCell 9 rfl) rfl rfl ?_
    refine T_iload_n 1 (dk dtk_X5_isFirstOfCell 10 rfl) rfl rfl ?_
    refine T_iload_n 2 (dk dtk_X5_isFirstOfCell 11 rfl) rfl rfl ?_
    refine KC_Vi [vi l1, vi l2] [vi r3] rfl (dk dtk_X5_isFirstOfCell 12 rfl) kcv_X5_121 rfl (kk_M0 ho) rfl (kl_M0 hq ho) (Nat.le_of_ble_eq_true rfl) (Nat.le_of_ble_eq_true rfl) (gok_i (av_c (gkr (kl_M0 hq ho)) (av_c rfl (av_c rfl (av_c rfl av_n)))) (as_c rfl as_n)) rfl h (fun r5 x4 h => ?_)
    refine T_icmp_ne 24 (dk dtk_X5_isFirstOfCell 13 rfl) (by decide) (fun c6 => ?_) (fun c6 => ?_)
    · have h := h.1 c6
      refine T_iinc (v := l3 + 1) (lv2 := [(3, vi (l3 + 1)), (0, vr o), (1, vi l1), (2, vi l2)]) 3 (dk dtk_X5_isFirstOfCell 16 rfl) rfl rfl (by decide) rfl ?_
      refine T_goto 2 (dk dtk_X5_isFirstOfCell 17 rfl) (by decide) ?_
      exact T_sub [1, 2, 3, 0] rfl h
    · have h := h.2 c6
      refine T_iconst (v := 0) (dk dtk_X5_isFirstOfCell 14 rfl) (by decide +kernel) ?_
      exact KT_iret (dk dtk_X5_isFirstOfCell 15 rfl) rfl rfl h
set_option maxRecDepth 100000 in
theorem dtk_X5_perform : dck cX5_perform [(0, .aload_n 0, 1), (1, .getfield 33, 3), (4, .iload_n 1, 1), (5, .iaload, 1), (6, .istore_n 2, 1), (7, .aload_n 0, 1), (8, .getfield 36, 3), (11, .iload_n 1, 1), (12, .iaload, 1), (13, .iconst (-1), 1), (14, .if_icmp .eq 25, 3), (17, .aload_n 0, 1), (18, .getfield 25, 3), (21, .iconst (-1), 1), (22, .iconst (-1), 1), (23, .iconst (-1), 1), (24, .invokevirtual 188, 3), (27, .aload_n 0, 1), (28, .iload_n 2, 1), (29, .aload_n 0, 1), (30, .getfield 36, 3), (33, .iload_n 1, 1), (34, .iaload, 1), (35, .invokevirtual 191, 3), (38, .return_, 1), (39, .aload_n 0, 1), (40, .iload_n 2, 1), (41, .invokevirtual 130, 3), (44, .istore_n 3, 1), (45, .aload_n 0, 1), (46, .iload_n 2, 1), (47, .iconst 2, 1), (48, .invokevirtual 90, 3), (51, .istore 4, 2), (53, .aload_n 0, 1), (54, .getfield 25, 3), (57, .iload_n 2, 1), (58, .iload_n 3, 1), (59, .aload_n 0, 1), (60, .getfield 21, 3), (63, .getfield 136, 3), (66, .iload 4, 2), (68, .iaload, 1), (69, .invokevirtual 188, 3), (72, .aload_n 0, 1), (73, .iload_n 2, 1), (74, .iload 4, 2), (76, .iload_n 3, 1), (77, .aload_n 0, 1), (78, .getfield 39, 3), (81, .iload_n 1, 1), (82, .iaload, 1), (83, .invokevirtual 195, 3), (86, .istore 5, 2), (88, .iload 5, 2), (90, .ifCond .eq 19, 3), (93, .aload_n 0, 1), (94, .getfield 25, 3), (97, .iconst 1, 1), (98, .putfield 199, 3), (101, .aload_n 0, 1), (102, .iload_n 2, 1), (103, .iload 5, 2), (105, .invokevirtual 202, 3), (108, .return_, 1), (109, .iload_n 3, 1), (110, .bipush 9, 2), (112, .if_icmp .ne 17, 3), (115, .aload_n 0, 1), (116, .aload_n 0, 1), (117, .getfield 21, 3), (120, .getfield 136, 3), (123, .iload 4, 2), (125, .iaload, 1), (126, .invokevirtual 86, 3), (129, .iload_n 3, 1), (130, .bipush 7, 2), (132, .if_icmp .eq 18, 3), (135, .aload_n 0, 1), (136, .iload_n 2, 1), (137, .iconst 2, 1), (138, .iload 4, 2), (140, .iconst 1, 1), (141, .iadd, 1), (142, .invokevirtual 117, 3), (145, .aload_n 0, 1), (146, .iload_n 2, 1), (147, .invokevirtual 205, 3), (150, .return_, 1)] = true := by decide +kernel
set_option maxRecDepth 100000 in
set_option maxHeartbeats 4000000 in
theorem kg_X5_perform_0 {G : kG} {q : kP} {d : Nat} {x : gd} {P : Option gv → gd → Prop} (hq : kV q) {o : Nat} (ho : kiM q o) (l1 : Int32)
    (h : vp_in l1 84 ∧ vp_in l1 84 ∧ (((x.1 (o + 12) (l1 : Int32).toNatClampNeg) = (-1 : Int32) → KT G q d zk_X5_sortOf 0 [(0, vr o), (1, vi (x.1 (o + 11) (l1 : Int32).toNatClampNeg))] [] x (ri (fun r5 x4 => KT G q d zk_X5_get 0 [(0, vr o), (1, vi (x.1 (o + 11) (l1 : Int32).toNatClampNeg)), (2, vi 2)] [] x4 (ri (fun r7 x6 => vp_in r7 400 ∧ KT G q d zk_X1_clear 0 [(0, vr (o + 20)), (1, vi (x.1 (o + 11) (l1 : Int32).toNatClampNeg)), (2, vi r5), (3, vi (x6.1 85 (r7 : Int32).toNatClampNeg))] [] x6 (rv (fun x9 => vp_in l1 84 ∧ KT G q d zk_X5_actFailure 0 [(0, vr o), (1, vi (x.1 (o + 11) (l1 : Int32).toNatClampNeg)), (2, vi r7), (3, vi r5), (4, vi (x9.1 (o + 13) (l1 : Int32).toNatClampNeg))] [] x9 (ri (fun r12 x11 => ((r12 = (0 : Int32) → ((¬ (r5 = (9 : Int32)) → KT G q (d + 1) zk_X5_perform 129 [(0, vr o), (2, vi (x.1 (o + 11) (l1 : Int32).toNatClampNeg)), (3, vi r5), (4, vi r7)] [] x11 P) ∧ (r5 = (9 : Int32) → vp_in r7 400 ∧ KT G q d zk_X5_rouse 0 [(0, vr o), (1, vi (x11.1 85 (r7 : Int32).toNatClampNeg))] [] x11 (rv (fun x16 => KT G q (d + 1) zk_X5_perform 129 [(0, vr o), (2, vi (x.1 (o + 11) (l1 : Int32).toNatClampNeg)), (3, vi r5), (4, vi r7)] [] x16 P))))) ∧ (¬ (r12 = (0 : Int32)) → (∀ x17 : gd, x17 = si x11 (o + 20) 5 1 → KT G q d zk_X5_fail 0 [(0, vr o), (1, vi (x.1 (o + 11) (l1 : Int32).toNatClampNeg)), (2, vi r12)] [] x17 (rv (fun x18 => P none x18)))))))))))))) ∧ (¬ ((x.1 (o + 12) (l1 : Int32).toNatClampNeg) = (-1 : Int32)) → KT G q d zk_X1_clear 0 [(0, vr (o + 20)), (1, vi (-1)), (2, vi (-1)), (3, vi (-1))] [] x (rv (fun x19 => vp_in l1 84 ∧ KT G q d zk_X5_bringLate 0 [(0, vr o), (1, vi (x.1 (o + 11) (l1 : Int32).toNatClampNeg)), (2, vi (x19.1 (o + 12) (l1 : Int32).toNatClampNeg))] [] x19 (rv (fun x21 => P none x21))))))) :
    KT G q (d + 1) zk_X5_perform 0 [(0, vr o), (1, vi l1)] [] x P := by
  refine T_aload_n 0 (dk dtk_X5_perform 0 rfl) rfl rfl ?_
  refine T_getR o 10 (o + 11) (dk dtk_X5_perform 1 rfl) kfl_X5_33 (kk_M0 ho) (kl_M0 hq ho) (by decide) rfl (kr_M_10 ho) ?_
  refine T_iload_n 1 (dk dtk_X5_perform 2 rfl) rfl rfl ?_
  obtain ⟨h1, h⟩ := h
  refine T_iald (o + 11) 84 (dk dtk_X5_perform 3 rfl) (kk_M11 ho) (kl_M11 hq ho) h1 ?_
  refine T_istore_n (lv2 := [(2, vi (x.1 (o + 11) (l1 : Int32).toNatClampNeg)), (0, vr o), (1, vi l1)]) (dk dtk_X5_perform 4 rfl) rfl (by decide) rfl ?_
  refine T_aload_n 1 (dk dtk_X5_perform 5 rfl) rfl rfl ?_
  refine T_getR o 11 (o + 12) (dk dtk_X5_perform 6 rfl) kfl_X5_36 (kk_M0 ho) (kl_M0 hq ho) (by decide) rfl (kr_M_11 ho) ?_
  refine T_iload_n 2 (dk dtk_X5_perform 7 rfl) rfl rfl ?_
  obtain ⟨h2, h⟩ := h
  refine T_iald (o + 12) 84 (dk dtk_X5_perform 8 rfl) (kk_M12 ho) (kl_M12 hq ho) h2 ?_
  refine T_iconst (v := (-1)) (dk dtk_X5_perform 9 rfl) (by decide +kernel) ?_
  refine T_icmp_eq 39 (dk dtk_X5_perform 10 rfl) (by decide) (fun c3 => ?_) (fun c3 => ?_)
  · have h := h.1 c3
    refine T_aload_n 1 (dk dtk_X5_perform 25 rfl) rfl rfl ?_
    refine T_iload_n 0 (dk dtk_X5_perform 26 rfl) rfl rfl ?_
    refine KC_Vi [vi (x.1 (o + 11) (l1 : Int32).toNatClampNeg)] [] rfl (dk dtk_X5_perform 27 rfl) kcv_X5_130 rfl (kk_M0 ho) rfl (kl_M0 hq ho) (Nat.le_of_ble_eq_true rfl) (Nat.le_of_ble_eq_true rfl) (gok_i (av_c rfl (av_c (gkr (kl_M0 hq ho)) (av_c rfl av_n))) as_n) rfl h (fun r5 x4 h => ?_)
    refine T_istore_n (lv2 := [(3, vi r5), (2, vi (x.1 (o + 11) (l1 : Int32).toNatClampNeg)), (0, vr o), (1, vi l1)]) (dk dtk_X5_perform 28 rfl) rfl (by decide) rfl ?_
    refine T_aload_n 2 (dk dtk_X5_perform 29 rfl) rfl rfl ?_
    refine T_iload_n 1 (dk dtk_X5_perform 30 rfl) rfl rfl ?_
    refine T_iconst (v := 2) (dk dtk_X5_perform 31 rfl) (by decide +kernel) ?_
    refine KC_Vi [vi (x.1 (o + 11) (l1 : Int32).toNatClampNeg), vi 2] [] rfl (dk dtk_X5_perform 32 rfl) kcv_X5_90 rfl (kk_M0 ho) rfl (kl_M0 hq ho) (Nat.le_of_ble_eq_true rfl) (Nat.le_of_ble_eq_true rfl) (gok_i (av_c rfl (av_c rfl (av_c (gkr (kl_M0 hq ho)) (av_c rfl av_n)))) as_n) rfl h (fun r7 x6 h => ?_)
    refine T_istore (lv2 := [(4, vi r7), (3, vi r5), (2, vi (x.1 (o + 11) (l1 : Int32).toNatClampNeg)), (0, vr o), (1, vi l1)]) (dk dtk_X5_perform 33 rfl) (by decide) rfl ?_
    refine T_aload_n 3 (dk dtk_X5_perform 34 rfl) rfl rfl ?_
    refine T_getR o 2 (o + 20) (dk dtk_X5_perform 35 rfl) kfl_X5_25 (kk_M0 ho) (kl_M0 hq ho) (by decide) rfl (kr_M_2 ho) ?_
    refine T_iload_n 2 (dk dtk_X5_perform 36 rfl) rfl rfl ?_
    refine T_iload_n 1 (dk dtk_X5_perform 37 rfl) rfl rfl ?_
    refine T_aload_n 3 (dk dtk_X5_perform 38 rfl) rfl rfl ?_
    refine T_getR o 1 80 (dk dtk_X5_perform 39 rfl) kfl_X5_21 (kk_M0 ho) (kl_M0 hq ho) (by decide) rfl (kr_M_1 ho) ?_
    refine T_getR 80 4 85 (dk dtk_X5_perform 40 rfl) kfl_X5_136 kk_80 (kl_80 hq) (by decide) rfl kr_80_4 ?_
    refine T_iload 0 (dk dtk_X5_perform 41 rfl) rfl ?_
    obtain ⟨h8, h⟩ := h
    refine T_iald 85 400 (dk dtk_X5_perform 42 rfl) kk_85 (kl_85 hq) h8 ?_
    refine KC_Vv [vi (x.1 (o + 11) (l1 : Int32).toNatClampNeg), vi r5, vi (x6.1 85 (r7 : Int32).toNatClampNeg)] [] rfl (dk dtk_X5_perform 43 rfl) kcv_X5_188 rfl (kk_D0 (kiM_D ho)) rfl (kl_D0 hq (kiM_D ho)) (Nat.le_of_ble_eq_true rfl) (Nat.le_of_ble_eq_true rfl) (gok_i (av_c rfl (av_c rfl (av_c rfl (av_c (gkr (kl_M0 hq ho)) (av_c rfl av_n))))) as_n) rfl h (fun x9 h => ?_)
    refine T_aload_n 3 (dk dtk_X5_perform 44 rfl) rfl rfl ?_
    refine T_iload_n 2 (dk dtk_X5_perform 45 rfl) rfl rfl ?_
    refine T_iload 0 (dk dtk_X5_perform 46 rfl) rfl ?_
    refine T_iload_n 1 (dk dtk_X5_perform 47 rfl) rfl rfl ?_
    refine T_aload_n 3 (dk dtk_X5_perform 48 rfl) rfl rfl ?_
    refine T_getR o 12 (o + 13) (dk dtk_X5_perform 49 rfl) kfl_X5_39 (kk_M0 ho) (kl_M0 hq ho) (by decide) rfl (kr_M_12 ho) ?_
    refine T_iload_n 4 (dk dtk_X5_perform 50 rfl) rfl rfl ?_
    obtain ⟨h10, h⟩ := h
    refine T_iald (o + 13) 84 (dk dtk_X5_perform 51 rfl) (kk_M13 ho) (kl_M13 hq ho) h10 ?_
    refine T_sub (lv2 := [(4, vi r7), (3, vi r5), (2, vi (x.1 (o + 11) (l1 : Int32).toNatClampNeg)), (0, vr o)]) [0, 1, 2, 3] rfl ?_
    refine KC_Vi [vi (x.1 (o + 11) (l1 : Int32).toNatClampNeg), vi r7, vi r5, vi (x9.1 (o + 13) (l1 : Int32).toNatClampNeg)] [] rfl (dk dtk_X5_perform 52 rfl) kcv_X5_195 rfl (kk_M0 ho) rfl (kl_M0 hq ho) (Nat.le_of_ble_eq_true rfl) (Nat.le_of_ble_eq_true rfl) (gok_i (av_c rfl (av_c rfl (av_c rfl (av_c (gkr (kl_M0 hq ho)) av_n)))) as_n) rfl h (fun r12 x11 h => ?_)
    refine T_istore (lv2 := [(5, vi r12), (4, vi r7), (3, vi r5), (2, vi (x.1 (o + 11) (l1 : Int32).toNatClampNeg)), (0, vr o)]) (dk dtk_X5_perform 53 rfl) (by decide) rfl ?_
    refine T_iload 0 (dk dtk_X5_perform 54 rfl) rfl ?_
    refine T_if_eq 109 (dk dtk_X5_perform 55 rfl) (by decide) (fun c13 => ?_) (fun c13 => ?_)
    · have h := h.1 c13
      refine T_iload_n 2 (dk dtk_X5_perform 65 rfl) rfl rfl ?_
      refine T_bipush (v := 9) (dk dtk_X5_perform 66 rfl) (by decide +kernel) ?_
      refine T_icmp_ne 129 (dk dtk_X5_perform 67 rfl) (by decide) (fun c14 => ?_) (fun c14 => ?_)
      · have h := h.1 c14
        exact T_sub [4, 3, 2, 1] rfl h
      · have h := h.2 c14
        refine T_aload_n 4 (dk dtk_X5_perform 68 rfl) rfl rfl ?_
        refine T_aload_n 4 (dk dtk_X5_perform 69 rfl) rfl rfl ?_
        refine T_getR o 1 80 (dk dtk_X5_perform 70 rfl) kfl_X5_21 (kk_M0 ho) (kl_M0 hq ho) (by decide) rfl (kr_M_1 ho) ?_
        refine T_getR 80 4 85 (dk dtk_X5_perform 71 rfl) kfl_X5_136 kk_80 (kl_80 hq) (by decide) rfl kr_80_4 ?_
        refine T_iload 1 (dk dtk_X5_perform 72 rfl) rfl ?_
        obtain ⟨h15, h⟩ := h
        refine T_iald 85 400 (dk dtk_X5_perform 73 rfl) kk_85 (kl_85 hq) h15 ?_
        refine T_sub (lv2 := [(4, vi r7), (3, vi r5), (2, vi (x.1 (o + 11) (l1 : Int32).toNatClampNeg)), (0, vr o)]) [1, 2, 3, 4] rfl ?_
        refine KC_Vv [vi (x11.1 85 (r7 : Int32).toNatClampNeg)] [] rfl (dk dtk_X5_perform 74 rfl) kcv_X5_86 rfl (kk_M0 ho) rfl (kl_M0 hq ho) (Nat.le_of_ble_eq_true rfl) (Nat.le_of_ble_eq_true rfl) (gok_i (av_c rfl (av_c rfl (av_c rfl (av_c (gkr (kl_M0 hq ho)) av_n)))) as_n) rfl h (fun x16 h => ?_)
        exact T_sub [3, 2, 1, 0] rfl h
    · have h := h.2 c13
      refine T_aload_n 4 (dk dtk_X5_perform 56 rfl) rfl rfl ?_
      refine T_getR o 2 (o + 20) (dk dtk_X5_perform 57 rfl) kfl_X5_25 (kk_M0 ho) (kl_M0 hq ho) (by decide) rfl (kr_M_2 ho) ?_
      refine T_iconst (v := 1) (dk dtk_X5_perform 58 rfl) (by decide +kernel) ?_
      obtain ⟨x17, ex17⟩ : ∃ z, z = si x11 (o + 20) 5 1 := ⟨_, rfl⟩
      have h := h x17 ex17
      refine T_putI (o + 20) 5 (dk dtk_X5_perform 59 rfl) kfl_X5_199 (kk_D0 (kiM_D ho)) (kl_D0 hq (kiM_D ho)) (by decide) rfl ⟨rfl, rfl⟩ ?_
      rw [← ex17]
      refine T_aload_n 4 (dk dtk_X5_perform 60 rfl) rfl rfl ?_
      refine T_iload_n 3 (dk dtk_X5_perform 61 rfl) rfl rfl ?_
      refine T_iload 0 (dk dtk_X5_perform 62 rfl) rfl ?_
      refine T_sub (lv2 := []) [] rfl ?_
      refine KC_Vv [vi (x.1 (o + 11) (l1 : Int32).toNatClampNeg), vi r12] [] rfl (dk dtk_X5_perform 63 rfl) kcv_X5_202 rfl (kk_M0 ho) rfl (kl_M0 hq ho) (Nat.le_of_ble_eq_true rfl) (Nat.le_of_ble_eq_true rfl) (gok_i av_n as_n) rfl h (fun x18 h => ?_)
      exact KT_vret (dk dtk_X5_perform 64 rfl) rfl h
  · have h := h.2 c3
    refine T_aload_n 1 (dk dtk_X5_perform 11 rfl) rfl rfl ?_
    refine T_getR o 2 (o + 20) (dk dtk_X5_perform 12 rfl) kfl_X5_25 (kk_M0 ho) (kl_M0 hq ho) (by decide) rfl (kr_M_2 ho) ?_
    refine T_iconst (v := (-1)) (dk dtk_X5_perform 13 rfl) (by decide +kernel) ?_
    refine T_iconst (v := (-1)) (dk dtk_X5_perform 14 rfl) (by decide +kernel) ?_
    refine T_iconst (v := (-1)) (dk dtk_X5_perform 15 rfl) (by decide +kernel) ?_
    refine KC_Vv [vi (-1), vi (-1), vi (-1)] [] rfl (dk dtk_X5_perform 16 rfl) kcv_X5_188 rfl (kk_D0 (kiM_D ho)) rfl (kl_D0 hq (kiM_D ho)) (Nat.le_of_ble_eq_true rfl) (Nat.le_of_ble_eq_true rfl) (gok_i (av_c rfl (av_c (gkr (kl_M0 hq ho)) (av_c rfl av_n))) as_n) rfl h (fun x19 h => ?_)
    refine T_aload_n 1 (dk dtk_X5_perform 17 rfl) rfl rfl ?_
    refine T_iload_n 0 (dk dtk_X5_perform 18 rfl) rfl rfl ?_
    refine T_aload_n 1 (dk dtk_X5_perform 19 rfl) rfl rfl ?_
    refine T_getR o 11 (o + 12) (dk dtk_X5_perform 20 rfl) kfl_X5_36 (kk_M0 ho) (kl_M0 hq ho) (by decide) rfl (kr_M_11 ho) ?_
    refine T_iload_n 2 (dk dtk_X5_perform 21 rfl) rfl rfl ?_
    obtain ⟨h20, h⟩ := h
    refine T_iald (o + 12) 84 (dk dtk_X5_perform 22 rfl) (kk_M12 ho) (kl_M12 hq ho) h20 ?_
    refine T_sub (lv2 := []) [] rfl ?_
    refine KC_Vv [vi (x.1 (o + 11) (l1 : Int32).toNatClampNeg), vi (x19.1 (o + 12) (l1 : Int32).toNatClampNeg)] [] rfl (dk dtk_X5_perform 23 rfl) kcv_X5_191 rfl (kk_M0 ho) rfl (kl_M0 hq ho) (Nat.le_of_ble_eq_true rfl) (Nat.le_of_ble_eq_true rfl) (gok_i av_n as_n) rfl h (fun x21 h => ?_)
    exact KT_vret (dk dtk_X5_perform 24 rfl) rfl h
set_option maxRecDepth 100000 in
set_option maxHeartbeats 4000000 in
theorem kg_X5_perform_129 {G : kG} {q : kP} {d : Nat} {x : gd} {P : Option gv → gd → Prop} (hq : kV q) {o : Nat} (ho : kiM q o) (l2 : Int32) (l3 : Int32) (l4 : Int32)
    (h : ((l3 = (7 : Int32) → P none x) ∧ (¬ (l3 = (7 : Int32)) → KT G q d zk_X5_set 0 [(0, vr o), (1, vi l2), (2, vi 2), (3, vi (l4 + 1))] [] x (rv (fun x2 => KT G q d zk_X5_settle 0 [(0, vr o), (1, vi l2)] [] x2 (rv (fun x3 => P none x3))))))) :
    KT G q (d + 1) zk_X5_perform 129 [(0, vr o), (2, vi l2), (3, vi l3), (4, vi l4)] [] x P := by
  refine T_iload_n 2 (dk dtk_X5_perform 75 rfl) rfl rfl ?_
  refine T_bipush (v := 7) (dk dtk_X5_perform 76 rfl) (by decide +kernel) ?_
  refine T_icmp_eq 150 (dk dtk_X5_perform 77 rfl) (by decide) (fun c1 => ?_) (fun c1 => ?_)
  · have h := h.1 c1
    exact KT_vret (dk dtk_X5_perform 88 rfl) rfl h
  · have h := h.2 c1
    refine T_aload_n 0 (dk dtk_X5_perform 78 rfl) rfl rfl ?_
    refine T_iload_n 1 (dk dtk_X5_perform 79 rfl) rfl rfl ?_
    refine T_iconst (v := 2) (dk dtk_X5_perform 80 rfl) (by decide +kernel) ?_
    refine T_iload 3 (dk dtk_X5_perform 81 rfl) rfl ?_
    refine T_iconst (v := 1) (dk dtk_X5_perform 82 rfl) (by decide +kernel) ?_
    refine T_iadd (dk dtk_X5_perform 83 rfl) ?_
    refine T_sub (lv2 := [(0, vr o), (2, vi l2)]) [0, 1] rfl ?_
    refine KC_Vv [vi l2, vi 2, vi (l4 + 1)] [] rfl (dk dtk_X5_perform 84 rfl) kcv_X5_117 rfl (kk_M0 ho) rfl (kl_M0 hq ho) (Nat.le_of_ble_eq_true rfl) (Nat.le_of_ble_eq_true rfl) (gok_i (av_c (gkr (kl_M0 hq ho)) (av_c rfl av_n)) as_n) rfl h (fun x2 h => ?_)
    refine T_aload_n 0 (dk dtk_X5_perform 85 rfl) rfl rfl ?_
    refine T_iload_n 1 (dk dtk_X5_perform 86 rfl) rfl rfl ?_
    refine T_sub (lv2 := []) [] rfl ?_
    refine KC_Vv [vi l2] [] rfl (dk dtk_X5_perform 87 rfl) kcv_X5_205 rfl (kk_M0 ho) rfl (kl_M0 hq ho) (Nat.le_of_ble_eq_true rfl) (Nat.le_of_ble_eq_true rfl) (gok_i av_n as_n) rfl h (fun x3 h => ?_)
    exact KT_vret (dk dtk_X5_perform 88 rfl) rfl h
