set_option maxRecDepth 100000 in
theorem dtk_X6_faultOf : dck cX6_faultOf [(0, .aload_n 0, 1), (1, .getfield 17, 3), (4, .iload_n 1, 1), (5, .iaload, 1), (6, .tableswitch 236 1 13 #[66, 80, 82, 84, 119, 236, 236, 236, 236, 154, 157, 199, 179], 66), (72, .aload_n 0, 1), (73, .iload_n 1, 1), (74, .invokevirtual 65, 3), (77, .ifCond .eq 7, 3), (80, .iconst 4, 1), (81, .goto 4, 3), (84, .iconst 0, 1), (85, .ireturn, 1), (86, .iconst 4, 1), (87, .ireturn, 1), (88, .iconst 5, 1), (89, .ireturn, 1), (90, .aload_n 0, 1), (91, .getfield 21, 3), (94, .iload_n 1, 1), (95, .aload_n 0, 1), (96, .aload_n 0, 1), (97, .getfield 33, 3), (100, .aload_n 0, 1), (101, .getfield 43, 3), (104, .iload_n 1, 1), (105, .invokevirtual 69, 3), (108, .iastore, 1), (109, .aload_n 0, 1), (110, .getfield 21, 3), (113, .iload_n 1, 1), (114, .iaload, 1), (115, .iconst (-1), 1), (116, .if_icmp .ne 7, 3), (119, .iconst 5, 1), (120, .goto 4, 3), (123, .iconst 0, 1), (124, .ireturn, 1), (125, .aload_n 0, 1), (126, .getfield 21, 3), (129, .iload_n 1, 1), (130, .aload_n 0, 1), (131, .aload_n 0, 1), (132, .getfield 36, 3), (135, .aload_n 0, 1), (136, .getfield 46, 3), (139, .iload_n 1, 1), (140, .invokevirtual 69, 3), (143, .iastore, 1), (144, .aload_n 0, 1), (145, .getfield 21, 3), (148, .iload_n 1, 1), (149, .iaload, 1), (150, .iconst (-1), 1), (151, .if_icmp .ne 7, 3), (154, .iconst 5, 1), (155, .goto 4, 3), (158, .iconst 0, 1), (159, .ireturn, 1), (160, .bipush 7, 2), (162, .ireturn, 1), (163, .aload_n 0, 1), (164, .getfield 9, 3), (167, .getfield 73, 3), (170, .iload_n 1, 1), (171, .iaload, 1), (172, .invokestatic 76, 3), (175, .ifCond .eq 7, 3), (178, .iconst 0, 1), (179, .goto 5, 3), (182, .bipush 6, 2), (184, .ireturn, 1), (185, .aload_n 0, 1), (186, .getfield 9, 3), (189, .getfield 73, 3), (192, .iload_n 1, 1), (193, .iaload, 1), (194, .iconst 3, 1), (195, .if_icmp .le 8, 3), (198, .bipush 6, 2), (200, .goto 4, 3), (203, .iconst 0, 1), (204, .ireturn, 1), (205, .iload_n 1, 1), (206, .iconst 2, 1), (207, .if_icmp .lt 32, 3), (210, .aload_n 0, 1), (211, .getfield 9, 3), (214, .getfield 73, 3), (217, .iload_n 1, 1), (218, .iaload, 1), (219, .aload_n 0, 1), (220, .getfield 30, 3), (223, .aload_n 0, 1), (224, .getfield 21, 3), (227, .iload_n 1, 1), (228, .iconst 2, 1), (229, .isub, 1), (230, .iaload, 1), (231, .iaload, 1), (232, .if_icmp .ge 7, 3), (235, .iconst 0, 1), (236, .goto 5, 3), (239, .bipush 6, 2), (241, .ireturn, 1), (242, .aload_n 0, 1), (243, .iload_n 1, 1), (244, .invokevirtual 79, 3), (247, .ireturn, 1)] = true := by decide +kernel
set_option maxRecDepth 100000 in
set_option maxHeartbeats 4000000 in
theorem kg_X6_faultOf_0 {G : kG} {q : kP} {d : Nat} {x : gd} {P : Option gv → gd → Prop} (hq : kV q) (l1 : Int32)
    (h : vp_in l1 702 ∧ ((((x.1 42 (l1 : Int32).toNatClampNeg) = 1) → KT G q d zk_X6_isToldBefore 0 [(0, vr 40), (1, vi l1)] [] x (ri (fun r4 x3 => ((r4 = (0 : Int32) → P (some (vi 0)) x3) ∧ (¬ (r4 = (0 : Int32)) → P (some (vi 4)) x3))))) ∧ (((x.1 42 (l1 : Int32).toNatClampNeg) = 2) → P (some (vi 4)) x) ∧ (((x.1 42 (l1 : Int32).toNatClampNeg) = 3) → P (some (vi 5)) x) ∧ (((x.1 42 (l1 : Int32).toNatClampNeg) = 4) → KT G q d zk_X6_numberOf 0 [(0, vr 40), (1, vr 48), (2, vi (x.1 40 8)), (3, vi l1)] [] x (ri (fun r10 x9 => vp_in l1 702 ∧ (∀ x12 : gd, x12 = si x9 43 (l1 : Int32).toNatClampNeg r10 → vp_in l1 702 ∧ ((¬ ((x12.1 43 (l1 : Int32).toNatClampNeg) = (-1 : Int32)) → P (some (vi 0)) x12) ∧ ((x12.1 43 (l1 : Int32).toNatClampNeg) = (-1 : Int32) → P (some (vi 5)) x12)))))) ∧ (((x.1 42 (l1 : Int32).toNatClampNeg) = 5) → KT G q d zk_X6_numberOf 0 [(0, vr 40), (1, vr 50), (2, vi (x.1 40 10)), (3, vi l1)] [] x (ri (fun r17 x16 => vp_in l1 702 ∧ (∀ x19 : gd, x19 = si x16 43 (l1 : Int32).toNatClampNeg r17 → vp_in l1 702 ∧ ((¬ ((x19.1 43 (l1 : Int32).toNatClampNeg) = (-1 : Int32)) → P (some (vi 0)) x19) ∧ ((x19.1 43 (l1 : Int32).toNatClampNeg) = (-1 : Int32) → P (some (vi 5)) x19)))))) ∧ (((x.1 42 (l1 : Int32).toNatClampNeg) = 10) → P (some (vi 7)) x) ∧ (((x.1 42 (l1 : Int32).toNatClampNeg) = 11) → vp_in l1 702 ∧ KT G q d zk_X6_isRowSize 0 [(0, vi (x.1 27 (l1 : Int32).toNatClampNeg))] [] x (ri (fun r26 x25 => ((r26 = (0 : Int32) → P (some (vi 6)) x25) ∧ (¬ (r26 = (0 : Int32)) → P (some (vi 0)) x25))))) ∧ (((x.1 42 (l1 : Int32).toNatClampNeg) = 13) → vp_in l1 702 ∧ (((x.1 27 (l1 : Int32).toNatClampNeg) ≤ (3 : Int32) → P (some (vi 0)) x) ∧ (¬ ((x.1 27 (l1 : Int32).toNatClampNeg) ≤ (3 : Int32)) → P (some (vi 6)) x))) ∧ (((x.1 42 (l1 : Int32).toNatClampNeg) = 12) → ((l1 < (2 : Int32) → P (some (vi 6)) x) ∧ (¬ (l1 < (2 : Int32)) → vp_in l1 702 ∧ vp_in (l1 - 2) 702 ∧ vp_in (x.1 43 (l1 - 2 : Int32).toNatClampNeg) 24 ∧ (((x.1 46 (x.1 43 (l1 - 2 : Int32).toNatClampNeg : Int32).toNatClampNeg) ≤ (x.1 27 (l1 : Int32).toNatClampNeg) → P (some (vi 6)) x) ∧ (¬ ((x.1 46 (x.1 43 (l1 - 2 : Int32).toNatClampNeg : Int32).toNatClampNeg) ≤ (x.1 27 (l1 : Int32).toNatClampNeg)) → P (some (vi 0)) x))))) ∧ ((∀ k ∈ [(1 : Int32), (2 : Int32), (3 : Int32), (4 : Int32), (5 : Int32), (10 : Int32), (11 : Int32), (13 : Int32), (12 : Int32)], ¬ (x.1 42 (l1 : Int32).toNatClampNeg) = k) → KT G q d zk_X6_faultOfCell 0 [(0, vr 40), (1, vi l1)] [] x (ri (fun r39 x38 => P (some (vi r39)) x38))))) :
    KT G q (d + 1) zk_X6_faultOf 0 [(0, vr 40), (1, vi l1)] [] x P := by
  refine T_aload_n 0 (dk dtk_X6_faultOf 0 rfl) rfl rfl ?_
  refine T_getR 40 1 42 (dk dtk_X6_faultOf 1 rfl) kfl_X6_17 kk_40 (kl_40 hq) (by decide) rfl kr_40_1 ?_
  refine T_iload_n 1 (dk dtk_X6_faultOf 2 rfl) rfl rfl ?_
  obtain ⟨h1, h⟩ := h
  refine T_iald 42 702 (dk dtk_X6_faultOf 3 rfl) kk_42 (kl_42 hq) h1 ?_
  by_cases c2 : (x.1 42 (l1 : Int32).toNatClampNeg) = 1
  · have h := h.1 c2
    refine T_table 66 72 (dk dtk_X6_faultOf 4 rfl) (by decide) (by rw [c2]; decide +kernel) (by decide) ?_
    refine T_aload_n 0 (dk dtk_X6_faultOf 5 rfl) rfl rfl ?_
    refine T_iload_n 1 (dk dtk_X6_faultOf 6 rfl) rfl rfl ?_
    refine T_sub (lv2 := []) [] rfl ?_
    refine KC_Vi [vi l1] [] rfl (dk dtk_X6_faultOf 7 rfl) kcv_X6_65 rfl kk_40 rfl (kl_40 hq) (Nat.le_of_ble_eq_true rfl) (Nat.le_of_ble_eq_true rfl) (gok_i av_n as_n) rfl h (fun r4 x3 h => ?_)
    refine T_if_eq 84 (dk dtk_X6_faultOf 8 rfl) (by decide) (fun c5 => ?_) (fun c5 => ?_)
    · have h := h.1 c5
      refine T_iconst (v := 0) (dk dtk_X6_faultOf 11 rfl) (by decide +kernel) ?_
      exact KT_iret (dk dtk_X6_faultOf 12 rfl) rfl rfl h
    · have h := h.2 c5
      refine T_iconst (v := 4) (dk dtk_X6_faultOf 9 rfl) (by decide +kernel) ?_
      refine T_goto 85 (dk dtk_X6_faultOf 10 rfl) (by decide) ?_
      exact KT_iret (dk dtk_X6_faultOf 12 rfl) rfl rfl h
  · have h := h.2
    by_cases c6 : (x.1 42 (l1 : Int32).toNatClampNeg) = 2
    · have h := h.1 c6
      refine T_table 80 86 (dk dtk_X6_faultOf 4 rfl) (by decide) (by rw [c6]; decide +kernel) (by decide) ?_
      refine T_iconst (v := 4) (dk dtk_X6_faultOf 13 rfl) (by decide +kernel) ?_
      exact KT_iret (dk dtk_X6_faultOf 14 rfl) rfl rfl h
    · have h := h.2
      by_cases c7 : (x.1 42 (l1 : Int32).toNatClampNeg) = 3
      · have h := h.1 c7
        refine T_table 82 88 (dk dtk_X6_faultOf 4 rfl) (by decide) (by rw [c7]; decide +kernel) (by decide) ?_
        refine T_iconst (v := 5) (dk dtk_X6_faultOf 15 rfl) (by decide +kernel) ?_
        exact KT_iret (dk dtk_X6_faultOf 16 rfl) rfl rfl h
      · have h := h.2
        by_cases c8 : (x.1 42 (l1 : Int32).toNatClampNeg) = 4
        · have h := h.1 c8
          refine T_table 84 90 (dk dtk_X6_faultOf 4 rfl) (by decide) (by rw [c8]; decide +kernel) (by decide) ?_
          refine T_aload_n 0 (dk dtk_X6_faultOf 17 rfl) rfl rfl ?_
          refine T_getR 40 2 43 (dk dtk_X6_faultOf 18 rfl) kfl_X6_21 kk_40 (kl_40 hq) (by decide) rfl kr_40_2 ?_
          refine T_iload_n 1 (dk dtk_X6_faultOf 19 rfl) rfl rfl ?_
          refine T_aload_n 0 (dk dtk_X6_faultOf 20 rfl) rfl rfl ?_
          refine T_aload_n 0 (dk dtk_X6_faultOf 21 rfl) rfl rfl ?_
          refine T_getR 40 7 48 (dk dtk_X6_faultOf 22 rfl) kfl_X6_33 kk_40 (kl_40 hq) (by decide) rfl kr_40_7 ?_
          refine T_aload_n 0 (dk dtk_X6_faultOf 23 rfl) rfl rfl ?_
          refine T_getI 40 8 (dk dtk_X6_faultOf 24 rfl) kfl_X6_43 kk_40 (kl_40 hq) (by decide) rfl ?_
          refine T_iload_n 1 (dk dtk_X6_faultOf 25 rfl) rfl rfl ?_
          refine KC_Vi [vr 48, vi (x.1 40 8), vi l1] [vi l1, vr 43] rfl (dk dtk_X6_faultOf 26 rfl) kcv_X6_69 rfl kk_40 rfl (kl_40 hq) (Nat.le_of_ble_eq_true rfl) (Nat.le_of_ble_eq_true rfl) (gok_i (av_c (gkr (kl_40 hq)) (av_c rfl av_n)) (as_c rfl (as_c (gkr (kl_43 hq)) as_n))) rfl h (fun r10 x9 h => ?_)
          obtain ⟨h11, h⟩ := h
          obtain ⟨x12, ex12⟩ : ∃ z, z = si x9 43 (l1 : Int32).toNatClampNeg r10 := ⟨_, rfl⟩
          have h := h x12 ex12
          refine T_iast 43 702 (dk dtk_X6_faultOf 27 rfl) kk_43 (kl_43 hq) h11 ?_
          rw [← ex12]
          refine T_aload_n 0 (dk dtk_X6_faultOf 28 rfl) rfl rfl ?_
          refine T_getR 40 2 43 (dk dtk_X6_faultOf 29 rfl) kfl_X6_21 kk_40 (kl_40 hq) (by decide) rfl kr_40_2 ?_
          refine T_iload_n 1 (dk dtk_X6_faultOf 30 rfl) rfl rfl ?_
          obtain ⟨h13, h⟩ := h
          refine T_iald 43 702 (dk dtk_X6_faultOf 31 rfl) kk_43 (kl_43 hq) h13 ?_
          refine T_iconst (v := (-1)) (dk dtk_X6_faultOf 32 rfl) (by decide +kernel) ?_
          refine T_icmp_ne 123 (dk dtk_X6_faultOf 33 rfl) (by decide) (fun c14 => ?_) (fun c14 => ?_)
          · have h := h.1 c14
            refine T_iconst (v := 0) (dk dtk_X6_faultOf 36 rfl) (by decide +kernel) ?_
            exact KT_iret (dk dtk_X6_faultOf 37 rfl) rfl rfl h
          · have h := h.2 c14
            refine T_iconst (v := 5) (dk dtk_X6_faultOf 34 rfl) (by decide +kernel) ?_
            refine T_goto 124 (dk dtk_X6_faultOf 35 rfl) (by decide) ?_
            exact KT_iret (dk dtk_X6_faultOf 37 rfl) rfl rfl h
        · have h := h.2
          by_cases c15 : (x.1 42 (l1 : Int32).toNatClampNeg) = 5
          · have h := h.1 c15
            refine T_table 119 125 (dk dtk_X6_faultOf 4 rfl) (by decide) (by rw [c15]; decide +kernel) (by decide) ?_
            refine T_aload_n 0 (dk dtk_X6_faultOf 38 rfl) rfl rfl ?_
            refine T_getR 40 2 43 (dk dtk_X6_faultOf 39 rfl) kfl_X6_21 kk_40 (kl_40 hq) (by decide) rfl kr_40_2 ?_
            refine T_iload_n 1 (dk dtk_X6_faultOf 40 rfl) rfl rfl ?_
            refine T_aload_n 0 (dk dtk_X6_faultOf 41 rfl) rfl rfl ?_
            refine T_aload_n 0 (dk dtk_X6_faultOf 42 rfl) rfl rfl ?_
            refine T_getR 40 9 50 (dk dtk_X6_faultOf 43 rfl) kfl_X6_36 kk_40 (kl_40 hq) (by decide) rfl kr_40_9 ?_
            refine T_aload_n 0 (dk dtk_X6_faultOf 44 rfl) rfl rfl ?_
            refine T_getI 40 10 (dk dtk_X6_faultOf 45 rfl) kfl_X6_46 kk_40 (kl_40 hq) (by decide) rfl ?_
            refine T_iload_n 1 (dk dtk_X6_faultOf 46 rfl) rfl rfl ?_
            refine KC_Vi [vr 50, vi (x.1 40 10), vi l1] [vi l1, vr 43] rfl (dk dtk_X6_faultOf 47 rfl) kcv_X6_69 rfl kk_40 rfl (kl_40 hq) (Nat.le_of_ble_eq_true rfl) (Nat.le_of_ble_eq_true rfl) (gok_i (av_c (gkr (kl_40 hq)) (av_c rfl av_n)) (as_c rfl (as_c (gkr (kl_43 hq)) as_n))) rfl h (fun r17 x16 h => ?_)
            obtain ⟨h18, h⟩ := h
            obtain ⟨x19, ex19⟩ : ∃ z, z = si x16 43 (l1 : Int32).toNatClampNeg r17 := ⟨_, rfl⟩
            have h := h x19 ex19
            refine T_iast 43 702 (dk dtk_X6_faultOf 48 rfl) kk_43 (kl_43 hq) h18 ?_
            rw [← ex19]
            refine T_aload_n 0 (dk dtk_X6_faultOf 49 rfl) rfl rfl ?_
            refine T_getR 40 2 43 (dk dtk_X6_faultOf 50 rfl) kfl_X6_21 kk_40 (kl_40 hq) (by decide) rfl kr_40_2 ?_
            refine T_iload_n 1 (dk dtk_X6_faultOf 51 rfl) rfl rfl ?_
            obtain ⟨h20, h⟩ := h
            refine T_iald 43 702 (dk dtk_X6_faultOf 52 rfl) kk_43 (kl_43 hq) h20 ?_
            refine T_iconst (v := (-1)) (dk dtk_X6_faultOf 53 rfl) (by decide +kernel) ?_
            refine T_icmp_ne 158 (dk dtk_X6_faultOf 54 rfl) (by decide) (fun c21 => ?_) (fun c21 => ?_)
            · have h := h.1 c21
              refine T_iconst (v := 0) (dk dtk_X6_faultOf 57 rfl) (by decide +kernel) ?_
              exact KT_iret (dk dtk_X6_faultOf 58 rfl) rfl rfl h
            · have h := h.2 c21
              refine T_iconst (v := 5) (dk dtk_X6_faultOf 55 rfl) (by decide +kernel) ?_
              refine T_goto 159 (dk dtk_X6_faultOf 56 rfl) (by decide) ?_
              exact KT_iret (dk dtk_X6_faultOf 58 rfl) rfl rfl h
          · have h := h.2
            by_cases c22 : (x.1 42 (l1 : Int32).toNatClampNeg) = 10
            · have h := h.1 c22
              refine T_table 154 160 (dk dtk_X6_faultOf 4 rfl) (by decide) (by rw [c22]; decide +kernel) (by decide) ?_
              refine T_bipush (v := 7) (dk dtk_X6_faultOf 59 rfl) (by decide +kernel) ?_
              exact KT_iret (dk dtk_X6_faultOf 60 rfl) rfl rfl h
            · have h := h.2
              by_cases c23 : (x.1 42 (l1 : Int32).toNatClampNeg) = 11
              · have h := h.1 c23
                refine T_table 157 163 (dk dtk_X6_faultOf 4 rfl) (by decide) (by rw [c23]; decide +kernel) (by decide) ?_
                refine T_aload_n 0 (dk dtk_X6_faultOf 61 rfl) rfl rfl ?_
                refine T_getR 40 0 20 (dk dtk_X6_faultOf 62 rfl) kfl_X6_9 kk_40 (kl_40 hq) (by decide) rfl kr_40_0 ?_
                refine T_getR 20 6 27 (dk dtk_X6_faultOf 63 rfl) kfl_X6_73 kk_20 (kl_20 hq) (by decide) rfl kr_20_6 ?_
                refine T_iload_n 1 (dk dtk_X6_faultOf 64 rfl) rfl rfl ?_
                obtain ⟨h24, h⟩ := h
                refine T_iald 27 702 (dk dtk_X6_faultOf 65 rfl) kk_27 (kl_27 hq) h24 ?_
                refine T_sub (lv2 := []) [] rfl ?_
                refine KC_Si [vi (x.1 27 (l1 : Int32).toNatClampNeg)] [] rfl (dk dtk_X6_faultOf 66 rfl) kcs_X6_76 rfl (Nat.le_of_ble_eq_true rfl) (Nat.le_of_ble_eq_true rfl) (gok_i av_n as_n) rfl h (fun r26 x25 h => ?_)
                refine T_if_eq 182 (dk dtk_X6_faultOf 67 rfl) (by decide) (fun c27 => ?_) (fun c27 => ?_)
                · have h := h.1 c27
                  refine T_bipush (v := 6) (dk dtk_X6_faultOf 70 rfl) (by decide +kernel) ?_
                  exact KT_iret (dk dtk_X6_faultOf 71 rfl) rfl rfl h
                · have h := h.2 c27
                  refine T_iconst (v := 0) (dk dtk_X6_faultOf 68 rfl) (by decide +kernel) ?_
                  refine T_goto 184 (dk dtk_X6_faultOf 69 rfl) (by decide) ?_
                  exact KT_iret (dk dtk_X6_faultOf 71 rfl) rfl rfl h
              · have h := h.2
                by_cases c28 : (x.1 42 (l1 : Int32).toNatClampNeg) = 13
                · have h := h.1 c28
                  refine T_table 179 185 (dk dtk_X6_faultOf 4 rfl) (by decide) (by rw [c28]; decide +kernel) (by decide) ?_
                  refine T_aload_n 0 (dk dtk_X6_faultOf 72 rfl) rfl rfl ?_
                  refine T_getR 40 0 20 (dk dtk_X6_faultOf 73 rfl) kfl_X6_9 kk_40 (kl_40 hq) (by decide) rfl kr_40_0 ?_
                  refine T_getR 20 6 27 (dk dtk_X6_faultOf 74 rfl) kfl_X6_73 kk_20 (kl_20 hq) (by decide) rfl kr_20_6 ?_
                  refine T_iload_n 1 (dk dtk_X6_faultOf 75 rfl) rfl rfl ?_
                  obtain ⟨h29, h⟩ := h
                  refine T_iald 27 702 (dk dtk_X6_faultOf 76 rfl) kk_27 (kl_27 hq) h29 ?_
                  refine T_iconst (v := 3) (dk dtk_X6_faultOf 77 rfl) (by decide +kernel) ?_
                  refine T_icmp_le 203 (dk dtk_X6_faultOf 78 rfl) (by decide) (fun c30 => ?_) (fun c30 => ?_)
                  · have h := h.1 c30
                    refine T_iconst (v := 0) (dk dtk_X6_faultOf 81 rfl) (by decide +kernel) ?_
                    exact KT_iret (dk dtk_X6_faultOf 82 rfl) rfl rfl h
                  · have h := h.2 c30
                    refine T_bipush (v := 6) (dk dtk_X6_faultOf 79 rfl) (by decide +kernel) ?_
                    refine T_goto 204 (dk dtk_X6_faultOf 80 rfl) (by decide) ?_
                    exact KT_iret (dk dtk_X6_faultOf 82 rfl) rfl rfl h
                · have h := h.2
                  by_cases c31 : (x.1 42 (l1 : Int32).toNatClampNeg) = 12
                  · have h := h.1 c31
                    refine T_table 199 205 (dk dtk_X6_faultOf 4 rfl) (by decide) (by rw [c31]; decide +kernel) (by decide) ?_
                    refine T_iload_n 1 (dk dtk_X6_faultOf 83 rfl) rfl rfl ?_
                    refine T_iconst (v := 2) (dk dtk_X6_faultOf 84 rfl) (by decide +kernel) ?_
                    refine T_icmp_lt 239 (dk dtk_X6_faultOf 85 rfl) (by decide) (fun c32 => ?_) (fun c32 => ?_)
                    · have h := h.1 c32
                      refine T_bipush (v := 6) (dk dtk_X6_faultOf 103 rfl) (by decide +kernel) ?_
                      exact KT_iret (dk dtk_X6_faultOf 104 rfl) rfl rfl h
                    · have h := h.2 c32
                      refine T_aload_n 0 (dk dtk_X6_faultOf 86 rfl) rfl rfl ?_
                      refine T_getR 40 0 20 (dk dtk_X6_faultOf 87 rfl) kfl_X6_9 kk_40 (kl_40 hq) (by decide) rfl kr_40_0 ?_
                      refine T_getR 20 6 27 (dk dtk_X6_faultOf 88 rfl) kfl_X6_73 kk_20 (kl_20 hq) (by decide) rfl kr_20_6 ?_
                      refine T_iload_n 1 (dk dtk_X6_faultOf 89 rfl) rfl rfl ?_
                      obtain ⟨h33, h⟩ := h
                      refine T_iald 27 702 (dk dtk_X6_faultOf 90 rfl) kk_27 (kl_27 hq) h33 ?_
                      refine T_aload_n 0 (dk dtk_X6_faultOf 91 rfl) rfl rfl ?_
                      refine T_getR 40 5 46 (dk dtk_X6_faultOf 92 rfl) kfl_X6_30 kk_40 (kl_40 hq) (by decide) rfl kr_40_5 ?_
                      refine T_aload_n 0 (dk dtk_X6_faultOf 93 rfl) rfl rfl ?_
                      refine T_getR 40 2 43 (dk dtk_X6_faultOf 94 rfl) kfl_X6_21 kk_40 (kl_40 hq) (by decide) rfl kr_40_2 ?_
                      refine T_iload_n 1 (dk dtk_X6_faultOf 95 rfl) rfl rfl ?_
                      refine T_iconst (v := 2) (dk dtk_X6_faultOf 96 rfl) (by decide +kernel) ?_
                      refine T_isub (dk dtk_X6_faultOf 97 rfl) ?_
                      obtain ⟨h34, h⟩ := h
                      refine T_iald 43 702 (dk dtk_X6_faultOf 98 rfl) kk_43 (kl_43 hq) h34 ?_
                      obtain ⟨h35, h⟩ := h
                      refine T_iald 46 24 (dk dtk_X6_faultOf 99 rfl) kk_46 (kl_46 hq) h35 ?_
                      refine T_icmp_ge 239 (dk dtk_X6_faultOf 100 rfl) (by decide) (fun c36 => ?_) (fun c36 => ?_)
                      · have h := h.1 c36
                        refine T_bipush (v := 6) (dk dtk_X6_faultOf 103 rfl) (by decide +kernel) ?_
                        exact KT_iret (dk dtk_X6_faultOf 104 rfl) rfl rfl h
                      · have h := h.2 c36
                        refine T_iconst (v := 0) (dk dtk_X6_faultOf 101 rfl) (by decide +kernel) ?_
                        refine T_goto 241 (dk dtk_X6_faultOf 102 rfl) (by decide) ?_
                        exact KT_iret (dk dtk_X6_faultOf 104 rfl) rfl rfl h
                  · have h := h.2
                    have n37 : ∀ k ∈ [(1 : Int32), (2 : Int32), (3 : Int32), (4 : Int32), (5 : Int32), (10 : Int32), (11 : Int32), (13 : Int32), (12 : Int32)], ¬ (x.1 42 (l1 : Int32).toNatClampNeg) = k := (gno c2 (gno c6 (gno c7 (gno c8 (gno c15 (gno c22 (gno c23 (gno c28 (gno c31 gno0)))))))))
                    have h := h n37
                    refine T_table 236 242 (dk dtk_X6_faultOf 4 rfl) (by decide) (gtab_d [(1 : Int32), (2 : Int32), (3 : Int32), (4 : Int32), (5 : Int32), (10 : Int32), (11 : Int32), (13 : Int32), (12 : Int32)] (by decide +kernel) n37) (by decide) ?_
                    refine T_aload_n 0 (dk dtk_X6_faultOf 105 rfl) rfl rfl ?_
                    refine T_iload_n 1 (dk dtk_X6_faultOf 106 rfl) rfl rfl ?_
                    refine T_sub (lv2 := []) [] rfl ?_
                    refine KC_Vi [vi l1] [] rfl (dk dtk_X6_faultOf 107 rfl) kcv_X6_79 rfl kk_40 rfl (kl_40 hq) (Nat.le_of_ble_eq_true rfl) (Nat.le_of_ble_eq_true rfl) (gok_i av_n as_n) rfl h (fun r39 x38 h => ?_)
                    exact KT_iret (dk dtk_X6_faultOf 108 rfl) rfl rfl h
set_option maxRecDepth 100000 in
theorem dtk_X6_faultOfCell : dck cX6_faultOfCell [(0, .aload_n 0, 1), (1, .getfield 21, 3), (4, .iload_n 1, 1), (5, .aload_n 0, 1), (6, .iload_n 1, 1), (7, .aload_n 0, 1), (8, .getfield 17, 3), (11, .iload_n 1, 1), (12, .iaload, 1), (13, .bipush 7, 2), (15, .if_icmp .eq 14, 3), (18, .aload_n 0, 1), (19, .getfield 17, 3), (22, .iload_n 1, 1), (23, .iaload, 1), (24, .bipush 9, 2), (26, .if_icmp .ne 7, 3), (29, .iconst 1, 1), (30, .goto 4, 3), (33, .iconst 0, 1), (34, .invokevirtual 82, 3), (37, .iastore, 1), (38, .aload_n 0, 1), (39, .getfield 21, 3), (42, .iload_n 1, 1), (43, .iaload, 1), (44, .iconst (-1), 1), (45, .if_icmp .ne 5, 3), (48, .iconst 5, 1), (49, .ireturn, 1), (50, .aload_n 0, 1), (51, .getfield 17, 3), (54, .iload_n 1, 1), (55, .iaload, 1), (56, .bipush 6, 2), (58, .if_icmp .eq 14, 3), (61, .aload_n 0, 1), (62, .getfield 17, 3), (65, .iload_n 1, 1), (66, .iaload, 1), (67, .bipush 7, 2), (69, .if_icmp .ne 7, 3), (72, .iconst 0, 1), (73, .goto 5, 3), (76, .bipush 7, 2), (78, .ireturn, 1)] = true := by decide +kernel
set_option maxRecDepth 100000 in
set_option maxHeartbeats 4000000 in
theorem kg_X6_faultOfCell_0 {G : kG} {q : kP} {d : Nat} {x : gd} {P : Option gv → gd → Prop} (hq : kV q) (l1 : Int32)
    (h : vp_in l1 702 ∧ (((x.1 42 (l1 : Int32).toNatClampNeg) = (7 : Int32) → KT G q (d + 1) zk_X6_faultOfCell 34 [(0, vr 40), (1, vi l1)] [vi 1, vi l1, vr 40, vi l1, vr 43] x P) ∧ (¬ ((x.1 42 (l1 : Int32).toNatClampNeg) = (7 : Int32)) → vp_in l1 702 ∧ ((¬ ((x.1 42 (l1 : Int32).toNatClampNeg) = (9 : Int32)) → KT G q (d + 1) zk_X6_faultOfCell 34 [(0, vr 40), (1, vi l1)] [vi 0, vi l1, vr 40, vi l1, vr 43] x P) ∧ ((x.1 42 (l1 : Int32).toNatClampNeg) = (9 : Int32) → KT G q (d + 1) zk_X6_faultOfCell 34 [(0, vr 40), (1, vi l1)] [vi 1, vi l1, vr 40, vi l1, vr 43] x P))))) :
    KT G q (d + 1) zk_X6_faultOfCell 0 [(0, vr 40), (1, vi l1)] [] x P := by
  refine T_aload_n 0 (dk dtk_X6_faultOfCell 0 rfl) rfl rfl ?_
  refine T_getR 40 2 43 (dk dtk_X6_faultOfCell 1 rfl) kfl_X6_21 kk_40 (kl_40 hq) (by decide) rfl kr_40_2 ?_
  refine T_iload_n 1 (dk dtk_X6_faultOfCell 2 rfl) rfl rfl ?_
  refine T_aload_n 0 (dk dtk_X6_faultOfCell 3 rfl) rfl rfl ?_
  refine T_iload_n 1 (dk dtk_X6_faultOfCell 4 rfl) rfl rfl ?_
  refine T_aload_n 0 (dk dtk_X6_faultOfCell 5 rfl) rfl rfl ?_
  refine T_getR 40 1 42 (dk dtk_X6_faultOfCell 6 rfl) kfl_X6_17 kk_40 (kl_40 hq) (by decide) rfl kr_40_1 ?_
  refine T_iload_n 1 (dk dtk_X6_faultOfCell 7 rfl) rfl rfl ?_
  obtain ⟨h1, h⟩ := h
  refine T_iald 42 702 (dk dtk_X6_faultOfCell 8 rfl) kk_42 (kl_42 hq) h1 ?_
  refine T_bipush (v := 7) (dk dtk_X6_faultOfCell 9 rfl) (by decide +kernel) ?_
  refine T_icmp_eq 29 (dk dtk_X6_faultOfCell 10 rfl) (by decide) (fun c2 => ?_) (fun c2 => ?_)
  · have h := h.1 c2
    refine T_iconst (v := 1) (dk dtk_X6_faultOfCell 17 rfl) (by decide +kernel) ?_
    refine T_goto 34 (dk dtk_X6_faultOfCell 18 rfl) (by decide) ?_
    exact h
  · have h := h.2 c2
    refine T_aload_n 0 (dk dtk_X6_faultOfCell 11 rfl) rfl rfl ?_
    refine T_getR 40 1 42 (dk dtk_X6_faultOfCell 12 rfl) kfl_X6_17 kk_40 (kl_40 hq) (by decide) rfl kr_40_1 ?_
    refine T_iload_n 1 (dk dtk_X6_faultOfCell 13 rfl) rfl rfl ?_
    obtain ⟨h3, h⟩ := h
    refine T_iald 42 702 (dk dtk_X6_faultOfCell 14 rfl) kk_42 (kl_42 hq) h3 ?_
    refine T_bipush (v := 9) (dk dtk_X6_faultOfCell 15 rfl) (by decide +kernel) ?_
    refine T_icmp_ne 33 (dk dtk_X6_faultOfCell 16 rfl) (by decide) (fun c4 => ?_) (fun c4 => ?_)
    · have h := h.1 c4
      refine T_iconst (v := 0) (dk dtk_X6_faultOfCell 19 rfl) (by decide +kernel) ?_
      exact h
    · have h := h.2 c4
      refine T_iconst (v := 1) (dk dtk_X6_faultOfCell 17 rfl) (by decide +kernel) ?_
      refine T_goto 34 (dk dtk_X6_faultOfCell 18 rfl) (by decide) ?_
      exact h
set_option maxRecDepth 100000 in
set_option maxHeartbeats 4000000 in
theorem kg_X6_faultOfCell_34 {G : kG} {q : kP} {d : Nat} {x : gd} {P : Option gv → gd → Prop} (hq : kV q) (l1 : Int32) (s0 : Int32) (s1 : Int32) (s3 : Int32)
    (h : KT G q d zk_X6_cellOf 0 [(0, vr 40), (1, vi s1), (2, vi s0)] [] x (ri (fun r2 x1 => vp_in s3 702 ∧ (∀ x4 : gd, x4 = si x1 43 (s3 : Int32).toNatClampNeg r2 → vp_in l1 702 ∧ ((¬ ((x4.1 43 (l1 : Int32).toNatClampNeg) = (-1 : Int32)) → vp_in l1 702 ∧ (((x4.1 42 (l1 : Int32).toNatClampNeg) = (6 : Int32) → P (some (vi 0)) x4) ∧ (¬ ((x4.1 42 (l1 : Int32).toNatClampNeg) = (6 : Int32)) → vp_in l1 702 ∧ ((¬ ((x4.1 42 (l1 : Int32).toNatClampNeg) = (7 : Int32)) → P (some (vi 7)) x4) ∧ ((x4.1 42 (l1 : Int32).toNatClampNeg) = (7 : Int32) → P (some (vi 0)) x4))))) ∧ ((x4.1 43 (l1 : Int32).toNatClampNeg) = (-1 : Int32) → P (some (vi 5)) x4)))))) :
    KT G q (d + 1) zk_X6_faultOfCell 34 [(0, vr 40), (1, vi l1)] [vi s0, vi s1, vr 40, vi s3, vr 43] x P := by
  refine KC_Vi [vi s1, vi s0] [vi s3, vr 43] rfl (dk dtk_X6_faultOfCell 20 rfl) kcv_X6_82 rfl kk_40 rfl (kl_40 hq) (Nat.le_of_ble_eq_true rfl) (Nat.le_of_ble_eq_true rfl) (gok_i (av_c (gkr (kl_40 hq)) (av_c rfl av_n)) (as_c rfl (as_c (gkr (kl_43 hq)) as_n))) rfl h (fun r2 x1 h => ?_)
  obtain ⟨h3, h⟩ := h
  obtain ⟨x4, ex4⟩ : ∃ z, z = si x1 43 (s3 : Int32).toNatClampNeg r2 := ⟨_, rfl⟩
  have h := h x4 ex4
  refine T_iast 43 702 (dk dtk_X6_faultOfCell 21 rfl) kk_43 (kl_43 hq) h3 ?_
  rw [← ex4]
  refine T_aload_n 0 (dk dtk_X6_faultOfCell 22 rfl) rfl rfl ?_
  refine T_getR 40 2 43 (dk dtk_X6_faultOfCell 23 rfl) kfl_X6_21 kk_40 (kl_40 hq) (by decide) rfl kr_40_2 ?_
  refine T_iload_n 1 (dk dtk_X6_faultOfCell 24 rfl) rfl rfl ?_
  obtain ⟨h5, h⟩ := h
  refine T_iald 43 702 (dk dtk_X6_faultOfCell 25 rfl) kk_43 (kl_43 hq) h5 ?_
  refine T_iconst (v := (-1)) (dk dtk_X6_faultOfCell 26 rfl) (by decide +kernel) ?_
  refine T_icmp_ne 50 (dk dtk_X6_faultOfCell 27 rfl) (by decide) (fun c6 => ?_) (fun c6 => ?_)
  · have h := h.1 c6
    refine T_aload_n 0 (dk dtk_X6_faultOfCell 30 rfl) rfl rfl ?_
    refine T_getR 40 1 42 (dk dtk_X6_faultOfCell 31 rfl) kfl_X6_17 kk_40 (kl_40 hq) (by decide) rfl kr_40_1 ?_
    refine T_iload_n 1 (dk dtk_X6_faultOfCell 32 rfl) rfl rfl ?_
    obtain ⟨h7, h⟩ := h
    refine T_iald 42 702 (dk dtk_X6_faultOfCell 33 rfl) kk_42 (kl_42 hq) h7 ?_
    refine T_bipush (v := 6) (dk dtk_X6_faultOfCell 34 rfl) (by decide +kernel) ?_
    refine T_icmp_eq 72 (dk dtk_X6_faultOfCell 35 rfl) (by decide) (fun c8 => ?_) (fun c8 => ?_)
    · have h := h.1 c8
      refine T_iconst (v := 0) (dk dtk_X6_faultOfCell 42 rfl) (by decide +kernel) ?_
      refine T_goto 78 (dk dtk_X6_faultOfCell 43 rfl) (by decide) ?_
      exact KT_iret (dk dtk_X6_faultOfCell 45 rfl) rfl rfl h
    · have h := h.2 c8
      refine T_aload_n 0 (dk dtk_X6_faultOfCell 36 rfl) rfl rfl ?_
      refine T_getR 40 1 42 (dk dtk_X6_faultOfCell 37 rfl) kfl_X6_17 kk_40 (kl_40 hq) (by decide) rfl kr_40_1 ?_
      refine T_iload_n 1 (dk dtk_X6_faultOfCell 38 rfl) rfl rfl ?_
      obtain ⟨h9, h⟩ := h
      refine T_iald 42 702 (dk dtk_X6_faultOfCell 39 rfl) kk_42 (kl_42 hq) h9 ?_
      refine T_bipush (v := 7) (dk dtk_X6_faultOfCell 40 rfl) (by decide +kernel) ?_
      refine T_icmp_ne 76 (dk dtk_X6_faultOfCell 41 rfl) (by decide) (fun c10 => ?_) (fun c10 => ?_)
      · have h := h.1 c10
        refine T_bipush (v := 7) (dk dtk_X6_faultOfCell 44 rfl) (by decide +kernel) ?_
        exact KT_iret (dk dtk_X6_faultOfCell 45 rfl) rfl rfl h
      · have h := h.2 c10
        refine T_iconst (v := 0) (dk dtk_X6_faultOfCell 42 rfl) (by decide +kernel) ?_
        refine T_goto 78 (dk dtk_X6_faultOfCell 43 rfl) (by decide) ?_
        exact KT_iret (dk dtk_X6_faultOfCell 45 rfl) rfl rfl h
  · have h := h.2 c6
    refine T_iconst (v := 5) (dk dtk_X6_faultOfCell 28 rfl) (by decide +kernel) ?_
    exact KT_iret (dk dtk_X6_faultOfCell 29 rfl) rfl rfl h
set_option maxRecDepth 100000 in
theorem dtk_X6_isToldBefore : dck cX6_isToldBefore [(0, .aload_n 0, 1), (1, .aload_n 0, 1), (2, .getfield 24, 3), (5, .aload_n 0, 1), (6, .getfield 39, 3), (9, .iload_n 1, 1), (10, .invokevirtual 86, 3), (13, .ifCond .ne 35, 3), (16, .aload_n 0, 1), (17, .aload_n 0, 1), (18, .getfield 33, 3), (21, .aload_n 0, 1), (22, .getfield 43, 3), (25, .iload_n 1, 1), (26, .invokevirtual 86, 3), (29, .ifCond .ne 19, 3), (32, .aload_n 0, 1), (33, .aload_n 0, 1), (34, .getfield 36, 3), (37, .aload_n 0, 1), (38, .getfield 46, 3), (41, .iload_n 1, 1), (42, .invokevirtual 86, 3), (45, .ifCond .eq 7, 3), (48, .iconst 1, 1), (49, .goto 4, 3), (52, .iconst 0, 1), (53, .ireturn, 1)] = true := by decide +kernel
set_option maxRecDepth 100000 in
set_option maxHeartbeats 4000000 in
theorem kg_X6_isToldBefore_0 {G : kG} {q : kP} {d : Nat} {x : gd} {P : Option gv → gd → Prop} (hq : kV q) (l1 : Int32)
    (h : KT G q d zk_X6_isAmong 0 [(0, vr 40), (1, vr 44), (2, vi (x.1 40 6)), (3, vi l1)] [] x (ri (fun r2 x1 => ((¬ (r2 = (0 : Int32)) → P (some (vi 1)) x1) ∧ (r2 = (0 : Int32) → KT G q d zk_X6_isAmong 0 [(0, vr 40), (1, vr 48), (2, vi (x1.1 40 8)), (3, vi l1)] [] x1 (ri (fun r5 x4 => ((¬ (r5 = (0 : Int32)) → P (some (vi 1)) x4) ∧ (r5 = (0 : Int32) → KT G q d zk_X6_isAmong 0 [(0, vr 40), (1, vr 50), (2, vi (x4.1 40 10)), (3, vi l1)] [] x4 (ri (fun r8 x7 => ((r8 = (0 : Int32) → P (some (vi 0)) x7) ∧ (¬ (r8 = (0 : Int32)) → P (some (vi 1)) x7))))))))))))) :
    KT G q (d + 1) zk_X6_isToldBefore 0 [(0, vr 40), (1, vi l1)] [] x P := by
  refine T_aload_n 0 (dk dtk_X6_isToldBefore 0 rfl) rfl rfl ?_
  refine T_aload_n 0 (dk dtk_X6_isToldBefore 1 rfl) rfl rfl ?_
  refine T_getR 40 3 44 (dk dtk_X6_isToldBefore 2 rfl) kfl_X6_24 kk_40 (kl_40 hq) (by decide) rfl kr_40_3 ?_
  refine T_aload_n 0 (dk dtk_X6_isToldBefore 3 rfl) rfl rfl ?_
  refine T_getI 40 6 (dk dtk_X6_isToldBefore 4 rfl) kfl_X6_39 kk_40 (kl_40 hq) (by decide) rfl ?_
  refine T_iload_n 1 (dk dtk_X6_isToldBefore 5 rfl) rfl rfl ?_
  refine KC_Vi [vr 44, vi (x.1 40 6), vi l1] [] rfl (dk dtk_X6_isToldBefore 6 rfl) kcv_X6_86 rfl kk_40 rfl (kl_40 hq) (Nat.le_of_ble_eq_true rfl) (Nat.le_of_ble_eq_true rfl) (gok_i (av_c (gkr (kl_40 hq)) (av_c rfl av_n)) as_n) rfl h (fun r2 x1 h => ?_)
  refine T_if_ne 48 (dk dtk_X6_isToldBefore 7 rfl) (by decide) (fun c3 => ?_) (fun c3 => ?_)
  · have h := h.1 c3
    refine T_iconst (v := 1) (dk dtk_X6_isToldBefore 24 rfl) (by decide +kernel) ?_
    refine T_goto 53 (dk dtk_X6_isToldBefore 25 rfl) (by decide) ?_
    exact KT_iret (dk dtk_X6_isToldBefore 27 rfl) rfl rfl h
  · have h := h.2 c3
    refine T_aload_n 0 (dk dtk_X6_isToldBefore 8 rfl) rfl rfl ?_
    refine T_aload_n 0 (dk dtk_X6_isToldBefore 9 rfl) rfl rfl ?_
    refine T_getR 40 7 48 (dk dtk_X6_isToldBefore 10 rfl) kfl_X6_33 kk_40 (kl_40 hq) (by decide) rfl kr_40_7 ?_
    refine T_aload_n 0 (dk dtk_X6_isToldBefore 11 rfl) rfl rfl ?_
    refine T_getI 40 8 (dk dtk_X6_isToldBefore 12 rfl) kfl_X6_43 kk_40 (kl_40 hq) (by decide) rfl ?_
    refine T_iload_n 1 (dk dtk_X6_isToldBefore 13 rfl) rfl rfl ?_
    refine KC_Vi [vr 48, vi (x1.1 40 8), vi l1] [] rfl (dk dtk_X6_isToldBefore 14 rfl) kcv_X6_86 rfl kk_40 rfl (kl_40 hq) (Nat.le_of_ble_eq_true rfl) (Nat.le_of_ble_eq_true rfl) (gok_i (av_c (gkr (kl_40 hq)) (av_c rfl av_n)) as_n) rfl h (fun r5 x4 h => ?_)
    refine T_if_ne 48 (dk dtk_X6_isToldBefore 15 rfl) (by decide) (fun c6 => ?_) (fun c6 => ?_)
    · have h := h.1 c6
      refine T_iconst (v := 1) (dk dtk_X6_isToldBefore 24 rfl) (by decide +kernel) ?_
      refine T_goto 53 (dk dtk_X6_isToldBefore 25 rfl) (by decide) ?_
      exact KT_iret (dk dtk_X6_isToldBefore 27 rfl) rfl rfl h
    · have h := h.2 c6
      refine T_aload_n 0 (dk dtk_X6_isToldBefore 16 rfl) rfl rfl ?_
      refine T_aload_n 0 (dk dtk_X6_isToldBefore 17 rfl) rfl rfl ?_
      refine T_getR 40 9 50 (dk dtk_X6_isToldBefore 18 rfl) kfl_X6_36 kk_40 (kl_40 hq) (by decide) rfl kr_40_9 ?_
      refine T_aload_n 0 (dk dtk_X6_isToldBefore 19 rfl) rfl rfl ?_
      refine T_getI 40 10 (dk dtk_X6_isToldBefore 20 rfl) kfl_X6_46 kk_40 (kl_40 hq) (by decide) rfl ?_
      refine T_iload_n 1 (dk dtk_X6_isToldBefore 21 rfl) rfl rfl ?_
      refine T_sub (lv2 := []) [] rfl ?_
      refine KC_Vi [vr 50, vi (x4.1 40 10), vi l1] [] rfl (dk dtk_X6_isToldBefore 22 rfl) kcv_X6_86 rfl kk_40 rfl (kl_40 hq) (Nat.le_of_ble_eq_true rfl) (Nat.le_of_ble_eq_true rfl) (gok_i av_n as_n) rfl h (fun r8 x7 h => ?_)
      refine T_if_eq 52 (dk dtk_X6_isToldBefore 23 rfl) (by decide) (fun c9 => ?_) (fun c9 => ?_)
      · have h := h.1 c9
        refine T_iconst (v := 0) (dk dtk_X6_isToldBefore 26 rfl) (by decide +kernel) ?_
        exact KT_iret (dk dtk_X6_isToldBefore 27 rfl) rfl rfl h
      · have h := h.2 c9
        refine T_iconst (v := 1) (dk dtk_X6_isToldBefore 24 rfl) (by decide +kernel) ?_
        refine T_goto 53 (dk dtk_X6_isToldBefore 25 rfl) (by decide) ?_
        exact KT_iret (dk dtk_X6_isToldBefore 27 rfl) rfl rfl h
set_option maxRecDepth 100000 in
theorem dtk_X6_isAmong : dck cX6_isAmong [(0, .iconst 0, 1), (1, .istore 4, 2), (3, .iload 4, 2), (5, .iload_n 2, 1), (6, .if_icmp .ge 34, 3), (9, .aload_n 1, 1), (10, .iload 4, 2), (12, .iaload, 1), (13, .iload_n 3, 1), (14, .if_icmp .ge 20, 3), (17, .aload_n 0, 1), (18, .getfield 9, 3), (21, .aload_n 1, 1), (22, .iload 4, 2), (24, .iaload, 1), (25, .iload_n 3, 1), (26, .invokevirtual 90, 3), (29, .ifCond .eq 5, 3), (32, .iconst 1, 1), (33, .ireturn, 1), (34, .iinc 4 1, 3), (37, .goto (-34), 3), (40, .iconst 0, 1), (41, .ireturn, 1)] = true := by decide +kernel
set_option maxRecDepth 100000 in
set_option maxHeartbeats 4000000 in
theorem kg_X6_isAmong_0 {G : kG} {q : kP} {d : Nat} {x : gd} {P : Option gv → gd → Prop} (hq : kV q) {a1 n1 : Nat} (ka1 : kK a1 = .inr (.int, n1)) (ma1 : a1 ∈ (kf q).2.1) (l2 : Int32) (l3 : Int32)
    (h : KT G q (d + 1) zk_X6_isAmong 3 [(0, vr 40), (1, vr a1), (2, vi l2), (3, vi l3), (4, vi 0)] [] x P) :
    KT G q (d + 1) zk_X6_isAmong 0 [(0, vr 40), (1, vr a1), (2, vi l2), (3, vi l3)] [] x P := by
  refine T_iconst (v := 0) (dk dtk_X6_isAmong 0 rfl) (by decide +kernel) ?_
  refine T_istore (lv2 := [(4, vi 0), (0, vr 40), (1, vr a1), (2, vi l2), (3, vi l3)]) (dk dtk_X6_isAmong 1 rfl) (by decide) rfl ?_
  exact T_sub [1, 2, 3, 4, 0] rfl h
set_option maxRecDepth 100000 in
set_option maxHeartbeats 4000000 in
theorem kg_X6_isAmong_3 {G : kG} {q : kP} {d : Nat} {x : gd} {P : Option gv → gd → Prop} (hq : kV q) {a1 n1 : Nat} (ka1 : kK a1 = .inr (.int, n1)) (ma1 : a1 ∈ (kf q).2.1) (l2 : Int32) (l3 : Int32) (l4 : Int32)
    (h : ((l2 ≤ l4 → P (some (vi 0)) x) ∧ (¬ (l2 ≤ l4) → vp_in l4 n1 ∧ ((l3 ≤ (x.1 a1 (l4 : Int32).toNatClampNeg) → KT G q (d + 1) zk_X6_isAmong 3 [(0, vr 40), (1, vr a1), (2, vi l2), (3, vi l3), (4, vi (l4 + 1))] [] x P) ∧ (¬ (l3 ≤ (x.1 a1 (l4 : Int32).toNatClampNeg)) → vp_in l4 n1 ∧ KT G q d zk_X9_sameName 0 [(0, vr 20), (1, vi (x.1 a1 (l4 : Int32).toNatClampNeg)), (2, vi l3)] [] x (ri (fun r6 x5 => ((r6 = (0 : Int32) → KT G q (d + 1) zk_X6_isAmong 3 [(0, vr 40), (1, vr a1), (2, vi l2), (3, vi l3), (4, vi (l4 + 1))] [] x5 P) ∧ (¬ (r6 = (0 : Int32)) → P (some (vi 1)) x5))))))))) :
    KT G q (d + 1) zk_X6_isAmong 3 [(0, vr 40), (1, vr a1), (2, vi l2), (3, vi l3), (4, vi l4)] [] x P := by
  refine T_iload 4 (dk dtk_X6_isAmong 2 rfl) rfl ?_
  refine T_iload_n 2 (dk dtk_X6_isAmong 3 rfl) rfl rfl ?_
  refine T_icmp_ge 40 (dk dtk_X6_isAmong 4 rfl) (by decide) (fun c1 => ?_) (fun c1 => ?_)
  · have h := h.1 c1
    refine T_iconst (v := 0) (dk dtk_X6_isAmong 22 rfl) (by decide +kernel) ?_
    exact KT_iret (dk dtk_X6_isAmong 23 rfl) rfl rfl h
  · have h := h.2 c1
    refine T_aload_n 1 (dk dtk_X6_isAmong 5 rfl) rfl rfl ?_
    refine T_iload 4 (dk dtk_X6_isAmong 6 rfl) rfl ?_
    obtain ⟨h2, h⟩ := h
    refine T_iald a1 n1 (dk dtk_X6_isAmong 7 rfl) ka1 ma1 h2 ?_
    refine T_iload_n 3 (dk dtk_X6_isAmong 8 rfl) rfl rfl ?_
    refine T_icmp_ge 34 (dk dtk_X6_isAmong 9 rfl) (by decide) (fun c3 => ?_) (fun c3 => ?_)
    · have h := h.1 c3
      refine T_iinc (v := l4 + 1) (lv2 := [(4, vi (l4 + 1)), (0, vr 40), (1, vr a1), (2, vi l2), (3, vi l3)]) 4 (dk dtk_X6_isAmong 20 rfl) rfl rfl (by decide) rfl ?_
      refine T_goto 3 (dk dtk_X6_isAmong 21 rfl) (by decide) ?_
      exact T_sub [1, 2, 3, 4, 0] rfl h
    · have h := h.2 c3
      refine T_aload_n 0 (dk dtk_X6_isAmong 10 rfl) rfl rfl ?_
      refine T_getR 40 0 20 (dk dtk_X6_isAmong 11 rfl) kfl_X6_9 kk_40 (kl_40 hq) (by decide) rfl kr_40_0 ?_
      refine T_aload_n 1 (dk dtk_X6_isAmong 12 rfl) rfl rfl ?_
      refine T_iload 4 (dk dtk_X6_isAmong 13 rfl) rfl ?_
      obtain ⟨h4, h⟩ := h
      refine T_iald a1 n1 (dk dtk_X6_isAmong 14 rfl) ka1 ma1 h4 ?_
      refine T_iload_n 3 (dk dtk_X6_isAmong 15 rfl) rfl rfl ?_
      refine KC_Vi [vi (x.1 a1 (l4 : Int32).toNatClampNeg), vi l3] [] rfl (dk dtk_X6_isAmong 16 rfl) kcv_X6_90 rfl kk_20 rfl (kl_20 hq) (Nat.le_of_ble_eq_true rfl) (Nat.le_of_ble_eq_true rfl) (gok_i (av_c (gkr (kl_40 hq)) (av_c (gkr ma1) (av_c rfl (av_c rfl (av_c rfl av_n))))) as_n) rfl h (fun r6 x5 h => ?_)
      refine T_if_eq 34 (dk dtk_X6_isAmong 17 rfl) (by decide) (fun c7 => ?_) (fun c7 => ?_)
      · have h := h.1 c7
        refine T_iinc (v := l4 + 1) (lv2 := [(4, vi (l4 + 1)), (0, vr 40), (1, vr a1), (2, vi l2), (3, vi l3)]) 4 (dk dtk_X6_isAmong 20 rfl) rfl rfl (by decide) rfl ?_
        refine T_goto 3 (dk dtk_X6_isAmong 21 rfl) (by decide) ?_
        exact T_sub [1, 2, 3, 4, 0] rfl h
      · have h := h.2 c7
        refine T_iconst (v := 1) (dk dtk_X6_isAmong 18 rfl) (by decide +kernel) ?_
        exact KT_iret (dk dtk_X6_isAmong 19 rfl) rfl rfl h
set_option maxRecDepth 100000 in
theorem dtk_X6_cellOf : dck cX6_cellOf [(0, .iconst 0, 1), (1, .istore_n 3, 1), (2, .iload_n 3, 1), (3, .aload_n 0, 1), (4, .getfield 39, 3), (7, .if_icmp .ge 46, 3), (10, .aload_n 0, 1), (11, .getfield 30, 3), (14, .iload_n 3, 1), (15, .iaload, 1), (16, .ifCond .le 7, 3), (19, .iconst 1, 1), (20, .goto 4, 3), (23, .iconst 0, 1), (24, .iload_n 2, 1), (25, .if_icmp .ne 22, 3), (28, .aload_n 0, 1), (29, .getfield 9, 3), (32, .aload_n 0, 1), (33, .getfield 24, 3), (36, .iload_n 3, 1), (37, .iaload, 1), (38, .iload_n 1, 1), (39, .invokevirtual 90, 3), (42, .ifCond .eq 5, 3), (45, .iload_n 3, 1), (46, .ireturn, 1), (47, .iinc 3 1, 3), (50, .goto (-48), 3), (53, .iconst (-1), 1), (54, .ireturn, 1)] = true := by decide +kernel
set_option maxRecDepth 100000 in
set_option maxHeartbeats 4000000 in
theorem kg_X6_cellOf_0 {G : kG} {q : kP} {d : Nat} {x : gd} {P : Option gv → gd → Prop} (hq : kV q) (l1 : Int32) (l2 : Int32)
    (h : KT G q (d + 1) zk_X6_cellOf 2 [(0, vr 40), (1, vi l1), (2, vi l2), (3, vi 0)] [] x P) :
    KT G q (d + 1) zk_X6_cellOf 0 [(0, vr 40), (1, vi l1), (2, vi l2)] [] x P := by
  refine T_iconst (v := 0) (dk dtk_X6_cellOf 0 rfl) (by decide +kernel) ?_
  refine T_istore_n (lv2 := [(3, vi 0), (0, vr 40), (1, vi l1), (2, vi l2)]) (dk dtk_X6_cellOf 1 rfl) rfl (by decide) rfl ?_
  exact T_sub [1, 2, 3, 0] rfl h
set_option maxRecDepth 100000 in
set_option maxHeartbeats 4000000 in
theorem kg_X6_cellOf_2 {G : kG} {q : kP} {d : Nat} {x : gd} {P : Option gv → gd → Prop} (hq : kV q) (l1 : Int32) (l2 : Int32) (l3 : Int32)
    (h : (((x.1 40 6) ≤ l3 → P (some (vi (-1))) x) ∧ (¬ ((x.1 40 6) ≤ l3) → vp_in l3 24 ∧ (((x.1 46 (l3 : Int32).toNatClampNeg) ≤ (0 : Int32) → KT G q (d + 1) zk_X6_cellOf 24 [(0, vr 40), (1, vi l1), (2, vi l2), (3, vi l3)] [vi 0] x P) ∧ (¬ ((x.1 46 (l3 : Int32).toNatClampNeg) ≤ (0 : Int32)) → KT G q (d + 1) zk_X6_cellOf 24 [(0, vr 40), (1, vi l1), (2, vi l2), (3, vi l3)] [vi 1] x P))))) :
    KT G q (d + 1) zk_X6_cellOf 2 [(0, vr 40), (1, vi l1), (2, vi l2), (3, vi l3)] [] x P := by
  refine T_iload_n 3 (dk dtk_X6_cellOf 2 rfl) rfl rfl ?_
  refine T_aload_n 0 (dk dtk_X6_cellOf 3 rfl) rfl rfl ?_
  refine T_getI 40 6 (dk dtk_X6_cellOf 4 rfl) kfl_X6_39 kk_40 (kl_40 hq) (by decide) rfl ?_
  refine T_icmp_ge 53 (dk dtk_X6_cellOf 5 rfl) (by decide) (fun c1 => ?_) (fun c1 => ?_)
  · have h := h.1 c1
    refine T_iconst (v := (-1)) (dk dtk_X6_cellOf 29 rfl) (by decide +kernel) ?_
    exact KT_iret (dk dtk_X6_cellOf 30 rfl) rfl rfl h
  · have h := h.2 c1
    refine T_aload_n 0 (dk dtk_X6_cellOf 6 rfl) rfl rfl ?_
    refine T_getR 40 5 46 (dk dtk_X6_cellOf 7 rfl) kfl_X6_30 kk_40 (kl_40 hq) (by decide) rfl kr_40_5 ?_
    refine T_iload_n 3 (dk dtk_X6_cellOf 8 rfl) rfl rfl ?_
    obtain ⟨h2, h⟩ := h
    refine T_iald 46 24 (dk dtk_X6_cellOf 9 rfl) kk_46 (kl_46 hq) h2 ?_
    refine T_if_le 23 (dk dtk_X6_cellOf 10 rfl) (by decide) (fun c3 => ?_) (fun c3 => ?_)
    · have h := h.1 c3
      refine T_iconst (v := 0) (dk dtk_X6_cellOf 13 rfl) (by decide +kernel) ?_
      exact h
    · have h := h.2 c3
      refine T_iconst (v := 1) (dk dtk_X6_cellOf 11 rfl) (by decide +kernel) ?_
      refine T_goto 24 (dk dtk_X6_cellOf 12 rfl) (by decide) ?_
      exact h
set_option maxRecDepth 100000 in
set_option maxHeartbeats 4000000 in
theorem kg_X6_cellOf_24 {G : kG} {q : kP} {d : Nat} {x : gd} {P : Option gv → gd → Prop} (hq : kV q) (l1 : Int32) (l2 : Int32) (l3 : Int32) (s0 : Int32)
    (h : ((¬ (s0 = l2) → KT G q (d + 1) zk_X6_cellOf 2 [(0, vr 40), (1, vi l1), (2, vi l2), (3, vi (l3 + 1))] [] x P) ∧ (s0 = l2 → vp_in l3 24 ∧ KT G q d zk_X9_sameName 0 [(0, vr 20), (1, vi (x.1 44 (l3 : Int32).toNatClampNeg)), (2, vi l1)] [] x (ri (fun r4 x3 => ((r4 = (0 : Int32) → KT G q (d + 1) zk_X6_cellOf 2 [(0, vr 40), (1, vi l1), (2, vi l2), (3, vi (l3 + 1))] [] x3 P) ∧ (¬ (r4 = (0 : Int32)) → P (some (vi l3)) x3))))))) :
    KT G q (d + 1) zk_X6_cellOf 24 [(0, vr 40), (1, vi l1), (2, vi l2), (3, vi l3)] [vi s0] x P := by
  refine T_iload_n 2 (dk dtk_X6_cellOf 14 rfl) rfl rfl ?_
  refine T_icmp_ne 47 (dk dtk_X6_cellOf 15 rfl) (by decide) (fun c1 => ?_) (fun c1 => ?_)
  · have h := h.1 c1
    refine T_iinc (v := l3 + 1) (lv2 := [(3, vi (l3 + 1)), (0, vr 40), (1, vi l1), (2, vi l2)]) 3 (dk dtk_X6_cellOf 27 rfl) rfl rfl (by decide) rfl ?_
    refine T_goto 2 (dk dtk_X6_cellOf 28 rfl) (by decide) ?_
    exact T_sub [1, 2, 3, 0] rfl h
  · have h := h.2 c1
    refine T_aload_n 0 (dk dtk_X6_cellOf 16 rfl) rfl rfl ?_
    refine T_getR 40 0 20 (dk dtk_X6_cellOf 17 rfl) kfl_X6_9 kk_40 (kl_40 hq) (by decide) rfl kr_40_0 ?_
    refine T_aload_n 0 (dk dtk_X6_cellOf 18 rfl) rfl rfl ?_
    refine T_getR 40 3 44 (dk dtk_X6_cellOf 19 rfl) kfl_X6_24 kk_40 (kl_40 hq) (by decide) rfl kr_40_3 ?_
    refine T_iload_n 3 (dk dtk_X6_cellOf 20 rfl) rfl rfl ?_
    obtain ⟨h2, h⟩ := h
    refine T_iald 44 24 (dk dtk_X6_cellOf 21 rfl) kk_44 (kl_44 hq) h2 ?_
    refine T_iload_n 1 (dk dtk_X6_cellOf 22 rfl) rfl rfl ?_
    refine KC_Vi [vi (x.1 44 (l3 : Int32).toNatClampNeg), vi l1] [] rfl (dk dtk_X6_cellOf 23 rfl) kcv_X6_90 rfl kk_20 rfl (kl_20 hq) (Nat.le_of_ble_eq_true rfl) (Nat.le_of_ble_eq_true rfl) (gok_i (av_c (gkr (kl_40 hq)) (av_c rfl (av_c rfl (av_c rfl av_n)))) as_n) rfl h (fun r4 x3 h => ?_)
    refine T_if_eq 47 (dk dtk_X6_cellOf 24 rfl) (by decide) (fun c5 => ?_) (fun c5 => ?_)
    · have h := h.1 c5
      refine T_iinc (v := l3 + 1) (lv2 := [(3, vi (l3 + 1)), (0, vr 40), (1, vi l1), (2, vi l2)]) 3 (dk dtk_X6_cellOf 27 rfl) rfl rfl (by decide) rfl ?_
      refine T_goto 2 (dk dtk_X6_cellOf 28 rfl) (by decide) ?_
      exact T_sub [1, 2, 3, 0] rfl h
    · have h := h.2 c5
      refine T_iload_n 3 (dk dtk_X6_cellOf 25 rfl) rfl rfl ?_
      exact KT_iret (dk dtk_X6_cellOf 26 rfl) rfl rfl h
set_option maxRecDepth 100000 in
theorem dtk_X6_numberOf : dck cX6_numberOf [(0, .iconst 0, 1), (1, .istore 4, 2), (3, .iload 4, 2), (5, .iload_n 2, 1), (6, .if_icmp .ge 27, 3), (9, .aload_n 0, 1), (10, .getfield 9, 3), (13, .aload_n 1, 1), (14, .iload 4, 2), (16, .iaload, 1), (17, .iload_n 3, 1), (18, .invokevirtual 90, 3), (21, .ifCond .eq 6, 3), (24, .iload 4, 2), (26, .ireturn, 1), (27, .iinc 4 1, 3), (30, .goto (-27), 3), (33, .iconst (-1), 1), (34, .ireturn, 1)] = true := by decide +kernel
set_option maxRecDepth 100000 in
set_option maxHeartbeats 4000000 in
theorem kg_X6_numberOf_0 {G : kG} {q : kP} {d : Nat} {x : gd} {P : Option gv → gd → Prop} (hq : kV q) {a1 n1 : Nat} (ka1 : kK a1 = .inr (.int, n1)) (ma1 : a1 ∈ (kf q).2.1) (l2 : Int32) (l3 : Int32)
    (h : KT G q (d + 1) zk_X6_numberOf 3 [(0, vr 40), (1, vr a1), (2, vi l2), (3, vi l3), (4, vi 0)] [] x P) :
    KT G q (d + 1) zk_X6_numberOf 0 [(0, vr 40), (1, vr a1), (2, vi l2), (3, vi l3)] [] x P := by
  refine T_iconst (v := 0) (dk dtk_X6_numberOf 0 rfl) (by decide +kernel) ?_
  refine T_istore (lv2 := [(4, vi 0), (0, vr 40), (1, vr a1), (2, vi l2), (3, vi l3)]) (dk dtk_X6_numberOf 1 rfl) (by decide) rfl ?_
  exact T_sub [1, 2, 3, 4, 0] rfl h
set_option maxRecDepth 100000 in
set_option maxHeartbeats 4000000 in
theorem kg_X6_numberOf_3 {G : kG} {q : kP} {d : Nat} {x : gd} {P : Option gv → gd → Prop} (hq : kV q) {a1 n1 : Nat} (ka1 : kK a1 = .inr (.int, n1)) (ma1 : a1 ∈ (kf q).2.1) (l2 : Int32) (l3 : Int32) (l4 : Int32)
    (h : ((l2 ≤ l4 → P (some (vi (-1))) x) ∧ (¬ (l2 ≤ l4) → vp_in l4 n1 ∧ KT G q d zk_X9_sameName 0 [(0, vr 20), (1, vi (x.1 a1 (l4 : Int32).toNatClampNeg)), (2, vi l3)] [] x (ri (fun r4 x3 => ((r4 = (0 : Int32) → KT G q (d + 1) zk_X6_numberOf 3 [(0, vr 40), (1, vr a1), (2, vi l2), (3, vi l3), (4, vi (l4 + 1))] [] x3 P) ∧ (¬ (r4 = (0 : Int32)) → P (some (vi l4)) x3))))))) :
    KT G q (d + 1) zk_X6_numberOf 3 [(0, vr 40), (1, vr a1), (2, vi l2), (3, vi l3), (4, vi l4)] [] x P := by
  refine T_iload 4 (dk dtk_X6_numberOf 2 rfl) rfl ?_
  refine T_iload_n 2 (dk dtk_X6_numberOf 3 rfl) rfl rfl ?_
  refine T_icmp_ge 33 (dk dtk_X6_numberOf 4 rfl) (by decide) (fun c1 => ?_) (fun c1 => ?_)
  · have h := h.1 c1
    refine T_iconst (v := (-1)) (dk dtk_X6_numberOf 17 rfl) (by decide +kernel) ?_
    exact KT_iret (dk dtk_X6_numberOf 18 rfl) rfl rfl h
  · have h := h.2 c1
    refine T_aload_n 0 (dk dtk_X6_numberOf 5 rfl) rfl rfl ?_
    refine T_getR 40 0 20 (dk dtk_X6_numberOf 6 rfl) kfl_X6_9 kk_40 (kl_40 hq) (by decide) rfl kr_40_0 ?_
    refine T_aload_n 1 (dk dtk_X6_numberOf 7 rfl) rfl rfl ?_
    refine T_iload 4 (dk dtk_X6_numberOf 8 rfl) rfl ?_
    obtain ⟨h2, h⟩ := h
    refine T_iald a1 n1 (dk dtk_X6_numberOf 9 rfl) ka1 ma1 h2 ?_
    refine T_iload_n 3 (dk dtk_X6_numberOf 10 rfl) rfl rfl ?_
    refine KC_Vi [vi (x.1 a1 (l4 : Int32).toNatClampNeg), vi l3] [] rfl (dk dtk_X6_numberOf 11 rfl) kcv_X6_90 rfl kk_20 rfl (kl_20 hq) (Nat.le_of_ble_eq_true rfl) (Nat.le_of_ble_eq_true rfl) (gok_i (av_c (gkr (kl_40 hq)) (av_c (gkr ma1) (av_c rfl (av_c rfl (av_c rfl av_n))))) as_n) rfl h (fun r4 x3 h => ?_)
    refine T_if_eq 27 (dk dtk_X6_numberOf 12 rfl) (by decide) (fun c5 => ?_) (fun c5 => ?_)
    · have h := h.1 c5
      refine T_iinc (v := l4 + 1) (lv2 := [(4, vi (l4 + 1)), (0, vr 40), (1, vr a1), (2, vi l2), (3, vi l3)]) 4 (dk dtk_X6_numberOf 15 rfl) rfl rfl (by decide) rfl ?_
      refine T_goto 3 (dk dtk_X6_numberOf 16 rfl) (by decide) ?_
      exact T_sub [1, 2, 3, 4, 0] rfl h
    · have h := h.2 c5
      refine T_iload 4 (dk dtk_X6_numberOf 13 rfl) rfl ?_
      exact KT_iret (dk dtk_X6_numberOf 14 rfl) rfl rfl h
set_option maxRecDepth 100000 in
theorem dtk_X0_clear : dck cX0_clear [(0, .aload_n 0, 1), (1, .getfield 14, 3), (4, .iconst 0, 1), (5, .putfield 49, 3), (8, .aload_n 0, 1), (9, .iconst 0, 1), (10, .putfield 53, 3), (13, .aload_n 0, 1), (14, .iconst 0, 1), (15, .putfield 56, 3), (18, .aload_n 0, 1), (19, .iconst 0, 1), (20, .putfield 59, 3), (23, .aload_n 0, 1), (24, .iconst 0, 1), (25, .putfield 62, 3), (28, .aload_n 0, 1), (29, .iconst 0, 1), (30, .putfield 65, 3), (33, .aload_n 0, 1), (34, .iconst 0, 1), (35, .putfield 68, 3), (38, .aload_n 0, 1), (39, .iconst 0, 1), (40, .putfield 71, 3), (43, .return_, 1)] = true := by decide +kernel
set_option maxRecDepth 100000 in
set_option maxHeartbeats 4000000 in
theorem kg_X0_clear_0 {G : kG} {q : kP} {d : Nat} {x : gd} {P : Option gv → gd → Prop} (hq : kV q) 
    (h : (∀ x1 : gd, x1 = si x 80 9 0 → (∀ x2 : gd, x2 = si x1 60 3 0 → (∀ x3 : gd, x3 = si x2 60 6 0 → (∀ x4 : gd, x4 = si x3 60 9 0 → (∀ x5 : gd, x5 = si x4 60 10 0 → (∀ x6 : gd, x6 = si x5 60 13 0 → (∀ x7 : gd, x7 = si x6 60 14 0 → (∀ x8 : gd, x8 = si x7 60 16 0 → P none x8))))))))) :
    KT G q d zk_X0_clear 0 [(0, vr 60)] [] x P := by
  refine T_aload_n 0 (dk dtk_X0_clear 0 rfl) rfl rfl ?_
  refine T_getR 60 0 80 (dk dtk_X0_clear 1 rfl) kfl_X0_14 kk_60 (kl_60 hq) (by decide) rfl kr_60_0 ?_
  refine T_iconst (v := 0) (dk dtk_X0_clear 2 rfl) (by decide +kernel) ?_
  obtain ⟨x1, ex1⟩ : ∃ z, z = si x 80 9 0 := ⟨_, rfl⟩
  have h := h x1 ex1
  refine T_putI 80 9 (dk dtk_X0_clear 3 rfl) kfl_X0_49 kk_80 (kl_80 hq) (by decide) rfl ⟨rfl, rfl⟩ ?_
  rw [← ex1]
  refine T_aload_n 0 (dk dtk_X0_clear 4 rfl) rfl rfl ?_
  refine T_iconst (v := 0) (dk dtk_X0_clear 5 rfl) (by decide +kernel) ?_
  obtain ⟨x2, ex2⟩ : ∃ z, z = si x1 60 3 0 := ⟨_, rfl⟩
  have h := h x2 ex2
  refine T_putI 60 3 (dk dtk_X0_clear 6 rfl) kfl_X0_53 kk_60 (kl_60 hq) (by decide) rfl ⟨rfl, rfl⟩ ?_
  rw [← ex2]
  refine T_aload_n 0 (dk dtk_X0_clear 7 rfl) rfl rfl ?_
  refine T_iconst (v := 0) (dk dtk_X0_clear 8 rfl) (by decide +kernel) ?_
  obtain ⟨x3, ex3⟩ : ∃ z, z = si x2 60 6 0 := ⟨_, rfl⟩
  have h := h x3 ex3
  refine T_putI 60 6 (dk dtk_X0_clear 9 rfl) kfl_X0_56 kk_60 (kl_60 hq) (by decide) rfl ⟨rfl, rfl⟩ ?_
  rw [← ex3]
  refine T_aload_n 0 (dk dtk_X0_clear 10 rfl) rfl rfl ?_
  refine T_iconst (v := 0) (dk dtk_X0_clear 11 rfl) (by decide +kernel) ?_
  obtain ⟨x4, ex4⟩ : ∃ z, z = si x3 60 9 0 := ⟨_, rfl⟩
  have h := h x4 ex4
  refine T_putI 60 9 (dk dtk_X0_clear 12 rfl) kfl_X0_59 kk_60 (kl_60 hq) (by decide) rfl ⟨rfl, rfl⟩ ?_
  rw [← ex4]
  refine T_aload_n 0 (dk dtk_X0_clear 13 rfl) rfl rfl ?_
  refine T_iconst (v := 0) (dk dtk_X0_clear 14 rfl) (by decide +kernel) ?_
  obtain ⟨x5, ex5⟩ : ∃ z, z = si x4 60 10 0 := ⟨_, rfl⟩
  have h := h x5 ex5
  refine T_putI 60 10 (dk dtk_X0_clear 15 rfl) kfl_X0_62 kk_60 (kl_60 hq) (by decide) rfl ⟨rfl, rfl⟩ ?_
  rw [← ex5]
  refine T_aload_n 0 (dk dtk_X0_clear 16 rfl) rfl rfl ?_
  refine T_iconst (v := 0) (dk dtk_X0_clear 17 rfl) (by decide +kernel) ?_
  obtain ⟨x6, ex6⟩ : ∃ z, z = si x5 60 13 0 := ⟨_, rfl⟩
  have h := h x6 ex6
  refine T_putI 60 13 (dk dtk_X0_clear 18 rfl) kfl_X0_65 kk_60 (kl_60 hq) (by decide) rfl ⟨rfl, rfl⟩ ?_
  rw [← ex6]
  refine T_aload_n 0 (dk dtk_X0_clear 19 rfl) rfl rfl ?_
  refine T_iconst (v := 0) (dk dtk_X0_clear 20 rfl) (by decide +kernel) ?_
  obtain ⟨x7, ex7⟩ : ∃ z, z = si x6 60 14 0 := ⟨_, rfl⟩
  have h := h x7 ex7
  refine T_putI 60 14 (dk dtk_X0_clear 21 rfl) kfl_X0_68 kk_60 (kl_60 hq) (by decide) rfl ⟨rfl, rfl⟩ ?_
  rw [← ex7]
  refine T_aload_n 0 (dk dtk_X0_clear 22 rfl) rfl rfl ?_
  refine T_iconst (v := 0) (dk dtk_X0_clear 23 rfl) (by decide +kernel) ?_
  obtain ⟨x8, ex8⟩ : ∃ z, z = si x7 60 16 0 := ⟨_, rfl⟩
  have h := h x8 ex8
  refine T_putI 60 16 (dk dtk_X0_clear 24 rfl) kfl_X0_71 kk_60 (kl_60 hq) (by decide) rfl ⟨rfl, rfl⟩ ?_
  rw [← ex8]
  exact KT_vret (dk dtk_X0_clear 25 rfl) rfl h
set_option maxRecDepth 100000 in
theorem dtk_X0_addCells : dck cX0_addCells [(0, .iconst 0, 1), (1, .istore 4, 2), (3, .iload 4, 2), (5, .iload_n 1, 1), (6, .if_icmp .ge 48, 3), (9, .aload_n 0, 1), (10, .getfield 56, 3), (13, .bipush 24, 2), (15, .if_icmp .ge 39, 3), (18, .aload_n 0, 1), (19, .getfield 30, 3), (22, .aload_n 0, 1), (23, .getfield 56, 3), (26, .iload_n 2, 1), (27, .iastore, 1), (28, .aload_n 0, 1), (29, .getfield 33, 3), (32, .aload_n 0, 1), (33, .getfield 56, 3), (36, .iload_n 3, 1), (37, .bastore, 1), (38, .aload_n 0, 1), (39, .dup, 1), (40, .getfield 56, 3), (43, .iconst 1, 1), (44, .iadd, 1), (45, .putfield 56, 3), (48, .iinc 4 1, 3), (51, .goto (-48), 3), (54, .return_, 1)] = true := by decide +kernel
set_option maxRecDepth 100000 in
set_option maxHeartbeats 4000000 in
theorem kg_X0_addCells_0 {G : kG} {q : kP} {d : Nat} {x : gd} {P : Option gv → gd → Prop} (hq : kV q) (l1 : Int32) (l2 : Int32) (l3 : Int32)
    (h : KT G q d zk_X0_addCells 3 [(0, vr 60), (1, vi l1), (2, vi l2), (3, vi l3), (4, vi 0)] [] x P) :
    KT G q d zk_X0_addCells 0 [(0, vr 60), (1, vi l1), (2, vi l2), (3, vi l3)] [] x P := by
  refine T_iconst (v := 0) (dk dtk_X0_addCells 0 rfl) (by decide +kernel) ?_
  refine T_istore (lv2 := [(4, vi 0), (0, vr 60), (1, vi l1), (2, vi l2), (3, vi l3)]) (dk dtk_X0_addCells 1 rfl) (by decide) rfl ?_
  exact T_sub [1, 2, 3, 4, 0] rfl h
set_option maxRecDepth 100000 in
set_option maxHeartbeats 4000000 in
theorem kg_X0_addCells_3 {G : kG} {q : kP} {d : Nat} {x : gd} {P : Option gv → gd → Prop} (hq : kV q) (l1 : Int32) (l2 : Int32) (l3 : Int32) (l4 : Int32)
    (h : ((l1 ≤ l4 → P none x) ∧ (¬ (l1 ≤ l4) → (((24 : Int32) ≤ (x.1 60 6) → P none x) ∧ (¬ ((24 : Int32) ≤ (x.1 60 6)) → vp_in (x.1 60 6) 24 ∧ (∀ x4 : gd, x4 = si x 68 (x.1 60 6 : Int32).toNatClampNeg l2 → vp_in (x4.1 60 6) 24 ∧ (∀ x6 : gd, x6 = si x4 69 (x4.1 60 6 : Int32).toNatClampNeg (vp_nar .boolean l3) → (∀ x7 : gd, x7 = si x6 60 6 ((x6.1 60 6) + 1) → KT G q d zk_X0_addCells 3 [(0, vr 60), (1, vi l1), (2, vi l2), (3, vi l3), (4, vi (l4 + 1))] [] x7 P)))))))) :
    KT G q d zk_X0_addCells 3 [(0, vr 60), (1, vi l1), (2, vi l2), (3, vi l3), (4, vi l4)] [] x P := by
  refine T_iload 4 (dk dtk_X0_addCells 2 rfl) rfl ?_
  refine T_iload_n 1 (dk dtk_X0_addCells 3 rfl) rfl rfl ?_
  refine T_icmp_ge 54 (dk dtk_X0_addCells 4 rfl) (by decide) (fun c1 => ?_) (fun c1 => ?_)
  · have h := h.1 c1
    exact KT_vret (dk dtk_X0_addCells 29 rfl) rfl h
  · have h := h.2 c1
    refine T_aload_n 0 (dk dtk_X0_addCells 5 rfl) rfl rfl ?_
    refine T_getI 60 6 (dk dtk_X0_addCells 6 rfl) kfl_X0_56 kk_60 (kl_60 hq) (by decide) rfl ?_
    refine T_bipush (v := 24) (dk dtk_X0_addCells 7 rfl) (by decide +kernel) ?_
    refine T_icmp_ge 54 (dk dtk_X0_addCells 8 rfl) (by decide) (fun c2 => ?_) (fun c2 => ?_)
    · have h := h.1 c2
      exact KT_vret (dk dtk_X0_addCells 29 rfl) rfl h
    · have h := h.2 c2
      refine T_aload_n 0 (dk dtk_X0_addCells 9 rfl) rfl rfl ?_
      refine T_getR 60 7 68 (dk dtk_X0_addCells 10 rfl) kfl_X0_30 kk_60 (kl_60 hq) (by decide) rfl kr_60_7 ?_
      refine T_aload_n 0 (dk dtk_X0_addCells 11 rfl) rfl rfl ?_
      refine T_getI 60 6 (dk dtk_X0_addCells 12 rfl) kfl_X0_56 kk_60 (kl_60 hq) (by decide) rfl ?_
      refine T_iload_n 2 (dk dtk_X0_addCells 13 rfl) rfl rfl ?_
      obtain ⟨h3, h⟩ := h
      obtain ⟨x4, ex4⟩ : ∃ z, z = si x 68 (x.1 60 6 : Int32).toNatClampNeg l2 := ⟨_, rfl⟩
      have h := h x4 ex4
      refine T_iast 68 24 (dk dtk_X0_addCells 14 rfl) kk_68 (kl_68 hq) h3 ?_
      rw [← ex4]
      refine T_aload_n 0 (dk dtk_X0_addCells 15 rfl) rfl rfl ?_
      refine T_getR 60 8 69 (dk dtk_X0_addCells 16 rfl) kfl_X0_33 kk_60 (kl_60 hq) (by decide) rfl kr_60_8 ?_
      refine T_aload_n 0 (dk dtk_X0_addCells 17 rfl) rfl rfl ?_
      refine T_getI 60 6 (dk dtk_X0_addCells 18 rfl) kfl_X0_56 kk_60 (kl_60 hq) (by decide) rfl ?_
      refine T_iload_n 3 (dk dtk_X0_addCells 19 rfl) rfl rfl ?_
      obtain ⟨h5, h⟩ := h
      obtain ⟨x6, ex6⟩ : ∃ z, z = si x4 69 (x4.1 60 6 : Int32).toNatClampNeg (vp_nar .boolean l3) := ⟨_, rfl⟩
      have h := h x6 ex6
      refine T_zast 69 24 (dk dtk_X0_addCells 20 rfl) kk_69 (kl_69 hq) h5 ?_
      rw [← ex6]
      refine T_aload_n 0 (dk dtk_X0_addCells 21 rfl) rfl rfl ?_
      refine T_dup (dk dtk_X0_addCells 22 rfl) rfl ?_
      refine T_getI 60 6 (dk dtk_X0_addCells 23 rfl) kfl_X0_56 kk_60 (kl_60 hq) (by decide) rfl ?_
      refine T_iconst (v := 1) (dk dtk_X0_addCells 24 rfl) (by decide +kernel) ?_
      refine T_iadd (dk dtk_X0_addCells 25 rfl) ?_
      obtain ⟨x7, ex7⟩ : ∃ z, z = si x6 60 6 ((x6.1 60 6) + 1) := ⟨_, rfl⟩
      have h := h x7 ex7
      refine T_putI 60 6 (dk dtk_X0_addCells 26 rfl) kfl_X0_56 kk_60 (kl_60 hq) (by decide) rfl ⟨rfl, rfl⟩ ?_
      rw [← ex7]
      refine T_iinc (v := l4 + 1) (lv2 := [(4, vi (l4 + 1)), (0, vr 60), (1, vi l1), (2, vi l2), (3, vi l3)]) 4 (dk dtk_X0_addCells 27 rfl) rfl rfl (by decide) rfl ?_
      refine T_goto 3 (dk dtk_X0_addCells 28 rfl) (by decide) ?_
      exact T_sub [1, 2, 3, 4, 0] rfl h
set_option maxRecDepth 100000 in
theorem dtk_X0_addPart : dck cX0_addPart [(0, .aload_n 0, 1), (1, .getfield 53, 3), (4, .sipush 800, 3), (7, .if_icmp .ge 33, 3), (10, .aload_n 0, 1), (11, .getfield 18, 3), (14, .aload_n 0, 1), (15, .getfield 53, 3), (18, .iload_n 1, 1), (19, .iastore, 1), (20, .aload_n 0, 1), (21, .getfield 22, 3), (24, .aload_n 0, 1), (25, .getfield 53, 3), (28, .iload_n 2, 1), (29, .iastore, 1), (30, .aload_n 0, 1), (31, .dup, 1), (32, .getfield 53, 3), (35, .iconst 1, 1), (36, .iadd, 1), (37, .putfield 53, 3), (40, .return_, 1)] = true := by decide +kernel
set_option maxRecDepth 100000 in
set_option maxHeartbeats 4000000 in
theorem kg_X0_addPart_0 {G : kG} {q : kP} {d : Nat} {x : gd} {P : Option gv → gd → Prop} (hq : kV q) (l1 : Int32) (l2 : Int32)
    (h : (((800 : Int32) ≤ (x.1 60 3) → P none x) ∧ (¬ ((800 : Int32) ≤ (x.1 60 3)) → vp_in (x.1 60 3) 800 ∧ (∀ x3 : gd, x3 = si x 62 (x.1 60 3 : Int32).toNatClampNeg l1 → vp_in (x3.1 60 3) 800 ∧ (∀ x5 : gd, x5 = si x3 63 (x3.1 60 3 : Int32).toNatClampNeg l2 → (∀ x6 : gd, x6 = si x5 60 3 ((x5.1 60 3) + 1) → P none x6)))))) :
    KT G q d zk_X0_addPart 0 [(0, vr 60), (1, vi l1), (2, vi l2)] [] x P := by
  refine T_aload_n 0 (dk dtk_X0_addPart 0 rfl) rfl rfl ?_
  refine T_getI 60 3 (dk dtk_X0_addPart 1 rfl) kfl_X0_53 kk_60 (kl_60 hq) (by decide) rfl ?_
  refine T_sipush (v := 800) (dk dtk_X0_addPart 2 rfl) (by decide +kernel) ?_
  refine T_icmp_ge 40 (dk dtk_X0_addPart 3 rfl) (by decide) (fun c1 => ?_) (fun c1 => ?_)
  · have h := h.1 c1
    exact KT_vret (dk dtk_X0_addPart 22 rfl) rfl h
  · have h := h.2 c1
    refine T_aload_n 0 (dk dtk_X0_addPart 4 rfl) rfl rfl ?_
    refine T_getR 60 1 62 (dk dtk_X0_addPart 5 rfl) kfl_X0_18 kk_60 (kl_60 hq) (by decide) rfl kr_60_1 ?_
    refine T_aload_n 0 (dk dtk_X0_addPart 6 rfl) rfl rfl ?_
    refine T_getI 60 3 (dk dtk_X0_addPart 7 rfl) kfl_X0_53 kk_60 (kl_60 hq) (by decide) rfl ?_
    refine T_iload_n 1 (dk dtk_X0_addPart 8 rfl) rfl rfl ?_
    obtain ⟨h2, h⟩ := h
    obtain ⟨x3, ex3⟩ : ∃ z, z = si x 62 (x.1 60 3 : Int32).toNatClampNeg l1 := ⟨_, rfl⟩
    have h := h x3 ex3
    refine T_iast 62 800 (dk dtk_X0_addPart 9 rfl) kk_62 (kl_62 hq) h2 ?_
    rw [← ex3]
    refine T_aload_n 0 (dk dtk_X0_addPart 10 rfl) rfl rfl ?_
    refine T_getR 60 2 63 (dk dtk_X0_addPart 11 rfl) kfl_X0_22 kk_60 (kl_60 hq) (by decide) rfl kr_60_2 ?_
    refine T_aload_n 0 (dk dtk_X0_addPart 12 rfl) rfl rfl ?_
    refine T_getI 60 3 (dk dtk_X0_addPart 13 rfl) kfl_X0_53 kk_60 (kl_60 hq) (by decide) rfl ?_
    refine T_iload_n 2 (dk dtk_X0_addPart 14 rfl) rfl rfl ?_
    obtain ⟨h4, h⟩ := h
    obtain ⟨x5, ex5⟩ : ∃ z, z = si x3 63 (x3.1 60 3 : Int32).toNatClampNeg l2 := ⟨_, rfl⟩
    have h := h x5 ex5
    refine T_iast 63 800 (dk dtk_X0_addPart 15 rfl) kk_63 (kl_63 hq) h4 ?_
    rw [← ex5]
    refine T_aload_n 0 (dk dtk_X0_addPart 16 rfl) rfl rfl ?_
    refine T_dup (dk dtk_X0_addPart 17 rfl) rfl ?_
    refine T_getI 60 3 (dk dtk_X0_addPart 18 rfl) kfl_X0_53 kk_60 (kl_60 hq) (by decide) rfl ?_
    refine T_iconst (v := 1) (dk dtk_X0_addPart 19 rfl) (by decide +kernel) ?_
    refine T_iadd (dk dtk_X0_addPart 20 rfl) ?_
    obtain ⟨x6, ex6⟩ : ∃ z, z = si x5 60 3 ((x5.1 60 3) + 1) := ⟨_, rfl⟩
    have h := h x6 ex6
    refine T_putI 60 3 (dk dtk_X0_addPart 21 rfl) kfl_X0_53 kk_60 (kl_60 hq) (by decide) rfl ⟨rfl, rfl⟩ ?_
    rw [← ex6]
    exact KT_vret (dk dtk_X0_addPart 22 rfl) rfl h
