section
set_option maxRecDepth 100000 in
theorem dtk_X6_faultOf : dck cX6_faultOf [(0, .aload_n 0, 1), (1, .getfield 17, 3), (4, .iload_n 1, 1), (5, .iaload, 1), (6, .tableswitch 236 1 13 #[66, 80, 82, 84, 119, 236, 236, 236, 236, 154, 157, 199, 179], 66), (72, .aload_n 0, 1), (73, .iload_n 1, 1), (74, .invokevirtual 65, 3), (77, .ifCond .eq 7, 3), (80, .iconst 4, 1), (81, .goto 4, 3), (84, .iconst 0, 1), (85, .ireturn, 1), (86, .iconst 4, 1), (87, .ireturn, 1), (88, .iconst 5, 1), (89, .ireturn, 1), (90, .aload_n 0, 1), (91, .getfield 21, 3), (94, .iload_n 1, 1), (95, .aload_n 0, 1), (96, .aload_n 0, 1), (97, .getfield 33, 3), (100, .aload_n 0, 1), (101, .getfield 43, 3), (104, .iload_n 1, 1), (105, .invokevirtual 69, 3), (108, .iastore, 1), (109, .aload_n 0, 1), (110, .getfield 21, 3), (113, .iload_n 1, 1), (114, .iaload, 1), (115, .iconst (-1), 1), (116, .if_icmp .ne 7, 3), (119, .iconst 5, 1), (120, .goto 4, 3), (123, .iconst 0, 1), (124, .ireturn, 1), (125, .aload_n 0, 1), (126, .getfield 21, 3), (129, .iload_n 1, 1), (130, .aload_n 0, 1), (131, .aload_n 0, 1), (132, .getfield 36, 3), (135, .aload_n 0, 1), (136, .getfield 46, 3), (139, .iload_n 1, 1), (140, .invokevirtual 69, 3), (143, .iastore, 1), (144, .aload_n 0, 1), (145, .getfield 21, 3), (148, .iload_n 1, 1), (149, .iaload, 1), (150, .iconst (-1), 1), (151, .if_icmp .ne 7, 3), (154, .iconst 5, 1), (155, .goto 4, 3), (158, .iconst 0, 1), (159, .ireturn, 1), (160, .bipush 7, 2), (162, .ireturn, 1), (163, .aload_n 0, 1), (164, .getfield 9, 3), (167, .getfield 73, 3), (170, .iload_n 1, 1), (171, .iaload, 1), (172, .invokestatic 76, 3), (175, .ifCond .eq 7, 3), (178, .iconst 0, 1), (179, .goto 5, 3), (182, .bipush 6, 2), (184, .ireturn, 1), (185, .aload_n 0, 1), (186, .getfield 9, 3), (189, .getfield 73, 3), (192, .iload_n 1, 1), (193, .iaload, 1), (194, .iconst 3, 1), (195, .if_icmp .le 8, 3), (198, .bipush 6, 2), (200, .goto 4, 3), (203, .iconst 0, 1), (204, .ireturn, 1), (205, .iload_n 1, 1), (206, .iconst 2, 1), (207, .if_icmp .lt 32, 3), (210, .aload_n 0, 1), (211, .getfield 9, 3), (214, .getfield 73, 3), (217, .iload_n 1, 1), (218, .iaload, 1), (219, .aload_n 0, 1), (220, .getfield 30, 3), (223, .aload_n 0, 1), (224, .getfield 21, 3), (227, .iload_n 1, 1), (228, .iconst 2, 1), (229, .isub, 1), (230, .iaload, 1), (231, .iaload, 1), (232, .if_icmp .ge 7, 3), (235, .iconst 0, 1), (236, .goto 5, 3), (239, .bipush 6, 2), (241, .ireturn, 1), (242, .aload_n 0, 1), (243, .iload_n 1, 1), (244, .invokevirtual 79, 3), (247, .ireturn, 1)] = true := by decide +kernel
set_option maxRecDepth 100000 in
set_option maxHeartbeats 4000000 in
theorem kg_X6_faultOf_0 {G : kG} {q : kP} {d : Nat} {x : gd} {P : Option gv → gd → Prop} (hq : kV q) (l1 : Int32)
    (h : vp_in l1 702 ∧ ((((x.1 42 (l1 : Int32).toNatClampNeg) = 1) → KT G q d zk_X6_isToldBefore 0 [(0, vr 40), (1, vi l1)] [] x (ri (fun r4 x3 => ((r4 = (0 : Int32) → P (some (vi 0)) x3) ∧ (¬ (r4 = (0 : Int32)) → P (some (vi 4)) x3))))) ∧ (((x.1 42 (l1 : Int32).toNatClampNeg) = 2) → P (some (vi 4)) x) ∧ (((x.1 42 (l1 : Int32).toNatClampNeg) = 3) → P (some (vi 5)) x) ∧ (((x.1 42 (l1 : Int32).toNatClampNeg) = 4) → KT G q d zk_X6_numberOf 0 [(0, vr 40), (1, vr 48), (2, vi (x.1 40 8)), (3, vi l1)] [] x (ri (fun r10 x9 => vp_in l1 702 ∧ (∀ x12 : gd, x12 = si x9 43 (l1 : Int32).toNatClampNeg r10 → vp_in l1 702 ∧ ((¬ ((x12.1 43 (l1 : Int32).toNatClampNeg) = (-1 : Int32)) → P (some (vi 0)) x12) ∧ ((x12.1 43 (l1 : Int32).toNatClampNeg) = (-1 : Int32) → P (some (vi 5)) x12)))))) ∧ (((x.1 42 (l1 : Int32).toNatClampNeg) = 5) → KT G q d zk_X6_numberOf 0 [(0, vr 40), (1, vr 50), (2, vi (x.1 40 10)), (3, vi l1)] [] x (ri (fun r17 x16 => vp_in l1 702 ∧ (∀ x19 : gd, x19 = si x16 43 (l1 : Int32).toNatClampNeg r17 → vp_in l1 702 ∧ ((¬ ((x19.1 43 (l1 : Int32).toNatClampNeg) = (-1 : Int32)) → P (some (vi 0)) x19) ∧ ((x19.1 43 (l1 : Int32).toNatClampNeg) = (-1 : Int32) → P (some (vi 5)) x19)))))) ∧ (((x.1 42 (l1 : Int32).toNatClampNeg) = 10) → P (some (vi 7)) x) ∧ (((x.1 42 (l1 : Int32).toNatClampNeg) = 11) → vp_in l1 702 ∧ KT G q d zk_X6_isRowSize 0 [(0, vi (x.1 27 (l1 : Int32).toNatClampNeg))] [] x (ri (fun r26 x25 => ((r26 = (0 : Int32) → P (some (vi 6)) x25) ∧ (¬ (r26 = (0 : Int32)) → P (some (vi 0)) x25))))) ∧ (((x.1 42 (l1 : Int32).toNatClampNeg) = 13) → vp_in l1 702 ∧ (((x.1 27 (l1 : Int32).toNatClampNeg) ≤ (3 : Int32) → P (some (vi 0)) x) ∧ (¬ ((x.1 27 (l1 : Int32).toNatClampNeg) ≤ (3 : Int32)) → P (some (vi 6)) x))) ∧ (((x.1 42 (l1 : Int32).toNatClampNeg) = 12) → ((l1 < (2 : Int32) → P (some (vi 6)) x) ∧ (¬ (l1 < (2 : Int32)) → vp_in l1 702 ∧ vp_in (l1 - 2) 702 ∧ vp_in (x.1 43 (l1 - 2 : Int32).toNatClampNeg) 24 ∧ (((x.1 46 (x.1 43 (l1 - 2 : Int32).toNatClampNeg : Int32).toNatClampNeg) ≤ (x.1 27 (l1 : Int32).toNatClampNeg) → P (some (vi 6)) x) ∧ (¬ ((x.1 46 (x.1 43 (l1 - 2 : Int32).toNatClampNeg : Int32).toNatClampNeg) ≤ (x.1 27 (l1 : Int32).toNatClampNeg)) → P (some (vi 0)) x))))) ∧ ((∀ k ∈ [(1 : Int32), (2 : Int32), (3 : Int32), (4 : Int32), (5 : Int32), (10 : Int32), (11 : Int32), (13 : Int32), (12 : Int32)], ¬ (x.1 42 (l1 : Int32).toNatClampNeg) = k) → KT G q d zk_X6_faultOfCell 0 [(0, vr 40), (1, vi l1)] [] x (ri (fun r39 x38 => P (some (vi r39)) x38))))) :
    KT G q (d + 1) zk_X6_faultOf 0 [(0, vr 40), (1, vi l1)] [] x P := by
  refine T_aload_n 0 (dk dtk_X6_faultOf 0 rfl) rfl rfl ?_
  refine T_getR 40 1 42 (dk dtk_X6_faultOf 1 rfl) kfl_X6_17 kk_40 (kl_40 hq) (by decide) rfl kr_40_1 ?_
  refine T_iload_n 1 (dk dtk_X6_faultOf 2 rfl) rfl rfl ?_
  obtain ⟨h1, h⟩ := h
  refine T_iald 42 702 (dk dtk_X6_faultOf 3 rfl) kk_42 (kl_42 hq) h1 ?_
  by_cases c2 : (x.1 42 (l1 : Int32).toNatClampNeg) = 1
  · have h := h.1 c2
    refine T_table 66 72 (dk dtk_X6_faultOf 4 rfl) (by decide) (by rw [c2]; decide +kernel) (by decide) ?_
    refine T_aload_n 0 (dk dtk_X6_faultOf 5 rfl) rfl rfl ?_
    refine T_iload_n 1 (dk dtk_X6_faultOf 6 rfl) rfl rfl ?_
    refine T_sub (lv2 := []) [] rfl ?_
    refine KC_Vi [vi l1] [] rfl (dk dtk_X6_faultOf 7 rfl) kcv_X6_65 rfl kk_40 rfl (kl_40 hq) (Nat.le_of_ble_eq_true rfl) (Nat.le_of_ble_eq_true rfl) (gok_i av_n as_n) rfl h (fun r4 x3 h => ?_)
    refine T_if_eq 84 (dk dtk_X6_faultOf 8 rfl) (by decide) (fun c5 => ?_) (fun c5 => ?_)
    · have h := h.1 c5
      refine T_iconst (v := 0) (dk dtk_X6_faultOf 11 rfl) (by decide +kernel) ?_
      exact KT_iret (dk dtk_X6_faultOf 12 rfl) rfl rfl h
    · have h := h.2 c5
      refine T_iconst (v := 4) (dk dtk_X6_faultOf 9 rfl) (by decide +kernel) ?_
      refine T_goto 85 (dk dtk_X6_faultOf 10 rfl) (by decide) ?_
      exact KT_iret (dk dtk_X6_faultOf 12 rfl) rfl rfl h
  · have h := h.2
    by_cases c6 : (x.1 42 (l1 : Int32).toNatClampNeg) = 2
    · have h := h.1 c6
      refine T_table 80 86 (dk dtk_X6_faultOf 4 rfl) (by decide) (by rw [c6]; decide +kernel) (by decide) ?_
      refine T_iconst (v := 4) (dk dtk_X6_faultOf 13 rfl) (by decide +kernel) ?_
      exact KT_iret (dk dtk_X6_faultOf 14 rfl) rfl rfl h
    · have h := h.2
      by_cases c7 : (x.1 42 (l1 : Int32).toNatClampNeg) = 3
      · have h := h.1 c7
        refine T_table 82 88 (dk dtk_X6_faultOf 4 rfl) (by decide) (by rw [c7]; decide +kernel) (by decide) ?_
        refine T_iconst (v := 5) (dk dtk_X6_faultOf 15 rfl) (by decide +kernel) ?_
        exact KT_iret (dk dtk_X6_faultOf 16 rfl) rfl rfl h
      · have h := h.2
        by_cases c8 : (x.1 42 (l1 : Int32).toNatClampNeg) = 4
        · have h := h.1 c8
          refine T_table 84 90 (dk dtk_X6_faultOf 4 rfl) (by decide) (by rw [c8]; decide +kernel) (by decide) ?_
          refine T_aload_n 0 (dk dtk_X6_faultOf 17 rfl) rfl rfl ?_
          refine T_getR 40 2 43 (dk dtk_X6_faultOf 18 rfl) kfl_X6_21 kk_40 (kl_40 hq) (by decide) rfl kr_40_2 ?_
          refine T_iload_n 1 (dk dtk_X6_faultOf 19 rfl) rfl rfl ?_
          refine T_aload_n 0 (dk dtk_X6_faultOf 20 rfl) rfl rfl ?_
          refine T_aload_n 0 (dk dtk_X6_faultOf 21 rfl) rfl rfl ?_
          refine T_getR 40 7 48 (dk dtk_X6_faultOf 22 rfl) kfl_X6_33 kk_40 (kl_40 hq) (by decide) rfl kr_40_7 ?_
          refine T_aload_n 0 (dk dtk_X6_faultOf 23 rfl) rfl rfl ?_
          refine T_getI 40 8 (dk dtk_X6_faultOf 24 rfl) kfl_X6_43 kk_40 (kl_40 hq) (by decide) rfl ?_
          refine T_iload_n 1 (dk dtk_X6_faultOf 25 rfl) rfl rfl ?_
          refine KC_Vi [vr 48, vi (x.1 40 8), vi l1] [vi l1, vr 43] rfl (dk dtk_X6_faultOf 26 rfl) kcv_X6_69 rfl kk_40 rfl (kl_40 hq) (Nat.le_of_ble_eq_true rfl) (Nat.le_of_ble_eq_true rfl) (gok_i (av_c (gkr (kl_40 hq)) (av_c rfl av_n)) (as_c rfl (as_c (gkr (kl_43 hq)) as_n))) rfl h (fun r10 x9 h => ?_)
          obtain ⟨h11, h⟩ := h
          obtain ⟨x12, ex12⟩ : ∃ z, z = si x9 43 (l1 : Int32).toNatClampNeg r10 := ⟨_, rfl⟩
          have h := h x12 ex12
          refine T_iast 43 702 (dk dtk_X6_faultOf 27 rfl) kk_43 (kl_43 hq) h11 ?_
          rw [← ex12]
          refine T_aload_n 0 (dk dtk_X6_faultOf 28 rfl) rfl rfl ?_
          refine T_getR 40 2 43 (dk dtk_X6_faultOf 29 rfl) kfl_X6_21 kk_40 (kl_40 hq) (by decide) rfl kr_40_2 ?_
          refine T_iload_n 1 (dk dtk_X6_faultOf 30 rfl) rfl rfl ?_
          obtain ⟨h13, h⟩ := h
          refine T_iald 43 702 (dk dtk_X6_faultOf 31 rfl) kk_43 (kl_43 hq) h13 ?_
          refine T_iconst (v := (-1)) (dk dtk_X6_faultOf 32 rfl) (by decide +kernel) ?_
          refine T_icmp_ne 123 (dk dtk_X6_faultOf 33 rfl) (by decide) (fun c14 => ?_) (fun c14 => ?_)
          · have h := h.1 c14
            refine T_iconst (v := 0) (dk dtk_X6_faultOf 36 rfl) (by decide +kernel) ?_
            exact KT_iret (dk dtk_X6_faultOf 37 rfl) rfl rfl h
          · have h := h.2 c14
            refine T_iconst (v := 5) (dk dtk_X6_faultOf 34 rfl) (by decide +kernel) ?_
            refine T_goto 124 (dk dtk_X6_faultOf 35 rfl) (by decide) ?_
            exact KT_iret (dk dtk_X6_faultOf 37 rfl) rfl rfl h
        · have h := h.2
          by_cases c15 : (x.1 42 (l1 : Int32).toNatClampNeg) = 5
          · have h := h.1 c15
            refine T_table 119 125 (dk dtk_X6_faultOf 4 rfl) (by decide) (by rw [c15]; decide +kernel) (by decide) ?_
            refine T_aload_n 0 (dk dtk_X6_faultOf 38 rfl) rfl rfl ?_
            refine T_getR 40 2 43 (dk dtk_X6_faultOf 39 rfl) kfl_X6_21 kk_40 (kl_40 hq) (by decide) rfl kr_40_2 ?_
            refine T_iload_n 1 (dk dtk_X6_faultOf 40 rfl) rfl rfl ?_
            refine T_aload_n 0 (dk dtk_X6_faultOf 41 rfl) rfl rfl ?_
            refine T_aload_n 0 (dk dtk_X6_faultOf 42 rfl) rfl rfl ?_
            refine T_getR 40 9 50 (dk dtk_X6_faultOf 43 rfl) kfl_X6_36 kk_40 (kl_40 hq) (by decide) rfl kr_40_9 ?_
            refine T_aload_n 0 (dk dtk_X6_faultOf 44 rfl) rfl rfl ?_
            refine T_getI 40 10 (dk dtk_X6_faultOf 45 rfl) kfl_X6_46 kk_40 (kl_40 hq) (by decide) rfl ?_
            refine T_iload_n 1 (dk dtk_X6_faultOf 46 rfl) rfl rfl ?_
            refine KC_Vi [vr 50, vi (x.1 40 10), vi l1] [vi l1, vr 43] rfl (dk dtk_X6_faultOf 47 rfl) kcv_X6_69 rfl kk_40 rfl (kl_40 hq) (Nat.le_of_ble_eq_true rfl) (Nat.le_of_ble_eq_true rfl) (gok_i (av_c (gkr (kl_40 hq)) (av_c rfl av_n)) (as_c rfl (as_c (gkr (kl_43 hq)) as_n))) rfl h (fun r17 x16 h => ?_)
            obtain ⟨h18, h⟩ := h
            obtain ⟨x19, ex19⟩ : ∃ z, z = si x16 43 (l1 : Int32).toNatClampNeg r17 := ⟨_, rfl⟩
            have h := h x19 ex19
            refine T_iast 43 702 (dk dtk_X6_faultOf 48 rfl) kk_43 (kl_43 hq) h18 ?_
            rw [← ex19]
            refine T_aload_n 0 (dk dtk_X6_faultOf 49 rfl) rfl rfl ?_
            refine T_getR 40 2 43 (dk dtk_X6_faultOf 50 rfl) kfl_X6_21 kk_40 (kl_40 hq) (by decide) rfl kr_40_2 ?_
            refine T_iload_n 1 (dk dtk_X6_faultOf 51 rfl) rfl rfl ?_
            obtain ⟨h20, h⟩ := h
            refine T_iald 43 702 (dk dtk_X6_faultOf 52 rfl) kk_43 (kl_43 hq) h20 ?_
            refine T_iconst (v := (-1)) (dk dtk_X6_faultOf 53 rfl) (by decide +kernel) ?_
            refine T_icmp_ne 158 (dk dtk_X6_faultOf 54 rfl) (by decide) (fun c21 => ?_) (fun c21 => ?_)
            · have h := h.1 c21
              refine T_iconst (v := 0) (dk dtk_X6_faultOf 57 rfl) (by decide +kernel) ?_
              exact KT_iret (dk dtk_X6_faultOf 58 rfl) rfl rfl h
            · have h := h.2 c21
              refine T_iconst (v := 5) (dk dtk_X6_faultOf 55 rfl) (by decide +kernel) ?_
              refine T_goto 159 (dk dtk_X6_faultOf 56 rfl) (by decide) ?_
              exact KT_iret (dk dtk_X6_faultOf 58 rfl) rfl rfl h
          · have h := h.2
            by_cases c22 : (x.1 42 (l1 : Int32).toNatClampNeg) = 10
            · have h := h.1 c22
              refine T_table 154 160 (dk dtk_X6_faultOf 4 rfl) (by decide) (by rw [c22]; decide +kernel) (by decide) ?_
              refine T_bipush (v := 7) (dk dtk_X6_faultOf 59 rfl) (by decide +kernel) ?_
              exact KT_iret (dk dtk_X6_faultOf 60 rfl) rfl rfl h
            · have h := h.2
              by_cases c23 : (x.1 42 (l1 : Int32).toNatClampNeg) = 11
              · have h := h.1 c23
                refine T_table 157 163 (dk dtk_X6_faultOf 4 rfl) (by decide) (by rw [c23]; decide +kernel) (by decide) ?_
                refine T_aload_n 0 (dk dtk_X6_faultOf 61 rfl) rfl rfl ?_
                refine T_getR 40 0 20 (dk dtk_X6_faultOf 62 rfl) kfl_X6_9 kk_40 (kl_40 hq) (by decide) rfl kr_40_0 ?_
                refine T_getR 20 6 27 (dk dtk_X6_faultOf 63 rfl) kfl_X6_73 kk_20 (kl_20 hq) (by decide) rfl kr_20_6 ?_
                refine T_iload_n 1 (dk dtk_X6_faultOf 64 rfl) rfl rfl ?_
                obtain ⟨h24, h⟩ := h
                refine T_iald 27 702 (dk dtk_X6_faultOf 65 rfl) kk_27 (kl_27 hq) h24 ?_
                refine T_sub (lv2 := []) [] rfl ?_
                refine KC_Si [vi (x.1 27 (l1 : Int32).toNatClampNeg)] [] rfl (dk dtk_X6_faultOf 66 rfl) kcs_X6_76 rfl (Nat.le_of_ble_eq_true rfl) (Nat.le_of_ble_eq_true rfl) (gok_i av_n as_n) rfl h (fun r26 x25 h => ?_)
                refine T_if_eq 182 (dk dtk_X6_faultOf 67 rfl) (by decide) (fun c27 => ?_) (fun c27 => ?_)
                · have h := h.1 c27
                  refine T_bipush (v := 6) (dk dtk_X6_faultOf 70 rfl) (by decide +kernel) ?_
                  exact KT_iret (dk dtk_X6_faultOf 71 rfl) rfl rfl h
                · have h := h.2 c27
                  refine T_iconst (v := 0) (dk dtk_X6_faultOf 68 rfl) (by decide +kernel) ?_
                  refine T_goto 184 (dk dtk_X6_faultOf 69 rfl) (by decide) ?_
                  exact KT_iret (dk dtk_X6_faultOf 71 rfl) rfl rfl h
              · have h := h.2
                by_cases c28 : (x.1 42 (l1 : Int32).toNatClampNeg) = 13
                · have h := h.1 c28
                  refine T_table 179 185 (dk dtk_X6_faultOf 4 rfl) (by decide) (by rw [c28]; decide +kernel) (by decide) ?_
                  refine T_aload_n 0 (dk dtk_X6_faultOf 72 rfl) rfl rfl ?_
                  refine T_getR 40 0 20 (dk dtk_X6_faultOf 73 rfl) kfl_X6_9 kk_40 (kl_40 hq) (by decide) rfl kr_40_0 ?_
                  refine T_getR 20 6 27 (dk dtk_X6_faultOf 74 rfl) kfl_X6_73 kk_20 (kl_20 hq) (by decide) rfl kr_20_6 ?_
                  refine T_iload_n 1 (dk dtk_X6_faultOf 75 rfl) rfl rfl ?_
                  obtain ⟨h29, h⟩ := h
                  refine T_iald 27 702 (dk dtk_X6_faultOf 76 rfl) kk_27 (kl_27 hq) h29 ?_
                  refine T_iconst (v := 3) (dk dtk_X6_faultOf 77 rfl) (by decide +kernel) ?_
                  refine T_icmp_le 203 (dk dtk_X6_faultOf 78 rfl) (by decide) (fun c30 => ?_) (fun c30 => ?_)
                  · have h := h.1 c30
                    refine T_iconst (v := 0) (dk dtk_X6_faultOf 81 rfl) (by decide +kernel) ?_
                    exact KT_iret (dk dtk_X6_faultOf 82 rfl) rfl rfl h
                  · have h := h.2 c30
                    refine T_bipush (v := 6) (dk dtk_X6_faultOf 79 rfl) (by decide +kernel) ?_
                    refine T_goto 204 (dk dtk_X6_faultOf 80 rfl) (by decide) ?_
                    exact KT_iret (dk dtk_X6_faultOf 82 rfl) rfl rfl h
                · have h := h.2
                  by_cases c31 : (x.1 42 (l1 : Int32).toNatClampNeg) = 12
                  · have h := h.1 c31
                    refine T_table 199 205 (dk dtk_X6_faultOf 4 rfl) (by decide) (by rw [c31]; decide +kernel) (by decide) ?_
                    refine T_iload_n 1 (dk dtk_X6_faultOf 83 rfl) rfl rfl ?_
                    refine T_iconst (v := 2) (dk dtk_X6_faultOf 84 rfl) (by decide +kernel) ?_
                    refine T_icmp_lt 239 (dk dtk_X6_faultOf 85 rfl) (by decide) (fun c32 => ?_) (fun c32 => ?_)
                    · have h := h.1 c32
                      refine T_bipush (v := 6) (dk dtk_X6_faultOf 103 rfl) (by decide +kernel) ?_
                      exact KT_iret (dk dtk_X6_faultOf 104 rfl) rfl rfl h
                    · have h := h.2 c32
                      refine T_aload_n 0 (dk dtk_X6_faultOf 86 rfl) rfl rfl ?_
                      refine T_getR 40 0 20 (dk dtk_X6_faultOf 87 rfl) kfl_X6_9 kk_40 (kl_40 hq) (by decide) rfl kr_40_0 ?_
                      refine T_getR 20 6 27 (dk dtk_X6_faultOf 88 rfl) kfl_X6_73 kk_20 (kl_20 hq) (by decide) rfl kr_20_6 ?_
                      refine T_iload_n 1 (dk dtk_X6_faultOf 89 rfl) rfl rfl ?_
                      obtain ⟨h33, h⟩ := h
                      refine T_iald 27 702 (dk dtk_X6_faultOf 90 rfl) kk_27 (kl_27 hq) h33 ?_
                      refine T_aload_n 0 (dk dtk_X6_faultOf 91 rfl) rfl rfl ?_
                      refine T_getR 40 5 46 (dk dtk_X6_faultOf 92 rfl) kfl_X6_30 kk_40 (kl_40 hq) (by decide) rfl kr_40_5 ?_
                      refine T_aload_n 0 (dk dtk_X6_faultOf 93 rfl) rfl rfl ?_
                      refine T_getR 40 2 43 (dk dtk_X6_faultOf 94 rfl) kfl_X6_21 kk_40 (kl_40 hq) (by decide) rfl kr_40_2 ?_
                      refine T_iload_n 1 (dk dtk_X6_faultOf 95 rfl) rfl rfl ?_
                      refine T_iconst (v := 2) (dk dtk_X6_faultOf 96 rfl) (by decide +kernel) ?_
                      refine T_isub (dk dtk_X6_faultOf 97 rfl) ?_
                      obtain ⟨h34, h⟩ := h
                      refine T_iald 43 702 (dk dtk_X6_faultOf 98 rfl) kk_43 (kl_43 hq) h34 ?_
                      obtain ⟨h35, h⟩ := h
                      refine T_iald 46 24 (dk dtk_X6_faultOf 99 rfl) kk_46 (kl_46 hq) h35 ?_
                      refine T_icmp_ge 239 (dk dtk_X6_faultOf 100 rfl) (by decide) (fun c36 => ?_) (fun c36 => ?_)
                      · have h := h.1 c36
                        refine T_bipush (v := 6) (dk dtk_X6_faultOf 103 rfl) (by decide +kernel) ?_
                        exact KT_iret (dk dtk_X6_faultOf 104 rfl) rfl rfl h
                      · have h := h.2 c36
                        refine T_iconst (v := 0) (dk dtk_X6_faultOf 101 rfl) (by decide +kernel) ?_
                        refine T_goto 241 (dk dtk_X6_faultOf 102 rfl) (by decide) ?_
                        exact KT_iret (dk dtk_X6_faultOf 104 rfl) rfl rfl h
                  · have h := h.2
                    have n37 : ∀ k ∈ [(1 : Int32), (2 : Int32), (3 : Int32), (4 : Int32), (5 : Int32), (10 : Int32), (11 : Int32), (13 : Int32), (12 : Int32)], ¬ (x.1 42 (l1 : Int32).toNatClampNeg) = k := (gno c2 (gno c6 (gno c7 (gno c8 (gno c15 (gno c22 (gno c23 (gno c28 (gno c31 gno0)))))))))
                    have h := h n37
                    refine T_table 236 242 (dk dtk_X6_faultOf 4 rfl) (by decide) (gtab_d [(1 : Int32), (2 : Int32), (3 : Int32), (4 : Int32), (5 : Int32), (10 : Int32), (11 : Int32), (13 : Int32), (12 : Int32)] (by decide +kernel) n37) (by decide) ?_
                    refine T_aload_n 0 (dk dtk_X6_faultOf 105 rfl) rfl rfl ?_
                    refine T_iload_n 1 (dk dtk_X6_faultOf 106 rfl) rfl rfl ?_
                    refine T_sub (lv2 := []) [] rfl ?_
                    refine KC_Vi [vi l1] [] rfl (dk dtk_X6_faultOf 107 rfl) kcv_X6_79 rfl kk_40 rfl (kl_40 hq) (Nat.le_of_ble_eq_true rfl) (Nat.le_of_ble_eq_true rfl) (gok_i av_n as_n) rfl h (fun r39 x38 h => ?_)
                    exact KT_iret (dk dtk_X6_faultOf 108 rfl) rfl rfl h
set_option maxRecDepth 100000 in
theorem dtk_X6_faultOfCell : dck cX6_faultOfCell [(0, .aload_n 0, 1), (1, .getfield 21, 3), (4, .iload_n 1, 1), (5, .aload_n 0, 1), (6, .iload_n 1, 1), (7, .aload_n 0, 1), (8, .getfield 17, 3), (11, .iload_n 1, 1), (12, .iaload, 1), (13, .bipush 7, 2), (15, .if_icmp .eq 14, 3), (18, .aload_n 0, 1), (19, .getfield 17, 3), (22, .iload_n 1, 1), (23, .iaload, 1), (24, .bipush 9, 2), (26, .if_icmp .ne 7, 3), (29, .iconst 1, 1), (30, .goto 4, 3), (33, .iconst 0, 1), (34, .invokevirtual 82, 3), (37, .iastore, 1), (38, .aload_n 0, 1), (39, .getfield 21, 3), (42, .iload_n 1, 1), (43, .iaload, 1), (44, .iconst (-1), 1), (45, .if_icmp .ne 5, 3), (48, .iconst 5, 1), (49, .ireturn, 1), (50, .aload_n 0, 1), (51, .getfield 17, 3), (54, .iload_n 1, 1), (55, .iaload, 1), (56, .bipush 6, 2), (58, .if_icmp .eq 14, 3), (61, .aload_n 0, 1), (62, .getfield 17, 3), (65, .iload_n 1, 1), (66, .iaload, 1), (67, .bipush 7, 2), (69, .if_icmp .ne 7, 3), (72, .iconst 0, 1), (73, .goto 5, 3), (76, .bipush 7, 2), (78, .ireturn, 1)] = true := by decide +kernel
set_option maxRecDepth 100000 in
set_option maxHeartbeats 4000000 in
theorem kg_X6_faultOfCell_0 {G : kG} {q : kP} {d : Nat} {x : gd} {P : Option gv → gd → Prop} (hq : kV q) (l1 : Int32)
    (h : vp_in l1 702 ∧ (((x.1 42 (l1 : Int32).toNatClampNeg) = (7 : Int32) → KT G q (d + 1) zk_X6_faultOfCell 34 [(0, vr 40), (1, vi l1)] [vi 1, vi l1, vr 40, vi l1, vr 43] x P) ∧ (¬ ((x.1 42 (l1 : Int32).toNatClampNeg) = (7 : Int32)) → vp_in l1 702 ∧ ((¬ ((x.1 42 (l1 : Int32).toNatClampNeg) = (9 : Int32)) → KT G q (d + 1) zk_X6_faultOfCell 34 [(0, vr 40), (1, vi l1)] [vi 0, vi l1, vr 40, vi l1, vr 43] x P) ∧ ((x.1 42 (l1 : Int32).toNatClampNeg) = (9 : Int32) → KT G q (d + 1) zk_X6_faultOfCell 34 [(0, vr 40), (1, vi l1)] [vi 1, vi l1, vr 40, vi l1, vr 43] x P))))) :
    KT G q (d + 1) zk_X6_faultOfCell 0 [(0, vr 40), (1, vi l1)] [] x P := by
  refine T_aload_n 0 (dk dtk_X6_faultOfCell 0 rfl) rfl rfl ?_
  refine T_getR 40 2 43 (dk dtk_X6_faultOfCell 1 rfl) kfl_X6_21 kk_40 (kl_40 hq) (by decide) rfl kr_40_2 ?_
  refine T_iload_n 1 (dk dtk_X6_faultOfCell 2 rfl) rfl rfl ?_
  refine T_aload_n 0 (dk dtk_X6_faultOfCell 3 rfl) rfl rfl ?_
  refine T_iload_n 1 (dk dtk_X6_faultOfCell 4 rfl) rfl rfl ?_
  refine T_aload_n 0 (dk dtk_X6_faultOfCell 5 rfl) rfl rfl ?_
  refine T_getR 40 1 42 (dk dtk_X6_faultOfCell 6 rfl) kfl_X6_17 kk_40 (kl_40 hq) (by decide) rfl kr_40_1 ?_
  refine T_iload_n 1 (dk dtk_X6_faultOfCell 7 rfl) rfl rfl ?_
  obtain ⟨h1, h⟩ := h
  refine T_iald 42 702 (dk dtk_X6_faultOfCell 8 rfl) kk_42 (kl_42 hq) h1 ?_
  refine T_bipush (v := 7) (dk dtk_X6_faultOfCell 9 rfl) (by decide +kernel) ?_
  refine T_icmp_eq 29 (dk dtk_X6_faultOfCell 10 rfl) (by decide) (fun c2 => ?_) (fun c2 => ?_)
  · have h := h.1 c2
    refine T_iconst (v := 1) (dk dtk_X6_faultOfCell 17 rfl) (by decide +kernel) ?_
    refine T_goto 34 (dk dtk_X6_faultOfCell 18 rfl) (by decide) ?_
    exact h
  · have h := h.2 c2
    refine T_aload_n 0 (dk dtk_X6_faultOfCell 11 rfl) rfl rfl ?_
    refine T_getR 40 1 42 (dk dtk_X6_faultOfCell 12 rfl) kfl_X6_17 kk_40 (kl_40 hq) (by decide) rfl kr_40_1 ?_
    refine T_iload_n 1 (dk dtk_X6_faultOfCell 13 rfl) rfl rfl ?_
    obtain ⟨h3, h⟩ := h
    refine T_iald 42 702 (dk dtk_X6_faultOfCell 14 rfl) kk_42 (kl_42 hq) h3 ?_
    refine T_bipush (v := 9) (dk dtk_X6_faultOfCell 15 rfl) (by decide +kernel) ?_
    refine T_icmp_ne 33 (dk dtk_X6_faultOfCell 16 rfl) (by decide) (fun c4 => ?_) (fun c4 => ?_)
    · have h := h.1 c4
      refine T_iconst (v := 0) (dk dtk_X6_faultOfCell 19 rfl) (by decide +kernel) ?_
      exact h
    · have h := h.2 c4
      refine T_iconst (v := 1) (dk dtk_X6_faultOfCell 17 rfl) (by decide +kernel) ?_
      refine T_goto 34 (dk dtk_X6_faultOfCell 18 rfl) (by decide) ?_
      exact h
set_option maxRecDepth 100000 in
set_option maxHeartbeats 4000000 in
theorem kg_X6_faultOfCell_34 {G : kG} {q : kP} {d : Nat} {x : gd} {P : Option gv → gd → Prop} (hq : kV q) (l1 : Int32) (s0 : Int32) (s1 : Int32) (s3 : Int32)
    (h : KT G q d zk_X6_cellOf 0 [(0, vr 40), (1, vi s1), (2, vi s0)] [] x (ri (fun r2 x1 => vp_in s3 702 ∧ (∀ x4 : gd, x4 = si x1 43 (s3 : Int32).toNatClampNeg r2 → vp_in l1 702 ∧ ((¬ ((x4.1 43 (l1 : Int32).toNatClampNeg) = (-1 : Int32)) → vp_in l1 702 ∧ (((x4.1 42 (l1 : Int32).toNatClampNeg) = (6 : Int32) → P (some (vi 0)) x4) ∧ (¬ ((x4.1 42 (l1 : Int32).toNatClampNeg) = (6 : Int32)) → vp_in l1 702 ∧ ((¬ ((x4.1 42 (l1 : Int32).toNatClampNeg) = (7 : Int32)) → P (some (vi 7)) x4) ∧ ((x4.1 42 (l1 : Int32).toNatClampNeg) = (7 : Int32) → P (some (vi 0)) x4))))) ∧ ((x4.1 43 (l1 : Int32).toNatClampNeg) = (-1 : Int32) → P (some (vi 5)) x4)))))) :
    KT G q (d + 1) zk_X6_faultOfCell 34 [(0, vr 40), (1, vi l1)] [vi s0, vi s1, vr 40, vi s3, vr 43] x P := by
  refine KC_Vi [vi s1, vi s0] [vi s3, vr 43] rfl (dk dtk_X6_faultOfCell 20 rfl) kcv_X6_82 rfl kk_40 rfl (kl_40 hq) (Nat.le_of_ble_eq_true rfl) (Nat.le_of_ble_eq_true rfl) (gok_i (av_c (gkr (kl_40 hq)) (av_c rfl av_n)) (as_c rfl (as_c (gkr (kl_43 hq)) as_n))) rfl h (fun r2 x1 h => ?_)
  obtain ⟨h3, h⟩ := h
  obtain ⟨x4, ex4⟩ : ∃ z, z = si x1 43 (s3 : Int32).toNatClampNeg r2 := ⟨_, rfl⟩
  have h := h x4 ex4
  refine T_iast 43 702 (dk dtk_X6_faultOfCell 21 rfl) kk_43 (kl_43 hq) h3 ?_
  rw [← ex4]
  refine T_aload_n 0 (dk dtk_X6_faultOfCell 22 rfl) rfl rfl ?_
  refine T_getR 40 2 43 (dk dtk_X6_faultOfCell 23 rfl) kfl_X6_21 kk_40 (kl_40 hq) (by decide) rfl kr_40_2 ?_
  refine T_iload_n 1 (dk dtk_X6_faultOfCell 24 rfl) rfl rfl ?_
  obtain ⟨h5, h⟩ := h
  refine T_iald 43 702 (dk dtk_X6_faultOfCell 25 rfl) kk_43 (kl_43 hq) h5 ?_
  refine T_iconst (v := (-1)) (dk dtk_X6_faultOfCell 26 rfl) (by decide +kernel) ?_
  refine T_icmp_ne 50 (dk dtk_X6_faultOfCell 27 rfl) (by decide) (fun c6 => ?_) (fun c6 => ?_)
  · have h := h.1 c6
    refine T_aload_n 0 (dk dtk_X6_faultOfCell 30 rfl) rfl rfl ?_
    refine T_getR 40 1 42 (dk dtk_X6_faultOfCell 31 rfl) kfl_X6_17 kk_40 (kl_40 hq) (by decide) rfl kr_40_1 ?_
    refine T_iload_n 1 (dk dtk_X6_faultOfCell 32 rfl) rfl rfl ?_
    obtain ⟨h7, h⟩ := h
    refine T_iald 42 702 (dk dtk_X6_faultOfCell 33 rfl) kk_42 (kl_42 hq) h7 ?_
    refine T_bipush (v := 6) (dk dtk_X6_faultOfCell 34 rfl) (by decide +kernel) ?_
    refine T_icmp_eq 72 (dk dtk_X6_faultOfCell 35 rfl) (by decide) (fun c8 => ?_) (fun c8 => ?_)
    · have h := h.1 c8
      refine T_iconst (v := 0) (dk dtk_X6_faultOfCell 42 rfl) (by decide +kernel) ?_
      refine T_goto 78 (dk dtk_X6_faultOfCell 43 rfl) (by decide) ?_
      exact KT_iret (dk dtk_X6_faultOfCell 45 rfl) rfl rfl h
    · have h := h.2 c8
      refine T_aload_n 0 (dk dtk_X6_faultOfCell 36 rfl) rfl rfl ?_
      refine T_getR 40 1 42 (dk dtk_X6_faultOfCell 37 rfl) kfl_X6_17 kk_40 (kl_40 hq) (by decide) rfl kr_40_1 ?_
      refine T_iload_n 1 (dk dtk_X6_faultOfCell 38 rfl) rfl rfl ?_
      obtain ⟨h9, h⟩ := h
      refine T_iald 42 702 (dk dtk_X6_faultOfCell 39 rfl) kk_42 (kl_42 hq) h9 ?_
      refine T_bipush (v := 7) (dk dtk_X6_faultOfCell 40 rfl) (by decide +kernel) ?_
      refine T_icmp_ne 76 (dk dtk_X6_faultOfCell 41 rfl) (by decide) (fun c10 => ?_) (fun c10 => ?_)
      · have h := h.1 c10
        refine T_bipush (v := 7) (dk dtk_X6_faultOfCell 44 rfl) (by decide +kernel) ?_
        exact KT_iret (dk dtk_X6_faultOfCell 45 rfl) rfl rfl h
      · have h := h.2 c10
        refine T_iconst (v := 0) (dk dtk_X6_faultOfCell 42 rfl) (by decide +kernel) ?_
        refine T_goto 78 (dk dtk_X6_faultOfCell 43 rfl) (by decide) ?_
        exact KT_iret (dk dtk_X6_faultOfCell 45 rfl) rfl rfl h
  · have h := h.2 c6
    refine T_iconst (v := 5) (dk dtk_X6_faultOfCell 28 rfl) (by decide +kernel) ?_
    exact KT_iret (dk dtk_X6_faultOfCell 29 rfl) rfl rfl h
set_option maxRecDepth 100000 in
theorem dtk_X6_isToldBefore : dck cX6_isToldBefore [(0, .aload_n 0, 1), (1, .aload_n 0, 1), (2, .getfield 24, 3), (5, .aload_n 0, 1), (6, .getfield 39, 3), (9, .iload_n 1, 1), (10, .invokevirtual 86, 3), (13, .ifCond .ne 35, 3), (16, .aload_n 0, 1), (17, .aload_n 0, 1), (18, .getfield 33, 3), (21, .aload_n 0, 1), (22, .getfield 43, 3), (25, .iload_n 1, 1), (26, .invokevirtual 86, 3), (29, .ifCond .ne 19, 3), (32, .aload_n 0, 1), (33, .aload_n 0, 1), (34, .getfield 36, 3), (37, .aload_n 0, 1), (38, .getfield 46, 3), (41, .iload_n 1, 1), (42, .invokevirtual 86, 3), (45, .ifCond .eq 7, 3), (48, .iconst 1, 1), (49, .goto 4, 3), (52, .iconst 0, 1), (53, .ireturn, 1)] = true := by decide +kernel
set_option maxRecDepth 100000 in
set_option maxHeartbeats 4000000 in
theorem kg_X6_isToldBefore_0 {G : kG} {q : kP} {d : Nat} {x : gd} {P : Option gv → gd → Prop} (hq : kV q) (l1 : Int32)
    (h : KT G q d zk_X6_isAmong 0 [(0, vr 40), (1, vr 44), (2, vi (x.1 40 6)), (3, vi l1)] [] x (ri (fun r2 x1 => ((¬ (r2 = (0 : Int32)) → P (some (vi 1)) x1) ∧ (r2 = (0 : Int32) → KT G q d zk_X6_isAmong 0 [(0, vr 40), (1, vr 48), (2, vi (x1.1 40 8)), (3, vi l1)] [] x1 (ri (fun r5 x4 => ((¬ (r5 = (0 : Int32)) → P (some (vi 1)) x4) ∧ (r5 = (0 : Int32) → KT G q d zk_X6_isAmong 0 [(0, vr 40), (1, vr 50), (2, vi (x4.1 40 10)), (3, vi l1)] [] x4 (ri (fun r8 x7 => ((r8 = (0 : Int32) → P (some (vi 0)) x7) ∧ (¬ (r8 = (0 : Int32)) → P (some (vi 1)) x7))))))))))))) :
    KT G q (d + 1) zk_X6_isToldBefore 0 [(0, vr 40), (1, vi l1)] [] x P := by
  refine T_aload_n 0 (dk dtk_X6_isToldBefore 0 rfl) rfl rfl ?_
  refine T_aload_n 0 (dk dtk_X6_isToldBefore 1 rfl) rfl rfl ?_
  refine T_getR 40 3 44 (dk dtk_X6_isToldBefore 2 rfl) kfl_X6_24 kk_40 (kl_40 hq) (by decide) rfl kr_40_3 ?_
  refine T_aload_n 0 (dk dtk_X6_isToldBefore 3 rfl) rfl rfl ?_
  refine T_getI 40 6 (dk dtk_X6_isToldBefore 4 rfl) kfl_X6_39 kk_40 (kl_40 hq) (by decide) rfl ?_
  refine T_iload_n 1 (dk dtk_X6_isToldBefore 5 rfl) rfl rfl ?_
  refine KC_Vi [vr 44, vi (x.1 40 6), vi l1] [] rfl (dk dtk_X6_isToldBefore 6 rfl) kcv_X6_86 rfl kk_40 rfl (kl_40 hq) (Nat.le_of_ble_eq_true rfl) (Nat.le_of_ble_eq_true rfl) (gok_i (av_c (gkr (kl_40 hq)) (av_c rfl av_n)) as_n) rfl h (fun r2 x1 h => ?_)
  refine T_if_ne 48 (dk dtk_X6_isToldBefore 7 rfl) (by decide) (fun c3 => ?_) (fun c3 => ?_)
  · have h := h.1 c3
    refine T_iconst (v := 1) (dk dtk_X6_isToldBefore 24 rfl) (by decide +kernel) ?_
    refine T_goto 53 (dk dtk_X6_isToldBefore 25 rfl) (by decide) ?_
    exact KT_iret (dk dtk_X6_isToldBefore 27 rfl) rfl rfl h
  · have h := h.2 c3
    refine T_aload_n 0 (dk dtk_X6_isToldBefore 8 rfl) rfl rfl ?_
    refine T_aload_n 0 (dk dtk_X6_isToldBefore 9 rfl) rfl rfl ?_
    refine T_getR 40 7 48 (dk dtk_X6_isToldBefore 10 rfl) kfl_X6_33 kk_40 (kl_40 hq) (by decide) rfl kr_40_7 ?_
    refine T_aload_n 0 (dk dtk_X6_isToldBefore 11 rfl) rfl rfl ?_
    refine T_getI 40 8 (dk dtk_X6_isToldBefore 12 rfl) kfl_X6_43 kk_40 (kl_40 hq) (by decide) rfl ?_
    refine T_iload_n 1 (dk dtk_X6_isToldBefore 13 rfl) rfl rfl ?_
    refine KC_Vi [vr 48, vi (x1.1 40 8), vi l1] [] rfl (dk dtk_X6_isToldBefore 14 rfl) kcv_X6_86 rfl kk_40 rfl (kl_40 hq) (Nat.le_of_ble_eq_true rfl) (Nat.le_of_ble_eq_true rfl) (gok_i (av_c (gkr (kl_40 hq)) (av_c rfl av_n)) as_n) rfl h (fun r5 x4 h => ?_)
    refine T_if_ne 48 (dk dtk_X6_isToldBefore 15 rfl) (by decide) (fun c6 => ?_) (fun c6 => ?_)
    · have h := h.1 c6
      refine T_iconst (v := 1) (dk dtk_X6_isToldBefore 24 rfl) (by decide +kernel) ?_
      refine T_goto 53 (dk dtk_X6_isToldBefore 25 rfl) (by decide) ?_
      exact KT_iret (dk dtk_X6_isToldBefore 27 rfl) rfl rfl h
    · have h := h.2 c6
      refine T_aload_n 0 (dk dtk_X6_isToldBefore 16 rfl) rfl rfl ?_
      refine T_aload_n 0 (dk dtk_X6_isToldBefore 17 rfl) rfl rfl ?_
      refine T_getR 40 9 50 (dk dtk_X6_isToldBefore 18 rfl) kfl_X6_36 kk_40 (kl_40 hq) (by decide) rfl kr_40_9 ?_
      refine T_aload_n 0 (dk dtk_X6_isToldBefore 19 rfl) rfl rfl ?_
      refine T_getI 40 10 (dk dtk_X6_isToldBefore 20 rfl) kfl_X6_46 kk_40 (kl_40 hq) (by decide) rfl ?_
      refine T_iload_n 1 (dk dtk_X6_isToldBefore 21 rfl) rfl rfl ?_
      refine T_sub (lv2 := []) [] rfl ?_
      refine KC_Vi [vr 50, vi (x4.1 40 10), vi l1] [] rfl (dk dtk_X6_isToldBefore 22 rfl) kcv_X6_86 rfl kk_40 rfl (kl_40 hq) (Nat.le_of_ble_eq_true rfl) (Nat.le_of_ble_eq_true rfl) (gok_i av_n as_n) rfl h (fun r8 x7 h => ?_)
      refine T_if_eq 52 (dk dtk_X6_isToldBefore 23 rfl) (by decide) (fun c9 => ?_) (fun c9 => ?_)
      · have h := h.1 c9
        refine T_iconst (v := 0) (dk dtk_X6_isToldBefore 26 rfl) (by decide +kernel) ?_
        exact KT_iret (dk dtk_X6_isToldBefore 27 rfl) rfl rfl h
      · have h := h.2 c9
        refine T_iconst (v := 1) (dk dtk_X6_isToldBefore 24 rfl) (by decide +kernel) ?_
        refine T_goto 53 (dk dtk_X6_isToldBefore 25 rfl) (by decide) ?_
        exact KT_iret (dk dtk_X6_isToldBefore 27 rfl) rfl rfl h
set_option maxRecDepth 100000 in
theorem dtk_X6_isAmong : dck cX6_isAmong [(0, .iconst 0, 1), (1, .istore 4, 2), (3, .iload 4, 2), (5, .iload_n 2, 1), (6, .if_icmp .ge 34, 3), (9, .aload_n 1, 1), (10, .iload 4, 2), (12, .iaload, 1), (13, .iload_n 3, 1), (14, .if_icmp .ge 20, 3), (17, .aload_n 0, 1), (18, .getfield 9, 3), (21, .aload_n 1, 1), (22, .iload 4, 2), (24, .iaload, 1), (25, .iload_n 3, 1), (26, .invokevirtual 90, 3), (29, .ifCond .eq 5, 3), (32, .iconst 1, 1), (33, .ireturn, 1), (34, .iinc 4 1, 3), (37, .goto (-34), 3), (40, .iconst 0, 1), (41, .ireturn, 1)] = true := by decide +kernel
set_option maxRecDepth 100000 in
set_option maxHeartbeats 4000000 in
theorem kg_X6_isAmong_0 {G : kG} {q : kP} {d : Nat} {x : gd} {P : Option gv → gd → Prop} (hq : kV q) {a1 n1 : Nat} (ka1 : kK a1 = .inr (.int, n1)) (ma1 : a1 ∈ (kf q).2.1) (l2 : Int32) (l3 : Int32)
    (h : KT G q (d + 1) zk_X6_isAmong 3 [(0, vr 40), (1, vr a1), (2, vi l2), (3, vi l3), (4, vi 0)] [] x P) :
    KT G q (d + 1) zk_X6_isAmong 0 [(0, vr 40), (1, vr a1), (2, vi l2), (3, vi l3)] [] x P := by
  refine T_iconst (v := 0) (dk dtk_X6_isAmong 0 rfl) (by decide +kernel) ?_
  refine T_istore (lv2 := [(4, vi 0), (0, vr 40), (1, vr a1), (2, vi l2), (3, vi l3)]) (dk dtk_X6_isAmong 1 rfl) (by decide) rfl ?_
  exact T_sub [1, 2, 3, 4, 0] rfl h
set_option maxRecDepth 100000 in
set_option maxHeartbeats 4000000 in
theorem kg_X6_isAmong_3 {G : kG} {q : kP} {d : Nat} {x : gd} {P : Option gv → gd → Prop} (hq : kV q) {a1 n1 : Nat} (ka1 : kK a1 = .inr (.int, n1)) (ma1 : a1 ∈ (kf q).2.1) (l2 : Int32) (l3 : Int32) (l4 : Int32)
    (h : ((l2 ≤ l4 → P (some (vi 0)) x) ∧ (¬ (l2 ≤ l4) → vp_in l4 n1 ∧ ((l3 ≤ (x.1 a1 (l4 : Int32).toNatClampNeg) → KT G q (d + 1) zk_X6_isAmong 3 [(0, vr 40), (1, vr a1), (2, vi l2), (3, vi l3), (4, vi (l4 + 1))] [] x P) ∧ (¬ (l3 ≤ (x.1 a1 (l4 : Int32).toNatClampNeg)) → vp_in l4 n1 ∧ KT G q d zk_X9_sameName 0 [(0, vr 20), (1, vi (x.1 a1 (l4 : Int32).toNatClampNeg)), (2, vi l3)] [] x (ri (fun r6 x5 => ((r6 = (0 : Int32) → KT G q (d + 1) zk_X6_isAmong 3 [(0, vr 40), (1, vr a1), (2, vi l2), (3, vi l3), (4, vi (l4 + 1))] [] x5 P) ∧ (¬ (r6 = (0 : Int32)) → P (some (vi 1)) x5))))))))) :
    KT G q (d + 1) zk_X6_isAmong 3 [(0, vr 40), (1, vr a1), (2, vi l2), (3, vi l3), (4, vi l4)] [] x P := by
  refine T_iload 4 (dk dtk_X6_isAmong 2 rfl) rfl ?_
  refine T_iload_n 2 (dk dtk_X6_isAmong 3 rfl) rfl rfl ?_
  refine T_icmp_ge 40 (dk dtk_X6_isAmong 4 rfl) (by decide) (fun c1 => ?_) (fun c1 => ?_)
  · have h := h.1 c1
    refine T_iconst (v := 0) (dk dtk_X6_isAmong 22 rfl) (by decide +kernel) ?_
    exact KT_iret (dk dtk_X6_isAmong 23 rfl) rfl rfl h
  · have h := h.2 c1
    refine T_aload_n 1 (dk dtk_X6_isAmong 5 rfl) rfl rfl ?_
    refine T_iload 4 (dk dtk_X6_isAmong 6 rfl) rfl ?_
    obtain ⟨h2, h⟩ := h
    refine T_iald a1 n1 (dk dtk_X6_isAmong 7 rfl) ka1 ma1 h2 ?_
    refine T_iload_n 3 (dk dtk_X6_isAmong 8 rfl) rfl rfl ?_
    refine T_icmp_ge 34 (dk dtk_X6_isAmong 9 rfl) (by decide) (fun c3 => ?_) (fun c3 => ?_)
    · have h := h.1 c3
      refine T_iinc (v := l4 + 1) (lv2 := [(4, vi (l4 + 1)), (0, vr 40), (1, vr a1), (2, vi l2), (3, vi l3)]) 4 (dk dtk_X6_isAmong 20 rfl) rfl rfl (by decide) rfl ?_
      refine T_goto 3 (dk dtk_X6_isAmong 21 rfl) (by decide) ?_
      exact T_sub [1, 2, 3, 4, 0] rfl h
    · have h := h.2 c3
      refine T_aload_n 0 (dk dtk_X6_isAmong 10 rfl) rfl rfl ?_
      refine T_getR 40 0 20 (dk dtk_X6_isAmong 11 rfl) kfl_X6_9 kk_40 (kl_40 hq) (by decide) rfl kr_40_0 ?_
      refine T_aload_n 1 (dk dtk_X6_isAmong 12 rfl) rfl rfl ?_
      refine T_iload 4 (dk dtk_X6_isAmong 13 rfl) rfl ?_
      obtain ⟨h4, h⟩ := h
      refine T_iald a1 n1 (dk dtk_X6_isAmong 14 rfl) ka1 ma1 h4 ?_
      refine T_iload_n 3 (dk dtk_X6_isAmong 15 rfl) rfl rfl ?_
      refine KC_Vi [vi (x.1 a1 (l4 : Int32).toNatClampNeg), vi l3] [] rfl (dk dtk_X6_isAmong 16 rfl) kcv_X6_90 rfl kk_20 rfl (kl_20 hq) (Nat.le_of_ble_eq_true rfl) (Nat.le_of_ble_eq_true rfl) (gok_i (av_c (gkr (kl_40 hq)) (av_c (gkr ma1) (av_c rfl (av_c rfl (av_c rfl av_n))))) as_n) rfl h (fun r6 x5 h => ?_)
      refine T_if_eq 34 (dk dtk_X6_isAmong 17 rfl) (by decide) (fun c7 => ?_) (fun c7 => ?_)
      · have h := h.1 c7
        refine T_iinc (v := l4 + 1) (lv2 := [(4, vi (l4 + 1)), (0, vr 40), (1, vr a1), (2, vi l2), (3, vi l3)]) 4 (dk dtk_X6_isAmong 20 rfl) rfl rfl (by decide) rfl ?_
        refine T_goto 3 (dk dtk_X6_isAmong 21 rfl) (by decide) ?_
        exact T_sub [1, 2, 3, 4, 0] rfl h
      · have h := h.2 c7
        refine T_iconst (v := 1) (dk dtk_X6_isAmong 18 rfl) (by decide +kernel) ?_
        exact KT_iret (dk dtk_X6_isAmong 19 rfl) rfl rfl h
set_option maxRecDepth 100000 in
theorem dtk_X6_cellOf : dck cX6_cellOf [(0, .iconst 0, 1), (1, .istore_n 3, 1), (2, .iload_n 3, 1), (3, .aload_n 0, 1), (4, .getfield 39, 3), (7, .if_icmp .ge 46, 3), (10, .aload_n 0, 1), (11, .getfield 30, 3), (14, .iload_n 3, 1), (15, .iaload, 1), (16, .ifCond .le 7, 3), (19, .iconst 1, 1), (20, .goto 4, 3), (23, .iconst 0, 1), (24, .iload_n 2, 1), (25, .if_icmp .ne 22, 3), (28, .aload_n 0, 1), (29, .getfield 9, 3), (32, .aload_n 0, 1), (33, .getfield 24, 3), (36, .iload_n 3, 1), (37, .iaload, 1), (38, .iload_n 1, 1), (39, .invokevirtual 90, 3), (42, .ifCond .eq 5, 3), (45, .iload_n 3, 1), (46, .ireturn, 1), (47, .iinc 3 1, 3), (50, .goto (-48), 3), (53, .iconst (-1), 1), (54, .ireturn, 1)] = true := by decide +kernel
set_option maxRecDepth 100000 in
set_option maxHeartbeats 4000000 in
theorem kg_X6_cellOf_0 {G : kG} {q : kP} {d : Nat} {x : gd} {P : Option gv → gd → Prop} (hq : kV q) (l1 : Int32) (l2 : Int32)
    (h : KT G q (d + 1) zk_X6_cellOf 2 [(0, vr 40), (1, vi l1), (2, vi l2), (3, vi 0)] [] x P) :
    KT G q (d + 1) zk_X6_cellOf 0 [(0, vr 40), (1, vi l1), (2, vi l2)] [] x P := by
  refine T_iconst (v := 0) (dk dtk_X6_cellOf 0 rfl) (by decide +kernel) ?_
  refine T_istore_n (lv2 := [(3, vi 0), (0, vr 40), (1, vi l1), (2, vi l2)]) (dk dtk_X6_cellOf 1 rfl) rfl (by decide) rfl ?_
  exact T_sub [1, 2, 3, 0] rfl h
set_option maxRecDepth 100000 in
set_option maxHeartbeats 4000000 in
theorem kg_X6_cellOf_2 {G : kG} {q : kP} {d : Nat} {x : gd} {P : Option gv → gd → Prop} (hq : kV q) (l1 : Int32) (l2 : Int32) (l3 : Int32)
    (h : (((x.1 40 6) ≤ l3 → P (some (vi (-1))) x) ∧ (¬ ((x.1 40 6) ≤ l3) → vp_in l3 24 ∧ (((x.1 46 (l3 : Int32).toNatClampNeg) ≤ (0 : Int32) → KT G q (d + 1) zk_X6_cellOf 24 [(0, vr 40), (1, vi l1), (2, vi l2), (3, vi l3)] [vi 0] x P) ∧ (¬ ((x.1 46 (l3 : Int32).toNatClampNeg) ≤ (0 : Int32)) → KT G q (d + 1) zk_X6_cellOf 24 [(0, vr 40), (1, vi l1), (2, vi l2), (3, vi l3)] [vi 1] x P))))) :
    KT G q (d + 1) zk_X6_cellOf 2 [(0, vr 40), (1, vi l1), (2, vi l2), (3, vi l3)] [] x P := by
  refine T_iload_n 3 (dk dtk_X6_cellOf 2 rfl) rfl rfl ?_
  refine T_aload_n 0 (dk dtk_X6_cellOf 3 rfl) rfl rfl ?_
  refine T_getI 40 6 (dk dtk_X6_cellOf 4 rfl) kfl_X6_39 kk_40 (kl_40 hq) (by decide) rfl ?_
  refine T_icmp_ge 53 (dk dtk_X6_cellOf 5 rfl) (by decide) (fun c1 => ?_) (fun c1 => ?_)
  · have h := h.1 c1
    refine T_iconst (v := (-1)) (dk dtk_X6_cellOf 29 rfl) (by decide +kernel) ?_
    exact KT_iret (dk dtk_X6_cellOf 30 rfl) rfl rfl h
  · have h := h.2 c1
    refine T_aload_n 0 (dk dtk_X6_cellOf 6 rfl) rfl rfl ?_
    refine T_getR 40 5 46 (dk dtk_X6_cellOf 7 rfl) kfl_X6_30 kk_40 (kl_40 hq) (by decide) rfl kr_40_5 ?_
    refine T_iload_n 3 (dk dtk_X6_cellOf 8 rfl) rfl rfl ?_
    obtain ⟨h2, h⟩ := h
    refine T_iald 46 24 (dk dtk_X6_cellOf 9 rfl) kk_46 (kl_46 hq) h2 ?_
    refine T_if_le 23 (dk dtk_X6_cellOf 10 rfl) (by decide) (fun c3 => ?_) (fun c3 => ?_)
    · have h := h.1 c3
      refine T_iconst (v := 0) (dk dtk_X6_cellOf 13 rfl) (by decide +kernel) ?_
      exact h
    · have h := h.2 c3
      refine T_iconst (v := 1) (dk dtk_X6_cellOf 11 rfl) (by decide +kernel) ?_
      refine T_goto 24 (dk dtk_X6_cellOf 12 rfl) (by decide) ?_
      exact h
set_option maxRecDepth 100000 in
set_option maxHeartbeats 4000000 in
theorem kg_X6_cellOf_24 {G : kG} {q : kP} {d : Nat} {x : gd} {P : Option gv → gd → Prop} (hq : kV q) (l1 : Int32) (l2 : Int32) (l3 : Int32) (s0 : Int32)
    (h : ((¬ (s0 = l2) → KT G q (d + 1) zk_X6_cellOf 2 [(0, vr 40), (1, vi l1), (2, vi l2), (3, vi (l3 + 1))] [] x P) ∧ (s0 = l2 → vp_in l3 24 ∧ KT G q d zk_X9_sameName 0 [(0, vr 20), (1, vi (x.1 44 (l3 : Int32).toNatClampNeg)), (2, vi l1)] [] x (ri (fun r4 x3 => ((r4 = (0 : Int32) → KT G q (d + 1) zk_X6_cellOf 2 [(0, vr 40), (1, vi l1), (2, vi l2), (3, vi (l3 + 1))] [] x3 P) ∧ (¬ (r4 = (0 : Int32)) → P (some (vi l3)) x3))))))) :
    KT G q (d + 1) zk_X6_cellOf 24 [(0, vr 40), (1, vi l1), (2, vi l2), (3, vi l3)] [vi s0] x P := by
  refine T_iload_n 2 (dk dtk_X6_cellOf 14 rfl) rfl rfl ?_
  refine T_icmp_ne 47 (dk dtk_X6_cellOf 15 rfl) (by decide) (fun c1 => ?_) (fun c1 => ?_)
  · have h := h.1 c1
    refine T_iinc (v := l3 + 1) (lv2 := [(3, vi (l3 + 1)), (0, vr 40), (1, vi l1), (2, vi l2)]) 3 (dk dtk_X6_cellOf 27 rfl) rfl rfl (by decide) rfl ?_
    refine T_goto 2 (dk dtk_X6_cellOf 28 rfl) (by decide) ?_
    exact T_sub [1, 2, 3, 0] rfl h
  · have h := h.2 c1
    refine T_aload_n 0 (dk dtk_X6_cellOf 16 rfl) rfl rfl ?_
    refine T_getR 40 0 20 (dk dtk_X6_cellOf 17 rfl) kfl_X6_9 kk_40 (kl_40 hq) (by decide) rfl kr_40_0 ?_
    refine T_aload_n 0 (dk dtk_X6_cellOf 18 rfl) rfl rfl ?_
    refine T_getR 40 3 44 (dk dtk_X6_cellOf 19 rfl) kfl_X6_24 kk_40 (kl_40 hq) (by decide) rfl kr_40_3 ?_
    refine T_iload_n 3 (dk dtk_X6_cellOf 20 rfl) rfl rfl ?_
    obtain ⟨h2, h⟩ := h
    refine T_iald 44 24 (dk dtk_X6_cellOf 21 rfl) kk_44 (kl_44 hq) h2 ?_
    refine T_iload_n 1 (dk dtk_X6_cellOf 22 rfl) rfl rfl ?_
    refine KC_Vi [vi (x.1 44 (l3 : Int32).toNatClampNeg), vi l1] [] rfl (dk dtk_X6_cellOf 23 rfl) kcv_X6_90 rfl kk_20 rfl (kl_20 hq) (Nat.le_of_ble_eq_true rfl) (Nat.le_of_ble_eq_true rfl) (gok_i (av_c (gkr (kl_40 hq)) (av_c rfl (av_c rfl (av_c rfl av_n)))) as_n) rfl h (fun r4 x3 h => ?_)
    refine T_if_eq 47 (dk dtk_X6_cellOf 24 rfl) (by decide) (fun c5 => ?_) (fun c5 => ?_)
    · have h := h.1 c5
      refine T_iinc (v := l3 + 1) (lv2 := [(3, vi (l3 + 1)), (0, vr 40), (1, vi l1), (2, vi l2)]) 3 (dk dtk_X6_cellOf 27 rfl) rfl rfl (by decide) rfl ?_
      refine T_goto 2 (dk dtk_X6_cellOf 28 rfl) (by decide) ?_
      exact T_sub [1, 2, 3, 0] rfl h
    · have h := h.2 c5
      refine T_iload_n 3 (dk dtk_X6_cellOf 25 rfl) rfl rfl ?_
      exact KT_iret (dk dtk_X6_cellOf 26 rfl) rfl rfl h
set_option maxRecDepth 100000 in
theorem dtk_X6_numberOf : dck cX6_numberOf [(0, .iconst 0, 1), (1, .istore 4, 2), (3, .iload 4, 2), (5, .iload_n 2, 1), (6, .if_icmp .ge 27, 3), (9, .aload_n 0, 1), (10, .getfield 9, 3), (13, .aload_n 1, 1), (14, .iload 4, 2), (16, .iaload, 1), (17, .iload_n 3, 1), (18, .invokevirtual 90, 3), (21, .ifCond .eq 6, 3), (24, .iload 4, 2), (26, .ireturn, 1), (27, .iinc 4 1, 3), (30, .goto (-27), 3), (33, .iconst (-1), 1), (34, .ireturn, 1)] = true := by decide +kernel
set_option maxRecDepth 100000 in
set_option maxHeartbeats 4000000 in
theorem kg_X6_numberOf_0 {G : kG} {q : kP} {d : Nat} {x : gd} {P : Option gv → gd → Prop} (hq : kV q) {a1 n1 : Nat} (ka1 : kK a1 = .inr (.int, n1)) (ma1 : a1 ∈ (kf q).2.1) (l2 : Int32) (l3 : Int32)
    (h : KT G q (d + 1) zk_X6_numberOf 3 [(0, vr 40), (1, vr a1), (2, vi l2), (3, vi l3), (4, vi 0)] [] x P) :
    KT G q (d + 1) zk_X6_numberOf 0 [(0, vr 40), (1, vr a1), (2, vi l2), (3, vi l3)] [] x P := by
  refine T_iconst (v := 0) (dk dtk_X6_numberOf 0 rfl) (by decide +kernel) ?_
  refine T_istore (lv2 := [(4, vi 0), (0, vr 40), (1, vr a1), (2, vi l2), (3, vi l3)]) (dk dtk_X6_numberOf 1 rfl) (by decide) rfl ?_
  exact T_sub [1, 2, 3, 4, 0] rfl h
set_option maxRecDepth 100000 in
set_option maxHeartbeats 4000000 in
theorem kg_X6_numberOf_3 {G : kG} {q : kP} {d : Nat} {x : gd} {P : Option gv → gd → Prop} (hq : kV q) {a1 n1 : Nat} (ka1 : kK a1 = .inr (.int, n1)) (ma1 : a1 ∈ (kf q).2.1) (l2 : Int32) (l3 : Int32) (l4 : Int32)
    (h : ((l2 ≤ l4 → P (some (vi (-1))) x) ∧ (¬ (l2 ≤ l4) → vp_in l4 n1 ∧ KT G q d zk_X9_sameName 0 [(0, vr 20), (1, vi (x.1 a1 (l4 : Int32).toNatClampNeg)), (2, vi l3)] [] x (ri (fun r4 x3 => ((r4 = (0 : Int32) → KT G q (d + 1) zk_X6_numberOf 3 [(0, vr 40), (1, vr a1), (2, vi l2), (3, vi l3), (4, vi (l4 + 1))] [] x3 P) ∧ (¬ (r4 = (0 : Int32)) → P (some (vi l4)) x3))))))) :
    KT G q (d + 1) zk_X6_numberOf 3 [(0, vr 40), (1, vr a1), (2, vi l2), (3, vi l3), (4, vi l4)] [] x P := by
  refine T_iload 4 (dk dtk_X6_numberOf 2 rfl) rfl ?_
  refine T_iload_n 2 (dk dtk_X6_numberOf 3 rfl) rfl rfl ?_
  refine T_icmp_ge 33 (dk dtk_X6_numberOf 4 rfl) (by decide) (fun c1 => ?_) (fun c1 => ?_)
  · have h := h.1 c1
    refine T_iconst (v := (-1)) (dk dtk_X6_numberOf 17 rfl) (by decide +kernel) ?_
    exact KT_iret (dk dtk_X6_numberOf 18 rfl) rfl rfl h
  · have h := h.2 c1
    refine T_aload_n 0 (dk dtk_X6_numberOf 5 rfl) rfl rfl ?_
    refine T_getR 40 0 20 (dk dtk_X6_numberOf 6 rfl) kfl_X6_9 kk_40 (kl_40 hq) (by decide) rfl kr_40_0 ?_
    refine T_aload_n 1 (dk dtk_X6_numberOf 7 rfl) rfl rfl ?_
    refine T_iload 4 (dk dtk_X6_numberOf 8 rfl) rfl ?_
    obtain ⟨h2, h⟩ := h
    refine T_iald a1 n1 (dk dtk_X6_numberOf 9 rfl) ka1 ma1 h2 ?_
    refine T_iload_n 3 (dk dtk_X6_numberOf 10 rfl) rfl rfl ?_
    refine KC_Vi [vi (x.1 a1 (l4 : Int32).toNatClampNeg), vi l3] [] rfl (dk dtk_X6_numberOf 11 rfl) kcv_X6_90 rfl kk_20 rfl (kl_20 hq) (Nat.le_of_ble_eq_true rfl) (Nat.le_of_ble_eq_true rfl) (gok_i (av_c (gkr (kl_40 hq)) (av_c (gkr ma1) (av_c rfl (av_c rfl (av_c rfl av_n))))) as_n) rfl h (fun r4 x3 h => ?_)
    refine T_if_eq 27 (dk dtk_X6_numberOf 12 rfl) (by decide) (fun c5 => ?_) (fun c5 => ?_)
    · have h := h.1 c5
      refine T_iinc (v := l4 + 1) (lv2 := [(4, vi (l4 + 1)), (0, vr 40), (1, vr a1), (2, vi l2), (3, vi l3)]) 4 (dk dtk_X6_numberOf 15 rfl) rfl rfl (by decide) rfl ?_
      refine T_goto 3 (dk dtk_X6_numberOf 16 rfl) (by decide) ?_
      exact T_sub [1, 2, 3, 4, 0] rfl h
    · have h := h.2 c5
      refine T_iload 4 (dk dtk_X6_numberOf 13 rfl) rfl ?_
      exact KT_iret (dk dtk_X6_numberOf 14 rfl) rfl rfl h
set_option maxRecDepth 100000 in
theorem dtk_X0_clear : dck cX0_clear [(0, .aload_n 0, 1), (1, .getfield 14, 3), (4, .iconst 0, 1), (5, .putfield 49, 3), (8, .aload_n 0, 1), (9, .iconst 0, 1), (10, .putfield 53, 3), (13, .aload_n 0, 1), (14, .iconst 0, 1), (15, .putfield 56, 3), (18, .aload_n 0, 1), (19, .iconst 0, 1), (20, .putfield 59, 3), (23, .aload_n 0, 1), (24, .iconst 0, 1), (25, .putfield 62, 3), (28, .aload_n 0, 1), (29, .iconst 0, 1), (30, .putfield 65, 3), (33, .aload_n 0, 1), (34, .iconst 0, 1), (35, .putfield 68, 3), (38, .aload_n 0, 1), (39, .iconst 0, 1), (40, .putfield 71, 3), (43, .return_, 1)] = true := by decide +kernel
set_option maxRecDepth 100000 in
set_option maxHeartbeats 4000000 in
theorem kg_X0_clear_0 {G : kG} {q : kP} {d : Nat} {x : gd} {P : Option gv → gd → Prop} (hq : kV q) 
    (h : (∀ x1 : gd, x1 = si x 80 9 0 → (∀ x2 : gd, x2 = si x1 60 3 0 → (∀ x3 : gd, x3 = si x2 60 6 0 → (∀ x4 : gd, x4 = si x3 60 9 0 → (∀ x5 : gd, x5 = si x4 60 10 0 → (∀ x6 : gd, x6 = si x5 60 13 0 → (∀ x7 : gd, x7 = si x6 60 14 0 → (∀ x8 : gd, x8 = si x7 60 16 0 → P none x8))))))))) :
    KT G q d zk_X0_clear 0 [(0, vr 60)] [] x P := by
  refine T_aload_n 0 (dk dtk_X0_clear 0 rfl) rfl rfl ?_
  refine T_getR 60 0 80 (dk dtk_X0_clear 1 rfl) kfl_X0_14 kk_60 (kl_60 hq) (by decide) rfl kr_60_0 ?_
  refine T_iconst (v := 0) (dk dtk_X0_clear 2 rfl) (by decide +kernel) ?_
  obtain ⟨x1, ex1⟩ : ∃ z, z = si x 80 9 0 := ⟨_, rfl⟩
  have h := h x1 ex1
  refine T_putI 80 9 (dk dtk_X0_clear 3 rfl) kfl_X0_49 kk_80 (kl_80 hq) (by decide) rfl ⟨rfl, rfl⟩ ?_
  rw [← ex1]
  refine T_aload_n 0 (dk dtk_X0_clear 4 rfl) rfl rfl ?_
  refine T_iconst (v := 0) (dk dtk_X0_clear 5 rfl) (by decide +kernel) ?_
  obtain ⟨x2, ex2⟩ : ∃ z, z = si x1 60 3 0 := ⟨_, rfl⟩
  have h := h x2 ex2
  refine T_putI 60 3 (dk dtk_X0_clear 6 rfl) kfl_X0_53 kk_60 (kl_60 hq) (by decide) rfl ⟨rfl, rfl⟩ ?_
  rw [← ex2]
  refine T_aload_n 0 (dk dtk_X0_clear 7 rfl) rfl rfl ?_
  refine T_iconst (v := 0) (dk dtk_X0_clear 8 rfl) (by decide +kernel) ?_
  obtain ⟨x3, ex3⟩ : ∃ z, z = si x2 60 6 0 := ⟨_, rfl⟩
  have h := h x3 ex3
  refine T_putI 60 6 (dk dtk_X0_clear 9 rfl) kfl_X0_56 kk_60 (kl_60 hq) (by decide) rfl ⟨rfl, rfl⟩ ?_
  rw [← ex3]
  refine T_aload_n 0 (dk dtk_X0_clear 10 rfl) rfl rfl ?_
  refine T_iconst (v := 0) (dk dtk_X0_clear 11 rfl) (by decide +kernel) ?_
  obtain ⟨x4, ex4⟩ : ∃ z, z = si x3 60 9 0 := ⟨_, rfl⟩
  have h := h x4 ex4
  refine T_putI 60 9 (dk dtk_X0_clear 12 rfl) kfl_X0_59 kk_60 (kl_60 hq) (by decide) rfl ⟨rfl, rfl⟩ ?_
  rw [← ex4]
  refine T_aload_n 0 (dk dtk_X0_clear 13 rfl) rfl rfl ?_
  refine T_iconst (v := 0) (dk dtk_X0_clear 14 rfl) (by decide +kernel) ?_
  obtain ⟨x5, ex5⟩ : ∃ z, z = si x4 60 10 0 := ⟨_, rfl⟩
  have h := h x5 ex5
  refine T_putI 60 10 (dk dtk_X0_clear 15 rfl) kfl_X0_62 kk_60 (kl_60 hq) (by decide) rfl ⟨rfl, rfl⟩ ?_
  rw [← ex5]
  refine T_aload_n 0 (dk dtk_X0_clear 16 rfl) rfl rfl ?_
  refine T_iconst (v := 0) (dk dtk_X0_clear 17 rfl) (by decide +kernel) ?_
  obtain ⟨x6, ex6⟩ : ∃ z, z = si x5 60 13 0 := ⟨_, rfl⟩
  have h := h x6 ex6
  refine T_putI 60 13 (dk dtk_X0_clear 18 rfl) kfl_X0_65 kk_60 (kl_60 hq) (by decide) rfl ⟨rfl, rfl⟩ ?_
  rw [← ex6]
  refine T_aload_n 0 (dk dtk_X0_clear 19 rfl) rfl rfl ?_
  refine T_iconst (v := 0) (dk dtk_X0_clear 20 rfl) (by decide +kernel) ?_
  obtain ⟨x7, ex7⟩ : ∃ z, z = si x6 60 14 0 := ⟨_, rfl⟩
  have h := h x7 ex7
  refine T_putI 60 14 (dk dtk_X0_clear 21 rfl) kfl_X0_68 kk_60 (kl_60 hq) (by decide) rfl ⟨rfl, rfl⟩ ?_
  rw [← ex7]
  refine T_aload_n 0 (dk dtk_X0_clear 22 rfl) rfl rfl ?_
  refine T_iconst (v := 0) (dk dtk_X0_clear 23 rfl) (by decide +kernel) ?_
  obtain ⟨x8, ex8⟩ : ∃ z, z = si x7 60 16 0 := ⟨_, rfl⟩
  have h := h x8 ex8
  refine T_putI 60 16 (dk dtk_X0_clear 24 rfl) kfl_X0_71 kk_60 (kl_60 hq) (by decide) rfl ⟨rfl, rfl⟩ ?_
  rw [← ex8]
  exact KT_vret (dk dtk_X0_clear 25 rfl) rfl h
set_option maxRecDepth 100000 in
theorem dtk_X0_addCells : dck cX0_addCells [(0, .iconst 0, 1), (1, .istore 4, 2), (3, .iload 4, 2), (5, .iload_n 1, 1), (6, .if_icmp .ge 48, 3), (9, .aload_n 0, 1), (10, .getfield 56, 3), (13, .bipush 24, 2), (15, .if_icmp .ge 39, 3), (18, .aload_n 0, 1), (19, .getfield 30, 3), (22, .aload_n 0, 1), (23, .getfield 56, 3), (26, .iload_n 2, 1), (27, .iastore, 1), (28, .aload_n 0, 1), (29, .getfield 33, 3), (32, .aload_n 0, 1), (33, .getfield 56, 3), (36, .iload_n 3, 1), (37, .bastore, 1), (38, .aload_n 0, 1), (39, .dup, 1), (40, .getfield 56, 3), (43, .iconst 1, 1), (44, .iadd, 1), (45, .putfield 56, 3), (48, .iinc 4 1, 3), (51, .goto (-48), 3), (54, .return_, 1)] = true := by decide +kernel
set_option maxRecDepth 100000 in
set_option maxHeartbeats 4000000 in
theorem kg_X0_addCells_0 {G : kG} {q : kP} {d : Nat} {x : gd} {P : Option gv → gd → Prop} (hq : kV q) (l1 : Int32) (l2 : Int32) (l3 : Int32)
    (h : KT G q d zk_X0_addCells 3 [(0, vr 60), (1, vi l1), (2, vi l2), (3, vi l3), (4, vi 0)] [] x P) :
    KT G q d zk_X0_addCells 0 [(0, vr 60), (1, vi l1), (2, vi l2), (3, vi l3)] [] x P := by
  refine T_iconst (v := 0) (dk dtk_X0_addCells 0 rfl) (by decide +kernel) ?_
  refine T_istore (lv2 := [(4, vi 0), (0, vr 60), (1, vi l1), (2, vi l2), (3, vi l3)]) (dk dtk_X0_addCells 1 rfl) (by decide) rfl ?_
  exact T_sub [1, 2, 3, 4, 0] rfl h
set_option maxRecDepth 100000 in
set_option maxHeartbeats 4000000 in
theorem kg_X0_addCells_3 {G : kG} {q : kP} {d : Nat} {x : gd} {P : Option gv → gd → Prop} (hq : kV q) (l1 : Int32) (l2 : Int32) (l3 : Int32) (l4 : Int32)
    (h : ((l1 ≤ l4 → P none x) ∧ (¬ (l1 ≤ l4) → (((24 : Int32) ≤ (x.1 60 6) → P none x) ∧ (¬ ((24 : Int32) ≤ (x.1 60 6)) → vp_in (x.1 60 6) 24 ∧ (∀ x4 : gd, x4 = si x 68 (x.1 60 6 : Int32).toNatClampNeg l2 → vp_in (x4.1 60 6) 24 ∧ (∀ x6 : gd, x6 = si x4 69 (x4.1 60 6 : Int32).toNatClampNeg (vp_nar .boolean l3) → (∀ x7 : gd, x7 = si x6 60 6 ((x6.1 60 6) + 1) → KT G q d zk_X0_addCells 3 [(0, vr 60), (1, vi l1), (2, vi l2), (3, vi l3), (4, vi (l4 + 1))] [] x7 P)))))))) :
    KT G q d zk_X0_addCells 3 [(0, vr 60), (1, vi l1), (2, vi l2), (3, vi l3), (4, vi l4)] [] x P := by
  refine T_iload 4 (dk dtk_X0_addCells 2 rfl) rfl ?_
  refine T_iload_n 1 (dk dtk_X0_addCells 3 rfl) rfl rfl ?_
  refine T_icmp_ge 54 (dk dtk_X0_addCells 4 rfl) (by decide) (fun c1 => ?_) (fun c1 => ?_)
  · have h := h.1 c1
    exact KT_vret (dk dtk_X0_addCells 29 rfl) rfl h
  · have h := h.2 c1
    refine T_aload_n 0 (dk dtk_X0_addCells 5 rfl) rfl rfl ?_
    refine T_getI 60 6 (dk dtk_X0_addCells 6 rfl) kfl_X0_56 kk_60 (kl_60 hq) (by decide) rfl ?_
    refine T_bipush (v := 24) (dk dtk_X0_addCells 7 rfl) (by decide +kernel) ?_
    refine T_icmp_ge 54 (dk dtk_X0_addCells 8 rfl) (by decide) (fun c2 => ?_) (fun c2 => ?_)
    · have h := h.1 c2
      exact KT_vret (dk dtk_X0_addCells 29 rfl) rfl h
    · have h := h.2 c2
      refine T_aload_n 0 (dk dtk_X0_addCells 9 rfl) rfl rfl ?_
      refine T_getR 60 7 68 (dk dtk_X0_addCells 10 rfl) kfl_X0_30 kk_60 (kl_60 hq) (by decide) rfl kr_60_7 ?_
      refine T_aload_n 0 (dk dtk_X0_addCells 11 rfl) rfl rfl ?_
      refine T_getI 60 6 (dk dtk_X0_addCells 12 rfl) kfl_X0_56 kk_60 (kl_60 hq) (by decide) rfl ?_
      refine T_iload_n 2 (dk dtk_X0_addCells 13 rfl) rfl rfl ?_
      obtain ⟨h3, h⟩ := h
      obtain ⟨x4, ex4⟩ : ∃ z, z = si x 68 (x.1 60 6 : Int32).toNatClampNeg l2 := ⟨_, rfl⟩
      have h := h x4 ex4
      refine T_iast 68 24 (dk dtk_X0_addCells 14 rfl) kk_68 (kl_68 hq) h3 ?_
      rw [← ex4]
      refine T_aload_n 0 (dk dtk_X0_addCells 15 rfl) rfl rfl ?_
      refine T_getR 60 8 69 (dk dtk_X0_addCells 16 rfl) kfl_X0_33 kk_60 (kl_60 hq) (by decide) rfl kr_60_8 ?_
      refine T_aload_n 0 (dk dtk_X0_addCells 17 rfl) rfl rfl ?_
      refine T_getI 60 6 (dk dtk_X0_addCells 18 rfl) kfl_X0_56 kk_60 (kl_60 hq) (by decide) rfl ?_
      refine T_iload_n 3 (dk dtk_X0_addCells 19 rfl) rfl rfl ?_
      obtain ⟨h5, h⟩ := h
      obtain ⟨x6, ex6⟩ : ∃ z, z = si x4 69 (x4.1 60 6 : Int32).toNatClampNeg (vp_nar .boolean l3) := ⟨_, rfl⟩
      have h := h x6 ex6
      refine T_zast 69 24 (dk dtk_X0_addCells 20 rfl) kk_69 (kl_69 hq) h5 ?_
      rw [← ex6]
      refine T_aload_n 0 (dk dtk_X0_addCells 21 rfl) rfl rfl ?_
      refine T_dup (dk dtk_X0_addCells 22 rfl) rfl ?_
      refine T_getI 60 6 (dk dtk_X0_addCells 23 rfl) kfl_X0_56 kk_60 (kl_60 hq) (by decide) rfl ?_
      refine T_iconst (v := 1) (dk dtk_X0_addCells 24 rfl) (by decide +kernel) ?_
      refine T_iadd (dk dtk_X0_addCells 25 rfl) ?_
      obtain ⟨x7, ex7⟩ : ∃ z, z = si x6 60 6 ((x6.1 60 6) + 1) := ⟨_, rfl⟩
      have h := h x7 ex7
      refine T_putI 60 6 (dk dtk_X0_addCells 26 rfl) kfl_X0_56 kk_60 (kl_60 hq) (by decide) rfl ⟨rfl, rfl⟩ ?_
      rw [← ex7]
      refine T_iinc (v := l4 + 1) (lv2 := [(4, vi (l4 + 1)), (0, vr 60), (1, vi l1), (2, vi l2), (3, vi l3)]) 4 (dk dtk_X0_addCells 27 rfl) rfl rfl (by decide) rfl ?_
      refine T_goto 3 (dk dtk_X0_addCells 28 rfl) (by decide) ?_
      exact T_sub [1, 2, 3, 4, 0] rfl h
set_option maxRecDepth 100000 in
theorem dtk_X0_addPart : dck cX0_addPart [(0, .aload_n 0, 1), (1, .getfield 53, 3), (4, .sipush 800, 3), (7, .if_icmp .ge 33, 3), (10, .aload_n 0, 1), (11, .getfield 18, 3), (14, .aload_n 0, 1), (15, .getfield 53, 3), (18, .iload_n 1, 1), (19, .iastore, 1), (20, .aload_n 0, 1), (21, .getfield 22, 3), (24, .aload_n 0, 1), (25, .getfield 53, 3), (28, .iload_n 2, 1), (29, .iastore, 1), (30, .aload_n 0, 1), (31, .dup, 1), (32, .getfield 53, 3), (35, .iconst 1, 1), (36, .iadd, 1), (37, .putfield 53, 3), (40, .return_, 1)] = true := by decide +kernel
set_option maxRecDepth 100000 in
set_option maxHeartbeats 4000000 in
theorem kg_X0_addPart_0 {G : kG} {q : kP} {d : Nat} {x : gd} {P : Option gv → gd → Prop} (hq : kV q) (l1 : Int32) (l2 : Int32)
    (h : (((800 : Int32) ≤ (x.1 60 3) → P none x) ∧ (¬ ((800 : Int32) ≤ (x.1 60 3)) → vp_in (x.1 60 3) 800 ∧ (∀ x3 : gd, x3 = si x 62 (x.1 60 3 : Int32).toNatClampNeg l1 → vp_in (x3.1 60 3) 800 ∧ (∀ x5 : gd, x5 = si x3 63 (x3.1 60 3 : Int32).toNatClampNeg l2 → (∀ x6 : gd, x6 = si x5 60 3 ((x5.1 60 3) + 1) → P none x6)))))) :
    KT G q d zk_X0_addPart 0 [(0, vr 60), (1, vi l1), (2, vi l2)] [] x P := by
  refine T_aload_n 0 (dk dtk_X0_addPart 0 rfl) rfl rfl ?_
  refine T_getI 60 3 (dk dtk_X0_addPart 1 rfl) kfl_X0_53 kk_60 (kl_60 hq) (by decide) rfl ?_
  refine T_sipush (v := 800) (dk dtk_X0_addPart 2 rfl) (by decide +kernel) ?_
  refine T_icmp_ge 40 (dk dtk_X0_addPart 3 rfl) (by decide) (fun c1 => ?_) (fun c1 => ?_)
  · have h := h.1 c1
    exact KT_vret (dk dtk_X0_addPart 22 rfl) rfl h
  · have h := h.2 c1
    refine T_aload_n 0 (dk dtk_X0_addPart 4 rfl) rfl rfl ?_
    refine T_getR 60 1 62 (dk dtk_X0_addPart 5 rfl) kfl_X0_18 kk_60 (kl_60 hq) (by decide) rfl kr_60_1 ?_
    refine T_aload_n 0 (dk dtk_X0_addPart 6 rfl) rfl rfl ?_
    refine T_getI 60 3 (dk dtk_X0_addPart 7 rfl) kfl_X0_53 kk_60 (kl_60 hq) (by decide) rfl ?_
    refine T_iload_n 1 (dk dtk_X0_addPart 8 rfl) rfl rfl ?_
    obtain ⟨h2, h⟩ := h
    obtain ⟨x3, ex3⟩ : ∃ z, z = si x 62 (x.1 60 3 : Int32).toNatClampNeg l1 := ⟨_, rfl⟩
    have h := h x3 ex3
    refine T_iast 62 800 (dk dtk_X0_addPart 9 rfl) kk_62 (kl_62 hq) h2 ?_
    rw [← ex3]
    refine T_aload_n 0 (dk dtk_X0_addPart 10 rfl) rfl rfl ?_
    refine T_getR 60 2 63 (dk dtk_X0_addPart 11 rfl) kfl_X0_22 kk_60 (kl_60 hq) (by decide) rfl kr_60_2 ?_
    refine T_aload_n 0 (dk dtk_X0_addPart 12 rfl) rfl rfl ?_
    refine T_getI 60 3 (dk dtk_X0_addPart 13 rfl) kfl_X0_53 kk_60 (kl_60 hq) (by decide) rfl ?_
    refine T_iload_n 2 (dk dtk_X0_addPart 14 rfl) rfl rfl ?_
    obtain ⟨h4, h⟩ := h
    obtain ⟨x5, ex5⟩ : ∃ z, z = si x3 63 (x3.1 60 3 : Int32).toNatClampNeg l2 := ⟨_, rfl⟩
    have h := h x5 ex5
    refine T_iast 63 800 (dk dtk_X0_addPart 15 rfl) kk_63 (kl_63 hq) h4 ?_
    rw [← ex5]
    refine T_aload_n 0 (dk dtk_X0_addPart 16 rfl) rfl rfl ?_
    refine T_dup (dk dtk_X0_addPart 17 rfl) rfl ?_
    refine T_getI 60 3 (dk dtk_X0_addPart 18 rfl) kfl_X0_53 kk_60 (kl_60 hq) (by decide) rfl ?_
    refine T_iconst (v := 1) (dk dtk_X0_addPart 19 rfl) (by decide +kernel) ?_
    refine T_iadd (dk dtk_X0_addPart 20 rfl) ?_
    obtain ⟨x6, ex6⟩ : ∃ z, z = si x5 60 3 ((x5.1 60 3) + 1) := ⟨_, rfl⟩
    have h := h x6 ex6
    refine T_putI 60 3 (dk dtk_X0_addPart 21 rfl) kfl_X0_53 kk_60 (kl_60 hq) (by decide) rfl ⟨rfl, rfl⟩ ?_
    rw [← ex6]
    exact KT_vret (dk dtk_X0_addPart 22 rfl) rfl h
end
section
set_option maxRecDepth 100000 in
theorem dtk_X0_work : dck cX0_work [(0, .aload_n 0, 1), (1, .iconst 0, 1), (2, .putfield 74, 3), (5, .iconst 0, 1), (6, .istore 5, 2), (8, .iload_n 1, 1), (9, .istore 6, 2), (11, .iload 6, 2), (13, .ifCond .lt 223, 3), (16, .iload 6, 2), (18, .aload_n 0, 1), (19, .getfield 53, 3), (22, .if_icmp .ge 214, 3), (25, .aload_n 0, 1), (26, .getfield 74, 3), (29, .ifCond .ne 207, 3), (32, .aload_n 0, 1), (33, .getfield 18, 3), (36, .iload 6, 2), (38, .iaload, 1), (39, .ifCond .eq 197, 3), (42, .aload_n 0, 1), (43, .getfield 18, 3), (46, .iload 6, 2), (48, .iaload, 1), (49, .istore 7, 2), (51, .iload 7, 2), (53, .iconst 1, 1), (54, .if_icmp .eq 15, 3), (57, .iload 7, 2), (59, .iconst 2, 1), (60, .if_icmp .eq 9, 3), (63, .iload 7, 2), (65, .iconst 3, 1), (66, .if_icmp .ne 61, 3), (69, .iload 5, 2), (71, .bipush 40, 2), (73, .if_icmp .ge 157, 3), (76, .aload_n 0, 1), (77, .getfield 25, 3), (80, .iload 5, 2), (82, .iload 7, 2), (84, .iconst 1, 1), (85, .if_icmp .ne 13, 3), (88, .aload_n 0, 1), (89, .getfield 22, 3), (92, .iload 6, 2), (94, .iaload, 1), (95, .goto 25, 3), (98, .iload 7, 2), (100, .iconst 3, 1), (101, .if_icmp .ne 8, 3), (104, .iload 4, 2), (106, .goto 14, 3), (109, .aload_n 2, 1), (110, .iload_n 3, 1), (111, .aload_n 0, 1), (112, .getfield 22, 3), (115, .iload 6, 2), (117, .iaload, 1), (118, .iadd, 1), (119, .iaload, 1), (120, .iastore, 1), (121, .iinc 5 1, 3), (124, .goto 106, 3), (127, .iload 7, 2), (129, .iconst 4, 1), (130, .if_icmp .eq 9, 3), (133, .iload 7, 2), (135, .iconst 5, 1), (136, .if_icmp .ne 54, 3), (139, .iload 5, 2), (141, .iconst 1, 1), (142, .if_icmp .lt 88, 3), (145, .aload_n 0, 1), (146, .getfield 25, 3), (149, .iload 5, 2), (151, .iconst 1, 1), (152, .isub, 1), (153, .iaload, 1), (154, .istore 8, 2), (156, .aload_n 0, 1), (157, .getfield 25, 3), (160, .iload 5, 2), (162, .iconst 1, 1), (163, .isub, 1), (164, .iload 7, 2), (166, .iconst 4, 1), (167, .if_icmp .ne 9, 3), (170, .iload 8, 2), (172, .ineg, 1), (173, .goto 13, 3), (176, .iload 8, 2), (178, .ifCond .ne 7, 3), (181, .iconst 1, 1), (182, .goto 4, 3), (185, .iconst 0, 1), (186, .iastore, 1), (187, .goto 43, 3), (190, .iload 5, 2), (192, .iconst 2, 1), (193, .if_icmp .lt 37, 3), (196, .iinc 5 (-1), 3), (199, .aload_n 0, 1), (200, .getfield 25, 3), (203, .iload 5, 2), (205, .iconst 1, 1), (206, .isub, 1), (207, .aload_n 0, 1), (208, .iload 7, 2), (210, .aload_n 0, 1), (211, .getfield 25, 3), (214, .iload 5, 2), (216, .iconst 1, 1), (217, .isub, 1), (218, .iaload, 1), (219, .aload_n 0, 1), (220, .getfield 25, 3), (223, .iload 5, 2), (225, .iaload, 1), (226, .invokevirtual 78, 3), (229, .iastore, 1), (230, .iinc 6 1, 3), (233, .goto (-222), 3), (236, .aload_n 0, 1), (237, .getfield 25, 3), (240, .iconst 0, 1), (241, .iaload, 1), (242, .ireturn, 1)] = true := by decide +kernel
set_option maxRecDepth 100000 in
set_option maxHeartbeats 4000000 in
theorem kg_X0_work_0 {G : kG} {q : kP} {d : Nat} {x : gd} {P : Option gv → gd → Prop} (hq : kV q) {a2 n2 : Nat} (ka2 : kK a2 = .inr (.int, n2)) (ma2 : a2 ∈ (kf q).2.1) (l1 : Int32) (l3 : Int32) (l4 : Int32)
    (h : (∀ x1 : gd, x1 = si x 60 5 0 → KT G q (d + 1) zk_X0_work 11 [(0, vr 60), (2, vr a2), (3, vi l3), (4, vi l4), (5, vi 0), (6, vi l1)] [] x1 P)) :
    KT G q (d + 1) zk_X0_work 0 [(0, vr 60), (1, vi l1), (2, vr a2), (3, vi l3), (4, vi l4)] [] x P := by
  refine T_aload_n 0 (dk dtk_X0_work 0 rfl) rfl rfl ?_
  refine T_iconst (v := 0) (dk dtk_X0_work 1 rfl) (by decide +kernel) ?_
  obtain ⟨x1, ex1⟩ : ∃ z, z = si x 60 5 0 := ⟨_, rfl⟩
  have h := h x1 ex1
  refine T_putI 60 5 (dk dtk_X0_work 2 rfl) kfl_X0_74 kk_60 (kl_60 hq) (by decide) rfl ⟨rfl, rfl⟩ ?_
  rw [← ex1]
  refine T_iconst (v := 0) (dk dtk_X0_work 3 rfl) (by decide +kernel) ?_
  refine T_istore (lv2 := [(5, vi 0), (0, vr 60), (1, vi l1), (2, vr a2), (3, vi l3), (4, vi l4)]) (dk dtk_X0_work 4 rfl) (by decide) rfl ?_
  refine T_iload_n 2 (dk dtk_X0_work 5 rfl) rfl rfl ?_
  refine T_istore (lv2 := [(6, vi l1), (5, vi 0), (0, vr 60), (1, vi l1), (2, vr a2), (3, vi l3), (4, vi l4)]) (dk dtk_X0_work 6 rfl) (by decide) rfl ?_
  exact T_sub [2, 4, 5, 6, 1, 0] rfl h
set_option maxRecDepth 100000 in
set_option maxHeartbeats 4000000 in
theorem kg_X0_work_11 {G : kG} {q : kP} {d : Nat} {x : gd} {P : Option gv → gd → Prop} (hq : kV q) {a2 n2 : Nat} (ka2 : kK a2 = .inr (.int, n2)) (ma2 : a2 ∈ (kf q).2.1) (l3 : Int32) (l4 : Int32) (l5 : Int32) (l6 : Int32)
    (h : ((l6 < (0 : Int32) → vp_in 0 40 ∧ P (some (vi (x.1 65 (0 : Int32).toNatClampNeg))) x) ∧ (¬ (l6 < (0 : Int32)) → (((x.1 60 3) ≤ l6 → vp_in 0 40 ∧ P (some (vi (x.1 65 (0 : Int32).toNatClampNeg))) x) ∧ (¬ ((x.1 60 3) ≤ l6) → ((¬ ((x.1 60 5) = (0 : Int32)) → vp_in 0 40 ∧ P (some (vi (x.1 65 (0 : Int32).toNatClampNeg))) x) ∧ ((x.1 60 5) = (0 : Int32) → vp_in l6 800 ∧ (((x.1 62 (l6 : Int32).toNatClampNeg) = (0 : Int32) → vp_in 0 40 ∧ P (some (vi (x.1 65 (0 : Int32).toNatClampNeg))) x) ∧ (¬ ((x.1 62 (l6 : Int32).toNatClampNeg) = (0 : Int32)) → vp_in l6 800 ∧ (((x.1 62 (l6 : Int32).toNatClampNeg) = (1 : Int32) → KT G q (d + 1) zk_X0_work 69 [(0, vr 60), (2, vr a2), (3, vi l3), (4, vi l4), (5, vi l5), (6, vi l6), (7, vi (x.1 62 (l6 : Int32).toNatClampNeg))] [] x P) ∧ (¬ ((x.1 62 (l6 : Int32).toNatClampNeg) = (1 : Int32)) → (((x.1 62 (l6 : Int32).toNatClampNeg) = (2 : Int32) → KT G q (d + 1) zk_X0_work 69 [(0, vr 60), (2, vr a2), (3, vi l3), (4, vi l4), (5, vi l5), (6, vi l6), (7, vi (x.1 62 (l6 : Int32).toNatClampNeg))] [] x P) ∧ (¬ ((x.1 62 (l6 : Int32).toNatClampNeg) = (2 : Int32)) → ((¬ ((x.1 62 (l6 : Int32).toNatClampNeg) = (3 : Int32)) → (((x.1 62 (l6 : Int32).toNatClampNeg) = (4 : Int32) → KT G q (d + 1) zk_X0_work 139 [(0, vr 60), (2, vr a2), (3, vi l3), (4, vi l4), (5, vi l5), (6, vi l6), (7, vi (x.1 62 (l6 : Int32).toNatClampNeg))] [] x P) ∧ (¬ ((x.1 62 (l6 : Int32).toNatClampNeg) = (4 : Int32)) → ((¬ ((x.1 62 (l6 : Int32).toNatClampNeg) = (5 : Int32)) → ((l5 < (2 : Int32) → KT G q (d + 1) zk_X0_work 11 [(0, vr 60), (2, vr a2), (3, vi l3), (4, vi l4), (5, vi l5), (6, vi (l6 + 1))] [] x P) ∧ (¬ (l5 < (2 : Int32)) → vp_in ((l5 + (-1)) - 1) 40 ∧ vp_in (l5 + (-1)) 40 ∧ KT G q d zk_X0_operate 0 [(0, vr 60), (1, vi (x.1 62 (l6 : Int32).toNatClampNeg)), (2, vi (x.1 65 ((l5 + (-1)) - 1 : Int32).toNatClampNeg)), (3, vi (x.1 65 (l5 + (-1) : Int32).toNatClampNeg))] [] x (ri (fun r20 x19 => vp_in ((l5 + (-1)) - 1) 40 ∧ (∀ x22 : gd, x22 = si x19 65 ((l5 + (-1)) - 1 : Int32).toNatClampNeg r20 → KT G q (d + 1) zk_X0_work 11 [(0, vr 60), (2, vr a2), (3, vi l3), (4, vi l4), (5, vi (l5 + (-1))), (6, vi (l6 + 1))] [] x22 P)))))) ∧ ((x.1 62 (l6 : Int32).toNatClampNeg) = (5 : Int32) → KT G q (d + 1) zk_X0_work 139 [(0, vr 60), (2, vr a2), (3, vi l3), (4, vi l4), (5, vi l5), (6, vi l6), (7, vi (x.1 62 (l6 : Int32).toNatClampNeg))] [] x P))))) ∧ ((x.1 62 (l6 : Int32).toNatClampNeg) = (3 : Int32) → KT G q (d + 1) zk_X0_work 69 [(0, vr 60), (2, vr a2), (3, vi l3), (4, vi l4), (5, vi l5), (6, vi l6), (7, vi (x.1 62 (l6 : Int32).toNatClampNeg))] [] x P))))))))))))))) :
    KT G q (d + 1) zk_X0_work 11 [(0, vr 60), (2, vr a2), (3, vi l3), (4, vi l4), (5, vi l5), (6, vi l6)] [] x P := by
  refine T_iload 5 (dk dtk_X0_work 7 rfl) rfl ?_
  refine T_if_lt 236 (dk dtk_X0_work 8 rfl) (by decide) (fun c1 => ?_) (fun c1 => ?_)
  · have h := h.1 c1
    refine T_aload_n 0 (dk dtk_X0_work 124 rfl) rfl rfl ?_
    refine T_getR 60 4 65 (dk dtk_X0_work 125 rfl) kfl_X0_25 kk_60 (kl_60 hq) (by decide) rfl kr_60_4 ?_
    refine T_iconst (v := 0) (dk dtk_X0_work 126 rfl) (by decide +kernel) ?_
    obtain ⟨h2, h⟩ := h
    refine T_iald 65 40 (dk dtk_X0_work 127 rfl) kk_65 (kl_65 hq) h2 ?_
    exact KT_iret (dk dtk_X0_work 128 rfl) rfl rfl h
  · have h := h.2 c1
    refine T_iload 5 (dk dtk_X0_work 9 rfl) rfl ?_
    refine T_aload_n 0 (dk dtk_X0_work 10 rfl) rfl rfl ?_
    refine T_getI 60 3 (dk dtk_X0_work 11 rfl) kfl_X0_53 kk_60 (kl_60 hq) (by decide) rfl ?_
    refine T_icmp_ge 236 (dk dtk_X0_work 12 rfl) (by decide) (fun c3 => ?_) (fun c3 => ?_)
    · have h := h.1 c3
      refine T_aload_n 0 (dk dtk_X0_work 124 rfl) rfl rfl ?_
      refine T_getR 60 4 65 (dk dtk_X0_work 125 rfl) kfl_X0_25 kk_60 (kl_60 hq) (by decide) rfl kr_60_4 ?_
      refine T_iconst (v := 0) (dk dtk_X0_work 126 rfl) (by decide +kernel) ?_
      obtain ⟨h4, h⟩ := h
      refine T_iald 65 40 (dk dtk_X0_work 127 rfl) kk_65 (kl_65 hq) h4 ?_
      exact KT_iret (dk dtk_X0_work 128 rfl) rfl rfl h
    · have h := h.2 c3
      refine T_aload_n 0 (dk dtk_X0_work 13 rfl) rfl rfl ?_
      refine T_getI 60 5 (dk dtk_X0_work 14 rfl) kfl_X0_74 kk_60 (kl_60 hq) (by decide) rfl ?_
      refine T_if_ne 236 (dk dtk_X0_work 15 rfl) (by decide) (fun c5 => ?_) (fun c5 => ?_)
      · have h := h.1 c5
        refine T_aload_n 0 (dk dtk_X0_work 124 rfl) rfl rfl ?_
        refine T_getR 60 4 65 (dk dtk_X0_work 125 rfl) kfl_X0_25 kk_60 (kl_60 hq) (by decide) rfl kr_60_4 ?_
        refine T_iconst (v := 0) (dk dtk_X0_work 126 rfl) (by decide +kernel) ?_
        obtain ⟨h6, h⟩ := h
        refine T_iald 65 40 (dk dtk_X0_work 127 rfl) kk_65 (kl_65 hq) h6 ?_
        exact KT_iret (dk dtk_X0_work 128 rfl) rfl rfl h
      · have h := h.2 c5
        refine T_aload_n 0 (dk dtk_X0_work 16 rfl) rfl rfl ?_
        refine T_getR 60 1 62 (dk dtk_X0_work 17 rfl) kfl_X0_18 kk_60 (kl_60 hq) (by decide) rfl kr_60_1 ?_
        refine T_iload 5 (dk dtk_X0_work 18 rfl) rfl ?_
        obtain ⟨h7, h⟩ := h
        refine T_iald 62 800 (dk dtk_X0_work 19 rfl) kk_62 (kl_62 hq) h7 ?_
        refine T_if_eq 236 (dk dtk_X0_work 20 rfl) (by decide) (fun c8 => ?_) (fun c8 => ?_)
        · have h := h.1 c8
          refine T_aload_n 0 (dk dtk_X0_work 124 rfl) rfl rfl ?_
          refine T_getR 60 4 65 (dk dtk_X0_work 125 rfl) kfl_X0_25 kk_60 (kl_60 hq) (by decide) rfl kr_60_4 ?_
          refine T_iconst (v := 0) (dk dtk_X0_work 126 rfl) (by decide +kernel) ?_
          obtain ⟨h9, h⟩ := h
          refine T_iald 65 40 (dk dtk_X0_work 127 rfl) kk_65 (kl_65 hq) h9 ?_
          exact KT_iret (dk dtk_X0_work 128 rfl) rfl rfl h
        · have h := h.2 c8
          refine T_aload_n 0 (dk dtk_X0_work 21 rfl) rfl rfl ?_
          refine T_getR 60 1 62 (dk dtk_X0_work 22 rfl) kfl_X0_18 kk_60 (kl_60 hq) (by decide) rfl kr_60_1 ?_
          refine T_iload 5 (dk dtk_X0_work 23 rfl) rfl ?_
          obtain ⟨h10, h⟩ := h
          refine T_iald 62 800 (dk dtk_X0_work 24 rfl) kk_62 (kl_62 hq) h10 ?_
          refine T_istore (lv2 := [(7, vi (x.1 62 (l6 : Int32).toNatClampNeg)), (0, vr 60), (2, vr a2), (3, vi l3), (4, vi l4), (5, vi l5), (6, vi l6)]) (dk dtk_X0_work 25 rfl) (by decide) rfl ?_
          refine T_iload 0 (dk dtk_X0_work 26 rfl) rfl ?_
          refine T_iconst (v := 1) (dk dtk_X0_work 27 rfl) (by decide +kernel) ?_
          refine T_icmp_eq 69 (dk dtk_X0_work 28 rfl) (by decide) (fun c11 => ?_) (fun c11 => ?_)
          · have h := h.1 c11
            exact T_sub [1, 2, 3, 4, 5, 6, 0] rfl h
          · have h := h.2 c11
            refine T_iload 0 (dk dtk_X0_work 29 rfl) rfl ?_
            refine T_iconst (v := 2) (dk dtk_X0_work 30 rfl) (by decide +kernel) ?_
            refine T_icmp_eq 69 (dk dtk_X0_work 31 rfl) (by decide) (fun c12 => ?_) (fun c12 => ?_)
            · have h := h.1 c12
              exact T_sub [1, 2, 3, 4, 5, 6, 0] rfl h
            · have h := h.2 c12
              refine T_iload 0 (dk dtk_X0_work 32 rfl) rfl ?_
              refine T_iconst (v := 3) (dk dtk_X0_work 33 rfl) (by decide +kernel) ?_
              refine T_icmp_ne 127 (dk dtk_X0_work 34 rfl) (by decide) (fun c13 => ?_) (fun c13 => ?_)
              · have h := h.1 c13
                refine T_iload 0 (dk dtk_X0_work 65 rfl) rfl ?_
                refine T_iconst (v := 4) (dk dtk_X0_work 66 rfl) (by decide +kernel) ?_
                refine T_icmp_eq 139 (dk dtk_X0_work 67 rfl) (by decide) (fun c14 => ?_) (fun c14 => ?_)
                · have h := h.1 c14
                  exact T_sub [1, 2, 3, 4, 5, 6, 0] rfl h
                · have h := h.2 c14
                  refine T_iload 0 (dk dtk_X0_work 68 rfl) rfl ?_
                  refine T_iconst (v := 5) (dk dtk_X0_work 69 rfl) (by decide +kernel) ?_
                  refine T_icmp_ne 190 (dk dtk_X0_work 70 rfl) (by decide) (fun c15 => ?_) (fun c15 => ?_)
                  · have h := h.1 c15
                    refine T_iload 5 (dk dtk_X0_work 99 rfl) rfl ?_
                    refine T_iconst (v := 2) (dk dtk_X0_work 100 rfl) (by decide +kernel) ?_
                    refine T_icmp_lt 230 (dk dtk_X0_work 101 rfl) (by decide) (fun c16 => ?_) (fun c16 => ?_)
                    · have h := h.1 c16
                      refine T_iinc (v := l6 + 1) (lv2 := [(6, vi (l6 + 1)), (7, vi (x.1 62 (l6 : Int32).toNatClampNeg)), (0, vr 60), (2, vr a2), (3, vi l3), (4, vi l4), (5, vi l5)]) 6 (dk dtk_X0_work 122 rfl) rfl rfl (by decide) rfl ?_
                      refine T_goto 11 (dk dtk_X0_work 123 rfl) (by decide) ?_
                      exact T_sub [2, 3, 4, 5, 6, 0] rfl h
                    · have h := h.2 c16
                      refine T_iinc (v := l5 + (-1)) (lv2 := [(5, vi (l5 + (-1))), (7, vi (x.1 62 (l6 : Int32).toNatClampNeg)), (0, vr 60), (2, vr a2), (3, vi l3), (4, vi l4), (6, vi l6)]) 5 (dk dtk_X0_work 102 rfl) rfl rfl (by decide) rfl ?_
                      refine T_aload_n 2 (dk dtk_X0_work 103 rfl) rfl rfl ?_
                      refine T_getR 60 4 65 (dk dtk_X0_work 104 rfl) kfl_X0_25 kk_60 (kl_60 hq) (by decide) rfl kr_60_4 ?_
                      refine T_iload 0 (dk dtk_X0_work 105 rfl) rfl ?_
                      refine T_iconst (v := 1) (dk dtk_X0_work 106 rfl) (by decide +kernel) ?_
                      refine T_isub (dk dtk_X0_work 107 rfl) ?_
                      refine T_aload_n 2 (dk dtk_X0_work 108 rfl) rfl rfl ?_
                      refine T_iload 1 (dk dtk_X0_work 109 rfl) rfl ?_
                      refine T_aload_n 2 (dk dtk_X0_work 110 rfl) rfl rfl ?_
                      refine T_getR 60 4 65 (dk dtk_X0_work 111 rfl) kfl_X0_25 kk_60 (kl_60 hq) (by decide) rfl kr_60_4 ?_
                      refine T_iload 0 (dk dtk_X0_work 112 rfl) rfl ?_
                      refine T_iconst (v := 1) (dk dtk_X0_work 113 rfl) (by decide +kernel) ?_
                      refine T_isub (dk dtk_X0_work 114 rfl) ?_
                      obtain ⟨h17, h⟩ := h
                      refine T_iald 65 40 (dk dtk_X0_work 115 rfl) kk_65 (kl_65 hq) h17 ?_
                      refine T_aload_n 2 (dk dtk_X0_work 116 rfl) rfl rfl ?_
                      refine T_getR 60 4 65 (dk dtk_X0_work 117 rfl) kfl_X0_25 kk_60 (kl_60 hq) (by decide) rfl kr_60_4 ?_
                      refine T_iload 0 (dk dtk_X0_work 118 rfl) rfl ?_
                      obtain ⟨h18, h⟩ := h
                      refine T_iald 65 40 (dk dtk_X0_work 119 rfl) kk_65 (kl_65 hq) h18 ?_
                      refine T_sub (lv2 := [(5, vi (l5 + (-1))), (0, vr 60), (2, vr a2), (3, vi l3), (4, vi l4), (6, vi l6)]) [0, 2, 3, 4, 5, 6] rfl ?_
                      refine KC_Vi [vi (x.1 62 (l6 : Int32).toNatClampNeg), vi (x.1 65 ((l5 + (-1)) - 1 : Int32).toNatClampNeg), vi (x.1 65 (l5 + (-1) : Int32).toNatClampNeg)] [vi ((l5 + (-1)) - 1), vr 65] rfl (dk dtk_X0_work 120 rfl) kcv_X0_78 rfl kk_60 rfl (kl_60 hq) (Nat.le_of_ble_eq_true rfl) (Nat.le_of_ble_eq_true rfl) (gok_i (av_c rfl (av_c (gkr (kl_60 hq)) (av_c (gkr ma2) (av_c rfl (av_c rfl (av_c rfl av_n)))))) (as_c rfl (as_c (gkr (kl_65 hq)) as_n))) rfl h (fun r20 x19 h => ?_)
                      obtain ⟨h21, h⟩ := h
                      obtain ⟨x22, ex22⟩ : ∃ z, z = si x19 65 ((l5 + (-1)) - 1 : Int32).toNatClampNeg r20 := ⟨_, rfl⟩
                      have h := h x22 ex22
                      refine T_iast 65 40 (dk dtk_X0_work 121 rfl) kk_65 (kl_65 hq) h21 ?_
                      rw [← ex22]
                      refine T_iinc (v := l6 + 1) (lv2 := [(6, vi (l6 + 1)), (5, vi (l5 + (-1))), (0, vr 60), (2, vr a2), (3, vi l3), (4, vi l4)]) 5 (dk dtk_X0_work 122 rfl) rfl rfl (by decide) rfl ?_
                      refine T_goto 11 (dk dtk_X0_work 123 rfl) (by decide) ?_
                      exact T_sub [2, 3, 4, 5, 1, 0] rfl h
                  · have h := h.2 c15
                    exact T_sub [1, 2, 3, 4, 5, 6, 0] rfl h
              · have h := h.2 c13
                exact T_sub [1, 2, 3, 4, 5, 6, 0] rfl h
set_option maxRecDepth 100000 in
set_option maxHeartbeats 4000000 in
theorem kg_X0_work_69 {G : kG} {q : kP} {d : Nat} {x : gd} {P : Option gv → gd → Prop} (hq : kV q) {a2 n2 : Nat} (ka2 : kK a2 = .inr (.int, n2)) (ma2 : a2 ∈ (kf q).2.1) (l3 : Int32) (l4 : Int32) (l5 : Int32) (l6 : Int32) (l7 : Int32)
    (h : (((40 : Int32) ≤ l5 → KT G q (d + 1) zk_X0_work 11 [(0, vr 60), (2, vr a2), (3, vi l3), (4, vi l4), (5, vi l5), (6, vi (l6 + 1))] [] x P) ∧ (¬ ((40 : Int32) ≤ l5) → ((¬ (l7 = (1 : Int32)) → ((¬ (l7 = (3 : Int32)) → vp_in l6 800 ∧ vp_in (l3 + (x.1 63 (l6 : Int32).toNatClampNeg)) n2 ∧ vp_in l5 40 ∧ (∀ x7 : gd, x7 = si x 65 (l5 : Int32).toNatClampNeg (x.1 a2 (l3 + (x.1 63 (l6 : Int32).toNatClampNeg) : Int32).toNatClampNeg) → KT G q (d + 1) zk_X0_work 11 [(0, vr 60), (2, vr a2), (3, vi l3), (4, vi l4), (5, vi (l5 + 1)), (6, vi (l6 + 1))] [] x7 P)) ∧ (l7 = (3 : Int32) → vp_in l5 40 ∧ (∀ x9 : gd, x9 = si x 65 (l5 : Int32).toNatClampNeg l4 → KT G q (d + 1) zk_X0_work 11 [(0, vr 60), (2, vr a2), (3, vi l3), (4, vi l4), (5, vi (l5 + 1)), (6, vi (l6 + 1))] [] x9 P)))) ∧ (l7 = (1 : Int32) → vp_in l6 800 ∧ vp_in l5 40 ∧ (∀ x12 : gd, x12 = si x 65 (l5 : Int32).toNatClampNeg (x.1 63 (l6 : Int32).toNatClampNeg) → KT G q (d + 1) zk_X0_work 11 [(0, vr 60), (2, vr a2), (3, vi l3), (4, vi l4), (5, vi (l5 + 1)), (6, vi (l6 + 1))] [] x12 P)))))) :
    KT G q (d + 1) zk_X0_work 69 [(0, vr 60), (2, vr a2), (3, vi l3), (4, vi l4), (5, vi l5), (6, vi l6), (7, vi l7)] [] x P := by
  refine T_iload 4 (dk dtk_X0_work 35 rfl) rfl ?_
  refine T_bipush (v := 40) (dk dtk_X0_work 36 rfl) (by decide +kernel) ?_
  refine T_icmp_ge 230 (dk dtk_X0_work 37 rfl) (by decide) (fun c1 => ?_) (fun c1 => ?_)
  · have h := h.1 c1
    refine T_iinc (v := l6 + 1) (lv2 := [(6, vi (l6 + 1)), (0, vr 60), (2, vr a2), (3, vi l3), (4, vi l4), (5, vi l5), (7, vi l7)]) 5 (dk dtk_X0_work 122 rfl) rfl rfl (by decide) rfl ?_
    refine T_goto 11 (dk dtk_X0_work 123 rfl) (by decide) ?_
    exact T_sub [1, 2, 3, 4, 5, 0] rfl h
  · have h := h.2 c1
    refine T_aload_n 0 (dk dtk_X0_work 38 rfl) rfl rfl ?_
    refine T_getR 60 4 65 (dk dtk_X0_work 39 rfl) kfl_X0_25 kk_60 (kl_60 hq) (by decide) rfl kr_60_4 ?_
    refine T_iload 4 (dk dtk_X0_work 40 rfl) rfl ?_
    refine T_iload 6 (dk dtk_X0_work 41 rfl) rfl ?_
    refine T_iconst (v := 1) (dk dtk_X0_work 42 rfl) (by decide +kernel) ?_
    refine T_icmp_ne 98 (dk dtk_X0_work 43 rfl) (by decide) (fun c2 => ?_) (fun c2 => ?_)
    · have h := h.1 c2
      refine T_iload 6 (dk dtk_X0_work 49 rfl) rfl ?_
      refine T_iconst (v := 3) (dk dtk_X0_work 50 rfl) (by decide +kernel) ?_
      refine T_icmp_ne 109 (dk dtk_X0_work 51 rfl) (by decide) (fun c3 => ?_) (fun c3 => ?_)
      · have h := h.1 c3
        refine T_aload_n 1 (dk dtk_X0_work 54 rfl) rfl rfl ?_
        refine T_iload_n 2 (dk dtk_X0_work 55 rfl) rfl rfl ?_
        refine T_aload_n 0 (dk dtk_X0_work 56 rfl) rfl rfl ?_
        refine T_getR 60 2 63 (dk dtk_X0_work 57 rfl) kfl_X0_22 kk_60 (kl_60 hq) (by decide) rfl kr_60_2 ?_
        refine T_iload 5 (dk dtk_X0_work 58 rfl) rfl ?_
        obtain ⟨h4, h⟩ := h
        refine T_iald 63 800 (dk dtk_X0_work 59 rfl) kk_63 (kl_63 hq) h4 ?_
        refine T_iadd (dk dtk_X0_work 60 rfl) ?_
        obtain ⟨h5, h⟩ := h
        refine T_iald a2 n2 (dk dtk_X0_work 61 rfl) ka2 ma2 h5 ?_
        obtain ⟨h6, h⟩ := h
        obtain ⟨x7, ex7⟩ : ∃ z, z = si x 65 (l5 : Int32).toNatClampNeg (x.1 a2 (l3 + (x.1 63 (l6 : Int32).toNatClampNeg) : Int32).toNatClampNeg) := ⟨_, rfl⟩
        have h := h x7 ex7
        refine T_iast 65 40 (dk dtk_X0_work 62 rfl) kk_65 (kl_65 hq) h6 ?_
        rw [← ex7]
        refine T_iinc (v := l5 + 1) (lv2 := [(5, vi (l5 + 1)), (0, vr 60), (2, vr a2), (3, vi l3), (4, vi l4), (6, vi l6), (7, vi l7)]) 4 (dk dtk_X0_work 63 rfl) rfl rfl (by decide) rfl ?_
        refine T_goto 230 (dk dtk_X0_work 64 rfl) (by decide) ?_
        refine T_iinc (v := l6 + 1) (lv2 := [(6, vi (l6 + 1)), (5, vi (l5 + 1)), (0, vr 60), (2, vr a2), (3, vi l3), (4, vi l4), (7, vi l7)]) 5 (dk dtk_X0_work 122 rfl) rfl rfl (by decide) rfl ?_
        refine T_goto 11 (dk dtk_X0_work 123 rfl) (by decide) ?_
        exact T_sub [2, 3, 4, 5, 1, 0] rfl h
      · have h := h.2 c3
        refine T_iload 3 (dk dtk_X0_work 52 rfl) rfl ?_
        refine T_goto 120 (dk dtk_X0_work 53 rfl) (by decide) ?_
        obtain ⟨h8, h⟩ := h
        obtain ⟨x9, ex9⟩ : ∃ z, z = si x 65 (l5 : Int32).toNatClampNeg l4 := ⟨_, rfl⟩
        have h := h x9 ex9
        refine T_iast 65 40 (dk dtk_X0_work 62 rfl) kk_65 (kl_65 hq) h8 ?_
        rw [← ex9]
        refine T_iinc (v := l5 + 1) (lv2 := [(5, vi (l5 + 1)), (0, vr 60), (2, vr a2), (3, vi l3), (4, vi l4), (6, vi l6), (7, vi l7)]) 4 (dk dtk_X0_work 63 rfl) rfl rfl (by decide) rfl ?_
        refine T_goto 230 (dk dtk_X0_work 64 rfl) (by decide) ?_
        refine T_iinc (v := l6 + 1) (lv2 := [(6, vi (l6 + 1)), (5, vi (l5 + 1)), (0, vr 60), (2, vr a2), (3, vi l3), (4, vi l4), (7, vi l7)]) 5 (dk dtk_X0_work 122 rfl) rfl rfl (by decide) rfl ?_
        refine T_goto 11 (dk dtk_X0_work 123 rfl) (by decide) ?_
        exact T_sub [2, 3, 4, 5, 1, 0] rfl h
    · have h := h.2 c2
      refine T_aload_n 0 (dk dtk_X0_work 44 rfl) rfl rfl ?_
      refine T_getR 60 2 63 (dk dtk_X0_work 45 rfl) kfl_X0_22 kk_60 (kl_60 hq) (by decide) rfl kr_60_2 ?_
      refine T_iload 5 (dk dtk_X0_work 46 rfl) rfl ?_
      obtain ⟨h10, h⟩ := h
      refine T_iald 63 800 (dk dtk_X0_work 47 rfl) kk_63 (kl_63 hq) h10 ?_
      refine T_goto 120 (dk dtk_X0_work 48 rfl) (by decide) ?_
      obtain ⟨h11, h⟩ := h
      obtain ⟨x12, ex12⟩ : ∃ z, z = si x 65 (l5 : Int32).toNatClampNeg (x.1 63 (l6 : Int32).toNatClampNeg) := ⟨_, rfl⟩
      have h := h x12 ex12
      refine T_iast 65 40 (dk dtk_X0_work 62 rfl) kk_65 (kl_65 hq) h11 ?_
      rw [← ex12]
      refine T_iinc (v := l5 + 1) (lv2 := [(5, vi (l5 + 1)), (0, vr 60), (2, vr a2), (3, vi l3), (4, vi l4), (6, vi l6), (7, vi l7)]) 4 (dk dtk_X0_work 63 rfl) rfl rfl (by decide) rfl ?_
      refine T_goto 230 (dk dtk_X0_work 64 rfl) (by decide) ?_
      refine T_iinc (v := l6 + 1) (lv2 := [(6, vi (l6 + 1)), (5, vi (l5 + 1)), (0, vr 60), (2, vr a2), (3, vi l3), (4, vi l4), (7, vi l7)]) 5 (dk dtk_X0_work 122 rfl) rfl rfl (by decide) rfl ?_
      refine T_goto 11 (dk dtk_X0_work 123 rfl) (by decide) ?_
      exact T_sub [2, 3, 4, 5, 1, 0] rfl h
set_option maxRecDepth 100000 in
set_option maxHeartbeats 4000000 in
theorem kg_X0_work_139 {G : kG} {q : kP} {d : Nat} {x : gd} {P : Option gv → gd → Prop} (hq : kV q) {a2 n2 : Nat} (ka2 : kK a2 = .inr (.int, n2)) (ma2 : a2 ∈ (kf q).2.1) (l3 : Int32) (l4 : Int32) (l5 : Int32) (l6 : Int32) (l7 : Int32)
    (h : ((l5 < (1 : Int32) → KT G q (d + 1) zk_X0_work 11 [(0, vr 60), (2, vr a2), (3, vi l3), (4, vi l4), (5, vi l5), (6, vi (l6 + 1))] [] x P) ∧ (¬ (l5 < (1 : Int32)) → vp_in (l5 - 1) 40 ∧ ((¬ (l7 = (4 : Int32)) → ((¬ ((x.1 65 (l5 - 1 : Int32).toNatClampNeg) = (0 : Int32)) → vp_in (l5 - 1) 40 ∧ (∀ x6 : gd, x6 = si x 65 (l5 - 1 : Int32).toNatClampNeg 0 → KT G q (d + 1) zk_X0_work 11 [(0, vr 60), (2, vr a2), (3, vi l3), (4, vi l4), (5, vi l5), (6, vi (l6 + 1))] [] x6 P)) ∧ ((x.1 65 (l5 - 1 : Int32).toNatClampNeg) = (0 : Int32) → vp_in (l5 - 1) 40 ∧ (∀ x8 : gd, x8 = si x 65 (l5 - 1 : Int32).toNatClampNeg 1 → KT G q (d + 1) zk_X0_work 11 [(0, vr 60), (2, vr a2), (3, vi l3), (4, vi l4), (5, vi l5), (6, vi (l6 + 1))] [] x8 P)))) ∧ (l7 = (4 : Int32) → vp_in (l5 - 1) 40 ∧ (∀ x10 : gd, x10 = si x 65 (l5 - 1 : Int32).toNatClampNeg (-(x.1 65 (l5 - 1 : Int32).toNatClampNeg)) → KT G q (d + 1) zk_X0_work 11 [(0, vr 60), (2, vr a2), (3, vi l3), (4, vi l4), (5, vi l5), (6, vi (l6 + 1))] [] x10 P)))))) :
    KT G q (d + 1) zk_X0_work 139 [(0, vr 60), (2, vr a2), (3, vi l3), (4, vi l4), (5, vi l5), (6, vi l6), (7, vi l7)] [] x P := by
  refine T_iload 4 (dk dtk_X0_work 71 rfl) rfl ?_
  refine T_iconst (v := 1) (dk dtk_X0_work 72 rfl) (by decide +kernel) ?_
  refine T_icmp_lt 230 (dk dtk_X0_work 73 rfl) (by decide) (fun c1 => ?_) (fun c1 => ?_)
  · have h := h.1 c1
    refine T_iinc (v := l6 + 1) (lv2 := [(6, vi (l6 + 1)), (0, vr 60), (2, vr a2), (3, vi l3), (4, vi l4), (5, vi l5), (7, vi l7)]) 5 (dk dtk_X0_work 122 rfl) rfl rfl (by decide) rfl ?_
    refine T_goto 11 (dk dtk_X0_work 123 rfl) (by decide) ?_
    exact T_sub [1, 2, 3, 4, 5, 0] rfl h
  · have h := h.2 c1
    refine T_aload_n 0 (dk dtk_X0_work 74 rfl) rfl rfl ?_
    refine T_getR 60 4 65 (dk dtk_X0_work 75 rfl) kfl_X0_25 kk_60 (kl_60 hq) (by decide) rfl kr_60_4 ?_
    refine T_iload 4 (dk dtk_X0_work 76 rfl) rfl ?_
    refine T_iconst (v := 1) (dk dtk_X0_work 77 rfl) (by decide +kernel) ?_
    refine T_isub (dk dtk_X0_work 78 rfl) ?_
    obtain ⟨h2, h⟩ := h
    refine T_iald 65 40 (dk dtk_X0_work 79 rfl) kk_65 (kl_65 hq) h2 ?_
    refine T_istore (lv2 := [(8, vi (x.1 65 (l5 - 1 : Int32).toNatClampNeg)), (0, vr 60), (2, vr a2), (3, vi l3), (4, vi l4), (5, vi l5), (6, vi l6), (7, vi l7)]) (dk dtk_X0_work 80 rfl) (by decide) rfl ?_
    refine T_aload_n 1 (dk dtk_X0_work 81 rfl) rfl rfl ?_
    refine T_getR 60 4 65 (dk dtk_X0_work 82 rfl) kfl_X0_25 kk_60 (kl_60 hq) (by decide) rfl kr_60_4 ?_
    refine T_iload 5 (dk dtk_X0_work 83 rfl) rfl ?_
    refine T_iconst (v := 1) (dk dtk_X0_work 84 rfl) (by decide +kernel) ?_
    refine T_isub (dk dtk_X0_work 85 rfl) ?_
    refine T_iload 7 (dk dtk_X0_work 86 rfl) rfl ?_
    refine T_iconst (v := 4) (dk dtk_X0_work 87 rfl) (by decide +kernel) ?_
    refine T_icmp_ne 176 (dk dtk_X0_work 88 rfl) (by decide) (fun c3 => ?_) (fun c3 => ?_)
    · have h := h.1 c3
      refine T_iload 0 (dk dtk_X0_work 92 rfl) rfl ?_
      refine T_if_ne 185 (dk dtk_X0_work 93 rfl) (by decide) (fun c4 => ?_) (fun c4 => ?_)
      · have h := h.1 c4
        refine T_iconst (v := 0) (dk dtk_X0_work 96 rfl) (by decide +kernel) ?_
        obtain ⟨h5, h⟩ := h
        obtain ⟨x6, ex6⟩ : ∃ z, z = si x 65 (l5 - 1 : Int32).toNatClampNeg 0 := ⟨_, rfl⟩
        have h := h x6 ex6
        refine T_iast 65 40 (dk dtk_X0_work 97 rfl) kk_65 (kl_65 hq) h5 ?_
        rw [← ex6]
        refine T_goto 230 (dk dtk_X0_work 98 rfl) (by decide) ?_
        refine T_iinc (v := l6 + 1) (lv2 := [(6, vi (l6 + 1)), (8, vi (x.1 65 (l5 - 1 : Int32).toNatClampNeg)), (0, vr 60), (2, vr a2), (3, vi l3), (4, vi l4), (5, vi l5), (7, vi l7)]) 6 (dk dtk_X0_work 122 rfl) rfl rfl (by decide) rfl ?_
        refine T_goto 11 (dk dtk_X0_work 123 rfl) (by decide) ?_
        exact T_sub [2, 3, 4, 5, 6, 0] rfl h
      · have h := h.2 c4
        refine T_iconst (v := 1) (dk dtk_X0_work 94 rfl) (by decide +kernel) ?_
        refine T_goto 186 (dk dtk_X0_work 95 rfl) (by decide) ?_
        obtain ⟨h7, h⟩ := h
        obtain ⟨x8, ex8⟩ : ∃ z, z = si x 65 (l5 - 1 : Int32).toNatClampNeg 1 := ⟨_, rfl⟩
        have h := h x8 ex8
        refine T_iast 65 40 (dk dtk_X0_work 97 rfl) kk_65 (kl_65 hq) h7 ?_
        rw [← ex8]
        refine T_goto 230 (dk dtk_X0_work 98 rfl) (by decide) ?_
        refine T_iinc (v := l6 + 1) (lv2 := [(6, vi (l6 + 1)), (8, vi (x.1 65 (l5 - 1 : Int32).toNatClampNeg)), (0, vr 60), (2, vr a2), (3, vi l3), (4, vi l4), (5, vi l5), (7, vi l7)]) 6 (dk dtk_X0_work 122 rfl) rfl rfl (by decide) rfl ?_
        refine T_goto 11 (dk dtk_X0_work 123 rfl) (by decide) ?_
        exact T_sub [2, 3, 4, 5, 6, 0] rfl h
    · have h := h.2 c3
      refine T_iload 0 (dk dtk_X0_work 89 rfl) rfl ?_
      refine T_ineg (dk dtk_X0_work 90 rfl) ?_
      refine T_goto 186 (dk dtk_X0_work 91 rfl) (by decide) ?_
      obtain ⟨h9, h⟩ := h
      obtain ⟨x10, ex10⟩ : ∃ z, z = si x 65 (l5 - 1 : Int32).toNatClampNeg (-(x.1 65 (l5 - 1 : Int32).toNatClampNeg)) := ⟨_, rfl⟩
      have h := h x10 ex10
      refine T_iast 65 40 (dk dtk_X0_work 97 rfl) kk_65 (kl_65 hq) h9 ?_
      rw [← ex10]
      refine T_goto 230 (dk dtk_X0_work 98 rfl) (by decide) ?_
      refine T_iinc (v := l6 + 1) (lv2 := [(6, vi (l6 + 1)), (8, vi (x.1 65 (l5 - 1 : Int32).toNatClampNeg)), (0, vr 60), (2, vr a2), (3, vi l3), (4, vi l4), (5, vi l5), (7, vi l7)]) 6 (dk dtk_X0_work 122 rfl) rfl rfl (by decide) rfl ?_
      refine T_goto 11 (dk dtk_X0_work 123 rfl) (by decide) ?_
      exact T_sub [2, 3, 4, 5, 6, 0] rfl h
set_option maxRecDepth 100000 in
theorem dtk_X0_operate : dck cX0_operate [(0, .iload_n 1, 1), (1, .lookupswitch 205 #[(11, 127), (12, 138), (13, 149), (14, 160), (15, 171), (16, 182), (17, 193), (18, 197), (19, 201), (42, 113), (60, 99)], 99), (100, .iload_n 2, 1), (101, .ifCond .ne 7, 3), (104, .iload_n 3, 1), (105, .ifCond .eq 7, 3), (108, .iconst 1, 1), (109, .goto 4, 3), (112, .iconst 0, 1), (113, .ireturn, 1), (114, .iload_n 2, 1), (115, .ifCond .eq 11, 3), (118, .iload_n 3, 1), (119, .ifCond .eq 7, 3), (122, .iconst 1, 1), (123, .goto 4, 3), (126, .iconst 0, 1), (127, .ireturn, 1), (128, .iload_n 2, 1), (129, .iload_n 3, 1), (130, .if_icmp .ne 7, 3), (133, .iconst 1, 1), (134, .goto 4, 3), (137, .iconst 0, 1), (138, .ireturn, 1), (139, .iload_n 2, 1), (140, .iload_n 3, 1), (141, .if_icmp .eq 7, 3), (144, .iconst 1, 1), (145, .goto 4, 3), (148, .iconst 0, 1), (149, .ireturn, 1), (150, .iload_n 2, 1), (151, .iload_n 3, 1), (152, .if_icmp .ge 7, 3), (155, .iconst 1, 1), (156, .goto 4, 3), (159, .iconst 0, 1), (160, .ireturn, 1), (161, .iload_n 2, 1), (162, .iload_n 3, 1), (163, .if_icmp .gt 7, 3), (166, .iconst 1, 1), (167, .goto 4, 3), (170, .iconst 0, 1), (171, .ireturn, 1), (172, .iload_n 2, 1), (173, .iload_n 3, 1), (174, .if_icmp .le 7, 3), (177, .iconst 1, 1), (178, .goto 4, 3), (181, .iconst 0, 1), (182, .ireturn, 1), (183, .iload_n 2, 1), (184, .iload_n 3, 1), (185, .if_icmp .lt 7, 3), (188, .iconst 1, 1), (189, .goto 4, 3), (192, .iconst 0, 1), (193, .ireturn, 1), (194, .iload_n 2, 1), (195, .iload_n 3, 1), (196, .iadd, 1), (197, .ireturn, 1), (198, .iload_n 2, 1), (199, .iload_n 3, 1), (200, .isub, 1), (201, .ireturn, 1), (202, .iload_n 2, 1), (203, .iload_n 3, 1), (204, .imul, 1), (205, .ireturn, 1), (206, .iload_n 3, 1), (207, .ifCond .ne 10, 3), (210, .aload_n 0, 1), (211, .iconst 1, 1), (212, .putfield 74, 3), (215, .iconst 0, 1), (216, .ireturn, 1), (217, .iload_n 1, 1), (218, .bipush 20, 2), (220, .if_icmp .ne 9, 3), (223, .iload_n 2, 1), (224, .iload_n 3, 1), (225, .idiv, 1), (226, .goto 6, 3), (229, .iload_n 2, 1), (230, .iload_n 3, 1), (231, .irem, 1), (232, .ireturn, 1)] = true := by decide +kernel
set_option maxRecDepth 100000 in
set_option maxHeartbeats 4000000 in
theorem kg_X0_operate_0 {G : kG} {q : kP} {d : Nat} {x : gd} {P : Option gv → gd → Prop} (hq : kV q) (l1 : Int32) (l2 : Int32) (l3 : Int32)
    (h : (((l1 = 60) → ((¬ (l2 = (0 : Int32)) → P (some (vi 1)) x) ∧ (l2 = (0 : Int32) → ((l3 = (0 : Int32) → P (some (vi 0)) x) ∧ (¬ (l3 = (0 : Int32)) → P (some (vi 1)) x))))) ∧ ((l1 = 42) → ((l2 = (0 : Int32) → P (some (vi 0)) x) ∧ (¬ (l2 = (0 : Int32)) → ((l3 = (0 : Int32) → P (some (vi 0)) x) ∧ (¬ (l3 = (0 : Int32)) → P (some (vi 1)) x))))) ∧ ((l1 = 11) → ((¬ (l2 = l3) → P (some (vi 0)) x) ∧ (l2 = l3 → P (some (vi 1)) x))) ∧ ((l1 = 12) → ((l2 = l3 → P (some (vi 0)) x) ∧ (¬ (l2 = l3) → P (some (vi 1)) x))) ∧ ((l1 = 13) → ((l3 ≤ l2 → P (some (vi 0)) x) ∧ (¬ (l3 ≤ l2) → P (some (vi 1)) x))) ∧ ((l1 = 14) → ((l3 < l2 → P (some (vi 0)) x) ∧ (¬ (l3 < l2) → P (some (vi 1)) x))) ∧ ((l1 = 15) → ((l2 ≤ l3 → P (some (vi 0)) x) ∧ (¬ (l2 ≤ l3) → P (some (vi 1)) x))) ∧ ((l1 = 16) → ((l2 < l3 → P (some (vi 0)) x) ∧ (¬ (l2 < l3) → P (some (vi 1)) x))) ∧ ((l1 = 17) → P (some (vi (l2 + l3))) x) ∧ ((l1 = 18) → P (some (vi (l2 - l3))) x) ∧ ((l1 = 19) → P (some (vi (l2 * l3))) x) ∧ ((∀ k ∈ [(60 : Int32), (42 : Int32), (11 : Int32), (12 : Int32), (13 : Int32), (14 : Int32), (15 : Int32), (16 : Int32), (17 : Int32), (18 : Int32), (19 : Int32)], ¬ l1 = k) → ((¬ (l3 = (0 : Int32)) → ((¬ (l1 = (20 : Int32)) → ¬ l3 = 0 ∧ P (some (vi (l2 - l2 / l3 * l3))) x) ∧ (l1 = (20 : Int32) → ¬ l3 = 0 ∧ P (some (vi (l2 / l3))) x))) ∧ (l3 = (0 : Int32) → (∀ x27 : gd, x27 = si x 60 5 1 → P (some (vi 0)) x27)))))) :
    KT G q d zk_X0_operate 0 [(0, vr 60), (1, vi l1), (2, vi l2), (3, vi l3)] [] x P := by
  refine T_iload_n 1 (dk dtk_X0_operate 0 rfl) rfl rfl ?_
  by_cases c1 : l1 = 60
  · have h := h.1 c1
    refine T_lookup 99 100 (dk dtk_X0_operate 1 rfl) (by decide +kernel) (by rw [c1]; decide +kernel) (by decide) ?_
    refine T_iload_n 2 (dk dtk_X0_operate 2 rfl) rfl rfl ?_
    refine T_if_ne 108 (dk dtk_X0_operate 3 rfl) (by decide) (fun c2 => ?_) (fun c2 => ?_)
    · have h := h.1 c2
      refine T_iconst (v := 1) (dk dtk_X0_operate 6 rfl) (by decide +kernel) ?_
      refine T_goto 113 (dk dtk_X0_operate 7 rfl) (by decide) ?_
      exact KT_iret (dk dtk_X0_operate 9 rfl) rfl rfl h
    · have h := h.2 c2
      refine T_iload_n 3 (dk dtk_X0_operate 4 rfl) rfl rfl ?_
      refine T_if_eq 112 (dk dtk_X0_operate 5 rfl) (by decide) (fun c3 => ?_) (fun c3 => ?_)
      · have h := h.1 c3
        refine T_iconst (v := 0) (dk dtk_X0_operate 8 rfl) (by decide +kernel) ?_
        exact KT_iret (dk dtk_X0_operate 9 rfl) rfl rfl h
      · have h := h.2 c3
        refine T_iconst (v := 1) (dk dtk_X0_operate 6 rfl) (by decide +kernel) ?_
        refine T_goto 113 (dk dtk_X0_operate 7 rfl) (by decide) ?_
        exact KT_iret (dk dtk_X0_operate 9 rfl) rfl rfl h
  · have h := h.2
    by_cases c4 : l1 = 42
    · have h := h.1 c4
      refine T_lookup 113 114 (dk dtk_X0_operate 1 rfl) (by decide +kernel) (by rw [c4]; decide +kernel) (by decide) ?_
      refine T_iload_n 2 (dk dtk_X0_operate 10 rfl) rfl rfl ?_
      refine T_if_eq 126 (dk dtk_X0_operate 11 rfl) (by decide) (fun c5 => ?_) (fun c5 => ?_)
      · have h := h.1 c5
        refine T_iconst (v := 0) (dk dtk_X0_operate 16 rfl) (by decide +kernel) ?_
        exact KT_iret (dk dtk_X0_operate 17 rfl) rfl rfl h
      · have h := h.2 c5
        refine T_iload_n 3 (dk dtk_X0_operate 12 rfl) rfl rfl ?_
        refine T_if_eq 126 (dk dtk_X0_operate 13 rfl) (by decide) (fun c6 => ?_) (fun c6 => ?_)
        · have h := h.1 c6
          refine T_iconst (v := 0) (dk dtk_X0_operate 16 rfl) (by decide +kernel) ?_
          exact KT_iret (dk dtk_X0_operate 17 rfl) rfl rfl h
        · have h := h.2 c6
          refine T_iconst (v := 1) (dk dtk_X0_operate 14 rfl) (by decide +kernel) ?_
          refine T_goto 127 (dk dtk_X0_operate 15 rfl) (by decide) ?_
          exact KT_iret (dk dtk_X0_operate 17 rfl) rfl rfl h
    · have h := h.2
      by_cases c7 : l1 = 11
      · have h := h.1 c7
        refine T_lookup 127 128 (dk dtk_X0_operate 1 rfl) (by decide +kernel) (by rw [c7]; decide +kernel) (by decide) ?_
        refine T_iload_n 2 (dk dtk_X0_operate 18 rfl) rfl rfl ?_
        refine T_iload_n 3 (dk dtk_X0_operate 19 rfl) rfl rfl ?_
        refine T_icmp_ne 137 (dk dtk_X0_operate 20 rfl) (by decide) (fun c8 => ?_) (fun c8 => ?_)
        · have h := h.1 c8
          refine T_iconst (v := 0) (dk dtk_X0_operate 23 rfl) (by decide +kernel) ?_
          exact KT_iret (dk dtk_X0_operate 24 rfl) rfl rfl h
        · have h := h.2 c8
          refine T_iconst (v := 1) (dk dtk_X0_operate 21 rfl) (by decide +kernel) ?_
          refine T_goto 138 (dk dtk_X0_operate 22 rfl) (by decide) ?_
          exact KT_iret (dk dtk_X0_operate 24 rfl) rfl rfl h
      · have h := h.2
        by_cases c9 : l1 = 12
        · have h := h.1 c9
          refine T_lookup 138 139 (dk dtk_X0_operate 1 rfl) (by decide +kernel) (by rw [c9]; decide +kernel) (by decide) ?_
          refine T_iload_n 2 (dk dtk_X0_operate 25 rfl) rfl rfl ?_
          refine T_iload_n 3 (dk dtk_X0_operate 26 rfl) rfl rfl ?_
          refine T_icmp_eq 148 (dk dtk_X0_operate 27 rfl) (by decide) (fun c10 => ?_) (fun c10 => ?_)
          · have h := h.1 c10
            refine T_iconst (v := 0) (dk dtk_X0_operate 30 rfl) (by decide +kernel) ?_
            exact KT_iret (dk dtk_X0_operate 31 rfl) rfl rfl h
          · have h := h.2 c10
            refine T_iconst (v := 1) (dk dtk_X0_operate 28 rfl) (by decide +kernel) ?_
            refine T_goto 149 (dk dtk_X0_operate 29 rfl) (by decide) ?_
            exact KT_iret (dk dtk_X0_operate 31 rfl) rfl rfl h
        · have h := h.2
          by_cases c11 : l1 = 13
          · have h := h.1 c11
            refine T_lookup 149 150 (dk dtk_X0_operate 1 rfl) (by decide +kernel) (by rw [c11]; decide +kernel) (by decide) ?_
            refine T_iload_n 2 (dk dtk_X0_operate 32 rfl) rfl rfl ?_
            refine T_iload_n 3 (dk dtk_X0_operate 33 rfl) rfl rfl ?_
            refine T_icmp_ge 159 (dk dtk_X0_operate 34 rfl) (by decide) (fun c12 => ?_) (fun c12 => ?_)
            · have h := h.1 c12
              refine T_iconst (v := 0) (dk dtk_X0_operate 37 rfl) (by decide +kernel) ?_
              exact KT_iret (dk dtk_X0_operate 38 rfl) rfl rfl h
            · have h := h.2 c12
              refine T_iconst (v := 1) (dk dtk_X0_operate 35 rfl) (by decide +kernel) ?_
              refine T_goto 160 (dk dtk_X0_operate 36 rfl) (by decide) ?_
              exact KT_iret (dk dtk_X0_operate 38 rfl) rfl rfl h
          · have h := h.2
            by_cases c13 : l1 = 14
            · have h := h.1 c13
              refine T_lookup 160 161 (dk dtk_X0_operate 1 rfl) (by decide +kernel) (by rw [c13]; decide +kernel) (by decide) ?_
              refine T_iload_n 2 (dk dtk_X0_operate 39 rfl) rfl rfl ?_
              refine T_iload_n 3 (dk dtk_X0_operate 40 rfl) rfl rfl ?_
              refine T_icmp_gt 170 (dk dtk_X0_operate 41 rfl) (by decide) (fun c14 => ?_) (fun c14 => ?_)
              · have h := h.1 c14
                refine T_iconst (v := 0) (dk dtk_X0_operate 44 rfl) (by decide +kernel) ?_
                exact KT_iret (dk dtk_X0_operate 45 rfl) rfl rfl h
              · have h := h.2 c14
                refine T_iconst (v := 1) (dk dtk_X0_operate 42 rfl) (by decide +kernel) ?_
                refine T_goto 171 (dk dtk_X0_operate 43 rfl) (by decide) ?_
                exact KT_iret (dk dtk_X0_operate 45 rfl) rfl rfl h
            · have h := h.2
              by_cases c15 : l1 = 15
              · have h := h.1 c15
                refine T_lookup 171 172 (dk dtk_X0_operate 1 rfl) (by decide +kernel) (by rw [c15]; decide +kernel) (by decide) ?_
                refine T_iload_n 2 (dk dtk_X0_operate 46 rfl) rfl rfl ?_
                refine T_iload_n 3 (dk dtk_X0_operate 47 rfl) rfl rfl ?_
                refine T_icmp_le 181 (dk dtk_X0_operate 48 rfl) (by decide) (fun c16 => ?_) (fun c16 => ?_)
                · have h := h.1 c16
                  refine T_iconst (v := 0) (dk dtk_X0_operate 51 rfl) (by decide +kernel) ?_
                  exact KT_iret (dk dtk_X0_operate 52 rfl) rfl rfl h
                · have h := h.2 c16
                  refine T_iconst (v := 1) (dk dtk_X0_operate 49 rfl) (by decide +kernel) ?_
                  refine T_goto 182 (dk dtk_X0_operate 50 rfl) (by decide) ?_
                  exact KT_iret (dk dtk_X0_operate 52 rfl) rfl rfl h
              · have h := h.2
                by_cases c17 : l1 = 16
                · have h := h.1 c17
                  refine T_lookup 182 183 (dk dtk_X0_operate 1 rfl) (by decide +kernel) (by rw [c17]; decide +kernel) (by decide) ?_
                  refine T_iload_n 2 (dk dtk_X0_operate 53 rfl) rfl rfl ?_
                  refine T_iload_n 3 (dk dtk_X0_operate 54 rfl) rfl rfl ?_
                  refine T_icmp_lt 192 (dk dtk_X0_operate 55 rfl) (by decide) (fun c18 => ?_) (fun c18 => ?_)
                  · have h := h.1 c18
                    refine T_iconst (v := 0) (dk dtk_X0_operate 58 rfl) (by decide +kernel) ?_
                    exact KT_iret (dk dtk_X0_operate 59 rfl) rfl rfl h
                  · have h := h.2 c18
                    refine T_iconst (v := 1) (dk dtk_X0_operate 56 rfl) (by decide +kernel) ?_
                    refine T_goto 193 (dk dtk_X0_operate 57 rfl) (by decide) ?_
                    exact KT_iret (dk dtk_X0_operate 59 rfl) rfl rfl h
                · have h := h.2
                  by_cases c19 : l1 = 17
                  · have h := h.1 c19
                    refine T_lookup 193 194 (dk dtk_X0_operate 1 rfl) (by decide +kernel) (by rw [c19]; decide +kernel) (by decide) ?_
                    refine T_iload_n 2 (dk dtk_X0_operate 60 rfl) rfl rfl ?_
                    refine T_iload_n 3 (dk dtk_X0_operate 61 rfl) rfl rfl ?_
                    refine T_iadd (dk dtk_X0_operate 62 rfl) ?_
                    exact KT_iret (dk dtk_X0_operate 63 rfl) rfl rfl h
                  · have h := h.2
                    by_cases c20 : l1 = 18
                    · have h := h.1 c20
                      refine T_lookup 197 198 (dk dtk_X0_operate 1 rfl) (by decide +kernel) (by rw [c20]; decide +kernel) (by decide) ?_
                      refine T_iload_n 2 (dk dtk_X0_operate 64 rfl) rfl rfl ?_
                      refine T_iload_n 3 (dk dtk_X0_operate 65 rfl) rfl rfl ?_
                      refine T_isub (dk dtk_X0_operate 66 rfl) ?_
                      exact KT_iret (dk dtk_X0_operate 67 rfl) rfl rfl h
                    · have h := h.2
                      by_cases c21 : l1 = 19
                      · have h := h.1 c21
                        refine T_lookup 201 202 (dk dtk_X0_operate 1 rfl) (by decide +kernel) (by rw [c21]; decide +kernel) (by decide) ?_
                        refine T_iload_n 2 (dk dtk_X0_operate 68 rfl) rfl rfl ?_
                        refine T_iload_n 3 (dk dtk_X0_operate 69 rfl) rfl rfl ?_
                        refine T_imul (dk dtk_X0_operate 70 rfl) ?_
                        exact KT_iret (dk dtk_X0_operate 71 rfl) rfl rfl h
                      · have h := h.2
                        have n22 : ∀ k ∈ [(60 : Int32), (42 : Int32), (11 : Int32), (12 : Int32), (13 : Int32), (14 : Int32), (15 : Int32), (16 : Int32), (17 : Int32), (18 : Int32), (19 : Int32)], ¬ l1 = k := (gno c1 (gno c4 (gno c7 (gno c9 (gno c11 (gno c13 (gno c15 (gno c17 (gno c19 (gno c20 (gno c21 gno0)))))))))))
                        have h := h n22
                        refine T_lookup 205 206 (dk dtk_X0_operate 1 rfl) (by decide +kernel) (glk_d [(60 : Int32), (42 : Int32), (11 : Int32), (12 : Int32), (13 : Int32), (14 : Int32), (15 : Int32), (16 : Int32), (17 : Int32), (18 : Int32), (19 : Int32)] (by decide +kernel) n22) (by decide) ?_
                        refine T_iload_n 3 (dk dtk_X0_operate 72 rfl) rfl rfl ?_
                        refine T_if_ne 217 (dk dtk_X0_operate 73 rfl) (by decide) (fun c23 => ?_) (fun c23 => ?_)
                        · have h := h.1 c23
                          refine T_iload_n 1 (dk dtk_X0_operate 79 rfl) rfl rfl ?_
                          refine T_bipush (v := 20) (dk dtk_X0_operate 80 rfl) (by decide +kernel) ?_
                          refine T_icmp_ne 229 (dk dtk_X0_operate 81 rfl) (by decide) (fun c24 => ?_) (fun c24 => ?_)
                          · have h := h.1 c24
                            refine T_iload_n 2 (dk dtk_X0_operate 86 rfl) rfl rfl ?_
                            refine T_iload_n 3 (dk dtk_X0_operate 87 rfl) rfl rfl ?_
                            obtain ⟨h25, h⟩ := h
                            refine T_irem (dk dtk_X0_operate 88 rfl) h25 ?_
                            exact KT_iret (dk dtk_X0_operate 89 rfl) rfl rfl h
                          · have h := h.2 c24
                            refine T_iload_n 2 (dk dtk_X0_operate 82 rfl) rfl rfl ?_
                            refine T_iload_n 3 (dk dtk_X0_operate 83 rfl) rfl rfl ?_
                            obtain ⟨h26, h⟩ := h
                            refine T_idiv (dk dtk_X0_operate 84 rfl) h26 ?_
                            refine T_goto 232 (dk dtk_X0_operate 85 rfl) (by decide) ?_
                            exact KT_iret (dk dtk_X0_operate 89 rfl) rfl rfl h
                        · have h := h.2 c23
                          refine T_aload_n 0 (dk dtk_X0_operate 74 rfl) rfl rfl ?_
                          refine T_iconst (v := 1) (dk dtk_X0_operate 75 rfl) (by decide +kernel) ?_
                          obtain ⟨x27, ex27⟩ : ∃ z, z = si x 60 5 1 := ⟨_, rfl⟩
                          have h := h x27 ex27
                          refine T_putI 60 5 (dk dtk_X0_operate 76 rfl) kfl_X0_74 kk_60 (kl_60 hq) (by decide) rfl ⟨rfl, rfl⟩ ?_
                          rw [← ex27]
                          refine T_iconst (v := 0) (dk dtk_X0_operate 77 rfl) (by decide +kernel) ?_
                          exact KT_iret (dk dtk_X0_operate 78 rfl) rfl rfl h
set_option maxRecDepth 100000 in
theorem dtk_X7_tokenHere : dck cX7_tokenHere [(0, .aload_n 0, 1), (1, .getfield 52, 3), (4, .ireturn, 1)] = true := by decide +kernel
set_option maxRecDepth 100000 in
set_option maxHeartbeats 4000000 in
theorem kg_X7_tokenHere_0 {G : kG} {q : kP} {d : Nat} {x : gd} {P : Option gv → gd → Prop} (hq : kV q) 
    (h : P (some (vi (x.1 100 4))) x) :
    KT G q d zk_X7_tokenHere 0 [(0, vr 100)] [] x P := by
  refine T_aload_n 0 (dk dtk_X7_tokenHere 0 rfl) rfl rfl ?_
  refine T_getI 100 4 (dk dtk_X7_tokenHere 1 rfl) kfl_X7_52 kk_100 (kl_100 hq) (by decide) rfl ?_
  exact KT_iret (dk dtk_X7_tokenHere 2 rfl) rfl rfl h
set_option maxRecDepth 100000 in
theorem dtk_X7_readAll : dck cX7_readAll [(0, .aload_n 0, 1), (1, .getfield 15, 3), (4, .invokevirtual 56, 3), (7, .aload_n 0, 1), (8, .getfield 19, 3), (11, .invokevirtual 61, 3), (14, .aload_n 0, 1), (15, .iconst 0, 1), (16, .putfield 52, 3), (19, .aload_n 0, 1), (20, .iconst 0, 1), (21, .putfield 62, 3), (24, .aload_n 0, 1), (25, .iconst 0, 1), (26, .putfield 65, 3), (29, .iconst 0, 1), (30, .istore_n 1, 1), (31, .iload_n 1, 1), (32, .sipush 700, 3), (35, .if_icmp .gt 57, 3), (38, .aload_n 0, 1), (39, .getfield 65, 3), (42, .ifCond .ne 10, 3), (45, .aload_n 0, 1), (46, .invokevirtual 71, 3), (49, .ifCond .eq 43, 3), (52, .aload_n 0, 1), (53, .getfield 65, 3), (56, .ifCond .ne 10, 3), (59, .aload_n 0, 1), (60, .invokevirtual 75, 3), (63, .goto 23, 3), (66, .aload_n 0, 1), (67, .invokevirtual 71, 3), (70, .bipush 24, 2), (72, .if_icmp .ne 10, 3), (75, .aload_n 0, 1), (76, .invokevirtual 78, 3), (79, .goto 7, 3), (82, .aload_n 0, 1), (83, .invokevirtual 81, 3), (86, .iinc 1 1, 3), (89, .goto (-58), 3), (92, .return_, 1)] = true := by decide +kernel
set_option maxRecDepth 100000 in
set_option maxHeartbeats 4000000 in
theorem kg_X7_readAll_0 {G : kG} {q : kP} {d : Nat} {x : gd} {P : Option gv → gd → Prop} {X : String → gd → Prop} (hq : kV q) 
    (h : KT G q (d + 6) zk_X6_clear 0 [(0, vr 40)] [] x (rv (fun x1 => KT G q (d + 6) zk_X0_clear 0 [(0, vr 60)] [] x1 (rv (fun x2 => (∀ x3 : gd, x3 = si x2 100 4 0 → (∀ x4 : gd, x4 = si x3 100 6 0 → (∀ x5 : gd, x5 = si x4 100 5 0 → KE G q (d + 7) zk_X7_readAll 31 [(0, vr 100), (1, vi 0)] [] x5 P X)))))))) :
    KE G q (d + 7) zk_X7_readAll 0 [(0, vr 100)] [] x P X := by
  refine T_aload_n 0 (dk dtk_X7_readAll 0 rfl) rfl rfl ?_
  refine T_getR 100 1 40 (dk dtk_X7_readAll 1 rfl) kfl_X7_15 kk_100 (kl_100 hq) (by decide) rfl kr_100_1 ?_
  refine KC_Vv [] [] rfl (dk dtk_X7_readAll 2 rfl) kcv_X7_56 rfl kk_40 rfl (kl_40 hq) (Nat.le_of_ble_eq_true rfl) (Nat.le_of_ble_eq_true rfl) (gok_i (av_c (gkr (kl_100 hq)) av_n) as_n) rfl h (fun x1 h => ?_)
  refine T_aload_n 0 (dk dtk_X7_readAll 3 rfl) rfl rfl ?_
  refine T_getR 100 2 60 (dk dtk_X7_readAll 4 rfl) kfl_X7_19 kk_100 (kl_100 hq) (by decide) rfl kr_100_2 ?_
  refine KC_Vv [] [] rfl (dk dtk_X7_readAll 5 rfl) kcv_X7_61 rfl kk_60 rfl (kl_60 hq) (Nat.le_of_ble_eq_true rfl) (Nat.le_of_ble_eq_true rfl) (gok_i (av_c (gkr (kl_100 hq)) av_n) as_n) rfl h (fun x2 h => ?_)
  refine T_aload_n 0 (dk dtk_X7_readAll 6 rfl) rfl rfl ?_
  refine T_iconst (v := 0) (dk dtk_X7_readAll 7 rfl) (by decide +kernel) ?_
  obtain ⟨x3, ex3⟩ : ∃ z, z = si x2 100 4 0 := ⟨_, rfl⟩
  have h := h x3 ex3
  refine T_putI 100 4 (dk dtk_X7_readAll 8 rfl) kfl_X7_52 kk_100 (kl_100 hq) (by decide) rfl ⟨rfl, rfl⟩ ?_
  rw [← ex3]
  refine T_aload_n 0 (dk dtk_X7_readAll 9 rfl) rfl rfl ?_
  refine T_iconst (v := 0) (dk dtk_X7_readAll 10 rfl) (by decide +kernel) ?_
  obtain ⟨x4, ex4⟩ : ∃ z, z = si x3 100 6 0 := ⟨_, rfl⟩
  have h := h x4 ex4
  refine T_putI 100 6 (dk dtk_X7_readAll 11 rfl) kfl_X7_62 kk_100 (kl_100 hq) (by decide) rfl ⟨rfl, rfl⟩ ?_
  rw [← ex4]
  refine T_aload_n 0 (dk dtk_X7_readAll 12 rfl) rfl rfl ?_
  refine T_iconst (v := 0) (dk dtk_X7_readAll 13 rfl) (by decide +kernel) ?_
  obtain ⟨x5, ex5⟩ : ∃ z, z = si x4 100 5 0 := ⟨_, rfl⟩
  have h := h x5 ex5
  refine T_putI 100 5 (dk dtk_X7_readAll 14 rfl) kfl_X7_65 kk_100 (kl_100 hq) (by decide) rfl ⟨rfl, rfl⟩ ?_
  rw [← ex5]
  refine T_iconst (v := 0) (dk dtk_X7_readAll 15 rfl) (by decide +kernel) ?_
  refine T_istore_n (lv2 := [(1, vi 0), (0, vr 100)]) (dk dtk_X7_readAll 16 rfl) rfl (by decide) rfl ?_
  exact T_sub [1, 0] rfl h
set_option maxRecDepth 100000 in
set_option maxHeartbeats 4000000 in
theorem kg_X7_readAll_31 {G : kG} {q : kP} {d : Nat} {x : gd} {P : Option gv → gd → Prop} {X : String → gd → Prop} (hq : kV q) (l1 : Int32)
    (h : (((700 : Int32) < l1 → P none x) ∧ (¬ ((700 : Int32) < l1) → ((¬ ((x.1 100 5) = (0 : Int32)) → KE G q (d + 7) zk_X7_readAll 52 [(0, vr 100), (1, vi l1)] [] x P X) ∧ ((x.1 100 5) = (0 : Int32) → KT G q (d + 6) zk_X7_sort 0 [(0, vr 100)] [] x (ri (fun r4 x3 => ((r4 = (0 : Int32) → P none x3) ∧ (¬ (r4 = (0 : Int32)) → KE G q (d + 7) zk_X7_readAll 52 [(0, vr 100), (1, vi l1)] [] x3 P X))))))))) :
    KE G q (d + 7) zk_X7_readAll 31 [(0, vr 100), (1, vi l1)] [] x P X := by
  refine T_iload_n 1 (dk dtk_X7_readAll 17 rfl) rfl rfl ?_
  refine T_sipush (v := 700) (dk dtk_X7_readAll 18 rfl) (by decide +kernel) ?_
  refine T_icmp_gt 92 (dk dtk_X7_readAll 19 rfl) (by decide) (fun c1 => ?_) (fun c1 => ?_)
  · have h := h.1 c1
    exact KE_vret (dk dtk_X7_readAll 43 rfl) rfl h
  · have h := h.2 c1
    refine T_aload_n 0 (dk dtk_X7_readAll 20 rfl) rfl rfl ?_
    refine T_getI 100 5 (dk dtk_X7_readAll 21 rfl) kfl_X7_65 kk_100 (kl_100 hq) (by decide) rfl ?_
    refine T_if_ne 52 (dk dtk_X7_readAll 22 rfl) (by decide) (fun c2 => ?_) (fun c2 => ?_)
    · have h := h.1 c2
      exact h
    · have h := h.2 c2
      refine T_aload_n 0 (dk dtk_X7_readAll 23 rfl) rfl rfl ?_
      refine KC_Vi [] [] rfl (dk dtk_X7_readAll 24 rfl) kcv_X7_71 rfl kk_100 rfl (kl_100 hq) (Nat.le_of_ble_eq_true rfl) (Nat.le_of_ble_eq_true rfl) (gok_i (av_c (gkr (kl_100 hq)) (av_c rfl av_n)) as_n) rfl h (fun r4 x3 h => ?_)
      refine T_if_eq 92 (dk dtk_X7_readAll 25 rfl) (by decide) (fun c5 => ?_) (fun c5 => ?_)
      · have h := h.1 c5
        exact KE_vret (dk dtk_X7_readAll 43 rfl) rfl h
      · have h := h.2 c5
        exact h
set_option maxRecDepth 100000 in
set_option maxHeartbeats 4000000 in
theorem kg_X7_readAll_52 {G : kG} {q : kP} {d : Nat} {x : gd} {P : Option gv → gd → Prop} {X : String → gd → Prop} (hq : kV q) (l1 : Int32)
    (h : ((¬ ((x.1 100 5) = (0 : Int32)) → KT G q (d + 6) zk_X7_sort 0 [(0, vr 100)] [] x (ri (fun r3 x2 => ((¬ (r3 = (24 : Int32)) → KE G q (d + 6) zk_X7_statement 0 [(0, vr 100)] [] x2 (rv (fun x5 => KE G q (d + 7) zk_X7_readAll 31 [(0, vr 100), (1, vi (l1 + 1))] [] x5 P X)) X) ∧ (r3 = (24 : Int32) → KE G q (d + 6) zk_X7_closeBlock 0 [(0, vr 100)] [] x2 (rv (fun x6 => KE G q (d + 7) zk_X7_readAll 31 [(0, vr 100), (1, vi (l1 + 1))] [] x6 P X)) X))))) ∧ ((x.1 100 5) = (0 : Int32) → KE G q (d + 6) zk_X7_definition 0 [(0, vr 100)] [] x (rv (fun x7 => KE G q (d + 7) zk_X7_readAll 31 [(0, vr 100), (1, vi (l1 + 1))] [] x7 P X)) X))) :
    KE G q (d + 7) zk_X7_readAll 52 [(0, vr 100), (1, vi l1)] [] x P X := by
  refine T_aload_n 0 (dk dtk_X7_readAll 26 rfl) rfl rfl ?_
  refine T_getI 100 5 (dk dtk_X7_readAll 27 rfl) kfl_X7_65 kk_100 (kl_100 hq) (by decide) rfl ?_
  refine T_if_ne 66 (dk dtk_X7_readAll 28 rfl) (by decide) (fun c1 => ?_) (fun c1 => ?_)
  · have h := h.1 c1
    refine T_aload_n 0 (dk dtk_X7_readAll 32 rfl) rfl rfl ?_
    refine KC_Vi [] [] rfl (dk dtk_X7_readAll 33 rfl) kcv_X7_71 rfl kk_100 rfl (kl_100 hq) (Nat.le_of_ble_eq_true rfl) (Nat.le_of_ble_eq_true rfl) (gok_i (av_c (gkr (kl_100 hq)) (av_c rfl av_n)) as_n) rfl h (fun r3 x2 h => ?_)
    refine T_bipush (v := 24) (dk dtk_X7_readAll 34 rfl) (by decide +kernel) ?_
    refine T_icmp_ne 82 (dk dtk_X7_readAll 35 rfl) (by decide) (fun c4 => ?_) (fun c4 => ?_)
    · have h := h.1 c4
      refine T_aload_n 0 (dk dtk_X7_readAll 39 rfl) rfl rfl ?_
      refine KD_Vv [] [] rfl (dk dtk_X7_readAll 40 rfl) kcv_X7_81 rfl kk_100 rfl (kl_100 hq) (Nat.le_of_ble_eq_true rfl) (Nat.le_of_ble_eq_true rfl) (gok_i (av_c (gkr (kl_100 hq)) (av_c rfl av_n)) as_n) rfl h (fun x5 h => ?_)
      refine T_iinc (v := l1 + 1) (lv2 := [(1, vi (l1 + 1)), (0, vr 100)]) 1 (dk dtk_X7_readAll 41 rfl) rfl rfl (by decide) rfl ?_
      refine T_goto 31 (dk dtk_X7_readAll 42 rfl) (by decide) ?_
      exact T_sub [1, 0] rfl h
    · have h := h.2 c4
      refine T_aload_n 0 (dk dtk_X7_readAll 36 rfl) rfl rfl ?_
      refine KD_Vv [] [] rfl (dk dtk_X7_readAll 37 rfl) kcv_X7_78 rfl kk_100 rfl (kl_100 hq) (Nat.le_of_ble_eq_true rfl) (Nat.le_of_ble_eq_true rfl) (gok_i (av_c (gkr (kl_100 hq)) (av_c rfl av_n)) as_n) rfl h (fun x6 h => ?_)
      refine T_goto 86 (dk dtk_X7_readAll 38 rfl) (by decide) ?_
      refine T_iinc (v := l1 + 1) (lv2 := [(1, vi (l1 + 1)), (0, vr 100)]) 1 (dk dtk_X7_readAll 41 rfl) rfl rfl (by decide) rfl ?_
      refine T_goto 31 (dk dtk_X7_readAll 42 rfl) (by decide) ?_
      exact T_sub [1, 0] rfl h
  · have h := h.2 c1
    refine T_aload_n 0 (dk dtk_X7_readAll 29 rfl) rfl rfl ?_
    refine KD_Vv [] [] rfl (dk dtk_X7_readAll 30 rfl) kcv_X7_75 rfl kk_100 rfl (kl_100 hq) (Nat.le_of_ble_eq_true rfl) (Nat.le_of_ble_eq_true rfl) (gok_i (av_c (gkr (kl_100 hq)) (av_c rfl av_n)) as_n) rfl h (fun x7 h => ?_)
    refine T_goto 86 (dk dtk_X7_readAll 31 rfl) (by decide) ?_
    refine T_iinc (v := l1 + 1) (lv2 := [(1, vi (l1 + 1)), (0, vr 100)]) 1 (dk dtk_X7_readAll 41 rfl) rfl rfl (by decide) rfl ?_
    refine T_goto 31 (dk dtk_X7_readAll 42 rfl) (by decide) ?_
    exact T_sub [1, 0] rfl h
set_option maxRecDepth 100000 in
theorem dtk_X7_definition : dck cX7_definition [(0, .aload_n 0, 1), (1, .invokevirtual 71, 3), (4, .lookupswitch 96 #[(41, 89), (47, 68), (51, 89), (53, 82), (57, 75), (64, 68), (67, 82)], 68), (72, .aload_n 0, 1), (73, .invokevirtual 84, 3), (76, .goto 29, 3), (79, .aload_n 0, 1), (80, .invokevirtual 87, 3), (83, .goto 22, 3), (86, .aload_n 0, 1), (87, .invokevirtual 90, 3), (90, .goto 15, 3), (93, .aload_n 0, 1), (94, .invokevirtual 93, 3), (97, .goto 8, 3), (100, .aload_n 0, 1), (101, .iconst 2, 1), (102, .invokevirtual 96, 3), (105, .return_, 1)] = true := by decide +kernel
set_option maxRecDepth 100000 in
set_option maxHeartbeats 4000000 in
theorem kg_X7_definition_0 {G : kG} {q : kP} {d : Nat} {x : gd} {P : Option gv → gd → Prop} {X : String → gd → Prop} (hq : kV q) 
    (h : KT G q (d + 6) zk_X7_sort 0 [(0, vr 100)] [] x (ri (fun r2 x1 => (((r2 = 47 ∨ r2 = 64) → KE G q (d + 6) zk_X7_cellDefinition 0 [(0, vr 100)] [] x1 (rv (fun x4 => P none x4)) X) ∧ ((r2 = 57) → KE G q (d + 6) zk_X7_lockDefinition 0 [(0, vr 100)] [] x1 (rv (fun x6 => P none x6)) X) ∧ ((r2 = 53 ∨ r2 = 67) → KE G q (d + 6) zk_X7_beginThread 0 [(0, vr 100)] [] x1 (rv (fun x8 => P none x8)) X) ∧ ((r2 = 41 ∨ r2 = 51) → KE G q (d + 6) zk_X7_claim 0 [(0, vr 100)] [] x1 (rv (fun x10 => P none x10)) X) ∧ ((∀ k ∈ [(47 : Int32), (64 : Int32), (57 : Int32), (53 : Int32), (67 : Int32), (41 : Int32), (51 : Int32)], ¬ r2 = k) → KE G q (d + 6) zk_X7_refuse 0 [(0, vr 100), (1, vi 2)] [] x1 (rv (fun x12 => P none x12)) X))))) :
    KE G q (d + 7) zk_X7_definition 0 [(0, vr 100)] [] x P X := by
  refine T_aload_n 0 (dk dtk_X7_definition 0 rfl) rfl rfl ?_
  refine KC_Vi [] [] rfl (dk dtk_X7_definition 1 rfl) kcv_X7_71 rfl kk_100 rfl (kl_100 hq) (Nat.le_of_ble_eq_true rfl) (Nat.le_of_ble_eq_true rfl) (gok_i (av_c (gkr (kl_100 hq)) av_n) as_n) rfl h (fun r2 x1 h => ?_)
  by_cases c3 : r2 = 47 ∨ r2 = 64
  · have h := h.1 c3
    refine T_lookup 68 72 (dk dtk_X7_definition 2 rfl) (by decide +kernel) (by rcases c3 with q9 | q9 <;> rw [q9] <;> decide +kernel) (by decide) ?_
    refine T_aload_n 0 (dk dtk_X7_definition 3 rfl) rfl rfl ?_
    refine T_sub (lv2 := []) [] rfl ?_
    refine KD_Vv [] [] rfl (dk dtk_X7_definition 4 rfl) kcv_X7_84 rfl kk_100 rfl (kl_100 hq) (Nat.le_of_ble_eq_true rfl) (Nat.le_of_ble_eq_true rfl) (gok_i av_n as_n) rfl h (fun x4 h => ?_)
    refine T_goto 105 (dk dtk_X7_definition 5 rfl) (by decide) ?_
    exact KE_vret (dk dtk_X7_definition 18 rfl) rfl h
  · have h := h.2
    by_cases c5 : r2 = 57
    · have h := h.1 c5
      refine T_lookup 75 79 (dk dtk_X7_definition 2 rfl) (by decide +kernel) (by rw [c5]; decide +kernel) (by decide) ?_
      refine T_aload_n 0 (dk dtk_X7_definition 6 rfl) rfl rfl ?_
      refine T_sub (lv2 := []) [] rfl ?_
      refine KD_Vv [] [] rfl (dk dtk_X7_definition 7 rfl) kcv_X7_87 rfl kk_100 rfl (kl_100 hq) (Nat.le_of_ble_eq_true rfl) (Nat.le_of_ble_eq_true rfl) (gok_i av_n as_n) rfl h (fun x6 h => ?_)
      refine T_goto 105 (dk dtk_X7_definition 8 rfl) (by decide) ?_
      exact KE_vret (dk dtk_X7_definition 18 rfl) rfl h
    · have h := h.2
      by_cases c7 : r2 = 53 ∨ r2 = 67
      · have h := h.1 c7
        refine T_lookup 82 86 (dk dtk_X7_definition 2 rfl) (by decide +kernel) (by rcases c7 with q9 | q9 <;> rw [q9] <;> decide +kernel) (by decide) ?_
        refine T_aload_n 0 (dk dtk_X7_definition 9 rfl) rfl rfl ?_
        refine T_sub (lv2 := []) [] rfl ?_
        refine KD_Vv [] [] rfl (dk dtk_X7_definition 10 rfl) kcv_X7_90 rfl kk_100 rfl (kl_100 hq) (Nat.le_of_ble_eq_true rfl) (Nat.le_of_ble_eq_true rfl) (gok_i av_n as_n) rfl h (fun x8 h => ?_)
        refine T_goto 105 (dk dtk_X7_definition 11 rfl) (by decide) ?_
        exact KE_vret (dk dtk_X7_definition 18 rfl) rfl h
      · have h := h.2
        by_cases c9 : r2 = 41 ∨ r2 = 51
        · have h := h.1 c9
          refine T_lookup 89 93 (dk dtk_X7_definition 2 rfl) (by decide +kernel) (by rcases c9 with q9 | q9 <;> rw [q9] <;> decide +kernel) (by decide) ?_
          refine T_aload_n 0 (dk dtk_X7_definition 12 rfl) rfl rfl ?_
          refine T_sub (lv2 := []) [] rfl ?_
          refine KD_Vv [] [] rfl (dk dtk_X7_definition 13 rfl) kcv_X7_93 rfl kk_100 rfl (kl_100 hq) (Nat.le_of_ble_eq_true rfl) (Nat.le_of_ble_eq_true rfl) (gok_i av_n as_n) rfl h (fun x10 h => ?_)
          refine T_goto 105 (dk dtk_X7_definition 14 rfl) (by decide) ?_
          exact KE_vret (dk dtk_X7_definition 18 rfl) rfl h
        · have h := h.2
          have n11 : ∀ k ∈ [(47 : Int32), (64 : Int32), (57 : Int32), (53 : Int32), (67 : Int32), (41 : Int32), (51 : Int32)], ¬ r2 = k := (gno (fun q9 => c3 (Or.inl q9)) (gno (fun q9 => c3 (Or.inr (q9))) (gno c5 (gno (fun q9 => c7 (Or.inl q9)) (gno (fun q9 => c7 (Or.inr (q9))) (gno (fun q9 => c9 (Or.inl q9)) (gno (fun q9 => c9 (Or.inr (q9))) gno0)))))))
          have h := h n11
          refine T_lookup 96 100 (dk dtk_X7_definition 2 rfl) (by decide +kernel) (glk_d [(47 : Int32), (64 : Int32), (57 : Int32), (53 : Int32), (67 : Int32), (41 : Int32), (51 : Int32)] (by decide +kernel) n11) (by decide) ?_
          refine T_aload_n 0 (dk dtk_X7_definition 15 rfl) rfl rfl ?_
          refine T_iconst (v := 2) (dk dtk_X7_definition 16 rfl) (by decide +kernel) ?_
          refine T_sub (lv2 := []) [] rfl ?_
          refine KD_Vv [vi 2] [] rfl (dk dtk_X7_definition 17 rfl) kcv_X7_96 rfl kk_100 rfl (kl_100 hq) (Nat.le_of_ble_eq_true rfl) (Nat.le_of_ble_eq_true rfl) (gok_i av_n as_n) rfl h (fun x12 h => ?_)
          exact KE_vret (dk dtk_X7_definition 18 rfl) rfl h
set_option maxRecDepth 100000 in
theorem dtk_X7_sort : dck cX7_sort [(0, .aload_n 0, 1), (1, .getfield 11, 3), (4, .getfield 100, 3), (7, .aload_n 0, 1), (8, .getfield 52, 3), (11, .iaload, 1), (12, .ireturn, 1)] = true := by decide +kernel
set_option maxRecDepth 100000 in
set_option maxHeartbeats 4000000 in
theorem kg_X7_sort_0 {G : kG} {q : kP} {d : Nat} {x : gd} {P : Option gv → gd → Prop} (hq : kV q) 
    (h : vp_in (x.1 100 4) 702 ∧ P (some (vi (x.1 23 (x.1 100 4 : Int32).toNatClampNeg))) x) :
    KT G q d zk_X7_sort 0 [(0, vr 100)] [] x P := by
  refine T_aload_n 0 (dk dtk_X7_sort 0 rfl) rfl rfl ?_
  refine T_getR 100 0 20 (dk dtk_X7_sort 1 rfl) kfl_X7_11 kk_100 (kl_100 hq) (by decide) rfl kr_100_0 ?_
  refine T_getR 20 2 23 (dk dtk_X7_sort 2 rfl) kfl_X7_100 kk_20 (kl_20 hq) (by decide) rfl kr_20_2 ?_
  refine T_aload_n 0 (dk dtk_X7_sort 3 rfl) rfl rfl ?_
  refine T_getI 100 4 (dk dtk_X7_sort 4 rfl) kfl_X7_52 kk_100 (kl_100 hq) (by decide) rfl ?_
  obtain ⟨h1, h⟩ := h
  refine T_iald 23 702 (dk dtk_X7_sort 5 rfl) kk_23 (kl_23 hq) h1 ?_
  exact KT_iret (dk dtk_X7_sort 6 rfl) rfl rfl h
set_option maxRecDepth 100000 in
theorem dtk_X7_sortBehind : dck cX7_sortBehind [(0, .aload_n 0, 1), (1, .getfield 11, 3), (4, .getfield 100, 3), (7, .aload_n 0, 1), (8, .getfield 52, 3), (11, .iconst 1, 1), (12, .iadd, 1), (13, .iaload, 1), (14, .ireturn, 1)] = true := by decide +kernel
set_option maxRecDepth 100000 in
set_option maxHeartbeats 4000000 in
theorem kg_X7_sortBehind_0 {G : kG} {q : kP} {d : Nat} {x : gd} {P : Option gv → gd → Prop} (hq : kV q) 
    (h : vp_in ((x.1 100 4) + 1) 702 ∧ P (some (vi (x.1 23 ((x.1 100 4) + 1 : Int32).toNatClampNeg))) x) :
    KT G q d zk_X7_sortBehind 0 [(0, vr 100)] [] x P := by
  refine T_aload_n 0 (dk dtk_X7_sortBehind 0 rfl) rfl rfl ?_
  refine T_getR 100 0 20 (dk dtk_X7_sortBehind 1 rfl) kfl_X7_11 kk_100 (kl_100 hq) (by decide) rfl kr_100_0 ?_
  refine T_getR 20 2 23 (dk dtk_X7_sortBehind 2 rfl) kfl_X7_100 kk_20 (kl_20 hq) (by decide) rfl kr_20_2 ?_
  refine T_aload_n 0 (dk dtk_X7_sortBehind 3 rfl) rfl rfl ?_
  refine T_getI 100 4 (dk dtk_X7_sortBehind 4 rfl) kfl_X7_52 kk_100 (kl_100 hq) (by decide) rfl ?_
  refine T_iconst (v := 1) (dk dtk_X7_sortBehind 5 rfl) (by decide +kernel) ?_
  refine T_iadd (dk dtk_X7_sortBehind 6 rfl) ?_
  obtain ⟨h1, h⟩ := h
  refine T_iald 23 702 (dk dtk_X7_sortBehind 7 rfl) kk_23 (kl_23 hq) h1 ?_
  exact KT_iret (dk dtk_X7_sortBehind 8 rfl) rfl rfl h
set_option maxRecDepth 100000 in
theorem dtk_X7_refuse : dck cX7_refuse [(0, .aload_n 0, 1), (1, .aload_n 0, 1), (2, .getfield 11, 3), (5, .getfield 100, 3), (8, .aload_n 0, 1), (9, .getfield 52, 3), (12, .iaload, 1), (13, .iconst 1, 1), (14, .if_icmp .ne 7, 3), (17, .iconst 1, 1), (18, .goto 4, 3), (21, .iload_n 1, 1), (22, .putfield 62, 3), (25, .new 102, 3), (28, .dup, 1), (29, .ldc 104, 2), (31, .invokespecial 106, 3), (34, .athrow, 1)] = true := by decide +kernel
set_option maxRecDepth 100000 in
set_option maxHeartbeats 4000000 in
theorem kg_X7_refuse_0 {G : kG} {q : kP} {d : Nat} {x : gd} {P : Option gv → gd → Prop} {X : String → gd → Prop} (hq : kV q) (l1 : Int32)
    (h : vp_in (x.1 100 4) 702 ∧ ((¬ ((x.1 23 (x.1 100 4 : Int32).toNatClampNeg) = (1 : Int32)) → KE G q (d + 6) zk_X7_refuse 22 [] [vi l1, vr 100] x P X) ∧ ((x.1 23 (x.1 100 4 : Int32).toNatClampNeg) = (1 : Int32) → KE G q (d + 6) zk_X7_refuse 22 [] [vi 1, vr 100] x P X))) :
    KE G q (d + 6) zk_X7_refuse 0 [(0, vr 100), (1, vi l1)] [] x P X := by
  refine T_aload_n 0 (dk dtk_X7_refuse 0 rfl) rfl rfl ?_
  refine T_aload_n 0 (dk dtk_X7_refuse 1 rfl) rfl rfl ?_
  refine T_getR 100 0 20 (dk dtk_X7_refuse 2 rfl) kfl_X7_11 kk_100 (kl_100 hq) (by decide) rfl kr_100_0 ?_
  refine T_getR 20 2 23 (dk dtk_X7_refuse 3 rfl) kfl_X7_100 kk_20 (kl_20 hq) (by decide) rfl kr_20_2 ?_
  refine T_aload_n 0 (dk dtk_X7_refuse 4 rfl) rfl rfl ?_
  refine T_getI 100 4 (dk dtk_X7_refuse 5 rfl) kfl_X7_52 kk_100 (kl_100 hq) (by decide) rfl ?_
  obtain ⟨h1, h⟩ := h
  refine T_iald 23 702 (dk dtk_X7_refuse 6 rfl) kk_23 (kl_23 hq) h1 ?_
  refine T_iconst (v := 1) (dk dtk_X7_refuse 7 rfl) (by decide +kernel) ?_
  refine T_icmp_ne 21 (dk dtk_X7_refuse 8 rfl) (by decide) (fun c2 => ?_) (fun c2 => ?_)
  · have h := h.1 c2
    refine T_iload_n 1 (dk dtk_X7_refuse 11 rfl) rfl rfl ?_
    exact T_sub [] rfl h
  · have h := h.2 c2
    refine T_iconst (v := 1) (dk dtk_X7_refuse 9 rfl) (by decide +kernel) ?_
    refine T_goto 22 (dk dtk_X7_refuse 10 rfl) (by decide) ?_
    exact T_sub [] rfl h
set_option maxRecDepth 100000 in
set_option maxHeartbeats 4000000 in
theorem kg_X7_refuse_22 {G : kG} {q : kP} {d : Nat} {x : gd} {P : Option gv → gd → Prop} {X : String → gd → Prop} (hq : kV q) (s0 : Int32)
    (h : (∀ x1 : gd, x1 = si x 100 6 s0 → X iSE x1)) :
    KE G q (d + 6) zk_X7_refuse 22 [] [vi s0, vr 100] x P X := by
  obtain ⟨x1, ex1⟩ : ∃ z, z = si x 100 6 s0 := ⟨_, rfl⟩
  have h := h x1 ex1
  refine T_putI 100 6 (dk dtk_X7_refuse 12 rfl) kfl_X7_62 kk_100 (kl_100 hq) (by decide) rfl ⟨rfl, rfl⟩ ?_
  rw [← ex1]
  exact T_thr kth_X7_102_104 (dk dtk_X7_refuse 13 rfl) (dk dtk_X7_refuse 14 rfl) (dk dtk_X7_refuse 15 rfl) (dk dtk_X7_refuse 16 rfl) (dk dtk_X7_refuse 17 rfl) (by intro z hz; cases hz) (by omega) (Nat.le_of_ble_eq_true rfl) (Or.inr ⟨rfl, _, rfl, h⟩)
set_option maxRecDepth 100000 in
theorem dtk_X7_pass : dck cX7_pass [(0, .aload_n 0, 1), (1, .getfield 52, 3), (4, .sipush 700, 3), (7, .if_icmp .lt 8, 3), (10, .aload_n 0, 1), (11, .iconst 3, 1), (12, .invokevirtual 96, 3), (15, .aload_n 0, 1), (16, .dup, 1), (17, .getfield 52, 3), (20, .iconst 1, 1), (21, .iadd, 1), (22, .putfield 52, 3), (25, .return_, 1)] = true := by decide +kernel
set_option maxRecDepth 100000 in
set_option maxHeartbeats 4000000 in
theorem kg_X7_pass_0 {G : kG} {q : kP} {d : Nat} {x : gd} {P : Option gv → gd → Prop} {X : String → gd → Prop} (hq : kV q) 
    (h : (((x.1 100 4) < (700 : Int32) → (∀ x2 : gd, x2 = si x 100 4 ((x.1 100 4) + 1) → P none x2)) ∧ (¬ ((x.1 100 4) < (700 : Int32)) → KE G q (d + 6) zk_X7_refuse 0 [(0, vr 100), (1, vi 3)] [] x (rv (fun x3 => (∀ x4 : gd, x4 = si x3 100 4 ((x3.1 100 4) + 1) → P none x4))) X))) :
    KE G q (d + 7) zk_X7_pass 0 [(0, vr 100)] [] x P X := by
  refine T_aload_n 0 (dk dtk_X7_pass 0 rfl) rfl rfl ?_
  refine T_getI 100 4 (dk dtk_X7_pass 1 rfl) kfl_X7_52 kk_100 (kl_100 hq) (by decide) rfl ?_
  refine T_sipush (v := 700) (dk dtk_X7_pass 2 rfl) (by decide +kernel) ?_
  refine T_icmp_lt 15 (dk dtk_X7_pass 3 rfl) (by decide) (fun c1 => ?_) (fun c1 => ?_)
  · have h := h.1 c1
    refine T_aload_n 0 (dk dtk_X7_pass 7 rfl) rfl rfl ?_
    refine T_dup (dk dtk_X7_pass 8 rfl) rfl ?_
    refine T_getI 100 4 (dk dtk_X7_pass 9 rfl) kfl_X7_52 kk_100 (kl_100 hq) (by decide) rfl ?_
    refine T_iconst (v := 1) (dk dtk_X7_pass 10 rfl) (by decide +kernel) ?_
    refine T_iadd (dk dtk_X7_pass 11 rfl) ?_
    obtain ⟨x2, ex2⟩ : ∃ z, z = si x 100 4 ((x.1 100 4) + 1) := ⟨_, rfl⟩
    have h := h x2 ex2
    refine T_putI 100 4 (dk dtk_X7_pass 12 rfl) kfl_X7_52 kk_100 (kl_100 hq) (by decide) rfl ⟨rfl, rfl⟩ ?_
    rw [← ex2]
    exact KE_vret (dk dtk_X7_pass 13 rfl) rfl h
  · have h := h.2 c1
    refine T_aload_n 0 (dk dtk_X7_pass 4 rfl) rfl rfl ?_
    refine T_iconst (v := 3) (dk dtk_X7_pass 5 rfl) (by decide +kernel) ?_
    refine KD_Vv [vi 3] [] rfl (dk dtk_X7_pass 6 rfl) kcv_X7_96 rfl kk_100 rfl (kl_100 hq) (Nat.le_of_ble_eq_true rfl) (Nat.le_of_ble_eq_true rfl) (gok_i (av_c (gkr (kl_100 hq)) av_n) as_n) rfl h (fun x3 h => ?_)
    refine T_aload_n 0 (dk dtk_X7_pass 7 rfl) rfl rfl ?_
    refine T_dup (dk dtk_X7_pass 8 rfl) rfl ?_
    refine T_getI 100 4 (dk dtk_X7_pass 9 rfl) kfl_X7_52 kk_100 (kl_100 hq) (by decide) rfl ?_
    refine T_iconst (v := 1) (dk dtk_X7_pass 10 rfl) (by decide +kernel) ?_
    refine T_iadd (dk dtk_X7_pass 11 rfl) ?_
    obtain ⟨x4, ex4⟩ : ∃ z, z = si x3 100 4 ((x3.1 100 4) + 1) := ⟨_, rfl⟩
    have h := h x4 ex4
    refine T_putI 100 4 (dk dtk_X7_pass 12 rfl) kfl_X7_52 kk_100 (kl_100 hq) (by decide) rfl ⟨rfl, rfl⟩ ?_
    rw [← ex4]
    exact KE_vret (dk dtk_X7_pass 13 rfl) rfl h
end
section
set_option maxRecDepth 100000 in
theorem dtk_X7_need : dck cX7_need [(0, .aload_n 0, 1), (1, .invokevirtual 71, 3), (4, .iload_n 1, 1), (5, .if_icmp .ne 13, 3), (8, .aload_n 0, 1), (9, .getfield 52, 3), (12, .sipush 700, 3), (15, .if_icmp .lt 20, 3), (18, .aload_n 0, 1), (19, .aload_n 0, 1), (20, .invokevirtual 71, 3), (23, .iload_n 1, 1), (24, .if_icmp .eq 7, 3), (27, .iconst 2, 1), (28, .goto 4, 3), (31, .iconst 3, 1), (32, .invokevirtual 96, 3), (35, .aload_n 0, 1), (36, .dup, 1), (37, .getfield 52, 3), (40, .iconst 1, 1), (41, .iadd, 1), (42, .putfield 52, 3), (45, .return_, 1)] = true := by decide +kernel
set_option maxRecDepth 100000 in
set_option maxHeartbeats 4000000 in
theorem kg_X7_need_0 {G : kG} {q : kP} {d : Nat} {x : gd} {P : Option gv → gd → Prop} {X : String → gd → Prop} (hq : kV q) (l1 : Int32)
    (h : KT G q (d + 6) zk_X7_sort 0 [(0, vr 100)] [] x (ri (fun r2 x1 => ((¬ (r2 = l1) → KE G q (d + 7) zk_X7_need 18 [(0, vr 100), (1, vi l1)] [] x1 P X) ∧ (r2 = l1 → (((x1.1 100 4) < (700 : Int32) → (∀ x5 : gd, x5 = si x1 100 4 ((x1.1 100 4) + 1) → P none x5)) ∧ (¬ ((x1.1 100 4) < (700 : Int32)) → KE G q (d + 7) zk_X7_need 18 [(0, vr 100), (1, vi l1)] [] x1 P X))))))) :
    KE G q (d + 7) zk_X7_need 0 [(0, vr 100), (1, vi l1)] [] x P X := by
  refine T_aload_n 0 (dk dtk_X7_need 0 rfl) rfl rfl ?_
  refine KC_Vi [] [] rfl (dk dtk_X7_need 1 rfl) kcv_X7_71 rfl kk_100 rfl (kl_100 hq) (Nat.le_of_ble_eq_true rfl) (Nat.le_of_ble_eq_true rfl) (gok_i (av_c (gkr (kl_100 hq)) (av_c rfl av_n)) as_n) rfl h (fun r2 x1 h => ?_)
  refine T_iload_n 1 (dk dtk_X7_need 2 rfl) rfl rfl ?_
  refine T_icmp_ne 18 (dk dtk_X7_need 3 rfl) (by decide) (fun c3 => ?_) (fun c3 => ?_)
  · have h := h.1 c3
    exact h
  · have h := h.2 c3
    refine T_aload_n 0 (dk dtk_X7_need 4 rfl) rfl rfl ?_
    refine T_getI 100 4 (dk dtk_X7_need 5 rfl) kfl_X7_52 kk_100 (kl_100 hq) (by decide) rfl ?_
    refine T_sipush (v := 700) (dk dtk_X7_need 6 rfl) (by decide +kernel) ?_
    refine T_icmp_lt 35 (dk dtk_X7_need 7 rfl) (by decide) (fun c4 => ?_) (fun c4 => ?_)
    · have h := h.1 c4
      refine T_aload_n 0 (dk dtk_X7_need 17 rfl) rfl rfl ?_
      refine T_dup (dk dtk_X7_need 18 rfl) rfl ?_
      refine T_getI 100 4 (dk dtk_X7_need 19 rfl) kfl_X7_52 kk_100 (kl_100 hq) (by decide) rfl ?_
      refine T_iconst (v := 1) (dk dtk_X7_need 20 rfl) (by decide +kernel) ?_
      refine T_iadd (dk dtk_X7_need 21 rfl) ?_
      obtain ⟨x5, ex5⟩ : ∃ z, z = si x1 100 4 ((x1.1 100 4) + 1) := ⟨_, rfl⟩
      have h := h x5 ex5
      refine T_putI 100 4 (dk dtk_X7_need 22 rfl) kfl_X7_52 kk_100 (kl_100 hq) (by decide) rfl ⟨rfl, rfl⟩ ?_
      rw [← ex5]
      exact KE_vret (dk dtk_X7_need 23 rfl) rfl h
    · have h := h.2 c4
      exact h
set_option maxRecDepth 100000 in
set_option maxHeartbeats 4000000 in
theorem kg_X7_need_18 {G : kG} {q : kP} {d : Nat} {x : gd} {P : Option gv → gd → Prop} {X : String → gd → Prop} (hq : kV q) (l1 : Int32)
    (h : KT G q (d + 6) zk_X7_sort 0 [(0, vr 100)] [] x (ri (fun r2 x1 => ((r2 = l1 → KE G q (d + 7) zk_X7_need 32 [(0, vr 100)] [vi 3, vr 100] x1 P X) ∧ (¬ (r2 = l1) → KE G q (d + 7) zk_X7_need 32 [(0, vr 100)] [vi 2, vr 100] x1 P X))))) :
    KE G q (d + 7) zk_X7_need 18 [(0, vr 100), (1, vi l1)] [] x P X := by
  refine T_aload_n 0 (dk dtk_X7_need 8 rfl) rfl rfl ?_
  refine T_aload_n 0 (dk dtk_X7_need 9 rfl) rfl rfl ?_
  refine KC_Vi [] [vr 100] rfl (dk dtk_X7_need 10 rfl) kcv_X7_71 rfl kk_100 rfl (kl_100 hq) (Nat.le_of_ble_eq_true rfl) (Nat.le_of_ble_eq_true rfl) (gok_i (av_c (gkr (kl_100 hq)) (av_c rfl av_n)) (as_c (gkr (kl_100 hq)) as_n)) rfl h (fun r2 x1 h => ?_)
  refine T_iload_n 1 (dk dtk_X7_need 11 rfl) rfl rfl ?_
  refine T_icmp_eq 31 (dk dtk_X7_need 12 rfl) (by decide) (fun c3 => ?_) (fun c3 => ?_)
  · have h := h.1 c3
    refine T_iconst (v := 3) (dk dtk_X7_need 15 rfl) (by decide +kernel) ?_
    exact T_sub [0] rfl h
  · have h := h.2 c3
    refine T_iconst (v := 2) (dk dtk_X7_need 13 rfl) (by decide +kernel) ?_
    refine T_goto 32 (dk dtk_X7_need 14 rfl) (by decide) ?_
    exact T_sub [0] rfl h
set_option maxRecDepth 100000 in
set_option maxHeartbeats 4000000 in
theorem kg_X7_need_32 {G : kG} {q : kP} {d : Nat} {x : gd} {P : Option gv → gd → Prop} {X : String → gd → Prop} (hq : kV q) (s0 : Int32)
    (h : KE G q (d + 6) zk_X7_refuse 0 [(0, vr 100), (1, vi s0)] [] x (rv (fun x1 => (∀ x2 : gd, x2 = si x1 100 4 ((x1.1 100 4) + 1) → P none x2))) X) :
    KE G q (d + 7) zk_X7_need 32 [(0, vr 100)] [vi s0, vr 100] x P X := by
  refine KD_Vv [vi s0] [] rfl (dk dtk_X7_need 16 rfl) kcv_X7_96 rfl kk_100 rfl (kl_100 hq) (Nat.le_of_ble_eq_true rfl) (Nat.le_of_ble_eq_true rfl) (gok_i (av_c (gkr (kl_100 hq)) av_n) as_n) rfl h (fun x1 h => ?_)
  refine T_aload_n 0 (dk dtk_X7_need 17 rfl) rfl rfl ?_
  refine T_dup (dk dtk_X7_need 18 rfl) rfl ?_
  refine T_getI 100 4 (dk dtk_X7_need 19 rfl) kfl_X7_52 kk_100 (kl_100 hq) (by decide) rfl ?_
  refine T_iconst (v := 1) (dk dtk_X7_need 20 rfl) (by decide +kernel) ?_
  refine T_iadd (dk dtk_X7_need 21 rfl) ?_
  obtain ⟨x2, ex2⟩ : ∃ z, z = si x1 100 4 ((x1.1 100 4) + 1) := ⟨_, rfl⟩
  have h := h x2 ex2
  refine T_putI 100 4 (dk dtk_X7_need 22 rfl) kfl_X7_52 kk_100 (kl_100 hq) (by decide) rfl ⟨rfl, rfl⟩ ?_
  rw [← ex2]
  exact KE_vret (dk dtk_X7_need 23 rfl) rfl h
set_option maxRecDepth 100000 in
theorem dtk_X7_needFor : dck cX7_needFor [(0, .aload_n 0, 1), (1, .invokevirtual 71, 3), (4, .iload_n 1, 1), (5, .if_icmp .ne 13, 3), (8, .aload_n 0, 1), (9, .getfield 52, 3), (12, .sipush 700, 3), (15, .if_icmp .lt 20, 3), (18, .aload_n 0, 1), (19, .aload_n 0, 1), (20, .invokevirtual 71, 3), (23, .iload_n 1, 1), (24, .if_icmp .eq 7, 3), (27, .iconst 2, 1), (28, .goto 4, 3), (31, .iconst 3, 1), (32, .invokevirtual 96, 3), (35, .aload_n 0, 1), (36, .getfield 15, 3), (39, .getfield 109, 3), (42, .aload_n 0, 1), (43, .getfield 52, 3), (46, .iload_n 2, 1), (47, .iastore, 1), (48, .aload_n 0, 1), (49, .dup, 1), (50, .getfield 52, 3), (53, .iconst 1, 1), (54, .iadd, 1), (55, .putfield 52, 3), (58, .aload_n 0, 1), (59, .getfield 52, 3), (62, .iconst 1, 1), (63, .isub, 1), (64, .ireturn, 1)] = true := by decide +kernel
set_option maxRecDepth 100000 in
set_option maxHeartbeats 4000000 in
theorem kg_X7_needFor_0 {G : kG} {q : kP} {d : Nat} {x : gd} {P : Option gv → gd → Prop} {X : String → gd → Prop} (hq : kV q) (l1 : Int32) (l2 : Int32)
    (h : KT G q (d + 6) zk_X7_sort 0 [(0, vr 100)] [] x (ri (fun r2 x1 => ((¬ (r2 = l1) → KE G q (d + 7) zk_X7_needFor 18 [(0, vr 100), (1, vi l1), (2, vi l2)] [] x1 P X) ∧ (r2 = l1 → (((x1.1 100 4) < (700 : Int32) → KE G q (d + 7) zk_X7_needFor 35 [(0, vr 100), (2, vi l2)] [] x1 P X) ∧ (¬ ((x1.1 100 4) < (700 : Int32)) → KE G q (d + 7) zk_X7_needFor 18 [(0, vr 100), (1, vi l1), (2, vi l2)] [] x1 P X))))))) :
    KE G q (d + 7) zk_X7_needFor 0 [(0, vr 100), (1, vi l1), (2, vi l2)] [] x P X := by
  refine T_aload_n 0 (dk dtk_X7_needFor 0 rfl) rfl rfl ?_
  refine KC_Vi [] [] rfl (dk dtk_X7_needFor 1 rfl) kcv_X7_71 rfl kk_100 rfl (kl_100 hq) (Nat.le_of_ble_eq_true rfl) (Nat.le_of_ble_eq_true rfl) (gok_i (av_c (gkr (kl_100 hq)) (av_c rfl (av_c rfl av_n))) as_n) rfl h (fun r2 x1 h => ?_)
  refine T_iload_n 1 (dk dtk_X7_needFor 2 rfl) rfl rfl ?_
  refine T_icmp_ne 18 (dk dtk_X7_needFor 3 rfl) (by decide) (fun c3 => ?_) (fun c3 => ?_)
  · have h := h.1 c3
    exact h
  · have h := h.2 c3
    refine T_aload_n 0 (dk dtk_X7_needFor 4 rfl) rfl rfl ?_
    refine T_getI 100 4 (dk dtk_X7_needFor 5 rfl) kfl_X7_52 kk_100 (kl_100 hq) (by decide) rfl ?_
    refine T_sipush (v := 700) (dk dtk_X7_needFor 6 rfl) (by decide +kernel) ?_
    refine T_icmp_lt 35 (dk dtk_X7_needFor 7 rfl) (by decide) (fun c4 => ?_) (fun c4 => ?_)
    · have h := h.1 c4
      exact T_sub [0, 2] rfl h
    · have h := h.2 c4
      exact h
set_option maxRecDepth 100000 in
set_option maxHeartbeats 4000000 in
theorem kg_X7_needFor_18 {G : kG} {q : kP} {d : Nat} {x : gd} {P : Option gv → gd → Prop} {X : String → gd → Prop} (hq : kV q) (l1 : Int32) (l2 : Int32)
    (h : KT G q (d + 6) zk_X7_sort 0 [(0, vr 100)] [] x (ri (fun r2 x1 => ((r2 = l1 → KE G q (d + 7) zk_X7_needFor 32 [(0, vr 100), (2, vi l2)] [vi 3, vr 100] x1 P X) ∧ (¬ (r2 = l1) → KE G q (d + 7) zk_X7_needFor 32 [(0, vr 100), (2, vi l2)] [vi 2, vr 100] x1 P X))))) :
    KE G q (d + 7) zk_X7_needFor 18 [(0, vr 100), (1, vi l1), (2, vi l2)] [] x P X := by
  refine T_aload_n 0 (dk dtk_X7_needFor 8 rfl) rfl rfl ?_
  refine T_aload_n 0 (dk dtk_X7_needFor 9 rfl) rfl rfl ?_
  refine KC_Vi [] [vr 100] rfl (dk dtk_X7_needFor 10 rfl) kcv_X7_71 rfl kk_100 rfl (kl_100 hq) (Nat.le_of_ble_eq_true rfl) (Nat.le_of_ble_eq_true rfl) (gok_i (av_c (gkr (kl_100 hq)) (av_c rfl (av_c rfl av_n))) (as_c (gkr (kl_100 hq)) as_n)) rfl h (fun r2 x1 h => ?_)
  refine T_iload_n 1 (dk dtk_X7_needFor 11 rfl) rfl rfl ?_
  refine T_icmp_eq 31 (dk dtk_X7_needFor 12 rfl) (by decide) (fun c3 => ?_) (fun c3 => ?_)
  · have h := h.1 c3
    refine T_iconst (v := 3) (dk dtk_X7_needFor 15 rfl) (by decide +kernel) ?_
    exact T_sub [0, 2] rfl h
  · have h := h.2 c3
    refine T_iconst (v := 2) (dk dtk_X7_needFor 13 rfl) (by decide +kernel) ?_
    refine T_goto 32 (dk dtk_X7_needFor 14 rfl) (by decide) ?_
    exact T_sub [0, 2] rfl h
set_option maxRecDepth 100000 in
set_option maxHeartbeats 4000000 in
theorem kg_X7_needFor_32 {G : kG} {q : kP} {d : Nat} {x : gd} {P : Option gv → gd → Prop} {X : String → gd → Prop} (hq : kV q) (l2 : Int32) (s0 : Int32)
    (h : KE G q (d + 6) zk_X7_refuse 0 [(0, vr 100), (1, vi s0)] [] x (rv (fun x1 => KE G q (d + 7) zk_X7_needFor 35 [(0, vr 100), (2, vi l2)] [] x1 P X)) X) :
    KE G q (d + 7) zk_X7_needFor 32 [(0, vr 100), (2, vi l2)] [vi s0, vr 100] x P X := by
  refine KD_Vv [vi s0] [] rfl (dk dtk_X7_needFor 16 rfl) kcv_X7_96 rfl kk_100 rfl (kl_100 hq) (Nat.le_of_ble_eq_true rfl) (Nat.le_of_ble_eq_true rfl) (gok_i (av_c (gkr (kl_100 hq)) (av_c rfl av_n)) as_n) rfl h (fun x1 h => ?_)
  exact h
set_option maxRecDepth 100000 in
set_option maxHeartbeats 4000000 in
theorem kg_X7_needFor_35 {G : kG} {q : kP} {d : Nat} {x : gd} {P : Option gv → gd → Prop} {X : String → gd → Prop} (hq : kV q) (l2 : Int32)
    (h : vp_in (x.1 100 4) 702 ∧ (∀ x2 : gd, x2 = si x 42 (x.1 100 4 : Int32).toNatClampNeg l2 → (∀ x3 : gd, x3 = si x2 100 4 ((x2.1 100 4) + 1) → P (some (vi ((x3.1 100 4) - 1))) x3))) :
    KE G q (d + 7) zk_X7_needFor 35 [(0, vr 100), (2, vi l2)] [] x P X := by
  refine T_aload_n 0 (dk dtk_X7_needFor 17 rfl) rfl rfl ?_
  refine T_getR 100 1 40 (dk dtk_X7_needFor 18 rfl) kfl_X7_15 kk_100 (kl_100 hq) (by decide) rfl kr_100_1 ?_
  refine T_getR 40 1 42 (dk dtk_X7_needFor 19 rfl) kfl_X7_109 kk_40 (kl_40 hq) (by decide) rfl kr_40_1 ?_
  refine T_aload_n 0 (dk dtk_X7_needFor 20 rfl) rfl rfl ?_
  refine T_getI 100 4 (dk dtk_X7_needFor 21 rfl) kfl_X7_52 kk_100 (kl_100 hq) (by decide) rfl ?_
  refine T_iload_n 1 (dk dtk_X7_needFor 22 rfl) rfl rfl ?_
  obtain ⟨h1, h⟩ := h
  obtain ⟨x2, ex2⟩ : ∃ z, z = si x 42 (x.1 100 4 : Int32).toNatClampNeg l2 := ⟨_, rfl⟩
  have h := h x2 ex2
  refine T_iast 42 702 (dk dtk_X7_needFor 23 rfl) kk_42 (kl_42 hq) h1 ?_
  rw [← ex2]
  refine T_aload_n 0 (dk dtk_X7_needFor 24 rfl) rfl rfl ?_
  refine T_dup (dk dtk_X7_needFor 25 rfl) rfl ?_
  refine T_getI 100 4 (dk dtk_X7_needFor 26 rfl) kfl_X7_52 kk_100 (kl_100 hq) (by decide) rfl ?_
  refine T_iconst (v := 1) (dk dtk_X7_needFor 27 rfl) (by decide +kernel) ?_
  refine T_iadd (dk dtk_X7_needFor 28 rfl) ?_
  obtain ⟨x3, ex3⟩ : ∃ z, z = si x2 100 4 ((x2.1 100 4) + 1) := ⟨_, rfl⟩
  have h := h x3 ex3
  refine T_putI 100 4 (dk dtk_X7_needFor 29 rfl) kfl_X7_52 kk_100 (kl_100 hq) (by decide) rfl ⟨rfl, rfl⟩ ?_
  rw [← ex3]
  refine T_aload_n 0 (dk dtk_X7_needFor 30 rfl) rfl rfl ?_
  refine T_getI 100 4 (dk dtk_X7_needFor 31 rfl) kfl_X7_52 kk_100 (kl_100 hq) (by decide) rfl ?_
  refine T_iconst (v := 1) (dk dtk_X7_needFor 32 rfl) (by decide +kernel) ?_
  refine T_isub (dk dtk_X7_needFor 33 rfl) ?_
  exact KE_iret (dk dtk_X7_needFor 34 rfl) rfl rfl h
set_option maxRecDepth 100000 in
theorem dtk_X7_cellDefinition : dck cX7_cellDefinition [(0, .aload_n 0, 1), (1, .invokevirtual 71, 3), (4, .bipush 64, 2), (6, .if_icmp .ne 7, 3), (9, .iconst 1, 1), (10, .goto 4, 3), (13, .iconst 0, 1), (14, .istore_n 1, 1), (15, .iload_n 1, 1), (16, .ifCond .eq 7, 3), (19, .aload_n 0, 1), (20, .invokevirtual 112, 3), (23, .aload_n 0, 1), (24, .bipush 47, 2), (26, .invokevirtual 115, 3), (29, .aload_n 0, 1), (30, .invokevirtual 71, 3), (33, .iconst 2, 1), (34, .if_icmp .ne 10, 3), (37, .aload_n 0, 1), (38, .invokevirtual 118, 3), (41, .goto 4, 3), (44, .iconst 0, 1), (45, .istore_n 2, 1), (46, .iload_n 2, 1), (47, .iconst 1, 1), (48, .invokestatic 121, 3), (51, .istore_n 3, 1), (52, .aload_n 0, 1), (53, .invokevirtual 71, 3), (56, .iconst 2, 1), (57, .if_icmp .ne 22, 3), (60, .aload_n 0, 1), (61, .getfield 19, 3), (64, .getfield 127, 3), (67, .iload_n 3, 1), (68, .iadd, 1), (69, .bipush 24, 2), (71, .if_icmp .le 8, 3), (74, .aload_n 0, 1), (75, .iconst 3, 1), (76, .invokevirtual 96, 3), (79, .aload_n 0, 1), (80, .iconst 2, 1), (81, .iconst 1, 1), (82, .invokevirtual 130, 3), (85, .istore 4, 2), (87, .iload_n 2, 1), (88, .ifCond .le 21, 3), (91, .aload_n 0, 1), (92, .invokevirtual 112, 3), (95, .aload_n 0, 1), (96, .iconst 3, 1), (97, .bipush 11, 2), (99, .invokevirtual 130, 3), (102, .pop, 1), (103, .aload_n 0, 1), (104, .bipush 26, 2), (106, .invokevirtual 115, 3), (109, .aload_n 0, 1), (110, .invokevirtual 133, 3), (113, .istore 5, 2), (115, .aload_n 0, 1), (116, .bipush 27, 2), (118, .invokevirtual 115, 3), (121, .aload_n 0, 1), (122, .getfield 15, 3), (125, .iload 4, 2), (127, .aload_n 0, 1), (128, .getfield 19, 3), (131, .getfield 127, 3), (134, .iload_n 2, 1), (135, .invokevirtual 136, 3), (138, .aload_n 0, 1), (139, .getfield 19, 3), (142, .iload_n 3, 1), (143, .iload 5, 2), (145, .iload_n 1, 1), (146, .invokevirtual 140, 3), (149, .return_, 1)] = true := by decide +kernel
set_option maxRecDepth 100000 in
set_option maxHeartbeats 4000000 in
theorem kg_X7_cellDefinition_0 {G : kG} {q : kP} {d : Nat} {x : gd} {P : Option gv → gd → Prop} {X : String → gd → Prop} (hq : kV q) 
    (h : KT G q (d + 6) zk_X7_sort 0 [(0, vr 100)] [] x (ri (fun r2 x1 => ((¬ (r2 = (64 : Int32)) → KE G q (d + 7) zk_X7_cellDefinition 14 [(0, vr 100)] [vi 0] x1 P X) ∧ (r2 = (64 : Int32) → KE G q (d + 7) zk_X7_cellDefinition 14 [(0, vr 100)] [vi 1] x1 P X))))) :
    KE G q (d + 7) zk_X7_cellDefinition 0 [(0, vr 100)] [] x P X := by
  refine T_aload_n 0 (dk dtk_X7_cellDefinition 0 rfl) rfl rfl ?_
  refine KC_Vi [] [] rfl (dk dtk_X7_cellDefinition 1 rfl) kcv_X7_71 rfl kk_100 rfl (kl_100 hq) (Nat.le_of_ble_eq_true rfl) (Nat.le_of_ble_eq_true rfl) (gok_i (av_c (gkr (kl_100 hq)) av_n) as_n) rfl h (fun r2 x1 h => ?_)
  refine T_bipush (v := 64) (dk dtk_X7_cellDefinition 2 rfl) (by decide +kernel) ?_
  refine T_icmp_ne 13 (dk dtk_X7_cellDefinition 3 rfl) (by decide) (fun c3 => ?_) (fun c3 => ?_)
  · have h := h.1 c3
    refine T_iconst (v := 0) (dk dtk_X7_cellDefinition 6 rfl) (by decide +kernel) ?_
    exact h
  · have h := h.2 c3
    refine T_iconst (v := 1) (dk dtk_X7_cellDefinition 4 rfl) (by decide +kernel) ?_
    refine T_goto 14 (dk dtk_X7_cellDefinition 5 rfl) (by decide) ?_
    exact h
set_option maxRecDepth 100000 in
set_option maxHeartbeats 4000000 in
theorem kg_X7_cellDefinition_14 {G : kG} {q : kP} {d : Nat} {x : gd} {P : Option gv → gd → Prop} {X : String → gd → Prop} (hq : kV q) (s0 : Int32)
    (h : ((s0 = (0 : Int32) → KE G q (d + 7) zk_X7_cellDefinition 23 [(0, vr 100), (1, vi s0)] [] x P X) ∧ (¬ (s0 = (0 : Int32)) → KE G q (d + 6) zk_X7_pass 0 [(0, vr 100)] [] x (rv (fun x2 => KE G q (d + 7) zk_X7_cellDefinition 23 [(0, vr 100), (1, vi s0)] [] x2 P X)) X))) :
    KE G q (d + 7) zk_X7_cellDefinition 14 [(0, vr 100)] [vi s0] x P X := by
  refine T_istore_n (lv2 := [(1, vi s0), (0, vr 100)]) (dk dtk_X7_cellDefinition 7 rfl) rfl (by decide) rfl ?_
  refine T_iload_n 0 (dk dtk_X7_cellDefinition 8 rfl) rfl rfl ?_
  refine T_if_eq 23 (dk dtk_X7_cellDefinition 9 rfl) (by decide) (fun c1 => ?_) (fun c1 => ?_)
  · have h := h.1 c1
    exact T_sub [1, 0] rfl h
  · have h := h.2 c1
    refine T_aload_n 1 (dk dtk_X7_cellDefinition 10 rfl) rfl rfl ?_
    refine KD_Vv [] [] rfl (dk dtk_X7_cellDefinition 11 rfl) kcv_X7_112 rfl kk_100 rfl (kl_100 hq) (Nat.le_of_ble_eq_true rfl) (Nat.le_of_ble_eq_true rfl) (gok_i (av_c rfl (av_c (gkr (kl_100 hq)) av_n)) as_n) rfl h (fun x2 h => ?_)
    exact T_sub [1, 0] rfl h
set_option maxRecDepth 100000 in
set_option maxHeartbeats 4000000 in
theorem kg_X7_cellDefinition_23 {G : kG} {q : kP} {d : Nat} {x : gd} {P : Option gv → gd → Prop} {X : String → gd → Prop} (hq : kV q) (l1 : Int32)
    (h : KE G q (d + 6) zk_X7_need 0 [(0, vr 100), (1, vi 47)] [] x (rv (fun x1 => KT G q (d + 6) zk_X7_sort 0 [(0, vr 100)] [] x1 (ri (fun r3 x2 => ((¬ (r3 = (2 : Int32)) → KE G q (d + 7) zk_X7_cellDefinition 45 [(0, vr 100), (1, vi l1)] [vi 0] x2 P X) ∧ (r3 = (2 : Int32) → KT G q (d + 6) zk_X7_rowAhead 0 [(0, vr 100)] [] x2 (ri (fun r6 x5 => KE G q (d + 7) zk_X7_cellDefinition 45 [(0, vr 100), (1, vi l1)] [vi r6] x5 P X)))))))) X) :
    KE G q (d + 7) zk_X7_cellDefinition 23 [(0, vr 100), (1, vi l1)] [] x P X := by
  refine T_aload_n 0 (dk dtk_X7_cellDefinition 12 rfl) rfl rfl ?_
  refine T_bipush (v := 47) (dk dtk_X7_cellDefinition 13 rfl) (by decide +kernel) ?_
  refine KD_Vv [vi 47] [] rfl (dk dtk_X7_cellDefinition 14 rfl) kcv_X7_115 rfl kk_100 rfl (kl_100 hq) (Nat.le_of_ble_eq_true rfl) (Nat.le_of_ble_eq_true rfl) (gok_i (av_c (gkr (kl_100 hq)) (av_c rfl av_n)) as_n) rfl h (fun x1 h => ?_)
  refine T_aload_n 0 (dk dtk_X7_cellDefinition 15 rfl) rfl rfl ?_
  refine KC_Vi [] [] rfl (dk dtk_X7_cellDefinition 16 rfl) kcv_X7_71 rfl kk_100 rfl (kl_100 hq) (Nat.le_of_ble_eq_true rfl) (Nat.le_of_ble_eq_true rfl) (gok_i (av_c (gkr (kl_100 hq)) (av_c rfl av_n)) as_n) rfl h (fun r3 x2 h => ?_)
  refine T_iconst (v := 2) (dk dtk_X7_cellDefinition 17 rfl) (by decide +kernel) ?_
  refine T_icmp_ne 44 (dk dtk_X7_cellDefinition 18 rfl) (by decide) (fun c4 => ?_) (fun c4 => ?_)
  · have h := h.1 c4
    refine T_iconst (v := 0) (dk dtk_X7_cellDefinition 22 rfl) (by decide +kernel) ?_
    exact h
  · have h := h.2 c4
    refine T_aload_n 0 (dk dtk_X7_cellDefinition 19 rfl) rfl rfl ?_
    refine KC_Vi [] [] rfl (dk dtk_X7_cellDefinition 20 rfl) kcv_X7_118 rfl kk_100 rfl (kl_100 hq) (Nat.le_of_ble_eq_true rfl) (Nat.le_of_ble_eq_true rfl) (gok_i (av_c (gkr (kl_100 hq)) (av_c rfl av_n)) as_n) rfl h (fun r6 x5 h => ?_)
    refine T_goto 45 (dk dtk_X7_cellDefinition 21 rfl) (by decide) ?_
    exact h
set_option maxRecDepth 100000 in
set_option maxHeartbeats 4000000 in
theorem kg_X7_cellDefinition_45 {G : kG} {q : kP} {d : Nat} {x : gd} {P : Option gv → gd → Prop} {X : String → gd → Prop} (hq : kV q) (l1 : Int32) (s0 : Int32)
    (h : (∀ r2 : Int32, (r2.toInt = Int32.toInt s0 ∨ r2.toInt = Int32.toInt 1) → Int32.toInt s0 ≤ r2.toInt → Int32.toInt 1 ≤ r2.toInt → KT G q (d + 6) zk_X7_sort 0 [(0, vr 100)] [] x (ri (fun r7 x6 => ((¬ (r7 = (2 : Int32)) → KE G q (d + 7) zk_X7_cellDefinition 79 [(0, vr 100), (1, vi l1), (2, vi s0), (3, vi r2)] [] x6 P X) ∧ (r7 = (2 : Int32) → ((((x6.1 60 6) + r2) ≤ (24 : Int32) → KE G q (d + 7) zk_X7_cellDefinition 79 [(0, vr 100), (1, vi l1), (2, vi s0), (3, vi r2)] [] x6 P X) ∧ (¬ (((x6.1 60 6) + r2) ≤ (24 : Int32)) → KE G q (d + 6) zk_X7_refuse 0 [(0, vr 100), (1, vi 3)] [] x6 (rv (fun x10 => KE G q (d + 7) zk_X7_cellDefinition 79 [(0, vr 100), (1, vi l1), (2, vi s0), (3, vi r2)] [] x10 P X)) X)))))))) :
    KE G q (d + 7) zk_X7_cellDefinition 45 [(0, vr 100), (1, vi l1)] [vi s0] x P X := by
  refine T_istore_n (lv2 := [(2, vi s0), (0, vr 100), (1, vi l1)]) (dk dtk_X7_cellDefinition 23 rfl) rfl (by decide) rfl ?_
  refine T_iload_n 0 (dk dtk_X7_cellDefinition 24 rfl) rfl rfl ?_
  refine T_iconst (v := 1) (dk dtk_X7_cellDefinition 25 rfl) (by decide +kernel) ?_
  refine T_max (dk dtk_X7_cellDefinition 26 rfl) kmx_X7_121 (by omega) (Nat.le_of_ble_eq_true rfl) (fun r2 h3 h4 h5 => ?_)
  have h := h r2 h3 h4 h5
  refine T_istore_n (lv2 := [(3, vi r2), (2, vi s0), (0, vr 100), (1, vi l1)]) (dk dtk_X7_cellDefinition 27 rfl) rfl (by decide) rfl ?_
  refine T_aload_n 2 (dk dtk_X7_cellDefinition 28 rfl) rfl rfl ?_
  refine KC_Vi [] [] rfl (dk dtk_X7_cellDefinition 29 rfl) kcv_X7_71 rfl kk_100 rfl (kl_100 hq) (Nat.le_of_ble_eq_true rfl) (Nat.le_of_ble_eq_true rfl) (gok_i (av_c rfl (av_c rfl (av_c (gkr (kl_100 hq)) (av_c rfl av_n)))) as_n) rfl h (fun r7 x6 h => ?_)
  refine T_iconst (v := 2) (dk dtk_X7_cellDefinition 30 rfl) (by decide +kernel) ?_
  refine T_icmp_ne 79 (dk dtk_X7_cellDefinition 31 rfl) (by decide) (fun c8 => ?_) (fun c8 => ?_)
  · have h := h.1 c8
    exact T_sub [2, 3, 1, 0] rfl h
  · have h := h.2 c8
    refine T_aload_n 2 (dk dtk_X7_cellDefinition 32 rfl) rfl rfl ?_
    refine T_getR 100 2 60 (dk dtk_X7_cellDefinition 33 rfl) kfl_X7_19 kk_100 (kl_100 hq) (by decide) rfl kr_100_2 ?_
    refine T_getI 60 6 (dk dtk_X7_cellDefinition 34 rfl) kfl_X7_127 kk_60 (kl_60 hq) (by decide) rfl ?_
    refine T_iload_n 0 (dk dtk_X7_cellDefinition 35 rfl) rfl rfl ?_
    refine T_iadd (dk dtk_X7_cellDefinition 36 rfl) ?_
    refine T_bipush (v := 24) (dk dtk_X7_cellDefinition 37 rfl) (by decide +kernel) ?_
    refine T_icmp_le 79 (dk dtk_X7_cellDefinition 38 rfl) (by decide) (fun c9 => ?_) (fun c9 => ?_)
    · have h := h.1 c9
      exact T_sub [2, 3, 1, 0] rfl h
    · have h := h.2 c9
      refine T_aload_n 2 (dk dtk_X7_cellDefinition 39 rfl) rfl rfl ?_
      refine T_iconst (v := 3) (dk dtk_X7_cellDefinition 40 rfl) (by decide +kernel) ?_
      refine KD_Vv [vi 3] [] rfl (dk dtk_X7_cellDefinition 41 rfl) kcv_X7_96 rfl kk_100 rfl (kl_100 hq) (Nat.le_of_ble_eq_true rfl) (Nat.le_of_ble_eq_true rfl) (gok_i (av_c rfl (av_c rfl (av_c (gkr (kl_100 hq)) (av_c rfl av_n)))) as_n) rfl h (fun x10 h => ?_)
      exact T_sub [2, 3, 1, 0] rfl h
set_option maxRecDepth 100000 in
set_option maxHeartbeats 4000000 in
theorem kg_X7_cellDefinition_79 {G : kG} {q : kP} {d : Nat} {x : gd} {P : Option gv → gd → Prop} {X : String → gd → Prop} (hq : kV q) (l1 : Int32) (l2 : Int32) (l3 : Int32)
    (h : KE G q (d + 6) zk_X7_needFor 0 [(0, vr 100), (1, vi 2), (2, vi 1)] [] x (ri (fun r2 x1 => ((l2 ≤ (0 : Int32) → KE G q (d + 7) zk_X7_cellDefinition 109 [(0, vr 100), (1, vi l1), (2, vi l2), (3, vi l3), (4, vi r2)] [] x1 P X) ∧ (¬ (l2 ≤ (0 : Int32)) → KE G q (d + 6) zk_X7_pass 0 [(0, vr 100)] [] x1 (rv (fun x4 => KE G q (d + 6) zk_X7_needFor 0 [(0, vr 100), (1, vi 3), (2, vi 11)] [] x4 (ri (fun r6 x5 => KE G q (d + 6) zk_X7_need 0 [(0, vr 100), (1, vi 26)] [] x5 (rv (fun x7 => KE G q (d + 7) zk_X7_cellDefinition 109 [(0, vr 100), (1, vi l1), (2, vi l2), (3, vi l3), (4, vi r2)] [] x7 P X)) X)) X)) X)))) X) :
    KE G q (d + 7) zk_X7_cellDefinition 79 [(0, vr 100), (1, vi l1), (2, vi l2), (3, vi l3)] [] x P X := by
  refine T_aload_n 0 (dk dtk_X7_cellDefinition 42 rfl) rfl rfl ?_
  refine T_iconst (v := 2) (dk dtk_X7_cellDefinition 43 rfl) (by decide +kernel) ?_
  refine T_iconst (v := 1) (dk dtk_X7_cellDefinition 44 rfl) (by decide +kernel) ?_
  refine KD_Vi [vi 2, vi 1] [] rfl (dk dtk_X7_cellDefinition 45 rfl) kcv_X7_130 rfl kk_100 rfl (kl_100 hq) (Nat.le_of_ble_eq_true rfl) (Nat.le_of_ble_eq_true rfl) (gok_i (av_c (gkr (kl_100 hq)) (av_c rfl (av_c rfl (av_c rfl av_n)))) as_n) rfl h (fun r2 x1 h => ?_)
  refine T_istore (lv2 := [(4, vi r2), (0, vr 100), (1, vi l1), (2, vi l2), (3, vi l3)]) (dk dtk_X7_cellDefinition 46 rfl) (by decide) rfl ?_
  refine T_iload_n 3 (dk dtk_X7_cellDefinition 47 rfl) rfl rfl ?_
  refine T_if_le 109 (dk dtk_X7_cellDefinition 48 rfl) (by decide) (fun c3 => ?_) (fun c3 => ?_)
  · have h := h.1 c3
    exact T_sub [1, 2, 3, 4, 0] rfl h
  · have h := h.2 c3
    refine T_aload_n 1 (dk dtk_X7_cellDefinition 49 rfl) rfl rfl ?_
    refine KD_Vv [] [] rfl (dk dtk_X7_cellDefinition 50 rfl) kcv_X7_112 rfl kk_100 rfl (kl_100 hq) (Nat.le_of_ble_eq_true rfl) (Nat.le_of_ble_eq_true rfl) (gok_i (av_c rfl (av_c (gkr (kl_100 hq)) (av_c rfl (av_c rfl (av_c rfl av_n))))) as_n) rfl h (fun x4 h => ?_)
    refine T_aload_n 1 (dk dtk_X7_cellDefinition 51 rfl) rfl rfl ?_
    refine T_iconst (v := 3) (dk dtk_X7_cellDefinition 52 rfl) (by decide +kernel) ?_
    refine T_bipush (v := 11) (dk dtk_X7_cellDefinition 53 rfl) (by decide +kernel) ?_
    refine KD_Vi [vi 3, vi 11] [] rfl (dk dtk_X7_cellDefinition 54 rfl) kcv_X7_130 rfl kk_100 rfl (kl_100 hq) (Nat.le_of_ble_eq_true rfl) (Nat.le_of_ble_eq_true rfl) (gok_i (av_c rfl (av_c (gkr (kl_100 hq)) (av_c rfl (av_c rfl (av_c rfl av_n))))) as_n) rfl h (fun r6 x5 h => ?_)
    refine T_pop (dk dtk_X7_cellDefinition 55 rfl) rfl ?_
    refine T_aload_n 1 (dk dtk_X7_cellDefinition 56 rfl) rfl rfl ?_
    refine T_bipush (v := 26) (dk dtk_X7_cellDefinition 57 rfl) (by decide +kernel) ?_
    refine KD_Vv [vi 26] [] rfl (dk dtk_X7_cellDefinition 58 rfl) kcv_X7_115 rfl kk_100 rfl (kl_100 hq) (Nat.le_of_ble_eq_true rfl) (Nat.le_of_ble_eq_true rfl) (gok_i (av_c rfl (av_c (gkr (kl_100 hq)) (av_c rfl (av_c rfl (av_c rfl av_n))))) as_n) rfl h (fun x7 h => ?_)
    exact T_sub [1, 2, 3, 4, 0] rfl h
set_option maxRecDepth 100000 in
set_option maxHeartbeats 4000000 in
theorem kg_X7_cellDefinition_109 {G : kG} {q : kP} {d : Nat} {x : gd} {P : Option gv → gd → Prop} {X : String → gd → Prop} (hq : kV q) (l1 : Int32) (l2 : Int32) (l3 : Int32) (l4 : Int32)
    (h : KE G q (d + 6) zk_X7_startValue 0 [(0, vr 100)] [] x (ri (fun r2 x1 => KE G q (d + 6) zk_X7_need 0 [(0, vr 100), (1, vi 27)] [] x1 (rv (fun x3 => KT G q (d + 6) zk_X6_tellCell 0 [(0, vr 40), (1, vi l4), (2, vi (x3.1 60 6)), (3, vi l2)] [] x3 (rv (fun x4 => KT G q (d + 6) zk_X0_addCells 0 [(0, vr 60), (1, vi l3), (2, vi r2), (3, vi l1)] [] x4 (rv (fun x5 => P none x5)))))) X)) X) :
    KE G q (d + 7) zk_X7_cellDefinition 109 [(0, vr 100), (1, vi l1), (2, vi l2), (3, vi l3), (4, vi l4)] [] x P X := by
  refine T_aload_n 0 (dk dtk_X7_cellDefinition 59 rfl) rfl rfl ?_
  refine KD_Vi [] [] rfl (dk dtk_X7_cellDefinition 60 rfl) kcv_X7_133 rfl kk_100 rfl (kl_100 hq) (Nat.le_of_ble_eq_true rfl) (Nat.le_of_ble_eq_true rfl) (gok_i (av_c (gkr (kl_100 hq)) (av_c rfl (av_c rfl (av_c rfl (av_c rfl av_n))))) as_n) rfl h (fun r2 x1 h => ?_)
  refine T_istore (lv2 := [(5, vi r2), (0, vr 100), (1, vi l1), (2, vi l2), (3, vi l3), (4, vi l4)]) (dk dtk_X7_cellDefinition 61 rfl) (by decide) rfl ?_
  refine T_aload_n 1 (dk dtk_X7_cellDefinition 62 rfl) rfl rfl ?_
  refine T_bipush (v := 27) (dk dtk_X7_cellDefinition 63 rfl) (by decide +kernel) ?_
  refine KD_Vv [vi 27] [] rfl (dk dtk_X7_cellDefinition 64 rfl) kcv_X7_115 rfl kk_100 rfl (kl_100 hq) (Nat.le_of_ble_eq_true rfl) (Nat.le_of_ble_eq_true rfl) (gok_i (av_c rfl (av_c (gkr (kl_100 hq)) (av_c rfl (av_c rfl (av_c rfl (av_c rfl av_n)))))) as_n) rfl h (fun x3 h => ?_)
  refine T_aload_n 1 (dk dtk_X7_cellDefinition 65 rfl) rfl rfl ?_
  refine T_getR 100 1 40 (dk dtk_X7_cellDefinition 66 rfl) kfl_X7_15 kk_100 (kl_100 hq) (by decide) rfl kr_100_1 ?_
  refine T_iload 5 (dk dtk_X7_cellDefinition 67 rfl) rfl ?_
  refine T_aload_n 1 (dk dtk_X7_cellDefinition 68 rfl) rfl rfl ?_
  refine T_getR 100 2 60 (dk dtk_X7_cellDefinition 69 rfl) kfl_X7_19 kk_100 (kl_100 hq) (by decide) rfl kr_100_2 ?_
  refine T_getI 60 6 (dk dtk_X7_cellDefinition 70 rfl) kfl_X7_127 kk_60 (kl_60 hq) (by decide) rfl ?_
  refine T_iload_n 3 (dk dtk_X7_cellDefinition 71 rfl) rfl rfl ?_
  refine T_sub (lv2 := [(5, vi r2), (0, vr 100), (1, vi l1), (3, vi l3)]) [0, 1, 2, 4] rfl ?_
  refine KC_Vv [vi l4, vi (x3.1 60 6), vi l2] [] rfl (dk dtk_X7_cellDefinition 72 rfl) kcv_X7_136 rfl kk_40 rfl (kl_40 hq) (Nat.le_of_ble_eq_true rfl) (Nat.le_of_ble_eq_true rfl) (gok_i (av_c rfl (av_c (gkr (kl_100 hq)) (av_c rfl (av_c rfl av_n)))) as_n) rfl h (fun x4 h => ?_)
  refine T_aload_n 1 (dk dtk_X7_cellDefinition 73 rfl) rfl rfl ?_
  refine T_getR 100 2 60 (dk dtk_X7_cellDefinition 74 rfl) kfl_X7_19 kk_100 (kl_100 hq) (by decide) rfl kr_100_2 ?_
  refine T_iload_n 3 (dk dtk_X7_cellDefinition 75 rfl) rfl rfl ?_
  refine T_iload 0 (dk dtk_X7_cellDefinition 76 rfl) rfl ?_
  refine T_iload_n 2 (dk dtk_X7_cellDefinition 77 rfl) rfl rfl ?_
  refine T_sub (lv2 := []) [] rfl ?_
  refine KC_Vv [vi l3, vi r2, vi l1] [] rfl (dk dtk_X7_cellDefinition 78 rfl) kcv_X7_140 rfl kk_60 rfl (kl_60 hq) (Nat.le_of_ble_eq_true rfl) (Nat.le_of_ble_eq_true rfl) (gok_i av_n as_n) rfl h (fun x5 h => ?_)
  exact KE_vret (dk dtk_X7_cellDefinition 79 rfl) rfl h
set_option maxRecDepth 100000 in
theorem dtk_X7_rowAhead : dck cX7_rowAhead [(0, .aload_n 0, 1), (1, .invokevirtual 144, 3), (4, .bipush 25, 2), (6, .if_icmp .eq 5, 3), (9, .iconst 0, 1), (10, .ireturn, 1), (11, .aload_n 0, 1), (12, .getfield 52, 3), (15, .iconst 2, 1), (16, .iadd, 1), (17, .istore_n 1, 1), (18, .iload_n 1, 1), (19, .sipush 700, 3), (22, .if_icmp .gt 16, 3), (25, .aload_n 0, 1), (26, .getfield 11, 3), (29, .getfield 100, 3), (32, .iload_n 1, 1), (33, .iaload, 1), (34, .iconst 3, 1), (35, .if_icmp .eq 5, 3), (38, .iconst 1, 1), (39, .ireturn, 1), (40, .aload_n 0, 1), (41, .getfield 11, 3), (44, .getfield 147, 3), (47, .iload_n 1, 1), (48, .iaload, 1), (49, .invokestatic 150, 3), (52, .ifCond .eq 15, 3), (55, .aload_n 0, 1), (56, .getfield 11, 3), (59, .getfield 147, 3), (62, .iload_n 1, 1), (63, .iaload, 1), (64, .goto 4, 3), (67, .iconst 1, 1), (68, .ireturn, 1)] = true := by decide +kernel
set_option maxRecDepth 100000 in
set_option maxHeartbeats 4000000 in
theorem kg_X7_rowAhead_0 {G : kG} {q : kP} {d : Nat} {x : gd} {P : Option gv → gd → Prop} (hq : kV q) 
    (h : KT G q d zk_X7_sortBehind 0 [(0, vr 100)] [] x (ri (fun r2 x1 => ((r2 = (25 : Int32) → (((700 : Int32) < ((x1.1 100 4) + 2) → P (some (vi 1)) x1) ∧ (¬ ((700 : Int32) < ((x1.1 100 4) + 2)) → vp_in ((x1.1 100 4) + 2) 702 ∧ (((x1.1 23 ((x1.1 100 4) + 2 : Int32).toNatClampNeg) = (3 : Int32) → vp_in ((x1.1 100 4) + 2) 702 ∧ KT G q d zk_X6_isRowSize 0 [(0, vi (x1.1 27 ((x1.1 100 4) + 2 : Int32).toNatClampNeg))] [] x1 (ri (fun r9 x8 => ((r9 = (0 : Int32) → P (some (vi 1)) x8) ∧ (¬ (r9 = (0 : Int32)) → vp_in ((x1.1 100 4) + 2) 702 ∧ P (some (vi (x8.1 27 ((x1.1 100 4) + 2 : Int32).toNatClampNeg))) x8))))) ∧ (¬ ((x1.1 23 ((x1.1 100 4) + 2 : Int32).toNatClampNeg) = (3 : Int32)) → P (some (vi 1)) x1))))) ∧ (¬ (r2 = (25 : Int32)) → P (some (vi 0)) x1))))) :
    KT G q (d + 1) zk_X7_rowAhead 0 [(0, vr 100)] [] x P := by
  refine T_aload_n 0 (dk dtk_X7_rowAhead 0 rfl) rfl rfl ?_
  refine KC_Vi [] [] rfl (dk dtk_X7_rowAhead 1 rfl) kcv_X7_144 rfl kk_100 rfl (kl_100 hq) (Nat.le_of_ble_eq_true rfl) (Nat.le_of_ble_eq_true rfl) (gok_i (av_c (gkr (kl_100 hq)) av_n) as_n) rfl h (fun r2 x1 h => ?_)
  refine T_bipush (v := 25) (dk dtk_X7_rowAhead 2 rfl) (by decide +kernel) ?_
  refine T_icmp_eq 11 (dk dtk_X7_rowAhead 3 rfl) (by decide) (fun c3 => ?_) (fun c3 => ?_)
  · have h := h.1 c3
    refine T_aload_n 0 (dk dtk_X7_rowAhead 6 rfl) rfl rfl ?_
    refine T_getI 100 4 (dk dtk_X7_rowAhead 7 rfl) kfl_X7_52 kk_100 (kl_100 hq) (by decide) rfl ?_
    refine T_iconst (v := 2) (dk dtk_X7_rowAhead 8 rfl) (by decide +kernel) ?_
    refine T_iadd (dk dtk_X7_rowAhead 9 rfl) ?_
    refine T_istore_n (lv2 := [(1, vi ((x1.1 100 4) + 2)), (0, vr 100)]) (dk dtk_X7_rowAhead 10 rfl) rfl (by decide) rfl ?_
    refine T_iload_n 0 (dk dtk_X7_rowAhead 11 rfl) rfl rfl ?_
    refine T_sipush (v := 700) (dk dtk_X7_rowAhead 12 rfl) (by decide +kernel) ?_
    refine T_icmp_gt 38 (dk dtk_X7_rowAhead 13 rfl) (by decide) (fun c4 => ?_) (fun c4 => ?_)
    · have h := h.1 c4
      refine T_iconst (v := 1) (dk dtk_X7_rowAhead 21 rfl) (by decide +kernel) ?_
      exact KT_iret (dk dtk_X7_rowAhead 22 rfl) rfl rfl h
    · have h := h.2 c4
      refine T_aload_n 1 (dk dtk_X7_rowAhead 14 rfl) rfl rfl ?_
      refine T_getR 100 0 20 (dk dtk_X7_rowAhead 15 rfl) kfl_X7_11 kk_100 (kl_100 hq) (by decide) rfl kr_100_0 ?_
      refine T_getR 20 2 23 (dk dtk_X7_rowAhead 16 rfl) kfl_X7_100 kk_20 (kl_20 hq) (by decide) rfl kr_20_2 ?_
      refine T_iload_n 0 (dk dtk_X7_rowAhead 17 rfl) rfl rfl ?_
      obtain ⟨h5, h⟩ := h
      refine T_iald 23 702 (dk dtk_X7_rowAhead 18 rfl) kk_23 (kl_23 hq) h5 ?_
      refine T_iconst (v := 3) (dk dtk_X7_rowAhead 19 rfl) (by decide +kernel) ?_
      refine T_icmp_eq 40 (dk dtk_X7_rowAhead 20 rfl) (by decide) (fun c6 => ?_) (fun c6 => ?_)
      · have h := h.1 c6
        refine T_aload_n 1 (dk dtk_X7_rowAhead 23 rfl) rfl rfl ?_
        refine T_getR 100 0 20 (dk dtk_X7_rowAhead 24 rfl) kfl_X7_11 kk_100 (kl_100 hq) (by decide) rfl kr_100_0 ?_
        refine T_getR 20 6 27 (dk dtk_X7_rowAhead 25 rfl) kfl_X7_147 kk_20 (kl_20 hq) (by decide) rfl kr_20_6 ?_
        refine T_iload_n 0 (dk dtk_X7_rowAhead 26 rfl) rfl rfl ?_
        obtain ⟨h7, h⟩ := h
        refine T_iald 27 702 (dk dtk_X7_rowAhead 27 rfl) kk_27 (kl_27 hq) h7 ?_
        refine KC_Si [vi (x1.1 27 ((x1.1 100 4) + 2 : Int32).toNatClampNeg)] [] rfl (dk dtk_X7_rowAhead 28 rfl) kcs_X7_150 rfl (Nat.le_of_ble_eq_true rfl) (Nat.le_of_ble_eq_true rfl) (gok_i (av_c rfl (av_c (gkr (kl_100 hq)) av_n)) as_n) rfl h (fun r9 x8 h => ?_)
        refine T_if_eq 67 (dk dtk_X7_rowAhead 29 rfl) (by decide) (fun c10 => ?_) (fun c10 => ?_)
        · have h := h.1 c10
          refine T_iconst (v := 1) (dk dtk_X7_rowAhead 36 rfl) (by decide +kernel) ?_
          exact KT_iret (dk dtk_X7_rowAhead 37 rfl) rfl rfl h
        · have h := h.2 c10
          refine T_aload_n 1 (dk dtk_X7_rowAhead 30 rfl) rfl rfl ?_
          refine T_getR 100 0 20 (dk dtk_X7_rowAhead 31 rfl) kfl_X7_11 kk_100 (kl_100 hq) (by decide) rfl kr_100_0 ?_
          refine T_getR 20 6 27 (dk dtk_X7_rowAhead 32 rfl) kfl_X7_147 kk_20 (kl_20 hq) (by decide) rfl kr_20_6 ?_
          refine T_iload_n 0 (dk dtk_X7_rowAhead 33 rfl) rfl rfl ?_
          obtain ⟨h11, h⟩ := h
          refine T_iald 27 702 (dk dtk_X7_rowAhead 34 rfl) kk_27 (kl_27 hq) h11 ?_
          refine T_goto 68 (dk dtk_X7_rowAhead 35 rfl) (by decide) ?_
          exact KT_iret (dk dtk_X7_rowAhead 37 rfl) rfl rfl h
      · have h := h.2 c6
        refine T_iconst (v := 1) (dk dtk_X7_rowAhead 21 rfl) (by decide +kernel) ?_
        exact KT_iret (dk dtk_X7_rowAhead 22 rfl) rfl rfl h
  · have h := h.2 c3
    refine T_iconst (v := 0) (dk dtk_X7_rowAhead 4 rfl) (by decide +kernel) ?_
    exact KT_iret (dk dtk_X7_rowAhead 5 rfl) rfl rfl h
set_option maxRecDepth 100000 in
theorem dtk_X7_startValue : dck cX7_startValue [(0, .aload_n 0, 1), (1, .invokevirtual 71, 3), (4, .bipush 10, 2), (6, .if_icmp .eq 5, 3), (9, .iconst 0, 1), (10, .ireturn, 1), (11, .aload_n 0, 1), (12, .invokevirtual 112, 3), (15, .aload_n 0, 1), (16, .invokevirtual 71, 3), (19, .bipush 18, 2), (21, .if_icmp .ne 7, 3), (24, .iconst 1, 1), (25, .goto 4, 3), (28, .iconst 0, 1), (29, .istore_n 1, 1), (30, .iload_n 1, 1), (31, .ifCond .eq 7, 3), (34, .aload_n 0, 1), (35, .invokevirtual 112, 3), (38, .aload_n 0, 1), (39, .iconst 3, 1), (40, .iconst 0, 1), (41, .invokevirtual 130, 3), (44, .istore_n 2, 1), (45, .iload_n 1, 1), (46, .ifCond .eq 16, 3), (49, .aload_n 0, 1), (50, .getfield 11, 3), (53, .getfield 147, 3), (56, .iload_n 2, 1), (57, .iaload, 1), (58, .ineg, 1), (59, .goto 12, 3), (62, .aload_n 0, 1), (63, .getfield 11, 3), (66, .getfield 147, 3), (69, .iload_n 2, 1), (70, .iaload, 1), (71, .ireturn, 1)] = true := by decide +kernel
set_option maxRecDepth 100000 in
set_option maxHeartbeats 4000000 in
theorem kg_X7_startValue_0 {G : kG} {q : kP} {d : Nat} {x : gd} {P : Option gv → gd → Prop} {X : String → gd → Prop} (hq : kV q) 
    (h : KT G q (d + 6) zk_X7_sort 0 [(0, vr 100)] [] x (ri (fun r2 x1 => ((r2 = (10 : Int32) → KE G q (d + 6) zk_X7_pass 0 [(0, vr 100)] [] x1 (rv (fun x4 => KT G q (d + 6) zk_X7_sort 0 [(0, vr 100)] [] x4 (ri (fun r6 x5 => ((¬ (r6 = (18 : Int32)) → KE G q (d + 7) zk_X7_startValue 29 [(0, vr 100)] [vi 0] x5 P X) ∧ (r6 = (18 : Int32) → KE G q (d + 7) zk_X7_startValue 29 [(0, vr 100)] [vi 1] x5 P X)))))) X) ∧ (¬ (r2 = (10 : Int32)) → P (some (vi 0)) x1))))) :
    KE G q (d + 7) zk_X7_startValue 0 [(0, vr 100)] [] x P X := by
  refine T_aload_n 0 (dk dtk_X7_startValue 0 rfl) rfl rfl ?_
  refine KC_Vi [] [] rfl (dk dtk_X7_startValue 1 rfl) kcv_X7_71 rfl kk_100 rfl (kl_100 hq) (Nat.le_of_ble_eq_true rfl) (Nat.le_of_ble_eq_true rfl) (gok_i (av_c (gkr (kl_100 hq)) av_n) as_n) rfl h (fun r2 x1 h => ?_)
  refine T_bipush (v := 10) (dk dtk_X7_startValue 2 rfl) (by decide +kernel) ?_
  refine T_icmp_eq 11 (dk dtk_X7_startValue 3 rfl) (by decide) (fun c3 => ?_) (fun c3 => ?_)
  · have h := h.1 c3
    refine T_aload_n 0 (dk dtk_X7_startValue 6 rfl) rfl rfl ?_
    refine KD_Vv [] [] rfl (dk dtk_X7_startValue 7 rfl) kcv_X7_112 rfl kk_100 rfl (kl_100 hq) (Nat.le_of_ble_eq_true rfl) (Nat.le_of_ble_eq_true rfl) (gok_i (av_c (gkr (kl_100 hq)) av_n) as_n) rfl h (fun x4 h => ?_)
    refine T_aload_n 0 (dk dtk_X7_startValue 8 rfl) rfl rfl ?_
    refine KC_Vi [] [] rfl (dk dtk_X7_startValue 9 rfl) kcv_X7_71 rfl kk_100 rfl (kl_100 hq) (Nat.le_of_ble_eq_true rfl) (Nat.le_of_ble_eq_true rfl) (gok_i (av_c (gkr (kl_100 hq)) av_n) as_n) rfl h (fun r6 x5 h => ?_)
    refine T_bipush (v := 18) (dk dtk_X7_startValue 10 rfl) (by decide +kernel) ?_
    refine T_icmp_ne 28 (dk dtk_X7_startValue 11 rfl) (by decide) (fun c7 => ?_) (fun c7 => ?_)
    · have h := h.1 c7
      refine T_iconst (v := 0) (dk dtk_X7_startValue 14 rfl) (by decide +kernel) ?_
      exact h
    · have h := h.2 c7
      refine T_iconst (v := 1) (dk dtk_X7_startValue 12 rfl) (by decide +kernel) ?_
      refine T_goto 29 (dk dtk_X7_startValue 13 rfl) (by decide) ?_
      exact h
  · have h := h.2 c3
    refine T_iconst (v := 0) (dk dtk_X7_startValue 4 rfl) (by decide +kernel) ?_
    exact KE_iret (dk dtk_X7_startValue 5 rfl) rfl rfl h
set_option maxRecDepth 100000 in
set_option maxHeartbeats 4000000 in
theorem kg_X7_startValue_29 {G : kG} {q : kP} {d : Nat} {x : gd} {P : Option gv → gd → Prop} {X : String → gd → Prop} (hq : kV q) (s0 : Int32)
    (h : ((s0 = (0 : Int32) → KE G q (d + 7) zk_X7_startValue 38 [(0, vr 100), (1, vi s0)] [] x P X) ∧ (¬ (s0 = (0 : Int32)) → KE G q (d + 6) zk_X7_pass 0 [(0, vr 100)] [] x (rv (fun x2 => KE G q (d + 7) zk_X7_startValue 38 [(0, vr 100), (1, vi s0)] [] x2 P X)) X))) :
    KE G q (d + 7) zk_X7_startValue 29 [(0, vr 100)] [vi s0] x P X := by
  refine T_istore_n (lv2 := [(1, vi s0), (0, vr 100)]) (dk dtk_X7_startValue 15 rfl) rfl (by decide) rfl ?_
  refine T_iload_n 0 (dk dtk_X7_startValue 16 rfl) rfl rfl ?_
  refine T_if_eq 38 (dk dtk_X7_startValue 17 rfl) (by decide) (fun c1 => ?_) (fun c1 => ?_)
  · have h := h.1 c1
    exact T_sub [1, 0] rfl h
  · have h := h.2 c1
    refine T_aload_n 1 (dk dtk_X7_startValue 18 rfl) rfl rfl ?_
    refine KD_Vv [] [] rfl (dk dtk_X7_startValue 19 rfl) kcv_X7_112 rfl kk_100 rfl (kl_100 hq) (Nat.le_of_ble_eq_true rfl) (Nat.le_of_ble_eq_true rfl) (gok_i (av_c rfl (av_c (gkr (kl_100 hq)) av_n)) as_n) rfl h (fun x2 h => ?_)
    exact T_sub [1, 0] rfl h
set_option maxRecDepth 100000 in
set_option maxHeartbeats 4000000 in
theorem kg_X7_startValue_38 {G : kG} {q : kP} {d : Nat} {x : gd} {P : Option gv → gd → Prop} {X : String → gd → Prop} (hq : kV q) (l1 : Int32)
    (h : KE G q (d + 6) zk_X7_needFor 0 [(0, vr 100), (1, vi 3), (2, vi 0)] [] x (ri (fun r2 x1 => ((l1 = (0 : Int32) → vp_in r2 702 ∧ P (some (vi (x1.1 27 (r2 : Int32).toNatClampNeg))) x1) ∧ (¬ (l1 = (0 : Int32)) → vp_in r2 702 ∧ P (some (vi (-(x1.1 27 (r2 : Int32).toNatClampNeg)))) x1)))) X) :
    KE G q (d + 7) zk_X7_startValue 38 [(0, vr 100), (1, vi l1)] [] x P X := by
  refine T_aload_n 0 (dk dtk_X7_startValue 20 rfl) rfl rfl ?_
  refine T_iconst (v := 3) (dk dtk_X7_startValue 21 rfl) (by decide +kernel) ?_
  refine T_iconst (v := 0) (dk dtk_X7_startValue 22 rfl) (by decide +kernel) ?_
  refine KD_Vi [vi 3, vi 0] [] rfl (dk dtk_X7_startValue 23 rfl) kcv_X7_130 rfl kk_100 rfl (kl_100 hq) (Nat.le_of_ble_eq_true rfl) (Nat.le_of_ble_eq_true rfl) (gok_i (av_c (gkr (kl_100 hq)) (av_c rfl av_n)) as_n) rfl h (fun r2 x1 h => ?_)
  refine T_istore_n (lv2 := [(2, vi r2), (0, vr 100), (1, vi l1)]) (dk dtk_X7_startValue 24 rfl) rfl (by decide) rfl ?_
  refine T_iload_n 2 (dk dtk_X7_startValue 25 rfl) rfl rfl ?_
  refine T_if_eq 62 (dk dtk_X7_startValue 26 rfl) (by decide) (fun c3 => ?_) (fun c3 => ?_)
  · have h := h.1 c3
    refine T_aload_n 1 (dk dtk_X7_startValue 34 rfl) rfl rfl ?_
    refine T_getR 100 0 20 (dk dtk_X7_startValue 35 rfl) kfl_X7_11 kk_100 (kl_100 hq) (by decide) rfl kr_100_0 ?_
    refine T_getR 20 6 27 (dk dtk_X7_startValue 36 rfl) kfl_X7_147 kk_20 (kl_20 hq) (by decide) rfl kr_20_6 ?_
    refine T_iload_n 0 (dk dtk_X7_startValue 37 rfl) rfl rfl ?_
    obtain ⟨h4, h⟩ := h
    refine T_iald 27 702 (dk dtk_X7_startValue 38 rfl) kk_27 (kl_27 hq) h4 ?_
    exact KE_iret (dk dtk_X7_startValue 39 rfl) rfl rfl h
  · have h := h.2 c3
    refine T_aload_n 1 (dk dtk_X7_startValue 27 rfl) rfl rfl ?_
    refine T_getR 100 0 20 (dk dtk_X7_startValue 28 rfl) kfl_X7_11 kk_100 (kl_100 hq) (by decide) rfl kr_100_0 ?_
    refine T_getR 20 6 27 (dk dtk_X7_startValue 29 rfl) kfl_X7_147 kk_20 (kl_20 hq) (by decide) rfl kr_20_6 ?_
    refine T_iload_n 0 (dk dtk_X7_startValue 30 rfl) rfl rfl ?_
    obtain ⟨h5, h⟩ := h
    refine T_iald 27 702 (dk dtk_X7_startValue 31 rfl) kk_27 (kl_27 hq) h5 ?_
    refine T_ineg (dk dtk_X7_startValue 32 rfl) ?_
    refine T_goto 71 (dk dtk_X7_startValue 33 rfl) (by decide) ?_
    exact KE_iret (dk dtk_X7_startValue 39 rfl) rfl rfl h
set_option maxRecDepth 100000 in
theorem dtk_X7_lockDefinition : dck cX7_lockDefinition [(0, .aload_n 0, 1), (1, .getfield 19, 3), (4, .getfield 154, 3), (7, .bipush 6, 2), (9, .if_icmp .lt 8, 3), (12, .aload_n 0, 1), (13, .iconst 3, 1), (14, .invokevirtual 96, 3), (17, .aload_n 0, 1), (18, .invokevirtual 112, 3), (21, .aload_n 0, 1), (22, .getfield 15, 3), (25, .aload_n 0, 1), (26, .iconst 2, 1), (27, .iconst 1, 1), (28, .invokevirtual 130, 3), (31, .invokevirtual 157, 3), (34, .aload_n 0, 1), (35, .bipush 27, 2), (37, .invokevirtual 115, 3), (40, .aload_n 0, 1), (41, .getfield 19, 3), (44, .dup, 1), (45, .getfield 154, 3), (48, .iconst 1, 1), (49, .iadd, 1), (50, .putfield 154, 3), (53, .return_, 1)] = true := by decide +kernel
set_option maxRecDepth 100000 in
set_option maxHeartbeats 4000000 in
theorem kg_X7_lockDefinition_0 {G : kG} {q : kP} {d : Nat} {x : gd} {P : Option gv → gd → Prop} {X : String → gd → Prop} (hq : kV q) 
    (h : (((x.1 60 9) < (6 : Int32) → KE G q (d + 7) zk_X7_lockDefinition 17 [(0, vr 100)] [] x P X) ∧ (¬ ((x.1 60 9) < (6 : Int32)) → KE G q (d + 6) zk_X7_refuse 0 [(0, vr 100), (1, vi 3)] [] x (rv (fun x2 => KE G q (d + 7) zk_X7_lockDefinition 17 [(0, vr 100)] [] x2 P X)) X))) :
    KE G q (d + 7) zk_X7_lockDefinition 0 [(0, vr 100)] [] x P X := by
  refine T_aload_n 0 (dk dtk_X7_lockDefinition 0 rfl) rfl rfl ?_
  refine T_getR 100 2 60 (dk dtk_X7_lockDefinition 1 rfl) kfl_X7_19 kk_100 (kl_100 hq) (by decide) rfl kr_100_2 ?_
  refine T_getI 60 9 (dk dtk_X7_lockDefinition 2 rfl) kfl_X7_154 kk_60 (kl_60 hq) (by decide) rfl ?_
  refine T_bipush (v := 6) (dk dtk_X7_lockDefinition 3 rfl) (by decide +kernel) ?_
  refine T_icmp_lt 17 (dk dtk_X7_lockDefinition 4 rfl) (by decide) (fun c1 => ?_) (fun c1 => ?_)
  · have h := h.1 c1
    exact h
  · have h := h.2 c1
    refine T_aload_n 0 (dk dtk_X7_lockDefinition 5 rfl) rfl rfl ?_
    refine T_iconst (v := 3) (dk dtk_X7_lockDefinition 6 rfl) (by decide +kernel) ?_
    refine KD_Vv [vi 3] [] rfl (dk dtk_X7_lockDefinition 7 rfl) kcv_X7_96 rfl kk_100 rfl (kl_100 hq) (Nat.le_of_ble_eq_true rfl) (Nat.le_of_ble_eq_true rfl) (gok_i (av_c (gkr (kl_100 hq)) av_n) as_n) rfl h (fun x2 h => ?_)
    exact h
set_option maxRecDepth 100000 in
set_option maxHeartbeats 4000000 in
theorem kg_X7_lockDefinition_17 {G : kG} {q : kP} {d : Nat} {x : gd} {P : Option gv → gd → Prop} {X : String → gd → Prop} (hq : kV q) 
    (h : KE G q (d + 6) zk_X7_pass 0 [(0, vr 100)] [] x (rv (fun x1 => KE G q (d + 6) zk_X7_needFor 0 [(0, vr 100), (1, vi 2), (2, vi 1)] [] x1 (ri (fun r3 x2 => KT G q (d + 6) zk_X6_tellLock 0 [(0, vr 40), (1, vi r3)] [] x2 (rv (fun x4 => KE G q (d + 6) zk_X7_need 0 [(0, vr 100), (1, vi 27)] [] x4 (rv (fun x5 => (∀ x6 : gd, x6 = si x5 60 9 ((x5.1 60 9) + 1) → P none x6))) X)))) X)) X) :
    KE G q (d + 7) zk_X7_lockDefinition 17 [(0, vr 100)] [] x P X := by
  refine T_aload_n 0 (dk dtk_X7_lockDefinition 8 rfl) rfl rfl ?_
  refine KD_Vv [] [] rfl (dk dtk_X7_lockDefinition 9 rfl) kcv_X7_112 rfl kk_100 rfl (kl_100 hq) (Nat.le_of_ble_eq_true rfl) (Nat.le_of_ble_eq_true rfl) (gok_i (av_c (gkr (kl_100 hq)) av_n) as_n) rfl h (fun x1 h => ?_)
  refine T_aload_n 0 (dk dtk_X7_lockDefinition 10 rfl) rfl rfl ?_
  refine T_getR 100 1 40 (dk dtk_X7_lockDefinition 11 rfl) kfl_X7_15 kk_100 (kl_100 hq) (by decide) rfl kr_100_1 ?_
  refine T_aload_n 0 (dk dtk_X7_lockDefinition 12 rfl) rfl rfl ?_
  refine T_iconst (v := 2) (dk dtk_X7_lockDefinition 13 rfl) (by decide +kernel) ?_
  refine T_iconst (v := 1) (dk dtk_X7_lockDefinition 14 rfl) (by decide +kernel) ?_
  refine KD_Vi [vi 2, vi 1] [vr 40] rfl (dk dtk_X7_lockDefinition 15 rfl) kcv_X7_130 rfl kk_100 rfl (kl_100 hq) (Nat.le_of_ble_eq_true rfl) (Nat.le_of_ble_eq_true rfl) (gok_i (av_c (gkr (kl_100 hq)) av_n) (as_c (gkr (kl_40 hq)) as_n)) rfl h (fun r3 x2 h => ?_)
  refine KC_Vv [vi r3] [] rfl (dk dtk_X7_lockDefinition 16 rfl) kcv_X7_157 rfl kk_40 rfl (kl_40 hq) (Nat.le_of_ble_eq_true rfl) (Nat.le_of_ble_eq_true rfl) (gok_i (av_c (gkr (kl_100 hq)) av_n) as_n) rfl h (fun x4 h => ?_)
  refine T_aload_n 0 (dk dtk_X7_lockDefinition 17 rfl) rfl rfl ?_
  refine T_bipush (v := 27) (dk dtk_X7_lockDefinition 18 rfl) (by decide +kernel) ?_
  refine KD_Vv [vi 27] [] rfl (dk dtk_X7_lockDefinition 19 rfl) kcv_X7_115 rfl kk_100 rfl (kl_100 hq) (Nat.le_of_ble_eq_true rfl) (Nat.le_of_ble_eq_true rfl) (gok_i (av_c (gkr (kl_100 hq)) av_n) as_n) rfl h (fun x5 h => ?_)
  refine T_aload_n 0 (dk dtk_X7_lockDefinition 20 rfl) rfl rfl ?_
  refine T_getR 100 2 60 (dk dtk_X7_lockDefinition 21 rfl) kfl_X7_19 kk_100 (kl_100 hq) (by decide) rfl kr_100_2 ?_
  refine T_dup (dk dtk_X7_lockDefinition 22 rfl) rfl ?_
  refine T_getI 60 9 (dk dtk_X7_lockDefinition 23 rfl) kfl_X7_154 kk_60 (kl_60 hq) (by decide) rfl ?_
  refine T_iconst (v := 1) (dk dtk_X7_lockDefinition 24 rfl) (by decide +kernel) ?_
  refine T_iadd (dk dtk_X7_lockDefinition 25 rfl) ?_
  obtain ⟨x6, ex6⟩ : ∃ z, z = si x5 60 9 ((x5.1 60 9) + 1) := ⟨_, rfl⟩
  have h := h x6 ex6
  refine T_putI 60 9 (dk dtk_X7_lockDefinition 26 rfl) kfl_X7_154 kk_60 (kl_60 hq) (by decide) rfl ⟨rfl, rfl⟩ ?_
  rw [← ex6]
  exact KE_vret (dk dtk_X7_lockDefinition 27 rfl) rfl h
set_option maxRecDepth 100000 in
theorem dtk_X7_beginThread : dck cX7_beginThread [(0, .aload_n 0, 1), (1, .getfield 19, 3), (4, .getfield 160, 3), (7, .istore_n 1, 1), (8, .iload_n 1, 1), (9, .bipush 6, 2), (11, .if_icmp .lt 8, 3), (14, .aload_n 0, 1), (15, .iconst 3, 1), (16, .invokevirtual 96, 3), (19, .aload_n 0, 1), (20, .invokevirtual 71, 3), (23, .bipush 53, 2), (25, .if_icmp .ne 7, 3), (28, .iconst 1, 1), (29, .goto 4, 3), (32, .iconst 0, 1), (33, .istore_n 2, 1), (34, .iload_n 2, 1), (35, .ifCond .eq 7, 3), (38, .aload_n 0, 1), (39, .invokevirtual 112, 3), (42, .aload_n 0, 1), (43, .bipush 67, 2), (45, .invokevirtual 115, 3), (48, .aload_n 0, 1), (49, .getfield 15, 3), (52, .aload_n 0, 1), (53, .iconst 2, 1), (54, .iconst 1, 1), (55, .invokevirtual 130, 3), (58, .invokevirtual 163, 3), (61, .aload_n 0, 1), (62, .getfield 19, 3), (65, .getfield 166, 3), (68, .iload_n 1, 1), (69, .iload_n 2, 1), (70, .bastore, 1), (71, .aload_n 0, 1), (72, .getfield 19, 3), (75, .getfield 170, 3), (78, .iload_n 1, 1), (79, .aload_n 0, 1), (80, .getfield 29, 3), (83, .getfield 173, 3), (86, .iastore, 1), (87, .aload_n 0, 1), (88, .getfield 19, 3), (91, .dup, 1), (92, .getfield 160, 3), (95, .iconst 1, 1), (96, .iadd, 1), (97, .putfield 160, 3), (100, .aload_n 0, 1), (101, .iconst 0, 1), (102, .putfield 178, 3), (105, .aload_n 0, 1), (106, .iconst 0, 1), (107, .putfield 181, 3), (110, .aload_n 0, 1), (111, .iconst 0, 1), (112, .putfield 184, 3), (115, .aload_n 0, 1), (116, .iconst 1, 1), (117, .putfield 65, 3), (120, .aload_n 0, 1), (121, .iconst 0, 1), (122, .iconst (-1), 1), (123, .invokevirtual 187, 3), (126, .return_, 1)] = true := by decide +kernel
set_option maxRecDepth 100000 in
set_option maxHeartbeats 4000000 in
theorem kg_X7_beginThread_0 {G : kG} {q : kP} {d : Nat} {x : gd} {P : Option gv → gd → Prop} {X : String → gd → Prop} (hq : kV q) 
    (h : (((x.1 60 10) < (6 : Int32) → KE G q (d + 7) zk_X7_beginThread 19 [(0, vr 100), (1, vi (x.1 60 10))] [] x P X) ∧ (¬ ((x.1 60 10) < (6 : Int32)) → KE G q (d + 6) zk_X7_refuse 0 [(0, vr 100), (1, vi 3)] [] x (rv (fun x2 => KE G q (d + 7) zk_X7_beginThread 19 [(0, vr 100), (1, vi (x.1 60 10))] [] x2 P X)) X))) :
    KE G q (d + 7) zk_X7_beginThread 0 [(0, vr 100)] [] x P X := by
  refine T_aload_n 0 (dk dtk_X7_beginThread 0 rfl) rfl rfl ?_
  refine T_getR 100 2 60 (dk dtk_X7_beginThread 1 rfl) kfl_X7_19 kk_100 (kl_100 hq) (by decide) rfl kr_100_2 ?_
  refine T_getI 60 10 (dk dtk_X7_beginThread 2 rfl) kfl_X7_160 kk_60 (kl_60 hq) (by decide) rfl ?_
  refine T_istore_n (lv2 := [(1, vi (x.1 60 10)), (0, vr 100)]) (dk dtk_X7_beginThread 3 rfl) rfl (by decide) rfl ?_
  refine T_iload_n 0 (dk dtk_X7_beginThread 4 rfl) rfl rfl ?_
  refine T_bipush (v := 6) (dk dtk_X7_beginThread 5 rfl) (by decide +kernel) ?_
  refine T_icmp_lt 19 (dk dtk_X7_beginThread 6 rfl) (by decide) (fun c1 => ?_) (fun c1 => ?_)
  · have h := h.1 c1
    exact T_sub [1, 0] rfl h
  · have h := h.2 c1
    refine T_aload_n 1 (dk dtk_X7_beginThread 7 rfl) rfl rfl ?_
    refine T_iconst (v := 3) (dk dtk_X7_beginThread 8 rfl) (by decide +kernel) ?_
    refine KD_Vv [vi 3] [] rfl (dk dtk_X7_beginThread 9 rfl) kcv_X7_96 rfl kk_100 rfl (kl_100 hq) (Nat.le_of_ble_eq_true rfl) (Nat.le_of_ble_eq_true rfl) (gok_i (av_c rfl (av_c (gkr (kl_100 hq)) av_n)) as_n) rfl h (fun x2 h => ?_)
    exact T_sub [1, 0] rfl h
set_option maxRecDepth 100000 in
set_option maxHeartbeats 4000000 in
theorem kg_X7_beginThread_19 {G : kG} {q : kP} {d : Nat} {x : gd} {P : Option gv → gd → Prop} {X : String → gd → Prop} (hq : kV q) (l1 : Int32)
    (h : KT G q (d + 6) zk_X7_sort 0 [(0, vr 100)] [] x (ri (fun r2 x1 => ((¬ (r2 = (53 : Int32)) → KE G q (d + 7) zk_X7_beginThread 33 [(0, vr 100), (1, vi l1)] [vi 0] x1 P X) ∧ (r2 = (53 : Int32) → KE G q (d + 7) zk_X7_beginThread 33 [(0, vr 100), (1, vi l1)] [vi 1] x1 P X))))) :
    KE G q (d + 7) zk_X7_beginThread 19 [(0, vr 100), (1, vi l1)] [] x P X := by
  refine T_aload_n 0 (dk dtk_X7_beginThread 10 rfl) rfl rfl ?_
  refine KC_Vi [] [] rfl (dk dtk_X7_beginThread 11 rfl) kcv_X7_71 rfl kk_100 rfl (kl_100 hq) (Nat.le_of_ble_eq_true rfl) (Nat.le_of_ble_eq_true rfl) (gok_i (av_c (gkr (kl_100 hq)) (av_c rfl av_n)) as_n) rfl h (fun r2 x1 h => ?_)
  refine T_bipush (v := 53) (dk dtk_X7_beginThread 12 rfl) (by decide +kernel) ?_
  refine T_icmp_ne 32 (dk dtk_X7_beginThread 13 rfl) (by decide) (fun c3 => ?_) (fun c3 => ?_)
  · have h := h.1 c3
    refine T_iconst (v := 0) (dk dtk_X7_beginThread 16 rfl) (by decide +kernel) ?_
    exact h
  · have h := h.2 c3
    refine T_iconst (v := 1) (dk dtk_X7_beginThread 14 rfl) (by decide +kernel) ?_
    refine T_goto 33 (dk dtk_X7_beginThread 15 rfl) (by decide) ?_
    exact h
set_option maxRecDepth 100000 in
set_option maxHeartbeats 4000000 in
theorem kg_X7_beginThread_33 {G : kG} {q : kP} {d : Nat} {x : gd} {P : Option gv → gd → Prop} {X : String → gd → Prop} (hq : kV q) (l1 : Int32) (s0 : Int32)
    (h : ((s0 = (0 : Int32) → KE G q (d + 7) zk_X7_beginThread 42 [(0, vr 100), (1, vi l1), (2, vi s0)] [] x P X) ∧ (¬ (s0 = (0 : Int32)) → KE G q (d + 6) zk_X7_pass 0 [(0, vr 100)] [] x (rv (fun x2 => KE G q (d + 7) zk_X7_beginThread 42 [(0, vr 100), (1, vi l1), (2, vi s0)] [] x2 P X)) X))) :
    KE G q (d + 7) zk_X7_beginThread 33 [(0, vr 100), (1, vi l1)] [vi s0] x P X := by
  refine T_istore_n (lv2 := [(2, vi s0), (0, vr 100), (1, vi l1)]) (dk dtk_X7_beginThread 17 rfl) rfl (by decide) rfl ?_
  refine T_iload_n 0 (dk dtk_X7_beginThread 18 rfl) rfl rfl ?_
  refine T_if_eq 42 (dk dtk_X7_beginThread 19 rfl) (by decide) (fun c1 => ?_) (fun c1 => ?_)
  · have h := h.1 c1
    exact T_sub [1, 2, 0] rfl h
  · have h := h.2 c1
    refine T_aload_n 1 (dk dtk_X7_beginThread 20 rfl) rfl rfl ?_
    refine KD_Vv [] [] rfl (dk dtk_X7_beginThread 21 rfl) kcv_X7_112 rfl kk_100 rfl (kl_100 hq) (Nat.le_of_ble_eq_true rfl) (Nat.le_of_ble_eq_true rfl) (gok_i (av_c rfl (av_c (gkr (kl_100 hq)) (av_c rfl av_n))) as_n) rfl h (fun x2 h => ?_)
    exact T_sub [1, 2, 0] rfl h
set_option maxRecDepth 100000 in
set_option maxHeartbeats 4000000 in
theorem kg_X7_beginThread_42 {G : kG} {q : kP} {d : Nat} {x : gd} {P : Option gv → gd → Prop} {X : String → gd → Prop} (hq : kV q) (l1 : Int32) (l2 : Int32)
    (h : KE G q (d + 6) zk_X7_need 0 [(0, vr 100), (1, vi 67)] [] x (rv (fun x1 => KE G q (d + 6) zk_X7_needFor 0 [(0, vr 100), (1, vi 2), (2, vi 1)] [] x1 (ri (fun r3 x2 => KT G q (d + 6) zk_X6_tellThread 0 [(0, vr 40), (1, vi r3)] [] x2 (rv (fun x4 => vp_in l1 6 ∧ (∀ x6 : gd, x6 = si x4 73 (l1 : Int32).toNatClampNeg (vp_nar .boolean l2) → vp_in l1 6 ∧ (∀ x8 : gd, x8 = si x6 72 (l1 : Int32).toNatClampNeg (x6.1 80 9) → (∀ x9 : gd, x9 = si x8 60 10 ((x8.1 60 10) + 1) → (∀ x10 : gd, x10 = si x9 100 7 0 → (∀ x11 : gd, x11 = si x10 100 9 0 → (∀ x12 : gd, x12 = si x11 100 13 0 → (∀ x13 : gd, x13 = si x12 100 5 1 → KE G q (d + 6) zk_X7_openBlock 0 [(0, vr 100), (1, vi 0), (2, vi (-1))] [] x13 (rv (fun x14 => P none x14)) X))))))))))) X)) X) :
    KE G q (d + 7) zk_X7_beginThread 42 [(0, vr 100), (1, vi l1), (2, vi l2)] [] x P X := by
  refine T_aload_n 0 (dk dtk_X7_beginThread 22 rfl) rfl rfl ?_
  refine T_bipush (v := 67) (dk dtk_X7_beginThread 23 rfl) (by decide +kernel) ?_
  refine KD_Vv [vi 67] [] rfl (dk dtk_X7_beginThread 24 rfl) kcv_X7_115 rfl kk_100 rfl (kl_100 hq) (Nat.le_of_ble_eq_true rfl) (Nat.le_of_ble_eq_true rfl) (gok_i (av_c (gkr (kl_100 hq)) (av_c rfl (av_c rfl av_n))) as_n) rfl h (fun x1 h => ?_)
  refine T_aload_n 0 (dk dtk_X7_beginThread 25 rfl) rfl rfl ?_
  refine T_getR 100 1 40 (dk dtk_X7_beginThread 26 rfl) kfl_X7_15 kk_100 (kl_100 hq) (by decide) rfl kr_100_1 ?_
  refine T_aload_n 0 (dk dtk_X7_beginThread 27 rfl) rfl rfl ?_
  refine T_iconst (v := 2) (dk dtk_X7_beginThread 28 rfl) (by decide +kernel) ?_
  refine T_iconst (v := 1) (dk dtk_X7_beginThread 29 rfl) (by decide +kernel) ?_
  refine KD_Vi [vi 2, vi 1] [vr 40] rfl (dk dtk_X7_beginThread 30 rfl) kcv_X7_130 rfl kk_100 rfl (kl_100 hq) (Nat.le_of_ble_eq_true rfl) (Nat.le_of_ble_eq_true rfl) (gok_i (av_c (gkr (kl_100 hq)) (av_c rfl (av_c rfl av_n))) (as_c (gkr (kl_40 hq)) as_n)) rfl h (fun r3 x2 h => ?_)
  refine KC_Vv [vi r3] [] rfl (dk dtk_X7_beginThread 31 rfl) kcv_X7_163 rfl kk_40 rfl (kl_40 hq) (Nat.le_of_ble_eq_true rfl) (Nat.le_of_ble_eq_true rfl) (gok_i (av_c (gkr (kl_100 hq)) (av_c rfl (av_c rfl av_n))) as_n) rfl h (fun x4 h => ?_)
  refine T_aload_n 0 (dk dtk_X7_beginThread 32 rfl) rfl rfl ?_
  refine T_getR 100 2 60 (dk dtk_X7_beginThread 33 rfl) kfl_X7_19 kk_100 (kl_100 hq) (by decide) rfl kr_100_2 ?_
  refine T_getR 60 12 73 (dk dtk_X7_beginThread 34 rfl) kfl_X7_166 kk_60 (kl_60 hq) (by decide) rfl kr_60_12 ?_
  refine T_iload_n 1 (dk dtk_X7_beginThread 35 rfl) rfl rfl ?_
  refine T_iload_n 2 (dk dtk_X7_beginThread 36 rfl) rfl rfl ?_
  obtain ⟨h5, h⟩ := h
  obtain ⟨x6, ex6⟩ : ∃ z, z = si x4 73 (l1 : Int32).toNatClampNeg (vp_nar .boolean l2) := ⟨_, rfl⟩
  have h := h x6 ex6
  refine T_zast 73 6 (dk dtk_X7_beginThread 37 rfl) kk_73 (kl_73 hq) h5 ?_
  rw [← ex6]
  refine T_aload_n 0 (dk dtk_X7_beginThread 38 rfl) rfl rfl ?_
  refine T_getR 100 2 60 (dk dtk_X7_beginThread 39 rfl) kfl_X7_19 kk_100 (kl_100 hq) (by decide) rfl kr_100_2 ?_
  refine T_getR 60 11 72 (dk dtk_X7_beginThread 40 rfl) kfl_X7_170 kk_60 (kl_60 hq) (by decide) rfl kr_60_11 ?_
  refine T_iload_n 1 (dk dtk_X7_beginThread 41 rfl) rfl rfl ?_
  refine T_aload_n 0 (dk dtk_X7_beginThread 42 rfl) rfl rfl ?_
  refine T_getR 100 3 80 (dk dtk_X7_beginThread 43 rfl) kfl_X7_29 kk_100 (kl_100 hq) (by decide) rfl kr_100_3 ?_
  refine T_getI 80 9 (dk dtk_X7_beginThread 44 rfl) kfl_X7_173 kk_80 (kl_80 hq) (by decide) rfl ?_
  obtain ⟨h7, h⟩ := h
  obtain ⟨x8, ex8⟩ : ∃ z, z = si x6 72 (l1 : Int32).toNatClampNeg (x6.1 80 9) := ⟨_, rfl⟩
  have h := h x8 ex8
  refine T_iast 72 6 (dk dtk_X7_beginThread 45 rfl) kk_72 (kl_72 hq) h7 ?_
  rw [← ex8]
  refine T_aload_n 0 (dk dtk_X7_beginThread 46 rfl) rfl rfl ?_
  refine T_getR 100 2 60 (dk dtk_X7_beginThread 47 rfl) kfl_X7_19 kk_100 (kl_100 hq) (by decide) rfl kr_100_2 ?_
  refine T_dup (dk dtk_X7_beginThread 48 rfl) rfl ?_
  refine T_getI 60 10 (dk dtk_X7_beginThread 49 rfl) kfl_X7_160 kk_60 (kl_60 hq) (by decide) rfl ?_
  refine T_iconst (v := 1) (dk dtk_X7_beginThread 50 rfl) (by decide +kernel) ?_
  refine T_iadd (dk dtk_X7_beginThread 51 rfl) ?_
  obtain ⟨x9, ex9⟩ : ∃ z, z = si x8 60 10 ((x8.1 60 10) + 1) := ⟨_, rfl⟩
  have h := h x9 ex9
  refine T_putI 60 10 (dk dtk_X7_beginThread 52 rfl) kfl_X7_160 kk_60 (kl_60 hq) (by decide) rfl ⟨rfl, rfl⟩ ?_
  rw [← ex9]
  refine T_aload_n 0 (dk dtk_X7_beginThread 53 rfl) rfl rfl ?_
  refine T_iconst (v := 0) (dk dtk_X7_beginThread 54 rfl) (by decide +kernel) ?_
  obtain ⟨x10, ex10⟩ : ∃ z, z = si x9 100 7 0 := ⟨_, rfl⟩
  have h := h x10 ex10
  refine T_putI 100 7 (dk dtk_X7_beginThread 55 rfl) kfl_X7_178 kk_100 (kl_100 hq) (by decide) rfl ⟨rfl, rfl⟩ ?_
  rw [← ex10]
  refine T_aload_n 0 (dk dtk_X7_beginThread 56 rfl) rfl rfl ?_
  refine T_iconst (v := 0) (dk dtk_X7_beginThread 57 rfl) (by decide +kernel) ?_
  obtain ⟨x11, ex11⟩ : ∃ z, z = si x10 100 9 0 := ⟨_, rfl⟩
  have h := h x11 ex11
  refine T_putI 100 9 (dk dtk_X7_beginThread 58 rfl) kfl_X7_181 kk_100 (kl_100 hq) (by decide) rfl ⟨rfl, rfl⟩ ?_
  rw [← ex11]
  refine T_aload_n 0 (dk dtk_X7_beginThread 59 rfl) rfl rfl ?_
  refine T_iconst (v := 0) (dk dtk_X7_beginThread 60 rfl) (by decide +kernel) ?_
  obtain ⟨x12, ex12⟩ : ∃ z, z = si x11 100 13 0 := ⟨_, rfl⟩
  have h := h x12 ex12
  refine T_putI 100 13 (dk dtk_X7_beginThread 61 rfl) kfl_X7_184 kk_100 (kl_100 hq) (by decide) rfl ⟨rfl, rfl⟩ ?_
  rw [← ex12]
  refine T_aload_n 0 (dk dtk_X7_beginThread 62 rfl) rfl rfl ?_
  refine T_iconst (v := 1) (dk dtk_X7_beginThread 63 rfl) (by decide +kernel) ?_
  obtain ⟨x13, ex13⟩ : ∃ z, z = si x12 100 5 1 := ⟨_, rfl⟩
  have h := h x13 ex13
  refine T_putI 100 5 (dk dtk_X7_beginThread 64 rfl) kfl_X7_65 kk_100 (kl_100 hq) (by decide) rfl ⟨rfl, rfl⟩ ?_
  rw [← ex13]
  refine T_aload_n 0 (dk dtk_X7_beginThread 65 rfl) rfl rfl ?_
  refine T_iconst (v := 0) (dk dtk_X7_beginThread 66 rfl) (by decide +kernel) ?_
  refine T_iconst (v := (-1)) (dk dtk_X7_beginThread 67 rfl) (by decide +kernel) ?_
  refine T_sub (lv2 := []) [] rfl ?_
  refine KD_Vv [vi 0, vi (-1)] [] rfl (dk dtk_X7_beginThread 68 rfl) kcv_X7_187 rfl kk_100 rfl (kl_100 hq) (Nat.le_of_ble_eq_true rfl) (Nat.le_of_ble_eq_true rfl) (gok_i av_n as_n) rfl h (fun x14 h => ?_)
  exact KE_vret (dk dtk_X7_beginThread 69 rfl) rfl h
set_option maxRecDepth 100000 in
theorem dtk_X7_endThread : dck cX7_endThread [(0, .aload_n 0, 1), (1, .getfield 29, 3), (4, .bipush 21, 2), (6, .iconst 0, 1), (7, .iconst 0, 1), (8, .invokevirtual 191, 3), (11, .pop, 1), (12, .aload_n 0, 1), (13, .iconst 0, 1), (14, .putfield 65, 3), (17, .return_, 1)] = true := by decide +kernel
set_option maxRecDepth 100000 in
set_option maxHeartbeats 4000000 in
theorem kg_X7_endThread_0 {G : kG} {q : kP} {d : Nat} {x : gd} {P : Option gv → gd → Prop} (hq : kV q) 
    (h : KT G q d zk_X8_add 0 [(0, vr 80), (1, vi 21), (2, vi 0), (3, vi 0)] [] x (ri (fun r2 x1 => (∀ x3 : gd, x3 = si x1 100 5 0 → P none x3)))) :
    KT G q (d + 1) zk_X7_endThread 0 [(0, vr 100)] [] x P := by
  refine T_aload_n 0 (dk dtk_X7_endThread 0 rfl) rfl rfl ?_
  refine T_getR 100 3 80 (dk dtk_X7_endThread 1 rfl) kfl_X7_29 kk_100 (kl_100 hq) (by decide) rfl kr_100_3 ?_
  refine T_bipush (v := 21) (dk dtk_X7_endThread 2 rfl) (by decide +kernel) ?_
  refine T_iconst (v := 0) (dk dtk_X7_endThread 3 rfl) (by decide +kernel) ?_
  refine T_iconst (v := 0) (dk dtk_X7_endThread 4 rfl) (by decide +kernel) ?_
  refine KC_Vi [vi 21, vi 0, vi 0] [] rfl (dk dtk_X7_endThread 5 rfl) kcv_X7_191 rfl kk_80 rfl (kl_80 hq) (Nat.le_of_ble_eq_true rfl) (Nat.le_of_ble_eq_true rfl) (gok_i (av_c (gkr (kl_100 hq)) av_n) as_n) rfl h (fun r2 x1 h => ?_)
  refine T_pop (dk dtk_X7_endThread 6 rfl) rfl ?_
  refine T_aload_n 0 (dk dtk_X7_endThread 7 rfl) rfl rfl ?_
  refine T_iconst (v := 0) (dk dtk_X7_endThread 8 rfl) (by decide +kernel) ?_
  obtain ⟨x3, ex3⟩ : ∃ z, z = si x1 100 5 0 := ⟨_, rfl⟩
  have h := h x3 ex3
  refine T_putI 100 5 (dk dtk_X7_endThread 9 rfl) kfl_X7_65 kk_100 (kl_100 hq) (by decide) rfl ⟨rfl, rfl⟩ ?_
  rw [← ex3]
  exact KT_vret (dk dtk_X7_endThread 10 rfl) rfl h
end
section
set_option maxRecDepth 100000 in
theorem dtk_X7_claim : dck cX7_claim [(0, .aload_n 0, 1), (1, .invokevirtual 71, 3), (4, .bipush 41, 2), (6, .if_icmp .ne 7, 3), (9, .iconst 1, 1), (10, .goto 4, 3), (13, .iconst 0, 1), (14, .istore_n 1, 1), (15, .iload_n 1, 1), (16, .ifCond .eq 13, 3), (19, .aload_n 0, 1), (20, .getfield 19, 3), (23, .getfield 195, 3), (26, .goto 10, 3), (29, .aload_n 0, 1), (30, .getfield 19, 3), (33, .getfield 198, 3), (36, .istore_n 2, 1), (37, .iload_n 2, 1), (38, .iconst 4, 1), (39, .if_icmp .lt 8, 3), (42, .aload_n 0, 1), (43, .iconst 3, 1), (44, .invokevirtual 96, 3), (47, .aload_n 0, 1), (48, .invokevirtual 112, 3), (51, .aload_n 0, 1), (52, .iconst 1, 1), (53, .invokevirtual 201, 3), (56, .istore_n 3, 1), (57, .aload_n 0, 1), (58, .bipush 27, 2), (60, .invokevirtual 115, 3), (63, .iload_n 1, 1), (64, .ifCond .eq 29, 3), (67, .aload_n 0, 1), (68, .getfield 19, 3), (71, .getfield 205, 3), (74, .iload_n 2, 1), (75, .iload_n 3, 1), (76, .iastore, 1), (77, .aload_n 0, 1), (78, .getfield 19, 3), (81, .dup, 1), (82, .getfield 195, 3), (85, .iconst 1, 1), (86, .iadd, 1), (87, .putfield 195, 3), (90, .goto 26, 3), (93, .aload_n 0, 1), (94, .getfield 19, 3), (97, .getfield 208, 3), (100, .iload_n 2, 1), (101, .iload_n 3, 1), (102, .iastore, 1), (103, .aload_n 0, 1), (104, .getfield 19, 3), (107, .dup, 1), (108, .getfield 198, 3), (111, .iconst 1, 1), (112, .iadd, 1), (113, .putfield 198, 3), (116, .return_, 1)] = true := by decide +kernel
set_option maxRecDepth 100000 in
set_option maxHeartbeats 4000000 in
theorem kg_X7_claim_0 {G : kG} {q : kP} {d : Nat} {x : gd} {P : Option gv → gd → Prop} {X : String → gd → Prop} (hq : kV q) 
    (h : KT G q (d + 6) zk_X7_sort 0 [(0, vr 100)] [] x (ri (fun r2 x1 => ((¬ (r2 = (41 : Int32)) → KE G q (d + 7) zk_X7_claim 14 [(0, vr 100)] [vi 0] x1 P X) ∧ (r2 = (41 : Int32) → KE G q (d + 7) zk_X7_claim 14 [(0, vr 100)] [vi 1] x1 P X))))) :
    KE G q (d + 7) zk_X7_claim 0 [(0, vr 100)] [] x P X := by
  refine T_aload_n 0 (dk dtk_X7_claim 0 rfl) rfl rfl ?_
  refine KC_Vi [] [] rfl (dk dtk_X7_claim 1 rfl) kcv_X7_71 rfl kk_100 rfl (kl_100 hq) (Nat.le_of_ble_eq_true rfl) (Nat.le_of_ble_eq_true rfl) (gok_i (av_c (gkr (kl_100 hq)) av_n) as_n) rfl h (fun r2 x1 h => ?_)
  refine T_bipush (v := 41) (dk dtk_X7_claim 2 rfl) (by decide +kernel) ?_
  refine T_icmp_ne 13 (dk dtk_X7_claim 3 rfl) (by decide) (fun c3 => ?_) (fun c3 => ?_)
  · have h := h.1 c3
    refine T_iconst (v := 0) (dk dtk_X7_claim 6 rfl) (by decide +kernel) ?_
    exact h
  · have h := h.2 c3
    refine T_iconst (v := 1) (dk dtk_X7_claim 4 rfl) (by decide +kernel) ?_
    refine T_goto 14 (dk dtk_X7_claim 5 rfl) (by decide) ?_
    exact h
set_option maxRecDepth 100000 in
set_option maxHeartbeats 4000000 in
theorem kg_X7_claim_14 {G : kG} {q : kP} {d : Nat} {x : gd} {P : Option gv → gd → Prop} {X : String → gd → Prop} (hq : kV q) (s0 : Int32)
    (h : ((s0 = (0 : Int32) → KE G q (d + 7) zk_X7_claim 36 [(0, vr 100), (1, vi s0)] [vi (x.1 60 16)] x P X) ∧ (¬ (s0 = (0 : Int32)) → KE G q (d + 7) zk_X7_claim 36 [(0, vr 100), (1, vi s0)] [vi (x.1 60 14)] x P X))) :
    KE G q (d + 7) zk_X7_claim 14 [(0, vr 100)] [vi s0] x P X := by
  refine T_istore_n (lv2 := [(1, vi s0), (0, vr 100)]) (dk dtk_X7_claim 7 rfl) rfl (by decide) rfl ?_
  refine T_iload_n 0 (dk dtk_X7_claim 8 rfl) rfl rfl ?_
  refine T_if_eq 29 (dk dtk_X7_claim 9 rfl) (by decide) (fun c1 => ?_) (fun c1 => ?_)
  · have h := h.1 c1
    refine T_aload_n 1 (dk dtk_X7_claim 14 rfl) rfl rfl ?_
    refine T_getR 100 2 60 (dk dtk_X7_claim 15 rfl) kfl_X7_19 kk_100 (kl_100 hq) (by decide) rfl kr_100_2 ?_
    refine T_getI 60 16 (dk dtk_X7_claim 16 rfl) kfl_X7_198 kk_60 (kl_60 hq) (by decide) rfl ?_
    exact T_sub [1, 0] rfl h
  · have h := h.2 c1
    refine T_aload_n 1 (dk dtk_X7_claim 10 rfl) rfl rfl ?_
    refine T_getR 100 2 60 (dk dtk_X7_claim 11 rfl) kfl_X7_19 kk_100 (kl_100 hq) (by decide) rfl kr_100_2 ?_
    refine T_getI 60 14 (dk dtk_X7_claim 12 rfl) kfl_X7_195 kk_60 (kl_60 hq) (by decide) rfl ?_
    refine T_goto 36 (dk dtk_X7_claim 13 rfl) (by decide) ?_
    exact T_sub [1, 0] rfl h
set_option maxRecDepth 100000 in
set_option maxHeartbeats 4000000 in
theorem kg_X7_claim_36 {G : kG} {q : kP} {d : Nat} {x : gd} {P : Option gv → gd → Prop} {X : String → gd → Prop} (hq : kV q) (l1 : Int32) (s0 : Int32)
    (h : ((s0 < (4 : Int32) → KE G q (d + 7) zk_X7_claim 47 [(0, vr 100), (1, vi l1), (2, vi s0)] [] x P X) ∧ (¬ (s0 < (4 : Int32)) → KE G q (d + 6) zk_X7_refuse 0 [(0, vr 100), (1, vi 3)] [] x (rv (fun x2 => KE G q (d + 7) zk_X7_claim 47 [(0, vr 100), (1, vi l1), (2, vi s0)] [] x2 P X)) X))) :
    KE G q (d + 7) zk_X7_claim 36 [(0, vr 100), (1, vi l1)] [vi s0] x P X := by
  refine T_istore_n (lv2 := [(2, vi s0), (0, vr 100), (1, vi l1)]) (dk dtk_X7_claim 17 rfl) rfl (by decide) rfl ?_
  refine T_iload_n 0 (dk dtk_X7_claim 18 rfl) rfl rfl ?_
  refine T_iconst (v := 4) (dk dtk_X7_claim 19 rfl) (by decide +kernel) ?_
  refine T_icmp_lt 47 (dk dtk_X7_claim 20 rfl) (by decide) (fun c1 => ?_) (fun c1 => ?_)
  · have h := h.1 c1
    exact T_sub [1, 2, 0] rfl h
  · have h := h.2 c1
    refine T_aload_n 1 (dk dtk_X7_claim 21 rfl) rfl rfl ?_
    refine T_iconst (v := 3) (dk dtk_X7_claim 22 rfl) (by decide +kernel) ?_
    refine KD_Vv [vi 3] [] rfl (dk dtk_X7_claim 23 rfl) kcv_X7_96 rfl kk_100 rfl (kl_100 hq) (Nat.le_of_ble_eq_true rfl) (Nat.le_of_ble_eq_true rfl) (gok_i (av_c rfl (av_c (gkr (kl_100 hq)) (av_c rfl av_n))) as_n) rfl h (fun x2 h => ?_)
    exact T_sub [1, 2, 0] rfl h
set_option maxRecDepth 100000 in
set_option maxHeartbeats 4000000 in
theorem kg_X7_claim_47 {G : kG} {q : kP} {d : Nat} {x : gd} {P : Option gv → gd → Prop} {X : String → gd → Prop} (hq : kV q) (l1 : Int32) (l2 : Int32)
    (h : KE G q (d + 6) zk_X7_pass 0 [(0, vr 100)] [] x (rv (fun x1 => KE G q (d + 6) zk_X7_sum 0 [(0, vr 100), (1, vi 1)] [] x1 (ri (fun r3 x2 => KE G q (d + 6) zk_X7_need 0 [(0, vr 100), (1, vi 27)] [] x2 (rv (fun x4 => ((l1 = (0 : Int32) → vp_in l2 4 ∧ (∀ x7 : gd, x7 = si x4 78 (l2 : Int32).toNatClampNeg r3 → (∀ x8 : gd, x8 = si x7 60 16 ((x7.1 60 16) + 1) → P none x8))) ∧ (¬ (l1 = (0 : Int32)) → vp_in l2 4 ∧ (∀ x10 : gd, x10 = si x4 76 (l2 : Int32).toNatClampNeg r3 → (∀ x11 : gd, x11 = si x10 60 14 ((x10.1 60 14) + 1) → P none x11)))))) X)) X)) X) :
    KE G q (d + 7) zk_X7_claim 47 [(0, vr 100), (1, vi l1), (2, vi l2)] [] x P X := by
  refine T_aload_n 0 (dk dtk_X7_claim 24 rfl) rfl rfl ?_
  refine KD_Vv [] [] rfl (dk dtk_X7_claim 25 rfl) kcv_X7_112 rfl kk_100 rfl (kl_100 hq) (Nat.le_of_ble_eq_true rfl) (Nat.le_of_ble_eq_true rfl) (gok_i (av_c (gkr (kl_100 hq)) (av_c rfl (av_c rfl av_n))) as_n) rfl h (fun x1 h => ?_)
  refine T_aload_n 0 (dk dtk_X7_claim 26 rfl) rfl rfl ?_
  refine T_iconst (v := 1) (dk dtk_X7_claim 27 rfl) (by decide +kernel) ?_
  refine KD_Vi [vi 1] [] rfl (dk dtk_X7_claim 28 rfl) kcv_X7_201 rfl kk_100 rfl (kl_100 hq) (Nat.le_of_ble_eq_true rfl) (Nat.le_of_ble_eq_true rfl) (gok_i (av_c (gkr (kl_100 hq)) (av_c rfl (av_c rfl av_n))) as_n) rfl h (fun r3 x2 h => ?_)
  refine T_istore_n (lv2 := [(3, vi r3), (0, vr 100), (1, vi l1), (2, vi l2)]) (dk dtk_X7_claim 29 rfl) rfl (by decide) rfl ?_
  refine T_aload_n 1 (dk dtk_X7_claim 30 rfl) rfl rfl ?_
  refine T_bipush (v := 27) (dk dtk_X7_claim 31 rfl) (by decide +kernel) ?_
  refine KD_Vv [vi 27] [] rfl (dk dtk_X7_claim 32 rfl) kcv_X7_115 rfl kk_100 rfl (kl_100 hq) (Nat.le_of_ble_eq_true rfl) (Nat.le_of_ble_eq_true rfl) (gok_i (av_c rfl (av_c (gkr (kl_100 hq)) (av_c rfl (av_c rfl av_n)))) as_n) rfl h (fun x4 h => ?_)
  refine T_iload_n 2 (dk dtk_X7_claim 33 rfl) rfl rfl ?_
  refine T_if_eq 93 (dk dtk_X7_claim 34 rfl) (by decide) (fun c5 => ?_) (fun c5 => ?_)
  · have h := h.1 c5
    refine T_aload_n 1 (dk dtk_X7_claim 49 rfl) rfl rfl ?_
    refine T_getR 100 2 60 (dk dtk_X7_claim 50 rfl) kfl_X7_19 kk_100 (kl_100 hq) (by decide) rfl kr_100_2 ?_
    refine T_getR 60 17 78 (dk dtk_X7_claim 51 rfl) kfl_X7_208 kk_60 (kl_60 hq) (by decide) rfl kr_60_17 ?_
    refine T_iload_n 3 (dk dtk_X7_claim 52 rfl) rfl rfl ?_
    refine T_iload_n 0 (dk dtk_X7_claim 53 rfl) rfl rfl ?_
    obtain ⟨h6, h⟩ := h
    obtain ⟨x7, ex7⟩ : ∃ z, z = si x4 78 (l2 : Int32).toNatClampNeg r3 := ⟨_, rfl⟩
    have h := h x7 ex7
    refine T_iast 78 4 (dk dtk_X7_claim 54 rfl) kk_78 (kl_78 hq) h6 ?_
    rw [← ex7]
    refine T_aload_n 1 (dk dtk_X7_claim 55 rfl) rfl rfl ?_
    refine T_getR 100 2 60 (dk dtk_X7_claim 56 rfl) kfl_X7_19 kk_100 (kl_100 hq) (by decide) rfl kr_100_2 ?_
    refine T_dup (dk dtk_X7_claim 57 rfl) rfl ?_
    refine T_getI 60 16 (dk dtk_X7_claim 58 rfl) kfl_X7_198 kk_60 (kl_60 hq) (by decide) rfl ?_
    refine T_iconst (v := 1) (dk dtk_X7_claim 59 rfl) (by decide +kernel) ?_
    refine T_iadd (dk dtk_X7_claim 60 rfl) ?_
    obtain ⟨x8, ex8⟩ : ∃ z, z = si x7 60 16 ((x7.1 60 16) + 1) := ⟨_, rfl⟩
    have h := h x8 ex8
    refine T_putI 60 16 (dk dtk_X7_claim 61 rfl) kfl_X7_198 kk_60 (kl_60 hq) (by decide) rfl ⟨rfl, rfl⟩ ?_
    rw [← ex8]
    exact KE_vret (dk dtk_X7_claim 62 rfl) rfl h
  · have h := h.2 c5
    refine T_aload_n 1 (dk dtk_X7_claim 35 rfl) rfl rfl ?_
    refine T_getR 100 2 60 (dk dtk_X7_claim 36 rfl) kfl_X7_19 kk_100 (kl_100 hq) (by decide) rfl kr_100_2 ?_
    refine T_getR 60 15 76 (dk dtk_X7_claim 37 rfl) kfl_X7_205 kk_60 (kl_60 hq) (by decide) rfl kr_60_15 ?_
    refine T_iload_n 3 (dk dtk_X7_claim 38 rfl) rfl rfl ?_
    refine T_iload_n 0 (dk dtk_X7_claim 39 rfl) rfl rfl ?_
    obtain ⟨h9, h⟩ := h
    obtain ⟨x10, ex10⟩ : ∃ z, z = si x4 76 (l2 : Int32).toNatClampNeg r3 := ⟨_, rfl⟩
    have h := h x10 ex10
    refine T_iast 76 4 (dk dtk_X7_claim 40 rfl) kk_76 (kl_76 hq) h9 ?_
    rw [← ex10]
    refine T_aload_n 1 (dk dtk_X7_claim 41 rfl) rfl rfl ?_
    refine T_getR 100 2 60 (dk dtk_X7_claim 42 rfl) kfl_X7_19 kk_100 (kl_100 hq) (by decide) rfl kr_100_2 ?_
    refine T_dup (dk dtk_X7_claim 43 rfl) rfl ?_
    refine T_getI 60 14 (dk dtk_X7_claim 44 rfl) kfl_X7_195 kk_60 (kl_60 hq) (by decide) rfl ?_
    refine T_iconst (v := 1) (dk dtk_X7_claim 45 rfl) (by decide +kernel) ?_
    refine T_iadd (dk dtk_X7_claim 46 rfl) ?_
    obtain ⟨x11, ex11⟩ : ∃ z, z = si x10 60 14 ((x10.1 60 14) + 1) := ⟨_, rfl⟩
    have h := h x11 ex11
    refine T_putI 60 14 (dk dtk_X7_claim 47 rfl) kfl_X7_195 kk_60 (kl_60 hq) (by decide) rfl ⟨rfl, rfl⟩ ?_
    rw [← ex11]
    refine T_goto 116 (dk dtk_X7_claim 48 rfl) (by decide) ?_
    exact KE_vret (dk dtk_X7_claim 62 rfl) rfl h
set_option maxRecDepth 100000 in
theorem dtk_X7_enter : dck cX7_enter [(0, .aload_n 0, 1), (1, .getfield 184, 3), (4, .bipush 20, 2), (6, .if_icmp .ge 46, 3), (9, .aload_n 0, 1), (10, .getfield 34, 3), (13, .aload_n 0, 1), (14, .getfield 184, 3), (17, .iload_n 1, 1), (18, .iastore, 1), (19, .aload_n 0, 1), (20, .getfield 37, 3), (23, .aload_n 0, 1), (24, .getfield 184, 3), (27, .iload_n 2, 1), (28, .iastore, 1), (29, .aload_n 0, 1), (30, .getfield 40, 3), (33, .aload_n 0, 1), (34, .getfield 184, 3), (37, .aload_n 0, 1), (38, .getfield 181, 3), (41, .iastore, 1), (42, .aload_n 0, 1), (43, .dup, 1), (44, .getfield 184, 3), (47, .iconst 1, 1), (48, .iadd, 1), (49, .putfield 184, 3), (52, .return_, 1)] = true := by decide +kernel
set_option maxRecDepth 100000 in
set_option maxHeartbeats 4000000 in
theorem kg_X7_enter_0 {G : kG} {q : kP} {d : Nat} {x : gd} {P : Option gv → gd → Prop} (hq : kV q) (l1 : Int32) (l2 : Int32)
    (h : (((20 : Int32) ≤ (x.1 100 13) → P none x) ∧ (¬ ((20 : Int32) ≤ (x.1 100 13)) → vp_in (x.1 100 13) 20 ∧ (∀ x3 : gd, x3 = si x 111 (x.1 100 13 : Int32).toNatClampNeg l1 → vp_in (x3.1 100 13) 20 ∧ (∀ x5 : gd, x5 = si x3 112 (x3.1 100 13 : Int32).toNatClampNeg l2 → vp_in (x5.1 100 13) 20 ∧ (∀ x7 : gd, x7 = si x5 113 (x5.1 100 13 : Int32).toNatClampNeg (x5.1 100 9) → (∀ x8 : gd, x8 = si x7 100 13 ((x7.1 100 13) + 1) → P none x8))))))) :
    KT G q d zk_X7_enter 0 [(0, vr 100), (1, vi l1), (2, vi l2)] [] x P := by
  refine T_aload_n 0 (dk dtk_X7_enter 0 rfl) rfl rfl ?_
  refine T_getI 100 13 (dk dtk_X7_enter 1 rfl) kfl_X7_184 kk_100 (kl_100 hq) (by decide) rfl ?_
  refine T_bipush (v := 20) (dk dtk_X7_enter 2 rfl) (by decide +kernel) ?_
  refine T_icmp_ge 52 (dk dtk_X7_enter 3 rfl) (by decide) (fun c1 => ?_) (fun c1 => ?_)
  · have h := h.1 c1
    exact KT_vret (dk dtk_X7_enter 29 rfl) rfl h
  · have h := h.2 c1
    refine T_aload_n 0 (dk dtk_X7_enter 4 rfl) rfl rfl ?_
    refine T_getR 100 10 111 (dk dtk_X7_enter 5 rfl) kfl_X7_34 kk_100 (kl_100 hq) (by decide) rfl kr_100_10 ?_
    refine T_aload_n 0 (dk dtk_X7_enter 6 rfl) rfl rfl ?_
    refine T_getI 100 13 (dk dtk_X7_enter 7 rfl) kfl_X7_184 kk_100 (kl_100 hq) (by decide) rfl ?_
    refine T_iload_n 1 (dk dtk_X7_enter 8 rfl) rfl rfl ?_
    obtain ⟨h2, h⟩ := h
    obtain ⟨x3, ex3⟩ : ∃ z, z = si x 111 (x.1 100 13 : Int32).toNatClampNeg l1 := ⟨_, rfl⟩
    have h := h x3 ex3
    refine T_iast 111 20 (dk dtk_X7_enter 9 rfl) kk_111 (kl_111 hq) h2 ?_
    rw [← ex3]
    refine T_aload_n 0 (dk dtk_X7_enter 10 rfl) rfl rfl ?_
    refine T_getR 100 11 112 (dk dtk_X7_enter 11 rfl) kfl_X7_37 kk_100 (kl_100 hq) (by decide) rfl kr_100_11 ?_
    refine T_aload_n 0 (dk dtk_X7_enter 12 rfl) rfl rfl ?_
    refine T_getI 100 13 (dk dtk_X7_enter 13 rfl) kfl_X7_184 kk_100 (kl_100 hq) (by decide) rfl ?_
    refine T_iload_n 2 (dk dtk_X7_enter 14 rfl) rfl rfl ?_
    obtain ⟨h4, h⟩ := h
    obtain ⟨x5, ex5⟩ : ∃ z, z = si x3 112 (x3.1 100 13 : Int32).toNatClampNeg l2 := ⟨_, rfl⟩
    have h := h x5 ex5
    refine T_iast 112 20 (dk dtk_X7_enter 15 rfl) kk_112 (kl_112 hq) h4 ?_
    rw [← ex5]
    refine T_aload_n 0 (dk dtk_X7_enter 16 rfl) rfl rfl ?_
    refine T_getR 100 12 113 (dk dtk_X7_enter 17 rfl) kfl_X7_40 kk_100 (kl_100 hq) (by decide) rfl kr_100_12 ?_
    refine T_aload_n 0 (dk dtk_X7_enter 18 rfl) rfl rfl ?_
    refine T_getI 100 13 (dk dtk_X7_enter 19 rfl) kfl_X7_184 kk_100 (kl_100 hq) (by decide) rfl ?_
    refine T_aload_n 0 (dk dtk_X7_enter 20 rfl) rfl rfl ?_
    refine T_getI 100 9 (dk dtk_X7_enter 21 rfl) kfl_X7_181 kk_100 (kl_100 hq) (by decide) rfl ?_
    obtain ⟨h6, h⟩ := h
    obtain ⟨x7, ex7⟩ : ∃ z, z = si x5 113 (x5.1 100 13 : Int32).toNatClampNeg (x5.1 100 9) := ⟨_, rfl⟩
    have h := h x7 ex7
    refine T_iast 113 20 (dk dtk_X7_enter 22 rfl) kk_113 (kl_113 hq) h6 ?_
    rw [← ex7]
    refine T_aload_n 0 (dk dtk_X7_enter 23 rfl) rfl rfl ?_
    refine T_dup (dk dtk_X7_enter 24 rfl) rfl ?_
    refine T_getI 100 13 (dk dtk_X7_enter 25 rfl) kfl_X7_184 kk_100 (kl_100 hq) (by decide) rfl ?_
    refine T_iconst (v := 1) (dk dtk_X7_enter 26 rfl) (by decide +kernel) ?_
    refine T_iadd (dk dtk_X7_enter 27 rfl) ?_
    obtain ⟨x8, ex8⟩ : ∃ z, z = si x7 100 13 ((x7.1 100 13) + 1) := ⟨_, rfl⟩
    have h := h x8 ex8
    refine T_putI 100 13 (dk dtk_X7_enter 28 rfl) kfl_X7_184 kk_100 (kl_100 hq) (by decide) rfl ⟨rfl, rfl⟩ ?_
    rw [← ex8]
    exact KT_vret (dk dtk_X7_enter 29 rfl) rfl h
set_option maxRecDepth 100000 in
theorem dtk_X7_openBlock : dck cX7_openBlock [(0, .aload_n 0, 1), (1, .bipush 23, 2), (3, .invokevirtual 115, 3), (6, .aload_n 0, 1), (7, .iload_n 1, 1), (8, .iload_n 2, 1), (9, .invokevirtual 211, 3), (12, .return_, 1)] = true := by decide +kernel
set_option maxRecDepth 100000 in
set_option maxHeartbeats 4000000 in
theorem kg_X7_openBlock_0 {G : kG} {q : kP} {d : Nat} {x : gd} {P : Option gv → gd → Prop} {X : String → gd → Prop} (hq : kV q) (l1 : Int32) (l2 : Int32)
    (h : KE G q (d + 6) zk_X7_need 0 [(0, vr 100), (1, vi 23)] [] x (rv (fun x1 => KT G q (d + 6) zk_X7_enter 0 [(0, vr 100), (1, vi l1), (2, vi l2)] [] x1 (rv (fun x2 => P none x2)))) X) :
    KE G q (d + 7) zk_X7_openBlock 0 [(0, vr 100), (1, vi l1), (2, vi l2)] [] x P X := by
  refine T_aload_n 0 (dk dtk_X7_openBlock 0 rfl) rfl rfl ?_
  refine T_bipush (v := 23) (dk dtk_X7_openBlock 1 rfl) (by decide +kernel) ?_
  refine KD_Vv [vi 23] [] rfl (dk dtk_X7_openBlock 2 rfl) kcv_X7_115 rfl kk_100 rfl (kl_100 hq) (Nat.le_of_ble_eq_true rfl) (Nat.le_of_ble_eq_true rfl) (gok_i (av_c (gkr (kl_100 hq)) (av_c rfl (av_c rfl av_n))) as_n) rfl h (fun x1 h => ?_)
  refine T_aload_n 0 (dk dtk_X7_openBlock 3 rfl) rfl rfl ?_
  refine T_iload_n 1 (dk dtk_X7_openBlock 4 rfl) rfl rfl ?_
  refine T_iload_n 2 (dk dtk_X7_openBlock 5 rfl) rfl rfl ?_
  refine T_sub (lv2 := []) [] rfl ?_
  refine KC_Vv [vi l1, vi l2] [] rfl (dk dtk_X7_openBlock 6 rfl) kcv_X7_211 rfl kk_100 rfl (kl_100 hq) (Nat.le_of_ble_eq_true rfl) (Nat.le_of_ble_eq_true rfl) (gok_i av_n as_n) rfl h (fun x2 h => ?_)
  exact KE_vret (dk dtk_X7_openBlock 7 rfl) rfl h
set_option maxRecDepth 100000 in
theorem dtk_X7_closeBlock : dck cX7_closeBlock [(0, .aload_n 0, 1), (1, .bipush 24, 2), (3, .invokevirtual 115, 3), (6, .aload_n 0, 1), (7, .dup, 1), (8, .getfield 184, 3), (11, .iconst 1, 1), (12, .isub, 1), (13, .putfield 184, 3), (16, .aload_n 0, 1), (17, .aload_n 0, 1), (18, .getfield 40, 3), (21, .aload_n 0, 1), (22, .getfield 184, 3), (25, .iaload, 1), (26, .putfield 181, 3), (29, .aload_n 0, 1), (30, .getfield 37, 3), (33, .aload_n 0, 1), (34, .getfield 184, 3), (37, .iaload, 1), (38, .istore_n 1, 1), (39, .aload_n 0, 1), (40, .getfield 34, 3), (43, .aload_n 0, 1), (44, .getfield 184, 3), (47, .iaload, 1), (48, .tableswitch 157 1 4 #[32, 82, 124, 149], 32), (80, .aload_n 0, 1), (81, .getfield 29, 3), (84, .getfield 214, 3), (87, .aload_n 0, 1), (88, .getfield 29, 3), (91, .bipush 20, 2), (93, .aload_n 0, 1), (94, .getfield 29, 3), (97, .getfield 217, 3), (100, .iload_n 1, 1), (101, .iaload, 1), (102, .aload_n 0, 1), (103, .getfield 181, 3), (106, .invokevirtual 191, 3), (109, .iload_n 1, 1), (110, .iastore, 1), (111, .aload_n 0, 1), (112, .getfield 29, 3), (115, .getfield 214, 3), (118, .iload_n 1, 1), (119, .aload_n 0, 1), (120, .getfield 29, 3), (123, .getfield 173, 3), (126, .iastore, 1), (127, .goto 82, 3), (130, .aload_n 0, 1), (131, .getfield 29, 3), (134, .getfield 220, 3), (137, .aload_n 0, 1), (138, .getfield 29, 3), (141, .bipush 6, 2), (143, .aload_n 0, 1), (144, .getfield 29, 3), (147, .getfield 217, 3), (150, .iload_n 1, 1), (151, .iaload, 1), (152, .aload_n 0, 1), (153, .getfield 181, 3), (156, .invokevirtual 191, 3), (159, .aload_n 0, 1), (160, .getfield 29, 3), (163, .getfield 220, 3), (166, .iload_n 1, 1), (167, .iaload, 1), (168, .iastore, 1), (169, .goto 40, 3), (172, .aload_n 0, 1), (173, .invokevirtual 71, 3), (176, .bipush 48, 2), (178, .if_icmp .ne 11, 3), (181, .aload_n 0, 1), (182, .iload_n 1, 1), (183, .invokevirtual 223, 3), (186, .goto 23, 3), (189, .aload_n 0, 1), (190, .iload_n 1, 1), (191, .invokevirtual 226, 3), (194, .goto 15, 3), (197, .aload_n 0, 1), (198, .iload_n 1, 1), (199, .invokevirtual 226, 3), (202, .goto 7, 3), (205, .aload_n 0, 1), (206, .invokevirtual 229, 3), (209, .return_, 1)] = true := by decide +kernel
set_option maxRecDepth 100000 in
set_option maxHeartbeats 4000000 in
theorem kg_X7_closeBlock_0 {G : kG} {q : kP} {d : Nat} {x : gd} {P : Option gv → gd → Prop} {X : String → gd → Prop} (hq : kV q) 
    (h : KE G q (d + 6) zk_X7_need 0 [(0, vr 100), (1, vi 24)] [] x (rv (fun x1 => (∀ x2 : gd, x2 = si x1 100 13 ((x1.1 100 13) - 1) → vp_in (x2.1 100 13) 20 ∧ (∀ x4 : gd, x4 = si x2 100 9 (x2.1 113 (x2.1 100 13 : Int32).toNatClampNeg) → vp_in (x4.1 100 13) 20 ∧ vp_in (x4.1 100 13) 20 ∧ ((((x4.1 111 (x4.1 100 13 : Int32).toNatClampNeg) = 1) → vp_in (x4.1 112 (x4.1 100 13 : Int32).toNatClampNeg) 400 ∧ KT G q (d + 6) zk_X8_add 0 [(0, vr 80), (1, vi 20), (2, vi (x4.1 82 (x4.1 112 (x4.1 100 13 : Int32).toNatClampNeg : Int32).toNatClampNeg)), (3, vi (x4.1 100 9))] [] x4 (ri (fun r10 x9 => vp_in r10 400 ∧ (∀ x12 : gd, x12 = si x9 84 (r10 : Int32).toNatClampNeg (x4.1 112 (x4.1 100 13 : Int32).toNatClampNeg) → vp_in (x4.1 112 (x4.1 100 13 : Int32).toNatClampNeg) 400 ∧ (∀ x14 : gd, x14 = si x12 84 (x4.1 112 (x4.1 100 13 : Int32).toNatClampNeg : Int32).toNatClampNeg (x12.1 80 9) → P none x14))))) ∧ (((x4.1 111 (x4.1 100 13 : Int32).toNatClampNeg) = 2) → vp_in (x4.1 112 (x4.1 100 13 : Int32).toNatClampNeg) 400 ∧ KT G q (d + 6) zk_X8_add 0 [(0, vr 80), (1, vi 6), (2, vi (x4.1 82 (x4.1 112 (x4.1 100 13 : Int32).toNatClampNeg : Int32).toNatClampNeg)), (3, vi (x4.1 100 9))] [] x4 (ri (fun r18 x17 => vp_in (x4.1 112 (x4.1 100 13 : Int32).toNatClampNeg) 400 ∧ vp_in r18 400 ∧ (∀ x21 : gd, x21 = si x17 85 (r18 : Int32).toNatClampNeg (x17.1 85 (x4.1 112 (x4.1 100 13 : Int32).toNatClampNeg : Int32).toNatClampNeg) → P none x21)))) ∧ (((x4.1 111 (x4.1 100 13 : Int32).toNatClampNeg) = 3) → KT G q (d + 6) zk_X7_sort 0 [(0, vr 100)] [] x4 (ri (fun r24 x23 => ((¬ (r24 = (48 : Int32)) → KT G q (d + 6) zk_X7_endIf 0 [(0, vr 100), (1, vi (x4.1 112 (x4.1 100 13 : Int32).toNatClampNeg))] [] x23 (rv (fun x26 => P none x26))) ∧ (r24 = (48 : Int32) → KE G q (d + 6) zk_X7_openElse 0 [(0, vr 100), (1, vi (x4.1 112 (x4.1 100 13 : Int32).toNatClampNeg))] [] x23 (rv (fun x27 => P none x27)) X))))) ∧ (((x4.1 111 (x4.1 100 13 : Int32).toNatClampNeg) = 4) → KT G q (d + 6) zk_X7_endIf 0 [(0, vr 100), (1, vi (x4.1 112 (x4.1 100 13 : Int32).toNatClampNeg))] [] x4 (rv (fun x29 => P none x29))) ∧ ((∀ k ∈ [(1 : Int32), (2 : Int32), (3 : Int32), (4 : Int32)], ¬ (x4.1 111 (x4.1 100 13 : Int32).toNatClampNeg) = k) → KT G q (d + 6) zk_X7_endThread 0 [(0, vr 100)] [] x4 (rv (fun x31 => P none x31)))))))) X) :
    KE G q (d + 7) zk_X7_closeBlock 0 [(0, vr 100)] [] x P X := by
  refine T_aload_n 0 (dk dtk_X7_closeBlock 0 rfl) rfl rfl ?_
  refine T_bipush (v := 24) (dk dtk_X7_closeBlock 1 rfl) (by decide +kernel) ?_
  refine KD_Vv [vi 24] [] rfl (dk dtk_X7_closeBlock 2 rfl) kcv_X7_115 rfl kk_100 rfl (kl_100 hq) (Nat.le_of_ble_eq_true rfl) (Nat.le_of_ble_eq_true rfl) (gok_i (av_c (gkr (kl_100 hq)) av_n) as_n) rfl h (fun x1 h => ?_)
  refine T_aload_n 0 (dk dtk_X7_closeBlock 3 rfl) rfl rfl ?_
  refine T_dup (dk dtk_X7_closeBlock 4 rfl) rfl ?_
  refine T_getI 100 13 (dk dtk_X7_closeBlock 5 rfl) kfl_X7_184 kk_100 (kl_100 hq) (by decide) rfl ?_
  refine T_iconst (v := 1) (dk dtk_X7_closeBlock 6 rfl) (by decide +kernel) ?_
  refine T_isub (dk dtk_X7_closeBlock 7 rfl) ?_
  obtain ⟨x2, ex2⟩ : ∃ z, z = si x1 100 13 ((x1.1 100 13) - 1) := ⟨_, rfl⟩
  have h := h x2 ex2
  refine T_putI 100 13 (dk dtk_X7_closeBlock 8 rfl) kfl_X7_184 kk_100 (kl_100 hq) (by decide) rfl ⟨rfl, rfl⟩ ?_
  rw [← ex2]
  refine T_aload_n 0 (dk dtk_X7_closeBlock 9 rfl) rfl rfl ?_
  refine T_aload_n 0 (dk dtk_X7_closeBlock 10 rfl) rfl rfl ?_
  refine T_getR 100 12 113 (dk dtk_X7_closeBlock 11 rfl) kfl_X7_40 kk_100 (kl_100 hq) (by decide) rfl kr_100_12 ?_
  refine T_aload_n 0 (dk dtk_X7_closeBlock 12 rfl) rfl rfl ?_
  refine T_getI 100 13 (dk dtk_X7_closeBlock 13 rfl) kfl_X7_184 kk_100 (kl_100 hq) (by decide) rfl ?_
  obtain ⟨h3, h⟩ := h
  refine T_iald 113 20 (dk dtk_X7_closeBlock 14 rfl) kk_113 (kl_113 hq) h3 ?_
  obtain ⟨x4, ex4⟩ : ∃ z, z = si x2 100 9 (x2.1 113 (x2.1 100 13 : Int32).toNatClampNeg) := ⟨_, rfl⟩
  have h := h x4 ex4
  refine T_putI 100 9 (dk dtk_X7_closeBlock 15 rfl) kfl_X7_181 kk_100 (kl_100 hq) (by decide) rfl ⟨rfl, rfl⟩ ?_
  rw [← ex4]
  refine T_aload_n 0 (dk dtk_X7_closeBlock 16 rfl) rfl rfl ?_
  refine T_getR 100 11 112 (dk dtk_X7_closeBlock 17 rfl) kfl_X7_37 kk_100 (kl_100 hq) (by decide) rfl kr_100_11 ?_
  refine T_aload_n 0 (dk dtk_X7_closeBlock 18 rfl) rfl rfl ?_
  refine T_getI 100 13 (dk dtk_X7_closeBlock 19 rfl) kfl_X7_184 kk_100 (kl_100 hq) (by decide) rfl ?_
  obtain ⟨h5, h⟩ := h
  refine T_iald 112 20 (dk dtk_X7_closeBlock 20 rfl) kk_112 (kl_112 hq) h5 ?_
  refine T_istore_n (lv2 := [(1, vi (x4.1 112 (x4.1 100 13 : Int32).toNatClampNeg)), (0, vr 100)]) (dk dtk_X7_closeBlock 21 rfl) rfl (by decide) rfl ?_
  refine T_aload_n 1 (dk dtk_X7_closeBlock 22 rfl) rfl rfl ?_
  refine T_getR 100 10 111 (dk dtk_X7_closeBlock 23 rfl) kfl_X7_34 kk_100 (kl_100 hq) (by decide) rfl kr_100_10 ?_
  refine T_aload_n 1 (dk dtk_X7_closeBlock 24 rfl) rfl rfl ?_
  refine T_getI 100 13 (dk dtk_X7_closeBlock 25 rfl) kfl_X7_184 kk_100 (kl_100 hq) (by decide) rfl ?_
  obtain ⟨h6, h⟩ := h
  refine T_iald 111 20 (dk dtk_X7_closeBlock 26 rfl) kk_111 (kl_111 hq) h6 ?_
  by_cases c7 : (x4.1 111 (x4.1 100 13 : Int32).toNatClampNeg) = 1
  · have h := h.1 c7
    refine T_table 32 80 (dk dtk_X7_closeBlock 27 rfl) (by decide) (by rw [c7]; decide +kernel) (by decide) ?_
    refine T_aload_n 1 (dk dtk_X7_closeBlock 28 rfl) rfl rfl ?_
    refine T_getR 100 3 80 (dk dtk_X7_closeBlock 29 rfl) kfl_X7_29 kk_100 (kl_100 hq) (by decide) rfl kr_100_3 ?_
    refine T_getR 80 3 84 (dk dtk_X7_closeBlock 30 rfl) kfl_X7_214 kk_80 (kl_80 hq) (by decide) rfl kr_80_3 ?_
    refine T_aload_n 1 (dk dtk_X7_closeBlock 31 rfl) rfl rfl ?_
    refine T_getR 100 3 80 (dk dtk_X7_closeBlock 32 rfl) kfl_X7_29 kk_100 (kl_100 hq) (by decide) rfl kr_100_3 ?_
    refine T_bipush (v := 20) (dk dtk_X7_closeBlock 33 rfl) (by decide +kernel) ?_
    refine T_aload_n 1 (dk dtk_X7_closeBlock 34 rfl) rfl rfl ?_
    refine T_getR 100 3 80 (dk dtk_X7_closeBlock 35 rfl) kfl_X7_29 kk_100 (kl_100 hq) (by decide) rfl kr_100_3 ?_
    refine T_getR 80 1 82 (dk dtk_X7_closeBlock 36 rfl) kfl_X7_217 kk_80 (kl_80 hq) (by decide) rfl kr_80_1 ?_
    refine T_iload_n 0 (dk dtk_X7_closeBlock 37 rfl) rfl rfl ?_
    obtain ⟨h8, h⟩ := h
    refine T_iald 82 400 (dk dtk_X7_closeBlock 38 rfl) kk_82 (kl_82 hq) h8 ?_
    refine T_aload_n 1 (dk dtk_X7_closeBlock 39 rfl) rfl rfl ?_
    refine T_getI 100 9 (dk dtk_X7_closeBlock 40 rfl) kfl_X7_181 kk_100 (kl_100 hq) (by decide) rfl ?_
    refine KC_Vi [vi 20, vi (x4.1 82 (x4.1 112 (x4.1 100 13 : Int32).toNatClampNeg : Int32).toNatClampNeg), vi (x4.1 100 9)] [vr 84] rfl (dk dtk_X7_closeBlock 41 rfl) kcv_X7_191 rfl kk_80 rfl (kl_80 hq) (Nat.le_of_ble_eq_true rfl) (Nat.le_of_ble_eq_true rfl) (gok_i (av_c rfl (av_c (gkr (kl_100 hq)) av_n)) (as_c (gkr (kl_84 hq)) as_n)) rfl h (fun r10 x9 h => ?_)
    refine T_iload_n 0 (dk dtk_X7_closeBlock 42 rfl) rfl rfl ?_
    obtain ⟨h11, h⟩ := h
    obtain ⟨x12, ex12⟩ : ∃ z, z = si x9 84 (r10 : Int32).toNatClampNeg (x4.1 112 (x4.1 100 13 : Int32).toNatClampNeg) := ⟨_, rfl⟩
    have h := h x12 ex12
    refine T_iast 84 400 (dk dtk_X7_closeBlock 43 rfl) kk_84 (kl_84 hq) h11 ?_
    rw [← ex12]
    refine T_aload_n 1 (dk dtk_X7_closeBlock 44 rfl) rfl rfl ?_
    refine T_getR 100 3 80 (dk dtk_X7_closeBlock 45 rfl) kfl_X7_29 kk_100 (kl_100 hq) (by decide) rfl kr_100_3 ?_
    refine T_getR 80 3 84 (dk dtk_X7_closeBlock 46 rfl) kfl_X7_214 kk_80 (kl_80 hq) (by decide) rfl kr_80_3 ?_
    refine T_iload_n 0 (dk dtk_X7_closeBlock 47 rfl) rfl rfl ?_
    refine T_aload_n 1 (dk dtk_X7_closeBlock 48 rfl) rfl rfl ?_
    refine T_getR 100 3 80 (dk dtk_X7_closeBlock 49 rfl) kfl_X7_29 kk_100 (kl_100 hq) (by decide) rfl kr_100_3 ?_
    refine T_getI 80 9 (dk dtk_X7_closeBlock 50 rfl) kfl_X7_173 kk_80 (kl_80 hq) (by decide) rfl ?_
    obtain ⟨h13, h⟩ := h
    obtain ⟨x14, ex14⟩ : ∃ z, z = si x12 84 (x4.1 112 (x4.1 100 13 : Int32).toNatClampNeg : Int32).toNatClampNeg (x12.1 80 9) := ⟨_, rfl⟩
    have h := h x14 ex14
    refine T_iast 84 400 (dk dtk_X7_closeBlock 51 rfl) kk_84 (kl_84 hq) h13 ?_
    rw [← ex14]
    refine T_goto 209 (dk dtk_X7_closeBlock 52 rfl) (by decide) ?_
    exact KE_vret (dk dtk_X7_closeBlock 92 rfl) rfl h
  · have h := h.2
    by_cases c15 : (x4.1 111 (x4.1 100 13 : Int32).toNatClampNeg) = 2
    · have h := h.1 c15
      refine T_table 82 130 (dk dtk_X7_closeBlock 27 rfl) (by decide) (by rw [c15]; decide +kernel) (by decide) ?_
      refine T_aload_n 1 (dk dtk_X7_closeBlock 53 rfl) rfl rfl ?_
      refine T_getR 100 3 80 (dk dtk_X7_closeBlock 54 rfl) kfl_X7_29 kk_100 (kl_100 hq) (by decide) rfl kr_100_3 ?_
      refine T_getR 80 4 85 (dk dtk_X7_closeBlock 55 rfl) kfl_X7_220 kk_80 (kl_80 hq) (by decide) rfl kr_80_4 ?_
      refine T_aload_n 1 (dk dtk_X7_closeBlock 56 rfl) rfl rfl ?_
      refine T_getR 100 3 80 (dk dtk_X7_closeBlock 57 rfl) kfl_X7_29 kk_100 (kl_100 hq) (by decide) rfl kr_100_3 ?_
      refine T_bipush (v := 6) (dk dtk_X7_closeBlock 58 rfl) (by decide +kernel) ?_
      refine T_aload_n 1 (dk dtk_X7_closeBlock 59 rfl) rfl rfl ?_
      refine T_getR 100 3 80 (dk dtk_X7_closeBlock 60 rfl) kfl_X7_29 kk_100 (kl_100 hq) (by decide) rfl kr_100_3 ?_
      refine T_getR 80 1 82 (dk dtk_X7_closeBlock 61 rfl) kfl_X7_217 kk_80 (kl_80 hq) (by decide) rfl kr_80_1 ?_
      refine T_iload_n 0 (dk dtk_X7_closeBlock 62 rfl) rfl rfl ?_
      obtain ⟨h16, h⟩ := h
      refine T_iald 82 400 (dk dtk_X7_closeBlock 63 rfl) kk_82 (kl_82 hq) h16 ?_
      refine T_aload_n 1 (dk dtk_X7_closeBlock 64 rfl) rfl rfl ?_
      refine T_getI 100 9 (dk dtk_X7_closeBlock 65 rfl) kfl_X7_181 kk_100 (kl_100 hq) (by decide) rfl ?_
      refine KC_Vi [vi 6, vi (x4.1 82 (x4.1 112 (x4.1 100 13 : Int32).toNatClampNeg : Int32).toNatClampNeg), vi (x4.1 100 9)] [vr 85] rfl (dk dtk_X7_closeBlock 66 rfl) kcv_X7_191 rfl kk_80 rfl (kl_80 hq) (Nat.le_of_ble_eq_true rfl) (Nat.le_of_ble_eq_true rfl) (gok_i (av_c rfl (av_c (gkr (kl_100 hq)) av_n)) (as_c (gkr (kl_85 hq)) as_n)) rfl h (fun r18 x17 h => ?_)
      refine T_aload_n 1 (dk dtk_X7_closeBlock 67 rfl) rfl rfl ?_
      refine T_getR 100 3 80 (dk dtk_X7_closeBlock 68 rfl) kfl_X7_29 kk_100 (kl_100 hq) (by decide) rfl kr_100_3 ?_
      refine T_getR 80 4 85 (dk dtk_X7_closeBlock 69 rfl) kfl_X7_220 kk_80 (kl_80 hq) (by decide) rfl kr_80_4 ?_
      refine T_iload_n 0 (dk dtk_X7_closeBlock 70 rfl) rfl rfl ?_
      obtain ⟨h19, h⟩ := h
      refine T_iald 85 400 (dk dtk_X7_closeBlock 71 rfl) kk_85 (kl_85 hq) h19 ?_
      obtain ⟨h20, h⟩ := h
      obtain ⟨x21, ex21⟩ : ∃ z, z = si x17 85 (r18 : Int32).toNatClampNeg (x17.1 85 (x4.1 112 (x4.1 100 13 : Int32).toNatClampNeg : Int32).toNatClampNeg) := ⟨_, rfl⟩
      have h := h x21 ex21
      refine T_iast 85 400 (dk dtk_X7_closeBlock 72 rfl) kk_85 (kl_85 hq) h20 ?_
      rw [← ex21]
      refine T_goto 209 (dk dtk_X7_closeBlock 73 rfl) (by decide) ?_
      exact KE_vret (dk dtk_X7_closeBlock 92 rfl) rfl h
    · have h := h.2
      by_cases c22 : (x4.1 111 (x4.1 100 13 : Int32).toNatClampNeg) = 3
      · have h := h.1 c22
        refine T_table 124 172 (dk dtk_X7_closeBlock 27 rfl) (by decide) (by rw [c22]; decide +kernel) (by decide) ?_
        refine T_aload_n 1 (dk dtk_X7_closeBlock 74 rfl) rfl rfl ?_
        refine KC_Vi [] [] rfl (dk dtk_X7_closeBlock 75 rfl) kcv_X7_71 rfl kk_100 rfl (kl_100 hq) (Nat.le_of_ble_eq_true rfl) (Nat.le_of_ble_eq_true rfl) (gok_i (av_c rfl (av_c (gkr (kl_100 hq)) av_n)) as_n) rfl h (fun r24 x23 h => ?_)
        refine T_bipush (v := 48) (dk dtk_X7_closeBlock 76 rfl) (by decide +kernel) ?_
        refine T_icmp_ne 189 (dk dtk_X7_closeBlock 77 rfl) (by decide) (fun c25 => ?_) (fun c25 => ?_)
        · have h := h.1 c25
          refine T_aload_n 1 (dk dtk_X7_closeBlock 82 rfl) rfl rfl ?_
          refine T_iload_n 0 (dk dtk_X7_closeBlock 83 rfl) rfl rfl ?_
          refine T_sub (lv2 := []) [] rfl ?_
          refine KC_Vv [vi (x4.1 112 (x4.1 100 13 : Int32).toNatClampNeg)] [] rfl (dk dtk_X7_closeBlock 84 rfl) kcv_X7_226 rfl kk_100 rfl (kl_100 hq) (Nat.le_of_ble_eq_true rfl) (Nat.le_of_ble_eq_true rfl) (gok_i av_n as_n) rfl h (fun x26 h => ?_)
          refine T_goto 209 (dk dtk_X7_closeBlock 85 rfl) (by decide) ?_
          exact KE_vret (dk dtk_X7_closeBlock 92 rfl) rfl h
        · have h := h.2 c25
          refine T_aload_n 1 (dk dtk_X7_closeBlock 78 rfl) rfl rfl ?_
          refine T_iload_n 0 (dk dtk_X7_closeBlock 79 rfl) rfl rfl ?_
          refine T_sub (lv2 := []) [] rfl ?_
          refine KD_Vv [vi (x4.1 112 (x4.1 100 13 : Int32).toNatClampNeg)] [] rfl (dk dtk_X7_closeBlock 80 rfl) kcv_X7_223 rfl kk_100 rfl (kl_100 hq) (Nat.le_of_ble_eq_true rfl) (Nat.le_of_ble_eq_true rfl) (gok_i av_n as_n) rfl h (fun x27 h => ?_)
          refine T_goto 209 (dk dtk_X7_closeBlock 81 rfl) (by decide) ?_
          exact KE_vret (dk dtk_X7_closeBlock 92 rfl) rfl h
      · have h := h.2
        by_cases c28 : (x4.1 111 (x4.1 100 13 : Int32).toNatClampNeg) = 4
        · have h := h.1 c28
          refine T_table 149 197 (dk dtk_X7_closeBlock 27 rfl) (by decide) (by rw [c28]; decide +kernel) (by decide) ?_
          refine T_aload_n 1 (dk dtk_X7_closeBlock 86 rfl) rfl rfl ?_
          refine T_iload_n 0 (dk dtk_X7_closeBlock 87 rfl) rfl rfl ?_
          refine T_sub (lv2 := []) [] rfl ?_
          refine KC_Vv [vi (x4.1 112 (x4.1 100 13 : Int32).toNatClampNeg)] [] rfl (dk dtk_X7_closeBlock 88 rfl) kcv_X7_226 rfl kk_100 rfl (kl_100 hq) (Nat.le_of_ble_eq_true rfl) (Nat.le_of_ble_eq_true rfl) (gok_i av_n as_n) rfl h (fun x29 h => ?_)
          refine T_goto 209 (dk dtk_X7_closeBlock 89 rfl) (by decide) ?_
          exact KE_vret (dk dtk_X7_closeBlock 92 rfl) rfl h
        · have h := h.2
          have n30 : ∀ k ∈ [(1 : Int32), (2 : Int32), (3 : Int32), (4 : Int32)], ¬ (x4.1 111 (x4.1 100 13 : Int32).toNatClampNeg) = k := (gno c7 (gno c15 (gno c22 (gno c28 gno0))))
          have h := h n30
          refine T_table 157 205 (dk dtk_X7_closeBlock 27 rfl) (by decide) (gtab_d [(1 : Int32), (2 : Int32), (3 : Int32), (4 : Int32)] (by decide +kernel) n30) (by decide) ?_
          refine T_aload_n 1 (dk dtk_X7_closeBlock 90 rfl) rfl rfl ?_
          refine T_sub (lv2 := []) [] rfl ?_
          refine KC_Vv [] [] rfl (dk dtk_X7_closeBlock 91 rfl) kcv_X7_229 rfl kk_100 rfl (kl_100 hq) (Nat.le_of_ble_eq_true rfl) (Nat.le_of_ble_eq_true rfl) (gok_i av_n as_n) rfl h (fun x31 h => ?_)
          exact KE_vret (dk dtk_X7_closeBlock 92 rfl) rfl h
set_option maxRecDepth 100000 in
theorem dtk_X7_openElse : dck cX7_openElse [(0, .aload_n 0, 1), (1, .getfield 29, 3), (4, .bipush 20, 2), (6, .aload_n 0, 1), (7, .getfield 29, 3), (10, .getfield 217, 3), (13, .iload_n 1, 1), (14, .iaload, 1), (15, .aload_n 0, 1), (16, .getfield 181, 3), (19, .invokevirtual 191, 3), (22, .istore_n 2, 1), (23, .aload_n 0, 1), (24, .getfield 29, 3), (27, .getfield 214, 3), (30, .iload_n 1, 1), (31, .aload_n 0, 1), (32, .getfield 29, 3), (35, .getfield 173, 3), (38, .iastore, 1), (39, .aload_n 0, 1), (40, .invokevirtual 112, 3), (43, .aload_n 0, 1), (44, .invokevirtual 71, 3), (47, .bipush 54, 2), (49, .if_icmp .ne 12, 3), (52, .aload_n 0, 1), (53, .iconst 5, 1), (54, .iload_n 2, 1), (55, .invokevirtual 211, 3), (58, .goto 9, 3), (61, .aload_n 0, 1), (62, .iconst 4, 1), (63, .iload_n 2, 1), (64, .invokevirtual 187, 3), (67, .return_, 1)] = true := by decide +kernel
set_option maxRecDepth 100000 in
set_option maxHeartbeats 4000000 in
theorem kg_X7_openElse_0 {G : kG} {q : kP} {d : Nat} {x : gd} {P : Option gv → gd → Prop} {X : String → gd → Prop} (hq : kV q) (l1 : Int32)
    (h : vp_in l1 400 ∧ KT G q (d + 6) zk_X8_add 0 [(0, vr 80), (1, vi 20), (2, vi (x.1 82 (l1 : Int32).toNatClampNeg)), (3, vi (x.1 100 9))] [] x (ri (fun r3 x2 => vp_in l1 400 ∧ (∀ x5 : gd, x5 = si x2 84 (l1 : Int32).toNatClampNeg (x2.1 80 9) → KE G q (d + 6) zk_X7_pass 0 [(0, vr 100)] [] x5 (rv (fun x6 => KT G q (d + 6) zk_X7_sort 0 [(0, vr 100)] [] x6 (ri (fun r8 x7 => ((¬ (r8 = (54 : Int32)) → KE G q (d + 6) zk_X7_openBlock 0 [(0, vr 100), (1, vi 4), (2, vi r3)] [] x7 (rv (fun x10 => P none x10)) X) ∧ (r8 = (54 : Int32) → KT G q (d + 6) zk_X7_enter 0 [(0, vr 100), (1, vi 5), (2, vi r3)] [] x7 (rv (fun x11 => P none x11)))))))) X)))) :
    KE G q (d + 7) zk_X7_openElse 0 [(0, vr 100), (1, vi l1)] [] x P X := by
  refine T_aload_n 0 (dk dtk_X7_openElse 0 rfl) rfl rfl ?_
  refine T_getR 100 3 80 (dk dtk_X7_openElse 1 rfl) kfl_X7_29 kk_100 (kl_100 hq) (by decide) rfl kr_100_3 ?_
  refine T_bipush (v := 20) (dk dtk_X7_openElse 2 rfl) (by decide +kernel) ?_
  refine T_aload_n 0 (dk dtk_X7_openElse 3 rfl) rfl rfl ?_
  refine T_getR 100 3 80 (dk dtk_X7_openElse 4 rfl) kfl_X7_29 kk_100 (kl_100 hq) (by decide) rfl kr_100_3 ?_
  refine T_getR 80 1 82 (dk dtk_X7_openElse 5 rfl) kfl_X7_217 kk_80 (kl_80 hq) (by decide) rfl kr_80_1 ?_
  refine T_iload_n 1 (dk dtk_X7_openElse 6 rfl) rfl rfl ?_
  obtain ⟨h1, h⟩ := h
  refine T_iald 82 400 (dk dtk_X7_openElse 7 rfl) kk_82 (kl_82 hq) h1 ?_
  refine T_aload_n 0 (dk dtk_X7_openElse 8 rfl) rfl rfl ?_
  refine T_getI 100 9 (dk dtk_X7_openElse 9 rfl) kfl_X7_181 kk_100 (kl_100 hq) (by decide) rfl ?_
  refine KC_Vi [vi 20, vi (x.1 82 (l1 : Int32).toNatClampNeg), vi (x.1 100 9)] [] rfl (dk dtk_X7_openElse 10 rfl) kcv_X7_191 rfl kk_80 rfl (kl_80 hq) (Nat.le_of_ble_eq_true rfl) (Nat.le_of_ble_eq_true rfl) (gok_i (av_c (gkr (kl_100 hq)) (av_c rfl av_n)) as_n) rfl h (fun r3 x2 h => ?_)
  refine T_istore_n (lv2 := [(2, vi r3), (0, vr 100), (1, vi l1)]) (dk dtk_X7_openElse 11 rfl) rfl (by decide) rfl ?_
  refine T_aload_n 1 (dk dtk_X7_openElse 12 rfl) rfl rfl ?_
  refine T_getR 100 3 80 (dk dtk_X7_openElse 13 rfl) kfl_X7_29 kk_100 (kl_100 hq) (by decide) rfl kr_100_3 ?_
  refine T_getR 80 3 84 (dk dtk_X7_openElse 14 rfl) kfl_X7_214 kk_80 (kl_80 hq) (by decide) rfl kr_80_3 ?_
  refine T_iload_n 2 (dk dtk_X7_openElse 15 rfl) rfl rfl ?_
  refine T_aload_n 1 (dk dtk_X7_openElse 16 rfl) rfl rfl ?_
  refine T_getR 100 3 80 (dk dtk_X7_openElse 17 rfl) kfl_X7_29 kk_100 (kl_100 hq) (by decide) rfl kr_100_3 ?_
  refine T_getI 80 9 (dk dtk_X7_openElse 18 rfl) kfl_X7_173 kk_80 (kl_80 hq) (by decide) rfl ?_
  obtain ⟨h4, h⟩ := h
  obtain ⟨x5, ex5⟩ : ∃ z, z = si x2 84 (l1 : Int32).toNatClampNeg (x2.1 80 9) := ⟨_, rfl⟩
  have h := h x5 ex5
  refine T_iast 84 400 (dk dtk_X7_openElse 19 rfl) kk_84 (kl_84 hq) h4 ?_
  rw [← ex5]
  refine T_aload_n 1 (dk dtk_X7_openElse 20 rfl) rfl rfl ?_
  refine T_sub (lv2 := [(2, vi r3), (0, vr 100)]) [0, 1] rfl ?_
  refine KD_Vv [] [] rfl (dk dtk_X7_openElse 21 rfl) kcv_X7_112 rfl kk_100 rfl (kl_100 hq) (Nat.le_of_ble_eq_true rfl) (Nat.le_of_ble_eq_true rfl) (gok_i (av_c rfl (av_c (gkr (kl_100 hq)) av_n)) as_n) rfl h (fun x6 h => ?_)
  refine T_aload_n 1 (dk dtk_X7_openElse 22 rfl) rfl rfl ?_
  refine KC_Vi [] [] rfl (dk dtk_X7_openElse 23 rfl) kcv_X7_71 rfl kk_100 rfl (kl_100 hq) (Nat.le_of_ble_eq_true rfl) (Nat.le_of_ble_eq_true rfl) (gok_i (av_c rfl (av_c (gkr (kl_100 hq)) av_n)) as_n) rfl h (fun r8 x7 h => ?_)
  refine T_bipush (v := 54) (dk dtk_X7_openElse 24 rfl) (by decide +kernel) ?_
  refine T_icmp_ne 61 (dk dtk_X7_openElse 25 rfl) (by decide) (fun c9 => ?_) (fun c9 => ?_)
  · have h := h.1 c9
    refine T_aload_n 1 (dk dtk_X7_openElse 31 rfl) rfl rfl ?_
    refine T_iconst (v := 4) (dk dtk_X7_openElse 32 rfl) (by decide +kernel) ?_
    refine T_iload_n 0 (dk dtk_X7_openElse 33 rfl) rfl rfl ?_
    refine T_sub (lv2 := []) [] rfl ?_
    refine KD_Vv [vi 4, vi r3] [] rfl (dk dtk_X7_openElse 34 rfl) kcv_X7_187 rfl kk_100 rfl (kl_100 hq) (Nat.le_of_ble_eq_true rfl) (Nat.le_of_ble_eq_true rfl) (gok_i av_n as_n) rfl h (fun x10 h => ?_)
    exact KE_vret (dk dtk_X7_openElse 35 rfl) rfl h
  · have h := h.2 c9
    refine T_aload_n 1 (dk dtk_X7_openElse 26 rfl) rfl rfl ?_
    refine T_iconst (v := 5) (dk dtk_X7_openElse 27 rfl) (by decide +kernel) ?_
    refine T_iload_n 0 (dk dtk_X7_openElse 28 rfl) rfl rfl ?_
    refine T_sub (lv2 := []) [] rfl ?_
    refine KC_Vv [vi 5, vi r3] [] rfl (dk dtk_X7_openElse 29 rfl) kcv_X7_211 rfl kk_100 rfl (kl_100 hq) (Nat.le_of_ble_eq_true rfl) (Nat.le_of_ble_eq_true rfl) (gok_i av_n as_n) rfl h (fun x11 h => ?_)
    refine T_goto 67 (dk dtk_X7_openElse 30 rfl) (by decide) ?_
    exact KE_vret (dk dtk_X7_openElse 35 rfl) rfl h
set_option maxRecDepth 100000 in
theorem dtk_X7_endIf : dck cX7_endIf [(0, .aload_n 0, 1), (1, .getfield 29, 3), (4, .getfield 214, 3), (7, .iload_n 1, 1), (8, .aload_n 0, 1), (9, .getfield 29, 3), (12, .getfield 173, 3), (15, .iastore, 1), (16, .iconst 0, 1), (17, .istore_n 2, 1), (18, .iload_n 2, 1), (19, .bipush 20, 2), (21, .if_icmp .ge 65, 3), (24, .aload_n 0, 1), (25, .getfield 184, 3), (28, .ifCond .le 58, 3), (31, .aload_n 0, 1), (32, .getfield 34, 3), (35, .aload_n 0, 1), (36, .getfield 184, 3), (39, .iconst 1, 1), (40, .isub, 1), (41, .iaload, 1), (42, .iconst 5, 1), (43, .if_icmp .ne 43, 3), (46, .aload_n 0, 1), (47, .dup, 1), (48, .getfield 184, 3), (51, .iconst 1, 1), (52, .isub, 1), (53, .putfield 184, 3), (56, .aload_n 0, 1), (57, .getfield 29, 3), (60, .getfield 214, 3), (63, .aload_n 0, 1), (64, .getfield 37, 3), (67, .aload_n 0, 1), (68, .getfield 184, 3), (71, .iaload, 1), (72, .aload_n 0, 1), (73, .getfield 29, 3), (76, .getfield 173, 3), (79, .iastore, 1), (80, .iinc 2 1, 3), (83, .goto (-65), 3), (86, .return_, 1)] = true := by decide +kernel
set_option maxRecDepth 100000 in
set_option maxHeartbeats 4000000 in
theorem kg_X7_endIf_0 {G : kG} {q : kP} {d : Nat} {x : gd} {P : Option gv → gd → Prop} (hq : kV q) (l1 : Int32)
    (h : vp_in l1 400 ∧ (∀ x2 : gd, x2 = si x 84 (l1 : Int32).toNatClampNeg (x.1 80 9) → KT G q d zk_X7_endIf 18 [(0, vr 100), (2, vi 0)] [] x2 P)) :
    KT G q d zk_X7_endIf 0 [(0, vr 100), (1, vi l1)] [] x P := by
  refine T_aload_n 0 (dk dtk_X7_endIf 0 rfl) rfl rfl ?_
  refine T_getR 100 3 80 (dk dtk_X7_endIf 1 rfl) kfl_X7_29 kk_100 (kl_100 hq) (by decide) rfl kr_100_3 ?_
  refine T_getR 80 3 84 (dk dtk_X7_endIf 2 rfl) kfl_X7_214 kk_80 (kl_80 hq) (by decide) rfl kr_80_3 ?_
  refine T_iload_n 1 (dk dtk_X7_endIf 3 rfl) rfl rfl ?_
  refine T_aload_n 0 (dk dtk_X7_endIf 4 rfl) rfl rfl ?_
  refine T_getR 100 3 80 (dk dtk_X7_endIf 5 rfl) kfl_X7_29 kk_100 (kl_100 hq) (by decide) rfl kr_100_3 ?_
  refine T_getI 80 9 (dk dtk_X7_endIf 6 rfl) kfl_X7_173 kk_80 (kl_80 hq) (by decide) rfl ?_
  obtain ⟨h1, h⟩ := h
  obtain ⟨x2, ex2⟩ : ∃ z, z = si x 84 (l1 : Int32).toNatClampNeg (x.1 80 9) := ⟨_, rfl⟩
  have h := h x2 ex2
  refine T_iast 84 400 (dk dtk_X7_endIf 7 rfl) kk_84 (kl_84 hq) h1 ?_
  rw [← ex2]
  refine T_iconst (v := 0) (dk dtk_X7_endIf 8 rfl) (by decide +kernel) ?_
  refine T_istore_n (lv2 := [(2, vi 0), (0, vr 100), (1, vi l1)]) (dk dtk_X7_endIf 9 rfl) rfl (by decide) rfl ?_
  exact T_sub [1, 0] rfl h
set_option maxRecDepth 100000 in
set_option maxHeartbeats 4000000 in
theorem kg_X7_endIf_18 {G : kG} {q : kP} {d : Nat} {x : gd} {P : Option gv → gd → Prop} (hq : kV q) (l2 : Int32)
    (h : (((20 : Int32) ≤ l2 → P none x) ∧ (¬ ((20 : Int32) ≤ l2) → (((x.1 100 13) ≤ (0 : Int32) → P none x) ∧ (¬ ((x.1 100 13) ≤ (0 : Int32)) → vp_in ((x.1 100 13) - 1) 20 ∧ ((¬ ((x.1 111 ((x.1 100 13) - 1 : Int32).toNatClampNeg) = (5 : Int32)) → P none x) ∧ ((x.1 111 ((x.1 100 13) - 1 : Int32).toNatClampNeg) = (5 : Int32) → (∀ x5 : gd, x5 = si x 100 13 ((x.1 100 13) - 1) → vp_in (x5.1 100 13) 20 ∧ vp_in (x5.1 112 (x5.1 100 13 : Int32).toNatClampNeg) 400 ∧ (∀ x8 : gd, x8 = si x5 84 (x5.1 112 (x5.1 100 13 : Int32).toNatClampNeg : Int32).toNatClampNeg (x5.1 80 9) → KT G q d zk_X7_endIf 18 [(0, vr 100), (2, vi (l2 + 1))] [] x8 P))))))))) :
    KT G q d zk_X7_endIf 18 [(0, vr 100), (2, vi l2)] [] x P := by
  refine T_iload_n 1 (dk dtk_X7_endIf 10 rfl) rfl rfl ?_
  refine T_bipush (v := 20) (dk dtk_X7_endIf 11 rfl) (by decide +kernel) ?_
  refine T_icmp_ge 86 (dk dtk_X7_endIf 12 rfl) (by decide) (fun c1 => ?_) (fun c1 => ?_)
  · have h := h.1 c1
    exact KT_vret (dk dtk_X7_endIf 45 rfl) rfl h
  · have h := h.2 c1
    refine T_aload_n 0 (dk dtk_X7_endIf 13 rfl) rfl rfl ?_
    refine T_getI 100 13 (dk dtk_X7_endIf 14 rfl) kfl_X7_184 kk_100 (kl_100 hq) (by decide) rfl ?_
    refine T_if_le 86 (dk dtk_X7_endIf 15 rfl) (by decide) (fun c2 => ?_) (fun c2 => ?_)
    · have h := h.1 c2
      exact KT_vret (dk dtk_X7_endIf 45 rfl) rfl h
    · have h := h.2 c2
      refine T_aload_n 0 (dk dtk_X7_endIf 16 rfl) rfl rfl ?_
      refine T_getR 100 10 111 (dk dtk_X7_endIf 17 rfl) kfl_X7_34 kk_100 (kl_100 hq) (by decide) rfl kr_100_10 ?_
      refine T_aload_n 0 (dk dtk_X7_endIf 18 rfl) rfl rfl ?_
      refine T_getI 100 13 (dk dtk_X7_endIf 19 rfl) kfl_X7_184 kk_100 (kl_100 hq) (by decide) rfl ?_
      refine T_iconst (v := 1) (dk dtk_X7_endIf 20 rfl) (by decide +kernel) ?_
      refine T_isub (dk dtk_X7_endIf 21 rfl) ?_
      obtain ⟨h3, h⟩ := h
      refine T_iald 111 20 (dk dtk_X7_endIf 22 rfl) kk_111 (kl_111 hq) h3 ?_
      refine T_iconst (v := 5) (dk dtk_X7_endIf 23 rfl) (by decide +kernel) ?_
      refine T_icmp_ne 86 (dk dtk_X7_endIf 24 rfl) (by decide) (fun c4 => ?_) (fun c4 => ?_)
      · have h := h.1 c4
        exact KT_vret (dk dtk_X7_endIf 45 rfl) rfl h
      · have h := h.2 c4
        refine T_aload_n 0 (dk dtk_X7_endIf 25 rfl) rfl rfl ?_
        refine T_dup (dk dtk_X7_endIf 26 rfl) rfl ?_
        refine T_getI 100 13 (dk dtk_X7_endIf 27 rfl) kfl_X7_184 kk_100 (kl_100 hq) (by decide) rfl ?_
        refine T_iconst (v := 1) (dk dtk_X7_endIf 28 rfl) (by decide +kernel) ?_
        refine T_isub (dk dtk_X7_endIf 29 rfl) ?_
        obtain ⟨x5, ex5⟩ : ∃ z, z = si x 100 13 ((x.1 100 13) - 1) := ⟨_, rfl⟩
        have h := h x5 ex5
        refine T_putI 100 13 (dk dtk_X7_endIf 30 rfl) kfl_X7_184 kk_100 (kl_100 hq) (by decide) rfl ⟨rfl, rfl⟩ ?_
        rw [← ex5]
        refine T_aload_n 0 (dk dtk_X7_endIf 31 rfl) rfl rfl ?_
        refine T_getR 100 3 80 (dk dtk_X7_endIf 32 rfl) kfl_X7_29 kk_100 (kl_100 hq) (by decide) rfl kr_100_3 ?_
        refine T_getR 80 3 84 (dk dtk_X7_endIf 33 rfl) kfl_X7_214 kk_80 (kl_80 hq) (by decide) rfl kr_80_3 ?_
        refine T_aload_n 0 (dk dtk_X7_endIf 34 rfl) rfl rfl ?_
        refine T_getR 100 11 112 (dk dtk_X7_endIf 35 rfl) kfl_X7_37 kk_100 (kl_100 hq) (by decide) rfl kr_100_11 ?_
        refine T_aload_n 0 (dk dtk_X7_endIf 36 rfl) rfl rfl ?_
        refine T_getI 100 13 (dk dtk_X7_endIf 37 rfl) kfl_X7_184 kk_100 (kl_100 hq) (by decide) rfl ?_
        obtain ⟨h6, h⟩ := h
        refine T_iald 112 20 (dk dtk_X7_endIf 38 rfl) kk_112 (kl_112 hq) h6 ?_
        refine T_aload_n 0 (dk dtk_X7_endIf 39 rfl) rfl rfl ?_
        refine T_getR 100 3 80 (dk dtk_X7_endIf 40 rfl) kfl_X7_29 kk_100 (kl_100 hq) (by decide) rfl kr_100_3 ?_
        refine T_getI 80 9 (dk dtk_X7_endIf 41 rfl) kfl_X7_173 kk_80 (kl_80 hq) (by decide) rfl ?_
        obtain ⟨h7, h⟩ := h
        obtain ⟨x8, ex8⟩ : ∃ z, z = si x5 84 (x5.1 112 (x5.1 100 13 : Int32).toNatClampNeg : Int32).toNatClampNeg (x5.1 80 9) := ⟨_, rfl⟩
        have h := h x8 ex8
        refine T_iast 84 400 (dk dtk_X7_endIf 42 rfl) kk_84 (kl_84 hq) h7 ?_
        rw [← ex8]
        refine T_iinc (v := l2 + 1) (lv2 := [(2, vi (l2 + 1)), (0, vr 100)]) 1 (dk dtk_X7_endIf 43 rfl) rfl rfl (by decide) rfl ?_
        refine T_goto 18 (dk dtk_X7_endIf 44 rfl) (by decide) ?_
        exact T_sub [1, 0] rfl h
set_option maxRecDepth 100000 in
theorem dtk_X7_testStatement : dck cX7_testStatement [(0, .aload_n 0, 1), (1, .getfield 11, 3), (4, .getfield 232, 3), (7, .aload_n 0, 1), (8, .getfield 52, 3), (11, .iaload, 1), (12, .istore_n 2, 1), (13, .aload_n 0, 1), (14, .invokevirtual 112, 3), (17, .aload_n 0, 1), (18, .aload_n 0, 1), (19, .getfield 184, 3), (22, .iconst 1, 1), (23, .iadd, 1), (24, .invokevirtual 201, 3), (27, .istore_n 3, 1), (28, .aload_n 0, 1), (29, .getfield 29, 3), (32, .bipush 17, 2), (34, .iload_n 2, 1), (35, .aload_n 0, 1), (36, .getfield 181, 3), (39, .invokevirtual 191, 3), (42, .istore 4, 2), (44, .aload_n 0, 1), (45, .getfield 29, 3), (48, .getfield 233, 3), (51, .iload 4, 2), (53, .iload_n 3, 1), (54, .iastore, 1), (55, .aload_n 0, 1), (56, .iload_n 1, 1), (57, .iload 4, 2), (59, .invokevirtual 187, 3), (62, .return_, 1)] = true := by decide +kernel
set_option maxRecDepth 100000 in
set_option maxHeartbeats 4000000 in
theorem kg_X7_testStatement_0 {G : kG} {q : kP} {d : Nat} {x : gd} {P : Option gv → gd → Prop} {X : String → gd → Prop} (hq : kV q) (l1 : Int32)
    (h : vp_in (x.1 100 4) 702 ∧ KE G q (d + 6) zk_X7_pass 0 [(0, vr 100)] [] x (rv (fun x2 => KE G q (d + 6) zk_X7_sum 0 [(0, vr 100), (1, vi ((x2.1 100 13) + 1))] [] x2 (ri (fun r4 x3 => KT G q (d + 6) zk_X8_add 0 [(0, vr 80), (1, vi 17), (2, vi (x.1 25 (x.1 100 4 : Int32).toNatClampNeg)), (3, vi (x3.1 100 9))] [] x3 (ri (fun r6 x5 => vp_in r6 400 ∧ (∀ x8 : gd, x8 = si x5 88 (r6 : Int32).toNatClampNeg r4 → KE G q (d + 6) zk_X7_openBlock 0 [(0, vr 100), (1, vi l1), (2, vi r6)] [] x8 (rv (fun x9 => P none x9)) X))))) X)) X) :
    KE G q (d + 7) zk_X7_testStatement 0 [(0, vr 100), (1, vi l1)] [] x P X := by
  refine T_aload_n 0 (dk dtk_X7_testStatement 0 rfl) rfl rfl ?_
  refine T_getR 100 0 20 (dk dtk_X7_testStatement 1 rfl) kfl_X7_11 kk_100 (kl_100 hq) (by decide) rfl kr_100_0 ?_
  refine T_getR 20 4 25 (dk dtk_X7_testStatement 2 rfl) kfl_X7_232 kk_20 (kl_20 hq) (by decide) rfl kr_20_4 ?_
  refine T_aload_n 0 (dk dtk_X7_testStatement 3 rfl) rfl rfl ?_
  refine T_getI 100 4 (dk dtk_X7_testStatement 4 rfl) kfl_X7_52 kk_100 (kl_100 hq) (by decide) rfl ?_
  obtain ⟨h1, h⟩ := h
  refine T_iald 25 702 (dk dtk_X7_testStatement 5 rfl) kk_25 (kl_25 hq) h1 ?_
  refine T_istore_n (lv2 := [(2, vi (x.1 25 (x.1 100 4 : Int32).toNatClampNeg)), (0, vr 100), (1, vi l1)]) (dk dtk_X7_testStatement 6 rfl) rfl (by decide) rfl ?_
  refine T_aload_n 1 (dk dtk_X7_testStatement 7 rfl) rfl rfl ?_
  refine KD_Vv [] [] rfl (dk dtk_X7_testStatement 8 rfl) kcv_X7_112 rfl kk_100 rfl (kl_100 hq) (Nat.le_of_ble_eq_true rfl) (Nat.le_of_ble_eq_true rfl) (gok_i (av_c rfl (av_c (gkr (kl_100 hq)) (av_c rfl av_n))) as_n) rfl h (fun x2 h => ?_)
  refine T_aload_n 1 (dk dtk_X7_testStatement 9 rfl) rfl rfl ?_
  refine T_aload_n 1 (dk dtk_X7_testStatement 10 rfl) rfl rfl ?_
  refine T_getI 100 13 (dk dtk_X7_testStatement 11 rfl) kfl_X7_184 kk_100 (kl_100 hq) (by decide) rfl ?_
  refine T_iconst (v := 1) (dk dtk_X7_testStatement 12 rfl) (by decide +kernel) ?_
  refine T_iadd (dk dtk_X7_testStatement 13 rfl) ?_
  refine KD_Vi [vi ((x2.1 100 13) + 1)] [] rfl (dk dtk_X7_testStatement 14 rfl) kcv_X7_201 rfl kk_100 rfl (kl_100 hq) (Nat.le_of_ble_eq_true rfl) (Nat.le_of_ble_eq_true rfl) (gok_i (av_c rfl (av_c (gkr (kl_100 hq)) (av_c rfl av_n))) as_n) rfl h (fun r4 x3 h => ?_)
  refine T_istore_n (lv2 := [(3, vi r4), (2, vi (x.1 25 (x.1 100 4 : Int32).toNatClampNeg)), (0, vr 100), (1, vi l1)]) (dk dtk_X7_testStatement 15 rfl) rfl (by decide) rfl ?_
  refine T_aload_n 2 (dk dtk_X7_testStatement 16 rfl) rfl rfl ?_
  refine T_getR 100 3 80 (dk dtk_X7_testStatement 17 rfl) kfl_X7_29 kk_100 (kl_100 hq) (by decide) rfl kr_100_3 ?_
  refine T_bipush (v := 17) (dk dtk_X7_testStatement 18 rfl) (by decide +kernel) ?_
  refine T_iload_n 1 (dk dtk_X7_testStatement 19 rfl) rfl rfl ?_
  refine T_aload_n 2 (dk dtk_X7_testStatement 20 rfl) rfl rfl ?_
  refine T_getI 100 9 (dk dtk_X7_testStatement 21 rfl) kfl_X7_181 kk_100 (kl_100 hq) (by decide) rfl ?_
  refine T_sub (lv2 := [(3, vi r4), (0, vr 100), (1, vi l1)]) [0, 2, 3] rfl ?_
  refine KC_Vi [vi 17, vi (x.1 25 (x.1 100 4 : Int32).toNatClampNeg), vi (x3.1 100 9)] [] rfl (dk dtk_X7_testStatement 22 rfl) kcv_X7_191 rfl kk_80 rfl (kl_80 hq) (Nat.le_of_ble_eq_true rfl) (Nat.le_of_ble_eq_true rfl) (gok_i (av_c rfl (av_c (gkr (kl_100 hq)) (av_c rfl av_n))) as_n) rfl h (fun r6 x5 h => ?_)
  refine T_istore (lv2 := [(4, vi r6), (3, vi r4), (0, vr 100), (1, vi l1)]) (dk dtk_X7_testStatement 23 rfl) (by decide) rfl ?_
  refine T_aload_n 2 (dk dtk_X7_testStatement 24 rfl) rfl rfl ?_
  refine T_getR 100 3 80 (dk dtk_X7_testStatement 25 rfl) kfl_X7_29 kk_100 (kl_100 hq) (by decide) rfl kr_100_3 ?_
  refine T_getR 80 7 88 (dk dtk_X7_testStatement 26 rfl) kfl_X7_233 kk_80 (kl_80 hq) (by decide) rfl kr_80_7 ?_
  refine T_iload 0 (dk dtk_X7_testStatement 27 rfl) rfl ?_
  refine T_iload_n 1 (dk dtk_X7_testStatement 28 rfl) rfl rfl ?_
  obtain ⟨h7, h⟩ := h
  obtain ⟨x8, ex8⟩ : ∃ z, z = si x5 88 (r6 : Int32).toNatClampNeg r4 := ⟨_, rfl⟩
  have h := h x8 ex8
  refine T_iast 88 400 (dk dtk_X7_testStatement 29 rfl) kk_88 (kl_88 hq) h7 ?_
  rw [← ex8]
  refine T_aload_n 2 (dk dtk_X7_testStatement 30 rfl) rfl rfl ?_
  refine T_iload_n 3 (dk dtk_X7_testStatement 31 rfl) rfl rfl ?_
  refine T_iload 0 (dk dtk_X7_testStatement 32 rfl) rfl ?_
  refine T_sub (lv2 := []) [] rfl ?_
  refine KD_Vv [vi l1, vi r6] [] rfl (dk dtk_X7_testStatement 33 rfl) kcv_X7_187 rfl kk_100 rfl (kl_100 hq) (Nat.le_of_ble_eq_true rfl) (Nat.le_of_ble_eq_true rfl) (gok_i av_n as_n) rfl h (fun x9 h => ?_)
  exact KE_vret (dk dtk_X7_testStatement 34 rfl) rfl h
end
section
set_option maxRecDepth 100000 in
theorem dtk_X7_statement : dck cX7_statement [(0, .aload_n 0, 1), (1, .getfield 11, 3), (4, .getfield 232, 3), (7, .aload_n 0, 1), (8, .getfield 52, 3), (11, .iaload, 1), (12, .istore_n 1, 1), (13, .aload_n 0, 1), (14, .invokevirtual 71, 3), (17, .invokestatic 236, 3), (20, .istore_n 2, 1), (21, .iload_n 2, 1), (22, .iconst (-1), 1), (23, .if_icmp .eq 12, 3), (26, .aload_n 0, 1), (27, .getfield 184, 3), (30, .bipush 16, 2), (32, .if_icmp .le 17, 3), (35, .aload_n 0, 1), (36, .iload_n 2, 1), (37, .iconst (-1), 1), (38, .if_icmp .ne 7, 3), (41, .iconst 2, 1), (42, .goto 4, 3), (45, .iconst 3, 1), (46, .invokevirtual 96, 3), (49, .aload_n 0, 1), (50, .invokevirtual 71, 3), (53, .lookupswitch 168 #[(2, 80), (54, 129), (56, 51), (57, 150), (71, 129)], 51), (104, .aload_n 0, 1), (105, .invokevirtual 239, 3), (108, .istore_n 3, 1), (109, .aload_n 0, 1), (110, .iload_n 1, 1), (111, .aload_n 0, 1), (112, .getfield 181, 3), (115, .iconst (-1), 1), (116, .invokevirtual 242, 3), (119, .aload_n 0, 1), (120, .bipush 27, 2), (122, .invokevirtual 115, 3), (125, .aload_n 0, 1), (126, .iload_n 3, 1), (127, .invokevirtual 245, 3), (130, .goto 97, 3), (133, .aload_n 0, 1), (134, .invokevirtual 144, 3), (137, .bipush 25, 2), (139, .if_icmp .ne 11, 3), (142, .aload_n 0, 1), (143, .iload_n 1, 1), (144, .invokevirtual 248, 3), (147, .goto 26, 3), (150, .aload_n 0, 1), (151, .invokevirtual 251, 3), (154, .istore 4, 2), (156, .aload_n 0, 1), (157, .iload_n 1, 1), (158, .aload_n 0, 1), (159, .getfield 15, 3), (162, .getfield 254, 3), (165, .iload 4, 2), (167, .iaload, 1), (168, .iload 4, 2), (170, .invokevirtual 242, 3), (173, .aload_n 0, 1), (174, .bipush 27, 2), (176, .invokevirtual 115, 3), (179, .goto 48, 3), (182, .aload_n 0, 1), (183, .aload_n 0, 1), (184, .invokevirtual 71, 3), (187, .bipush 54, 2), (189, .if_icmp .ne 7, 3), (192, .iconst 3, 1), (193, .goto 4, 3), (196, .iconst 1, 1), (197, .invokevirtual 257, 3), (200, .goto 27, 3), (203, .aload_n 0, 1), (204, .invokevirtual 112, 3), (207, .aload_n 0, 1), (208, .iconst 2, 1), (209, .aload_n 0, 1), (210, .iload_n 2, 1), (211, .iload_n 1, 1), (212, .invokevirtual 260, 3), (215, .invokevirtual 187, 3), (218, .goto 9, 3), (221, .aload_n 0, 1), (222, .iload_n 2, 1), (223, .iload_n 1, 1), (224, .invokevirtual 263, 3), (227, .return_, 1)] = true := by decide +kernel
set_option maxRecDepth 100000 in
set_option maxHeartbeats 4000000 in
theorem kg_X7_statement_0 {G : kG} {q : kP} {d : Nat} {x : gd} {P : Option gv → gd → Prop} {X : String → gd → Prop} (hq : kV q) 
    (h : vp_in (x.1 100 4) 702 ∧ KT G q (d + 6) zk_X7_sort 0 [(0, vr 100)] [] x (ri (fun r3 x2 => KT G q (d + 6) zk_X7_opOf 0 [(0, vi r3)] [] x2 (ri (fun r5 x4 => ((r5 = (-1 : Int32) → KE G q (d + 7) zk_X7_statement 35 [(0, vr 100), (1, vi (x.1 25 (x.1 100 4 : Int32).toNatClampNeg)), (2, vi r5)] [] x4 P X) ∧ (¬ (r5 = (-1 : Int32)) → (((x4.1 100 13) ≤ (16 : Int32) → KE G q (d + 7) zk_X7_statement 49 [(0, vr 100), (1, vi (x.1 25 (x.1 100 4 : Int32).toNatClampNeg)), (2, vi r5)] [] x4 P X) ∧ (¬ ((x4.1 100 13) ≤ (16 : Int32)) → KE G q (d + 7) zk_X7_statement 35 [(0, vr 100), (1, vi (x.1 25 (x.1 100 4 : Int32).toNatClampNeg)), (2, vi r5)] [] x4 P X))))))))) :
    KE G q (d + 7) zk_X7_statement 0 [(0, vr 100)] [] x P X := by
  refine T_aload_n 0 (dk dtk_X7_statement 0 rfl) rfl rfl ?_
  refine T_getR 100 0 20 (dk dtk_X7_statement 1 rfl) kfl_X7_11 kk_100 (kl_100 hq) (by decide) rfl kr_100_0 ?_
  refine T_getR 20 4 25 (dk dtk_X7_statement 2 rfl) kfl_X7_232 kk_20 (kl_20 hq) (by decide) rfl kr_20_4 ?_
  refine T_aload_n 0 (dk dtk_X7_statement 3 rfl) rfl rfl ?_
  refine T_getI 100 4 (dk dtk_X7_statement 4 rfl) kfl_X7_52 kk_100 (kl_100 hq) (by decide) rfl ?_
  obtain ⟨h1, h⟩ := h
  refine T_iald 25 702 (dk dtk_X7_statement 5 rfl) kk_25 (kl_25 hq) h1 ?_
  refine T_istore_n (lv2 := [(1, vi (x.1 25 (x.1 100 4 : Int32).toNatClampNeg)), (0, vr 100)]) (dk dtk_X7_statement 6 rfl) rfl (by decide) rfl ?_
  refine T_aload_n 1 (dk dtk_X7_statement 7 rfl) rfl rfl ?_
  refine KC_Vi [] [] rfl (dk dtk_X7_statement 8 rfl) kcv_X7_71 rfl kk_100 rfl (kl_100 hq) (Nat.le_of_ble_eq_true rfl) (Nat.le_of_ble_eq_true rfl) (gok_i (av_c rfl (av_c (gkr (kl_100 hq)) av_n)) as_n) rfl h (fun r3 x2 h => ?_)
  refine KC_Si [vi r3] [] rfl (dk dtk_X7_statement 9 rfl) kcs_X7_236 rfl (Nat.le_of_ble_eq_true rfl) (Nat.le_of_ble_eq_true rfl) (gok_i (av_c rfl (av_c (gkr (kl_100 hq)) av_n)) as_n) rfl h (fun r5 x4 h => ?_)
  refine T_istore_n (lv2 := [(2, vi r5), (1, vi (x.1 25 (x.1 100 4 : Int32).toNatClampNeg)), (0, vr 100)]) (dk dtk_X7_statement 10 rfl) rfl (by decide) rfl ?_
  refine T_iload_n 0 (dk dtk_X7_statement 11 rfl) rfl rfl ?_
  refine T_iconst (v := (-1)) (dk dtk_X7_statement 12 rfl) (by decide +kernel) ?_
  refine T_icmp_eq 35 (dk dtk_X7_statement 13 rfl) (by decide) (fun c6 => ?_) (fun c6 => ?_)
  · have h := h.1 c6
    exact T_sub [2, 1, 0] rfl h
  · have h := h.2 c6
    refine T_aload_n 2 (dk dtk_X7_statement 14 rfl) rfl rfl ?_
    refine T_getI 100 13 (dk dtk_X7_statement 15 rfl) kfl_X7_184 kk_100 (kl_100 hq) (by decide) rfl ?_
    refine T_bipush (v := 16) (dk dtk_X7_statement 16 rfl) (by decide +kernel) ?_
    refine T_icmp_le 49 (dk dtk_X7_statement 17 rfl) (by decide) (fun c7 => ?_) (fun c7 => ?_)
    · have h := h.1 c7
      exact T_sub [2, 1, 0] rfl h
    · have h := h.2 c7
      exact T_sub [2, 1, 0] rfl h
set_option maxRecDepth 100000 in
set_option maxHeartbeats 4000000 in
theorem kg_X7_statement_35 {G : kG} {q : kP} {d : Nat} {x : gd} {P : Option gv → gd → Prop} {X : String → gd → Prop} (hq : kV q) (l1 : Int32) (l2 : Int32)
    (h : ((¬ (l2 = (-1 : Int32)) → KE G q (d + 7) zk_X7_statement 46 [(0, vr 100), (1, vi l1), (2, vi l2)] [vi 3, vr 100] x P X) ∧ (l2 = (-1 : Int32) → KE G q (d + 7) zk_X7_statement 46 [(0, vr 100), (1, vi l1), (2, vi l2)] [vi 2, vr 100] x P X))) :
    KE G q (d + 7) zk_X7_statement 35 [(0, vr 100), (1, vi l1), (2, vi l2)] [] x P X := by
  refine T_aload_n 0 (dk dtk_X7_statement 18 rfl) rfl rfl ?_
  refine T_iload_n 2 (dk dtk_X7_statement 19 rfl) rfl rfl ?_
  refine T_iconst (v := (-1)) (dk dtk_X7_statement 20 rfl) (by decide +kernel) ?_
  refine T_icmp_ne 45 (dk dtk_X7_statement 21 rfl) (by decide) (fun c1 => ?_) (fun c1 => ?_)
  · have h := h.1 c1
    refine T_iconst (v := 3) (dk dtk_X7_statement 24 rfl) (by decide +kernel) ?_
    exact h
  · have h := h.2 c1
    refine T_iconst (v := 2) (dk dtk_X7_statement 22 rfl) (by decide +kernel) ?_
    refine T_goto 46 (dk dtk_X7_statement 23 rfl) (by decide) ?_
    exact h
set_option maxRecDepth 100000 in
set_option maxHeartbeats 4000000 in
theorem kg_X7_statement_46 {G : kG} {q : kP} {d : Nat} {x : gd} {P : Option gv → gd → Prop} {X : String → gd → Prop} (hq : kV q) (l1 : Int32) (l2 : Int32) (s0 : Int32)
    (h : KE G q (d + 6) zk_X7_refuse 0 [(0, vr 100), (1, vi s0)] [] x (rv (fun x1 => KE G q (d + 7) zk_X7_statement 49 [(0, vr 100), (1, vi l1), (2, vi l2)] [] x1 P X)) X) :
    KE G q (d + 7) zk_X7_statement 46 [(0, vr 100), (1, vi l1), (2, vi l2)] [vi s0, vr 100] x P X := by
  refine KD_Vv [vi s0] [] rfl (dk dtk_X7_statement 25 rfl) kcv_X7_96 rfl kk_100 rfl (kl_100 hq) (Nat.le_of_ble_eq_true rfl) (Nat.le_of_ble_eq_true rfl) (gok_i (av_c (gkr (kl_100 hq)) (av_c rfl (av_c rfl av_n))) as_n) rfl h (fun x1 h => ?_)
  exact h
set_option maxRecDepth 100000 in
set_option maxHeartbeats 4000000 in
theorem kg_X7_statement_49 {G : kG} {q : kP} {d : Nat} {x : gd} {P : Option gv → gd → Prop} {X : String → gd → Prop} (hq : kV q) (l1 : Int32) (l2 : Int32)
    (h : KT G q (d + 6) zk_X7_sort 0 [(0, vr 100)] [] x (ri (fun r2 x1 => (((r2 = 56) → KE G q (d + 6) zk_X7_newLocal 0 [(0, vr 100)] [] x1 (ri (fun r5 x4 => KE G q (d + 6) zk_X7_source 0 [(0, vr 100), (1, vi l1), (2, vi (x4.1 100 9)), (3, vi (-1))] [] x4 (rv (fun x6 => KE G q (d + 6) zk_X7_need 0 [(0, vr 100), (1, vi 27)] [] x6 (rv (fun x7 => KT G q (d + 6) zk_X7_makeKnown 0 [(0, vr 100), (1, vi r5)] [] x7 (rv (fun x8 => P none x8)))) X)) X)) X) ∧ ((r2 = 2) → KT G q (d + 6) zk_X7_sortBehind 0 [(0, vr 100)] [] x1 (ri (fun r11 x10 => ((¬ (r11 = (25 : Int32)) → KE G q (d + 6) zk_X7_setTarget 0 [(0, vr 100)] [] x10 (ri (fun r14 x13 => vp_in r14 702 ∧ KE G q (d + 6) zk_X7_source 0 [(0, vr 100), (1, vi l1), (2, vi (x13.1 43 (r14 : Int32).toNatClampNeg)), (3, vi r14)] [] x13 (rv (fun x16 => KE G q (d + 7) zk_X7_statement 173 [(0, vr 100)] [] x16 P X)) X)) X) ∧ (r11 = (25 : Int32) → KE G q (d + 6) zk_X7_rowStatement 0 [(0, vr 100), (1, vi l1)] [] x10 (rv (fun x17 => KE G q (d + 7) zk_X7_statement 173 [(0, vr 100)] [] x17 P X)) X))))) ∧ ((r2 = 54 ∨ r2 = 71) → KT G q (d + 6) zk_X7_sort 0 [(0, vr 100)] [] x1 (ri (fun r20 x19 => ((¬ (r20 = (54 : Int32)) → KE G q (d + 7) zk_X7_statement 197 [] [vi 1, vr 100] x19 P X) ∧ (r20 = (54 : Int32) → KE G q (d + 7) zk_X7_statement 197 [] [vi 3, vr 100] x19 P X))))) ∧ ((r2 = 57) → KE G q (d + 6) zk_X7_pass 0 [(0, vr 100)] [] x1 (rv (fun x23 => KE G q (d + 6) zk_X7_nameStep 0 [(0, vr 100), (1, vi l2), (2, vi l1)] [] x23 (ri (fun r25 x24 => KE G q (d + 6) zk_X7_openBlock 0 [(0, vr 100), (1, vi 2), (2, vi r25)] [] x24 (rv (fun x26 => P none x26)) X)) X)) X) ∧ ((∀ k ∈ [(56 : Int32), (2 : Int32), (54 : Int32), (71 : Int32), (57 : Int32)], ¬ r2 = k) → KE G q (d + 6) zk_X7_plainStatement 0 [(0, vr 100), (1, vi l2), (2, vi l1)] [] x1 (rv (fun x28 => P none x28)) X))))) :
    KE G q (d + 7) zk_X7_statement 49 [(0, vr 100), (1, vi l1), (2, vi l2)] [] x P X := by
  refine T_aload_n 0 (dk dtk_X7_statement 26 rfl) rfl rfl ?_
  refine KC_Vi [] [] rfl (dk dtk_X7_statement 27 rfl) kcv_X7_71 rfl kk_100 rfl (kl_100 hq) (Nat.le_of_ble_eq_true rfl) (Nat.le_of_ble_eq_true rfl) (gok_i (av_c (gkr (kl_100 hq)) (av_c rfl (av_c rfl av_n))) as_n) rfl h (fun r2 x1 h => ?_)
  by_cases c3 : r2 = 56
  · have h := h.1 c3
    refine T_lookup 51 104 (dk dtk_X7_statement 28 rfl) (by decide +kernel) (by rw [c3]; decide +kernel) (by decide) ?_
    refine T_aload_n 0 (dk dtk_X7_statement 29 rfl) rfl rfl ?_
    refine T_sub (lv2 := [(0, vr 100), (1, vi l1)]) [0, 1] rfl ?_
    refine KD_Vi [] [] rfl (dk dtk_X7_statement 30 rfl) kcv_X7_239 rfl kk_100 rfl (kl_100 hq) (Nat.le_of_ble_eq_true rfl) (Nat.le_of_ble_eq_true rfl) (gok_i (av_c (gkr (kl_100 hq)) (av_c rfl av_n)) as_n) rfl h (fun r5 x4 h => ?_)
    refine T_istore_n (lv2 := [(3, vi r5), (0, vr 100), (1, vi l1)]) (dk dtk_X7_statement 31 rfl) rfl (by decide) rfl ?_
    refine T_aload_n 1 (dk dtk_X7_statement 32 rfl) rfl rfl ?_
    refine T_iload_n 2 (dk dtk_X7_statement 33 rfl) rfl rfl ?_
    refine T_aload_n 1 (dk dtk_X7_statement 34 rfl) rfl rfl ?_
    refine T_getI 100 9 (dk dtk_X7_statement 35 rfl) kfl_X7_181 kk_100 (kl_100 hq) (by decide) rfl ?_
    refine T_iconst (v := (-1)) (dk dtk_X7_statement 36 rfl) (by decide +kernel) ?_
    refine T_sub (lv2 := [(3, vi r5), (0, vr 100)]) [0, 1] rfl ?_
    refine KD_Vv [vi l1, vi (x4.1 100 9), vi (-1)] [] rfl (dk dtk_X7_statement 37 rfl) kcv_X7_242 rfl kk_100 rfl (kl_100 hq) (Nat.le_of_ble_eq_true rfl) (Nat.le_of_ble_eq_true rfl) (gok_i (av_c rfl (av_c (gkr (kl_100 hq)) av_n)) as_n) rfl h (fun x6 h => ?_)
    refine T_aload_n 1 (dk dtk_X7_statement 38 rfl) rfl rfl ?_
    refine T_bipush (v := 27) (dk dtk_X7_statement 39 rfl) (by decide +kernel) ?_
    refine KD_Vv [vi 27] [] rfl (dk dtk_X7_statement 40 rfl) kcv_X7_115 rfl kk_100 rfl (kl_100 hq) (Nat.le_of_ble_eq_true rfl) (Nat.le_of_ble_eq_true rfl) (gok_i (av_c rfl (av_c (gkr (kl_100 hq)) av_n)) as_n) rfl h (fun x7 h => ?_)
    refine T_aload_n 1 (dk dtk_X7_statement 41 rfl) rfl rfl ?_
    refine T_iload_n 0 (dk dtk_X7_statement 42 rfl) rfl rfl ?_
    refine T_sub (lv2 := []) [] rfl ?_
    refine KC_Vv [vi r5] [] rfl (dk dtk_X7_statement 43 rfl) kcv_X7_245 rfl kk_100 rfl (kl_100 hq) (Nat.le_of_ble_eq_true rfl) (Nat.le_of_ble_eq_true rfl) (gok_i av_n as_n) rfl h (fun x8 h => ?_)
    refine T_goto 227 (dk dtk_X7_statement 44 rfl) (by decide) ?_
    exact KE_vret (dk dtk_X7_statement 93 rfl) rfl h
  · have h := h.2
    by_cases c9 : r2 = 2
    · have h := h.1 c9
      refine T_lookup 80 133 (dk dtk_X7_statement 28 rfl) (by decide +kernel) (by rw [c9]; decide +kernel) (by decide) ?_
      refine T_aload_n 0 (dk dtk_X7_statement 45 rfl) rfl rfl ?_
      refine T_sub (lv2 := [(0, vr 100), (1, vi l1)]) [0, 1] rfl ?_
      refine KC_Vi [] [] rfl (dk dtk_X7_statement 46 rfl) kcv_X7_144 rfl kk_100 rfl (kl_100 hq) (Nat.le_of_ble_eq_true rfl) (Nat.le_of_ble_eq_true rfl) (gok_i (av_c (gkr (kl_100 hq)) (av_c rfl av_n)) as_n) rfl h (fun r11 x10 h => ?_)
      refine T_bipush (v := 25) (dk dtk_X7_statement 47 rfl) (by decide +kernel) ?_
      refine T_icmp_ne 150 (dk dtk_X7_statement 48 rfl) (by decide) (fun c12 => ?_) (fun c12 => ?_)
      · have h := h.1 c12
        refine T_aload_n 0 (dk dtk_X7_statement 53 rfl) rfl rfl ?_
        refine KD_Vi [] [] rfl (dk dtk_X7_statement 54 rfl) kcv_X7_251 rfl kk_100 rfl (kl_100 hq) (Nat.le_of_ble_eq_true rfl) (Nat.le_of_ble_eq_true rfl) (gok_i (av_c (gkr (kl_100 hq)) (av_c rfl av_n)) as_n) rfl h (fun r14 x13 h => ?_)
        refine T_istore (lv2 := [(4, vi r14), (0, vr 100), (1, vi l1)]) (dk dtk_X7_statement 55 rfl) (by decide) rfl ?_
        refine T_aload_n 1 (dk dtk_X7_statement 56 rfl) rfl rfl ?_
        refine T_iload_n 2 (dk dtk_X7_statement 57 rfl) rfl rfl ?_
        refine T_aload_n 1 (dk dtk_X7_statement 58 rfl) rfl rfl ?_
        refine T_getR 100 1 40 (dk dtk_X7_statement 59 rfl) kfl_X7_15 kk_100 (kl_100 hq) (by decide) rfl kr_100_1 ?_
        refine T_getR 40 2 43 (dk dtk_X7_statement 60 rfl) kfl_X7_254 kk_40 (kl_40 hq) (by decide) rfl kr_40_2 ?_
        refine T_iload 0 (dk dtk_X7_statement 61 rfl) rfl ?_
        obtain ⟨h15, h⟩ := h
        refine T_iald 43 702 (dk dtk_X7_statement 62 rfl) kk_43 (kl_43 hq) h15 ?_
        refine T_iload 0 (dk dtk_X7_statement 63 rfl) rfl ?_
        refine T_sub (lv2 := [(0, vr 100)]) [1] rfl ?_
        refine KD_Vv [vi l1, vi (x13.1 43 (r14 : Int32).toNatClampNeg), vi r14] [] rfl (dk dtk_X7_statement 64 rfl) kcv_X7_242 rfl kk_100 rfl (kl_100 hq) (Nat.le_of_ble_eq_true rfl) (Nat.le_of_ble_eq_true rfl) (gok_i (av_c (gkr (kl_100 hq)) av_n) as_n) rfl h (fun x16 h => ?_)
        exact h
      · have h := h.2 c12
        refine T_aload_n 0 (dk dtk_X7_statement 49 rfl) rfl rfl ?_
        refine T_iload_n 1 (dk dtk_X7_statement 50 rfl) rfl rfl ?_
        refine T_sub (lv2 := [(0, vr 100)]) [0] rfl ?_
        refine KD_Vv [vi l1] [] rfl (dk dtk_X7_statement 51 rfl) kcv_X7_248 rfl kk_100 rfl (kl_100 hq) (Nat.le_of_ble_eq_true rfl) (Nat.le_of_ble_eq_true rfl) (gok_i (av_c (gkr (kl_100 hq)) av_n) as_n) rfl h (fun x17 h => ?_)
        refine T_goto 173 (dk dtk_X7_statement 52 rfl) (by decide) ?_
        exact h
    · have h := h.2
      by_cases c18 : r2 = 54 ∨ r2 = 71
      · have h := h.1 c18
        refine T_lookup 129 182 (dk dtk_X7_statement 28 rfl) (by decide +kernel) (by rcases c18 with q9 | q9 <;> rw [q9] <;> decide +kernel) (by decide) ?_
        refine T_aload_n 0 (dk dtk_X7_statement 69 rfl) rfl rfl ?_
        refine T_aload_n 0 (dk dtk_X7_statement 70 rfl) rfl rfl ?_
        refine T_sub (lv2 := []) [] rfl ?_
        refine KC_Vi [] [vr 100] rfl (dk dtk_X7_statement 71 rfl) kcv_X7_71 rfl kk_100 rfl (kl_100 hq) (Nat.le_of_ble_eq_true rfl) (Nat.le_of_ble_eq_true rfl) (gok_i av_n (as_c (gkr (kl_100 hq)) as_n)) rfl h (fun r20 x19 h => ?_)
        refine T_bipush (v := 54) (dk dtk_X7_statement 72 rfl) (by decide +kernel) ?_
        refine T_icmp_ne 196 (dk dtk_X7_statement 73 rfl) (by decide) (fun c21 => ?_) (fun c21 => ?_)
        · have h := h.1 c21
          refine T_iconst (v := 1) (dk dtk_X7_statement 76 rfl) (by decide +kernel) ?_
          exact h
        · have h := h.2 c21
          refine T_iconst (v := 3) (dk dtk_X7_statement 74 rfl) (by decide +kernel) ?_
          refine T_goto 197 (dk dtk_X7_statement 75 rfl) (by decide) ?_
          exact h
      · have h := h.2
        by_cases c22 : r2 = 57
        · have h := h.1 c22
          refine T_lookup 150 203 (dk dtk_X7_statement 28 rfl) (by decide +kernel) (by rw [c22]; decide +kernel) (by decide) ?_
          refine T_aload_n 0 (dk dtk_X7_statement 79 rfl) rfl rfl ?_
          refine KD_Vv [] [] rfl (dk dtk_X7_statement 80 rfl) kcv_X7_112 rfl kk_100 rfl (kl_100 hq) (Nat.le_of_ble_eq_true rfl) (Nat.le_of_ble_eq_true rfl) (gok_i (av_c (gkr (kl_100 hq)) (av_c rfl (av_c rfl av_n))) as_n) rfl h (fun x23 h => ?_)
          refine T_aload_n 0 (dk dtk_X7_statement 81 rfl) rfl rfl ?_
          refine T_iconst (v := 2) (dk dtk_X7_statement 82 rfl) (by decide +kernel) ?_
          refine T_aload_n 0 (dk dtk_X7_statement 83 rfl) rfl rfl ?_
          refine T_iload_n 2 (dk dtk_X7_statement 84 rfl) rfl rfl ?_
          refine T_iload_n 1 (dk dtk_X7_statement 85 rfl) rfl rfl ?_
          refine T_sub (lv2 := []) [] rfl ?_
          refine KD_Vi [vi l2, vi l1] [vi 2, vr 100] rfl (dk dtk_X7_statement 86 rfl) kcv_X7_260 rfl kk_100 rfl (kl_100 hq) (Nat.le_of_ble_eq_true rfl) (Nat.le_of_ble_eq_true rfl) (gok_i av_n (as_c rfl (as_c (gkr (kl_100 hq)) as_n))) rfl h (fun r25 x24 h => ?_)
          refine KD_Vv [vi 2, vi r25] [] rfl (dk dtk_X7_statement 87 rfl) kcv_X7_187 rfl kk_100 rfl (kl_100 hq) (Nat.le_of_ble_eq_true rfl) (Nat.le_of_ble_eq_true rfl) (gok_i av_n as_n) rfl h (fun x26 h => ?_)
          refine T_goto 227 (dk dtk_X7_statement 88 rfl) (by decide) ?_
          exact KE_vret (dk dtk_X7_statement 93 rfl) rfl h
        · have h := h.2
          have n27 : ∀ k ∈ [(56 : Int32), (2 : Int32), (54 : Int32), (71 : Int32), (57 : Int32)], ¬ r2 = k := (gno c3 (gno c9 (gno (fun q9 => c18 (Or.inl q9)) (gno (fun q9 => c18 (Or.inr (q9))) (gno c22 gno0)))))
          have h := h n27
          refine T_lookup 168 221 (dk dtk_X7_statement 28 rfl) (by decide +kernel) (glk_d [(56 : Int32), (2 : Int32), (54 : Int32), (71 : Int32), (57 : Int32)] (by decide +kernel) n27) (by decide) ?_
          refine T_aload_n 0 (dk dtk_X7_statement 89 rfl) rfl rfl ?_
          refine T_iload_n 2 (dk dtk_X7_statement 90 rfl) rfl rfl ?_
          refine T_iload_n 1 (dk dtk_X7_statement 91 rfl) rfl rfl ?_
          refine T_sub (lv2 := []) [] rfl ?_
          refine KD_Vv [vi l2, vi l1] [] rfl (dk dtk_X7_statement 92 rfl) kcv_X7_263 rfl kk_100 rfl (kl_100 hq) (Nat.le_of_ble_eq_true rfl) (Nat.le_of_ble_eq_true rfl) (gok_i av_n as_n) rfl h (fun x28 h => ?_)
          exact KE_vret (dk dtk_X7_statement 93 rfl) rfl h
set_option maxRecDepth 100000 in
set_option maxHeartbeats 4000000 in
theorem kg_X7_statement_173 {G : kG} {q : kP} {d : Nat} {x : gd} {P : Option gv → gd → Prop} {X : String → gd → Prop} (hq : kV q) 
    (h : KE G q (d + 6) zk_X7_need 0 [(0, vr 100), (1, vi 27)] [] x (rv (fun x1 => P none x1)) X) :
    KE G q (d + 7) zk_X7_statement 173 [(0, vr 100)] [] x P X := by
  refine T_aload_n 0 (dk dtk_X7_statement 65 rfl) rfl rfl ?_
  refine T_bipush (v := 27) (dk dtk_X7_statement 66 rfl) (by decide +kernel) ?_
  refine T_sub (lv2 := []) [] rfl ?_
  refine KD_Vv [vi 27] [] rfl (dk dtk_X7_statement 67 rfl) kcv_X7_115 rfl kk_100 rfl (kl_100 hq) (Nat.le_of_ble_eq_true rfl) (Nat.le_of_ble_eq_true rfl) (gok_i av_n as_n) rfl h (fun x1 h => ?_)
  refine T_goto 227 (dk dtk_X7_statement 68 rfl) (by decide) ?_
  exact KE_vret (dk dtk_X7_statement 93 rfl) rfl h
set_option maxRecDepth 100000 in
set_option maxHeartbeats 4000000 in
theorem kg_X7_statement_197 {G : kG} {q : kP} {d : Nat} {x : gd} {P : Option gv → gd → Prop} {X : String → gd → Prop} (hq : kV q) (s0 : Int32)
    (h : KE G q (d + 6) zk_X7_testStatement 0 [(0, vr 100), (1, vi s0)] [] x (rv (fun x1 => P none x1)) X) :
    KE G q (d + 7) zk_X7_statement 197 [] [vi s0, vr 100] x P X := by
  refine KD_Vv [vi s0] [] rfl (dk dtk_X7_statement 77 rfl) kcv_X7_257 rfl kk_100 rfl (kl_100 hq) (Nat.le_of_ble_eq_true rfl) (Nat.le_of_ble_eq_true rfl) (gok_i av_n as_n) rfl h (fun x1 h => ?_)
  refine T_goto 227 (dk dtk_X7_statement 78 rfl) (by decide) ?_
  exact KE_vret (dk dtk_X7_statement 93 rfl) rfl h
set_option maxRecDepth 100000 in
theorem dtk_X7_opOf : dck cX7_opOf [(0, .iload_n 0, 1), (1, .tableswitch 336 2 71 #[295, 336, 336, 336, 336, 336, 336, 336, 336, 336, 336, 336, 336, 336, 336, 336, 336, 336, 336, 336, 336, 336, 336, 336, 336, 336, 336, 336, 336, 336, 336, 336, 336, 336, 336, 336, 336, 336, 336, 336, 336, 330, 327, 324, 336, 336, 336, 333, 318, 336, 303, 336, 298, 315, 295, 301, 336, 336, 336, 321, 336, 312, 336, 336, 301, 336, 306, 309, 309, 298], 295), (296, .bipush 16, 2), (298, .ireturn, 1), (299, .bipush 17, 2), (301, .ireturn, 1), (302, .iconst 5, 1), (303, .ireturn, 1), (304, .bipush 6, 2), (306, .ireturn, 1), (307, .bipush 7, 2), (309, .ireturn, 1), (310, .bipush 8, 2), (312, .ireturn, 1), (313, .bipush 9, 2), (315, .ireturn, 1), (316, .bipush 10, 2), (318, .ireturn, 1), (319, .bipush 11, 2), (321, .ireturn, 1), (322, .bipush 12, 2), (324, .ireturn, 1), (325, .bipush 13, 2), (327, .ireturn, 1), (328, .bipush 14, 2), (330, .ireturn, 1), (331, .bipush 18, 2), (333, .ireturn, 1), (334, .bipush 19, 2), (336, .ireturn, 1), (337, .iconst (-1), 1), (338, .ireturn, 1)] = true := by decide +kernel
set_option maxRecDepth 100000 in
set_option maxHeartbeats 4000000 in
theorem kg_X7_opOf_0 {G : kG} {q : kP} {d : Nat} {x : gd} {P : Option gv → gd → Prop} (hq : kV q) (l0 : Int32)
    (h : (((l0 = 2 ∨ l0 = 56) → P (some (vi 16)) x) ∧ ((l0 = 54 ∨ l0 = 71) → P (some (vi 17)) x) ∧ ((l0 = 57 ∨ l0 = 66) → P (some (vi 5)) x) ∧ ((l0 = 52) → P (some (vi 6)) x) ∧ ((l0 = 68) → P (some (vi 7)) x) ∧ ((l0 = 69 ∨ l0 = 70) → P (some (vi 8)) x) ∧ ((l0 = 63) → P (some (vi 9)) x) ∧ ((l0 = 55) → P (some (vi 10)) x) ∧ ((l0 = 50) → P (some (vi 11)) x) ∧ ((l0 = 61) → P (some (vi 12)) x) ∧ ((l0 = 45) → P (some (vi 13)) x) ∧ ((l0 = 44) → P (some (vi 14)) x) ∧ ((l0 = 43) → P (some (vi 18)) x) ∧ ((l0 = 49) → P (some (vi 19)) x) ∧ ((∀ k ∈ [(2 : Int32), (56 : Int32), (54 : Int32), (71 : Int32), (57 : Int32), (66 : Int32), (52 : Int32), (68 : Int32), (69 : Int32), (70 : Int32), (63 : Int32), (55 : Int32), (50 : Int32), (61 : Int32), (45 : Int32), (44 : Int32), (43 : Int32), (49 : Int32)], ¬ l0 = k) → P (some (vi (-1))) x))) :
    KT G q d zk_X7_opOf 0 [(0, vi l0)] [] x P := by
  refine T_iload_n 0 (dk dtk_X7_opOf 0 rfl) rfl rfl ?_
  by_cases c1 : l0 = 2 ∨ l0 = 56
  · have h := h.1 c1
    refine T_table 295 296 (dk dtk_X7_opOf 1 rfl) (by decide) (by rcases c1 with q9 | q9 <;> rw [q9] <;> decide +kernel) (by decide) ?_
    refine T_bipush (v := 16) (dk dtk_X7_opOf 2 rfl) (by decide +kernel) ?_
    exact KT_iret (dk dtk_X7_opOf 3 rfl) rfl rfl h
  · have h := h.2
    by_cases c2 : l0 = 54 ∨ l0 = 71
    · have h := h.1 c2
      refine T_table 298 299 (dk dtk_X7_opOf 1 rfl) (by decide) (by rcases c2 with q9 | q9 <;> rw [q9] <;> decide +kernel) (by decide) ?_
      refine T_bipush (v := 17) (dk dtk_X7_opOf 4 rfl) (by decide +kernel) ?_
      exact KT_iret (dk dtk_X7_opOf 5 rfl) rfl rfl h
    · have h := h.2
      by_cases c3 : l0 = 57 ∨ l0 = 66
      · have h := h.1 c3
        refine T_table 301 302 (dk dtk_X7_opOf 1 rfl) (by decide) (by rcases c3 with q9 | q9 <;> rw [q9] <;> decide +kernel) (by decide) ?_
        refine T_iconst (v := 5) (dk dtk_X7_opOf 6 rfl) (by decide +kernel) ?_
        exact KT_iret (dk dtk_X7_opOf 7 rfl) rfl rfl h
      · have h := h.2
        by_cases c4 : l0 = 52
        · have h := h.1 c4
          refine T_table 303 304 (dk dtk_X7_opOf 1 rfl) (by decide) (by rw [c4]; decide +kernel) (by decide) ?_
          refine T_bipush (v := 6) (dk dtk_X7_opOf 8 rfl) (by decide +kernel) ?_
          exact KT_iret (dk dtk_X7_opOf 9 rfl) rfl rfl h
        · have h := h.2
          by_cases c5 : l0 = 68
          · have h := h.1 c5
            refine T_table 306 307 (dk dtk_X7_opOf 1 rfl) (by decide) (by rw [c5]; decide +kernel) (by decide) ?_
            refine T_bipush (v := 7) (dk dtk_X7_opOf 10 rfl) (by decide +kernel) ?_
            exact KT_iret (dk dtk_X7_opOf 11 rfl) rfl rfl h
          · have h := h.2
            by_cases c6 : l0 = 69 ∨ l0 = 70
            · have h := h.1 c6
              refine T_table 309 310 (dk dtk_X7_opOf 1 rfl) (by decide) (by rcases c6 with q9 | q9 <;> rw [q9] <;> decide +kernel) (by decide) ?_
              refine T_bipush (v := 8) (dk dtk_X7_opOf 12 rfl) (by decide +kernel) ?_
              exact KT_iret (dk dtk_X7_opOf 13 rfl) rfl rfl h
            · have h := h.2
              by_cases c7 : l0 = 63
              · have h := h.1 c7
                refine T_table 312 313 (dk dtk_X7_opOf 1 rfl) (by decide) (by rw [c7]; decide +kernel) (by decide) ?_
                refine T_bipush (v := 9) (dk dtk_X7_opOf 14 rfl) (by decide +kernel) ?_
                exact KT_iret (dk dtk_X7_opOf 15 rfl) rfl rfl h
              · have h := h.2
                by_cases c8 : l0 = 55
                · have h := h.1 c8
                  refine T_table 315 316 (dk dtk_X7_opOf 1 rfl) (by decide) (by rw [c8]; decide +kernel) (by decide) ?_
                  refine T_bipush (v := 10) (dk dtk_X7_opOf 16 rfl) (by decide +kernel) ?_
                  exact KT_iret (dk dtk_X7_opOf 17 rfl) rfl rfl h
                · have h := h.2
                  by_cases c9 : l0 = 50
                  · have h := h.1 c9
                    refine T_table 318 319 (dk dtk_X7_opOf 1 rfl) (by decide) (by rw [c9]; decide +kernel) (by decide) ?_
                    refine T_bipush (v := 11) (dk dtk_X7_opOf 18 rfl) (by decide +kernel) ?_
                    exact KT_iret (dk dtk_X7_opOf 19 rfl) rfl rfl h
                  · have h := h.2
                    by_cases c10 : l0 = 61
                    · have h := h.1 c10
                      refine T_table 321 322 (dk dtk_X7_opOf 1 rfl) (by decide) (by rw [c10]; decide +kernel) (by decide) ?_
                      refine T_bipush (v := 12) (dk dtk_X7_opOf 20 rfl) (by decide +kernel) ?_
                      exact KT_iret (dk dtk_X7_opOf 21 rfl) rfl rfl h
                    · have h := h.2
                      by_cases c11 : l0 = 45
                      · have h := h.1 c11
                        refine T_table 324 325 (dk dtk_X7_opOf 1 rfl) (by decide) (by rw [c11]; decide +kernel) (by decide) ?_
                        refine T_bipush (v := 13) (dk dtk_X7_opOf 22 rfl) (by decide +kernel) ?_
                        exact KT_iret (dk dtk_X7_opOf 23 rfl) rfl rfl h
                      · have h := h.2
                        by_cases c12 : l0 = 44
                        · have h := h.1 c12
                          refine T_table 327 328 (dk dtk_X7_opOf 1 rfl) (by decide) (by rw [c12]; decide +kernel) (by decide) ?_
                          refine T_bipush (v := 14) (dk dtk_X7_opOf 24 rfl) (by decide +kernel) ?_
                          exact KT_iret (dk dtk_X7_opOf 25 rfl) rfl rfl h
                        · have h := h.2
                          by_cases c13 : l0 = 43
                          · have h := h.1 c13
                            refine T_table 330 331 (dk dtk_X7_opOf 1 rfl) (by decide) (by rw [c13]; decide +kernel) (by decide) ?_
                            refine T_bipush (v := 18) (dk dtk_X7_opOf 26 rfl) (by decide +kernel) ?_
                            exact KT_iret (dk dtk_X7_opOf 27 rfl) rfl rfl h
                          · have h := h.2
                            by_cases c14 : l0 = 49
                            · have h := h.1 c14
                              refine T_table 333 334 (dk dtk_X7_opOf 1 rfl) (by decide) (by rw [c14]; decide +kernel) (by decide) ?_
                              refine T_bipush (v := 19) (dk dtk_X7_opOf 28 rfl) (by decide +kernel) ?_
                              exact KT_iret (dk dtk_X7_opOf 29 rfl) rfl rfl h
                            · have h := h.2
                              have n15 : ∀ k ∈ [(2 : Int32), (56 : Int32), (54 : Int32), (71 : Int32), (57 : Int32), (66 : Int32), (52 : Int32), (68 : Int32), (69 : Int32), (70 : Int32), (63 : Int32), (55 : Int32), (50 : Int32), (61 : Int32), (45 : Int32), (44 : Int32), (43 : Int32), (49 : Int32)], ¬ l0 = k := (gno (fun q9 => c1 (Or.inl q9)) (gno (fun q9 => c1 (Or.inr (q9))) (gno (fun q9 => c2 (Or.inl q9)) (gno (fun q9 => c2 (Or.inr (q9))) (gno (fun q9 => c3 (Or.inl q9)) (gno (fun q9 => c3 (Or.inr (q9))) (gno c4 (gno c5 (gno (fun q9 => c6 (Or.inl q9)) (gno (fun q9 => c6 (Or.inr (q9))) (gno c7 (gno c8 (gno c9 (gno c10 (gno c11 (gno c12 (gno c13 (gno c14 gno0))))))))))))))))))
                              have h := h n15
                              refine T_table 336 337 (dk dtk_X7_opOf 1 rfl) (by decide) (gtab_d [(2 : Int32), (56 : Int32), (54 : Int32), (71 : Int32), (57 : Int32), (66 : Int32), (52 : Int32), (68 : Int32), (69 : Int32), (70 : Int32), (63 : Int32), (55 : Int32), (50 : Int32), (61 : Int32), (45 : Int32), (44 : Int32), (43 : Int32), (49 : Int32)] (by decide +kernel) n15) (by decide) ?_
                              refine T_iconst (v := (-1)) (dk dtk_X7_opOf 30 rfl) (by decide +kernel) ?_
                              exact KT_iret (dk dtk_X7_opOf 31 rfl) rfl rfl h
set_option maxRecDepth 100000 in
theorem dtk_X7_newLocal : dck cX7_newLocal [(0, .aload_n 0, 1), (1, .invokevirtual 112, 3), (4, .aload_n 0, 1), (5, .invokevirtual 71, 3), (8, .iconst 2, 1), (9, .if_icmp .ne 17, 3), (12, .aload_n 0, 1), (13, .getfield 178, 3), (16, .bipush 8, 2), (18, .if_icmp .lt 8, 3), (21, .aload_n 0, 1), (22, .iconst 3, 1), (23, .invokevirtual 96, 3), (26, .aload_n 0, 1), (27, .iconst 2, 1), (28, .iconst 0, 1), (29, .invokevirtual 130, 3), (32, .istore_n 1, 1), (33, .aload_n 0, 1), (34, .dup, 1), (35, .getfield 178, 3), (38, .iconst 1, 1), (39, .iadd, 1), (40, .putfield 178, 3), (43, .aload_n 0, 1), (44, .aload_n 0, 1), (45, .getfield 40, 3), (48, .aload_n 0, 1), (49, .getfield 184, 3), (52, .iconst 1, 1), (53, .isub, 1), (54, .iaload, 1), (55, .iload_n 1, 1), (56, .invokevirtual 266, 3), (59, .iconst (-1), 1), (60, .if_icmp .eq 13, 3), (63, .aload_n 0, 1), (64, .getfield 15, 3), (67, .getfield 109, 3), (70, .iload_n 1, 1), (71, .iconst 2, 1), (72, .iastore, 1), (73, .aload_n 0, 1), (74, .bipush 10, 2), (76, .invokevirtual 115, 3), (79, .iload_n 1, 1), (80, .ireturn, 1)] = true := by decide +kernel
set_option maxRecDepth 100000 in
set_option maxHeartbeats 4000000 in
theorem kg_X7_newLocal_0 {G : kG} {q : kP} {d : Nat} {x : gd} {P : Option gv → gd → Prop} {X : String → gd → Prop} (hq : kV q) 
    (h : KE G q (d + 6) zk_X7_pass 0 [(0, vr 100)] [] x (rv (fun x1 => KT G q (d + 6) zk_X7_sort 0 [(0, vr 100)] [] x1 (ri (fun r3 x2 => ((¬ (r3 = (2 : Int32)) → KE G q (d + 7) zk_X7_newLocal 26 [(0, vr 100)] [] x2 P X) ∧ (r3 = (2 : Int32) → (((x2.1 100 7) < (8 : Int32) → KE G q (d + 7) zk_X7_newLocal 26 [(0, vr 100)] [] x2 P X) ∧ (¬ ((x2.1 100 7) < (8 : Int32)) → KE G q (d + 6) zk_X7_refuse 0 [(0, vr 100), (1, vi 3)] [] x2 (rv (fun x6 => KE G q (d + 7) zk_X7_newLocal 26 [(0, vr 100)] [] x6 P X)) X)))))))) X) :
    KE G q (d + 7) zk_X7_newLocal 0 [(0, vr 100)] [] x P X := by
  refine T_aload_n 0 (dk dtk_X7_newLocal 0 rfl) rfl rfl ?_
  refine KD_Vv [] [] rfl (dk dtk_X7_newLocal 1 rfl) kcv_X7_112 rfl kk_100 rfl (kl_100 hq) (Nat.le_of_ble_eq_true rfl) (Nat.le_of_ble_eq_true rfl) (gok_i (av_c (gkr (kl_100 hq)) av_n) as_n) rfl h (fun x1 h => ?_)
  refine T_aload_n 0 (dk dtk_X7_newLocal 2 rfl) rfl rfl ?_
  refine KC_Vi [] [] rfl (dk dtk_X7_newLocal 3 rfl) kcv_X7_71 rfl kk_100 rfl (kl_100 hq) (Nat.le_of_ble_eq_true rfl) (Nat.le_of_ble_eq_true rfl) (gok_i (av_c (gkr (kl_100 hq)) av_n) as_n) rfl h (fun r3 x2 h => ?_)
  refine T_iconst (v := 2) (dk dtk_X7_newLocal 4 rfl) (by decide +kernel) ?_
  refine T_icmp_ne 26 (dk dtk_X7_newLocal 5 rfl) (by decide) (fun c4 => ?_) (fun c4 => ?_)
  · have h := h.1 c4
    exact h
  · have h := h.2 c4
    refine T_aload_n 0 (dk dtk_X7_newLocal 6 rfl) rfl rfl ?_
    refine T_getI 100 7 (dk dtk_X7_newLocal 7 rfl) kfl_X7_178 kk_100 (kl_100 hq) (by decide) rfl ?_
    refine T_bipush (v := 8) (dk dtk_X7_newLocal 8 rfl) (by decide +kernel) ?_
    refine T_icmp_lt 26 (dk dtk_X7_newLocal 9 rfl) (by decide) (fun c5 => ?_) (fun c5 => ?_)
    · have h := h.1 c5
      exact h
    · have h := h.2 c5
      refine T_aload_n 0 (dk dtk_X7_newLocal 10 rfl) rfl rfl ?_
      refine T_iconst (v := 3) (dk dtk_X7_newLocal 11 rfl) (by decide +kernel) ?_
      refine KD_Vv [vi 3] [] rfl (dk dtk_X7_newLocal 12 rfl) kcv_X7_96 rfl kk_100 rfl (kl_100 hq) (Nat.le_of_ble_eq_true rfl) (Nat.le_of_ble_eq_true rfl) (gok_i (av_c (gkr (kl_100 hq)) av_n) as_n) rfl h (fun x6 h => ?_)
      exact h
set_option maxRecDepth 100000 in
set_option maxHeartbeats 4000000 in
theorem kg_X7_newLocal_26 {G : kG} {q : kP} {d : Nat} {x : gd} {P : Option gv → gd → Prop} {X : String → gd → Prop} (hq : kV q) 
    (h : KE G q (d + 6) zk_X7_needFor 0 [(0, vr 100), (1, vi 2), (2, vi 0)] [] x (ri (fun r2 x1 => (∀ x3 : gd, x3 = si x1 100 7 ((x1.1 100 7) + 1) → vp_in ((x3.1 100 13) - 1) 20 ∧ KT G q (d + 6) zk_X7_knownFrom 0 [(0, vr 100), (1, vi (x3.1 113 ((x3.1 100 13) - 1 : Int32).toNatClampNeg)), (2, vi r2)] [] x3 (ri (fun r6 x5 => ((r6 = (-1 : Int32) → KE G q (d + 7) zk_X7_newLocal 73 [(0, vr 100), (1, vi r2)] [] x5 P X) ∧ (¬ (r6 = (-1 : Int32)) → vp_in r2 702 ∧ (∀ x9 : gd, x9 = si x5 42 (r2 : Int32).toNatClampNeg 2 → KE G q (d + 7) zk_X7_newLocal 73 [(0, vr 100), (1, vi r2)] [] x9 P X)))))))) X) :
    KE G q (d + 7) zk_X7_newLocal 26 [(0, vr 100)] [] x P X := by
  refine T_aload_n 0 (dk dtk_X7_newLocal 13 rfl) rfl rfl ?_
  refine T_iconst (v := 2) (dk dtk_X7_newLocal 14 rfl) (by decide +kernel) ?_
  refine T_iconst (v := 0) (dk dtk_X7_newLocal 15 rfl) (by decide +kernel) ?_
  refine KD_Vi [vi 2, vi 0] [] rfl (dk dtk_X7_newLocal 16 rfl) kcv_X7_130 rfl kk_100 rfl (kl_100 hq) (Nat.le_of_ble_eq_true rfl) (Nat.le_of_ble_eq_true rfl) (gok_i (av_c (gkr (kl_100 hq)) av_n) as_n) rfl h (fun r2 x1 h => ?_)
  refine T_istore_n (lv2 := [(1, vi r2), (0, vr 100)]) (dk dtk_X7_newLocal 17 rfl) rfl (by decide) rfl ?_
  refine T_aload_n 1 (dk dtk_X7_newLocal 18 rfl) rfl rfl ?_
  refine T_dup (dk dtk_X7_newLocal 19 rfl) rfl ?_
  refine T_getI 100 7 (dk dtk_X7_newLocal 20 rfl) kfl_X7_178 kk_100 (kl_100 hq) (by decide) rfl ?_
  refine T_iconst (v := 1) (dk dtk_X7_newLocal 21 rfl) (by decide +kernel) ?_
  refine T_iadd (dk dtk_X7_newLocal 22 rfl) ?_
  obtain ⟨x3, ex3⟩ : ∃ z, z = si x1 100 7 ((x1.1 100 7) + 1) := ⟨_, rfl⟩
  have h := h x3 ex3
  refine T_putI 100 7 (dk dtk_X7_newLocal 23 rfl) kfl_X7_178 kk_100 (kl_100 hq) (by decide) rfl ⟨rfl, rfl⟩ ?_
  rw [← ex3]
  refine T_aload_n 1 (dk dtk_X7_newLocal 24 rfl) rfl rfl ?_
  refine T_aload_n 1 (dk dtk_X7_newLocal 25 rfl) rfl rfl ?_
  refine T_getR 100 12 113 (dk dtk_X7_newLocal 26 rfl) kfl_X7_40 kk_100 (kl_100 hq) (by decide) rfl kr_100_12 ?_
  refine T_aload_n 1 (dk dtk_X7_newLocal 27 rfl) rfl rfl ?_
  refine T_getI 100 13 (dk dtk_X7_newLocal 28 rfl) kfl_X7_184 kk_100 (kl_100 hq) (by decide) rfl ?_
  refine T_iconst (v := 1) (dk dtk_X7_newLocal 29 rfl) (by decide +kernel) ?_
  refine T_isub (dk dtk_X7_newLocal 30 rfl) ?_
  obtain ⟨h4, h⟩ := h
  refine T_iald 113 20 (dk dtk_X7_newLocal 31 rfl) kk_113 (kl_113 hq) h4 ?_
  refine T_iload_n 0 (dk dtk_X7_newLocal 32 rfl) rfl rfl ?_
  refine KC_Vi [vi (x3.1 113 ((x3.1 100 13) - 1 : Int32).toNatClampNeg), vi r2] [] rfl (dk dtk_X7_newLocal 33 rfl) kcv_X7_266 rfl kk_100 rfl (kl_100 hq) (Nat.le_of_ble_eq_true rfl) (Nat.le_of_ble_eq_true rfl) (gok_i (av_c rfl (av_c (gkr (kl_100 hq)) av_n)) as_n) rfl h (fun r6 x5 h => ?_)
  refine T_iconst (v := (-1)) (dk dtk_X7_newLocal 34 rfl) (by decide +kernel) ?_
  refine T_icmp_eq 73 (dk dtk_X7_newLocal 35 rfl) (by decide) (fun c7 => ?_) (fun c7 => ?_)
  · have h := h.1 c7
    exact T_sub [1, 0] rfl h
  · have h := h.2 c7
    refine T_aload_n 1 (dk dtk_X7_newLocal 36 rfl) rfl rfl ?_
    refine T_getR 100 1 40 (dk dtk_X7_newLocal 37 rfl) kfl_X7_15 kk_100 (kl_100 hq) (by decide) rfl kr_100_1 ?_
    refine T_getR 40 1 42 (dk dtk_X7_newLocal 38 rfl) kfl_X7_109 kk_40 (kl_40 hq) (by decide) rfl kr_40_1 ?_
    refine T_iload_n 0 (dk dtk_X7_newLocal 39 rfl) rfl rfl ?_
    refine T_iconst (v := 2) (dk dtk_X7_newLocal 40 rfl) (by decide +kernel) ?_
    obtain ⟨h8, h⟩ := h
    obtain ⟨x9, ex9⟩ : ∃ z, z = si x5 42 (r2 : Int32).toNatClampNeg 2 := ⟨_, rfl⟩
    have h := h x9 ex9
    refine T_iast 42 702 (dk dtk_X7_newLocal 41 rfl) kk_42 (kl_42 hq) h8 ?_
    rw [← ex9]
    exact T_sub [1, 0] rfl h
set_option maxRecDepth 100000 in
set_option maxHeartbeats 4000000 in
theorem kg_X7_newLocal_73 {G : kG} {q : kP} {d : Nat} {x : gd} {P : Option gv → gd → Prop} {X : String → gd → Prop} (hq : kV q) (l1 : Int32)
    (h : KE G q (d + 6) zk_X7_need 0 [(0, vr 100), (1, vi 10)] [] x (rv (fun x1 => P (some (vi l1)) x1)) X) :
    KE G q (d + 7) zk_X7_newLocal 73 [(0, vr 100), (1, vi l1)] [] x P X := by
  refine T_aload_n 0 (dk dtk_X7_newLocal 42 rfl) rfl rfl ?_
  refine T_bipush (v := 10) (dk dtk_X7_newLocal 43 rfl) (by decide +kernel) ?_
  refine T_sub (lv2 := [(1, vi l1)]) [1] rfl ?_
  refine KD_Vv [vi 10] [] rfl (dk dtk_X7_newLocal 44 rfl) kcv_X7_115 rfl kk_100 rfl (kl_100 hq) (Nat.le_of_ble_eq_true rfl) (Nat.le_of_ble_eq_true rfl) (gok_i (av_c rfl av_n) as_n) rfl h (fun x1 h => ?_)
  refine T_iload_n 0 (dk dtk_X7_newLocal 45 rfl) rfl rfl ?_
  exact KE_iret (dk dtk_X7_newLocal 46 rfl) rfl rfl h
set_option maxRecDepth 100000 in
theorem dtk_X7_makeKnown : dck cX7_makeKnown [(0, .aload_n 0, 1), (1, .getfield 181, 3), (4, .bipush 8, 2), (6, .if_icmp .ge 23, 3), (9, .aload_n 0, 1), (10, .getfield 30, 3), (13, .aload_n 0, 1), (14, .getfield 181, 3), (17, .iload_n 1, 1), (18, .iastore, 1), (19, .aload_n 0, 1), (20, .dup, 1), (21, .getfield 181, 3), (24, .iconst 1, 1), (25, .iadd, 1), (26, .putfield 181, 3), (29, .aload_n 0, 1), (30, .getfield 19, 3), (33, .aload_n 0, 1), (34, .getfield 19, 3), (37, .getfield 269, 3), (40, .aload_n 0, 1), (41, .getfield 181, 3), (44, .invokestatic 121, 3), (47, .putfield 269, 3), (50, .return_, 1)] = true := by decide +kernel
set_option maxRecDepth 100000 in
set_option maxHeartbeats 4000000 in
theorem kg_X7_makeKnown_0 {G : kG} {q : kP} {d : Nat} {x : gd} {P : Option gv → gd → Prop} (hq : kV q) (l1 : Int32)
    (h : (((8 : Int32) ≤ (x.1 100 9) → KT G q (d + 1) zk_X7_makeKnown 29 [(0, vr 100)] [] x P) ∧ (¬ ((8 : Int32) ≤ (x.1 100 9)) → vp_in (x.1 100 9) 8 ∧ (∀ x3 : gd, x3 = si x 109 (x.1 100 9 : Int32).toNatClampNeg l1 → (∀ x4 : gd, x4 = si x3 100 9 ((x3.1 100 9) + 1) → KT G q (d + 1) zk_X7_makeKnown 29 [(0, vr 100)] [] x4 P))))) :
    KT G q (d + 1) zk_X7_makeKnown 0 [(0, vr 100), (1, vi l1)] [] x P := by
  refine T_aload_n 0 (dk dtk_X7_makeKnown 0 rfl) rfl rfl ?_
  refine T_getI 100 9 (dk dtk_X7_makeKnown 1 rfl) kfl_X7_181 kk_100 (kl_100 hq) (by decide) rfl ?_
  refine T_bipush (v := 8) (dk dtk_X7_makeKnown 2 rfl) (by decide +kernel) ?_
  refine T_icmp_ge 29 (dk dtk_X7_makeKnown 3 rfl) (by decide) (fun c1 => ?_) (fun c1 => ?_)
  · have h := h.1 c1
    exact T_sub [0] rfl h
  · have h := h.2 c1
    refine T_aload_n 0 (dk dtk_X7_makeKnown 4 rfl) rfl rfl ?_
    refine T_getR 100 8 109 (dk dtk_X7_makeKnown 5 rfl) kfl_X7_30 kk_100 (kl_100 hq) (by decide) rfl kr_100_8 ?_
    refine T_aload_n 0 (dk dtk_X7_makeKnown 6 rfl) rfl rfl ?_
    refine T_getI 100 9 (dk dtk_X7_makeKnown 7 rfl) kfl_X7_181 kk_100 (kl_100 hq) (by decide) rfl ?_
    refine T_iload_n 1 (dk dtk_X7_makeKnown 8 rfl) rfl rfl ?_
    obtain ⟨h2, h⟩ := h
    obtain ⟨x3, ex3⟩ : ∃ z, z = si x 109 (x.1 100 9 : Int32).toNatClampNeg l1 := ⟨_, rfl⟩
    have h := h x3 ex3
    refine T_iast 109 8 (dk dtk_X7_makeKnown 9 rfl) kk_109 (kl_109 hq) h2 ?_
    rw [← ex3]
    refine T_aload_n 0 (dk dtk_X7_makeKnown 10 rfl) rfl rfl ?_
    refine T_dup (dk dtk_X7_makeKnown 11 rfl) rfl ?_
    refine T_getI 100 9 (dk dtk_X7_makeKnown 12 rfl) kfl_X7_181 kk_100 (kl_100 hq) (by decide) rfl ?_
    refine T_iconst (v := 1) (dk dtk_X7_makeKnown 13 rfl) (by decide +kernel) ?_
    refine T_iadd (dk dtk_X7_makeKnown 14 rfl) ?_
    obtain ⟨x4, ex4⟩ : ∃ z, z = si x3 100 9 ((x3.1 100 9) + 1) := ⟨_, rfl⟩
    have h := h x4 ex4
    refine T_putI 100 9 (dk dtk_X7_makeKnown 15 rfl) kfl_X7_181 kk_100 (kl_100 hq) (by decide) rfl ⟨rfl, rfl⟩ ?_
    rw [← ex4]
    exact T_sub [0] rfl h
set_option maxRecDepth 100000 in
set_option maxHeartbeats 4000000 in
theorem kg_X7_makeKnown_29 {G : kG} {q : kP} {d : Nat} {x : gd} {P : Option gv → gd → Prop} (hq : kV q) 
    (h : (∀ r2 : Int32, (r2.toInt = Int32.toInt (x.1 60 13) ∨ r2.toInt = Int32.toInt (x.1 100 9)) → Int32.toInt (x.1 60 13) ≤ r2.toInt → Int32.toInt (x.1 100 9) ≤ r2.toInt → (∀ x6 : gd, x6 = si x 60 13 r2 → P none x6))) :
    KT G q (d + 1) zk_X7_makeKnown 29 [(0, vr 100)] [] x P := by
  refine T_aload_n 0 (dk dtk_X7_makeKnown 16 rfl) rfl rfl ?_
  refine T_getR 100 2 60 (dk dtk_X7_makeKnown 17 rfl) kfl_X7_19 kk_100 (kl_100 hq) (by decide) rfl kr_100_2 ?_
  refine T_aload_n 0 (dk dtk_X7_makeKnown 18 rfl) rfl rfl ?_
  refine T_getR 100 2 60 (dk dtk_X7_makeKnown 19 rfl) kfl_X7_19 kk_100 (kl_100 hq) (by decide) rfl kr_100_2 ?_
  refine T_getI 60 13 (dk dtk_X7_makeKnown 20 rfl) kfl_X7_269 kk_60 (kl_60 hq) (by decide) rfl ?_
  refine T_aload_n 0 (dk dtk_X7_makeKnown 21 rfl) rfl rfl ?_
  refine T_getI 100 9 (dk dtk_X7_makeKnown 22 rfl) kfl_X7_181 kk_100 (kl_100 hq) (by decide) rfl ?_
  refine T_sub (lv2 := []) [] rfl ?_
  refine T_max (dk dtk_X7_makeKnown 23 rfl) kmx_X7_121 (by omega) (Nat.le_of_ble_eq_true rfl) (fun r2 h3 h4 h5 => ?_)
  have h := h r2 h3 h4 h5
  obtain ⟨x6, ex6⟩ : ∃ z, z = si x 60 13 r2 := ⟨_, rfl⟩
  have h := h x6 ex6
  refine T_putI 60 13 (dk dtk_X7_makeKnown 24 rfl) kfl_X7_269 kk_60 (kl_60 hq) (by decide) rfl ⟨rfl, rfl⟩ ?_
  rw [← ex6]
  exact KT_vret (dk dtk_X7_makeKnown 25 rfl) rfl h
set_option maxRecDepth 100000 in
theorem dtk_X7_knownFrom : dck cX7_knownFrom [(0, .aload_n 0, 1), (1, .getfield 181, 3), (4, .iconst 1, 1), (5, .isub, 1), (6, .istore_n 3, 1), (7, .iload_n 3, 1), (8, .iload_n 1, 1), (9, .if_icmp .lt 28, 3), (12, .aload_n 0, 1), (13, .getfield 11, 3), (16, .aload_n 0, 1), (17, .getfield 30, 3), (20, .iload_n 3, 1), (21, .iaload, 1), (22, .iload_n 2, 1), (23, .invokevirtual 272, 3), (26, .ifCond .eq 5, 3), (29, .iload_n 3, 1), (30, .ireturn, 1), (31, .iinc 3 (-1), 3), (34, .goto (-27), 3), (37, .iconst (-1), 1), (38, .ireturn, 1)] = true := by decide +kernel
set_option maxRecDepth 100000 in
set_option maxHeartbeats 4000000 in
theorem kg_X7_knownFrom_0 {G : kG} {q : kP} {d : Nat} {x : gd} {P : Option gv → gd → Prop} (hq : kV q) (l1 : Int32) (l2 : Int32)
    (h : KT G q (d + 1) zk_X7_knownFrom 7 [(0, vr 100), (1, vi l1), (2, vi l2), (3, vi ((x.1 100 9) - 1))] [] x P) :
    KT G q (d + 1) zk_X7_knownFrom 0 [(0, vr 100), (1, vi l1), (2, vi l2)] [] x P := by
  refine T_aload_n 0 (dk dtk_X7_knownFrom 0 rfl) rfl rfl ?_
  refine T_getI 100 9 (dk dtk_X7_knownFrom 1 rfl) kfl_X7_181 kk_100 (kl_100 hq) (by decide) rfl ?_
  refine T_iconst (v := 1) (dk dtk_X7_knownFrom 2 rfl) (by decide +kernel) ?_
  refine T_isub (dk dtk_X7_knownFrom 3 rfl) ?_
  refine T_istore_n (lv2 := [(3, vi ((x.1 100 9) - 1)), (0, vr 100), (1, vi l1), (2, vi l2)]) (dk dtk_X7_knownFrom 4 rfl) rfl (by decide) rfl ?_
  exact T_sub [1, 2, 3, 0] rfl h
set_option maxRecDepth 100000 in
set_option maxHeartbeats 4000000 in
theorem kg_X7_knownFrom_7 {G : kG} {q : kP} {d : Nat} {x : gd} {P : Option gv → gd → Prop} (hq : kV q) (l1 : Int32) (l2 : Int32) (l3 : Int32)
    (h : ((l3 < l1 → P (some (vi (-1))) x) ∧ (¬ (l3 < l1) → vp_in l3 8 ∧ KT G q d zk_X9_sameName 0 [(0, vr 20), (1, vi (x.1 109 (l3 : Int32).toNatClampNeg)), (2, vi l2)] [] x (ri (fun r4 x3 => ((r4 = (0 : Int32) → KT G q (d + 1) zk_X7_knownFrom 7 [(0, vr 100), (1, vi l1), (2, vi l2), (3, vi (l3 + (-1)))] [] x3 P) ∧ (¬ (r4 = (0 : Int32)) → P (some (vi l3)) x3))))))) :
    KT G q (d + 1) zk_X7_knownFrom 7 [(0, vr 100), (1, vi l1), (2, vi l2), (3, vi l3)] [] x P := by
  refine T_iload_n 3 (dk dtk_X7_knownFrom 5 rfl) rfl rfl ?_
  refine T_iload_n 1 (dk dtk_X7_knownFrom 6 rfl) rfl rfl ?_
  refine T_icmp_lt 37 (dk dtk_X7_knownFrom 7 rfl) (by decide) (fun c1 => ?_) (fun c1 => ?_)
  · have h := h.1 c1
    refine T_iconst (v := (-1)) (dk dtk_X7_knownFrom 21 rfl) (by decide +kernel) ?_
    exact KT_iret (dk dtk_X7_knownFrom 22 rfl) rfl rfl h
  · have h := h.2 c1
    refine T_aload_n 0 (dk dtk_X7_knownFrom 8 rfl) rfl rfl ?_
    refine T_getR 100 0 20 (dk dtk_X7_knownFrom 9 rfl) kfl_X7_11 kk_100 (kl_100 hq) (by decide) rfl kr_100_0 ?_
    refine T_aload_n 0 (dk dtk_X7_knownFrom 10 rfl) rfl rfl ?_
    refine T_getR 100 8 109 (dk dtk_X7_knownFrom 11 rfl) kfl_X7_30 kk_100 (kl_100 hq) (by decide) rfl kr_100_8 ?_
    refine T_iload_n 3 (dk dtk_X7_knownFrom 12 rfl) rfl rfl ?_
    obtain ⟨h2, h⟩ := h
    refine T_iald 109 8 (dk dtk_X7_knownFrom 13 rfl) kk_109 (kl_109 hq) h2 ?_
    refine T_iload_n 2 (dk dtk_X7_knownFrom 14 rfl) rfl rfl ?_
    refine KC_Vi [vi (x.1 109 (l3 : Int32).toNatClampNeg), vi l2] [] rfl (dk dtk_X7_knownFrom 15 rfl) kcv_X7_272 rfl kk_20 rfl (kl_20 hq) (Nat.le_of_ble_eq_true rfl) (Nat.le_of_ble_eq_true rfl) (gok_i (av_c (gkr (kl_100 hq)) (av_c rfl (av_c rfl (av_c rfl av_n)))) as_n) rfl h (fun r4 x3 h => ?_)
    refine T_if_eq 31 (dk dtk_X7_knownFrom 16 rfl) (by decide) (fun c5 => ?_) (fun c5 => ?_)
    · have h := h.1 c5
      refine T_iinc (v := l3 + (-1)) (lv2 := [(3, vi (l3 + (-1))), (0, vr 100), (1, vi l1), (2, vi l2)]) 3 (dk dtk_X7_knownFrom 19 rfl) rfl rfl (by decide) rfl ?_
      refine T_goto 7 (dk dtk_X7_knownFrom 20 rfl) (by decide) ?_
      exact T_sub [1, 2, 3, 0] rfl h
    · have h := h.2 c5
      refine T_iload_n 3 (dk dtk_X7_knownFrom 17 rfl) rfl rfl ?_
      exact KT_iret (dk dtk_X7_knownFrom 18 rfl) rfl rfl h
set_option maxRecDepth 100000 in
theorem dtk_X7_setTarget : dck cX7_setTarget [(0, .aload_n 0, 1), (1, .iconst 2, 1), (2, .iconst 0, 1), (3, .invokevirtual 130, 3), (6, .istore_n 1, 1), (7, .aload_n 0, 1), (8, .getfield 15, 3), (11, .getfield 254, 3), (14, .iload_n 1, 1), (15, .aload_n 0, 1), (16, .iconst 0, 1), (17, .iload_n 1, 1), (18, .invokevirtual 266, 3), (21, .iastore, 1), (22, .aload_n 0, 1), (23, .getfield 15, 3), (26, .getfield 254, 3), (29, .iload_n 1, 1), (30, .iaload, 1), (31, .iconst (-1), 1), (32, .if_icmp .ne 14, 3), (35, .aload_n 0, 1), (36, .getfield 15, 3), (39, .getfield 109, 3), (42, .iload_n 1, 1), (43, .bipush 6, 2), (45, .iastore, 1), (46, .aload_n 0, 1), (47, .bipush 10, 2), (49, .invokevirtual 115, 3), (52, .iload_n 1, 1), (53, .ireturn, 1)] = true := by decide +kernel
set_option maxRecDepth 100000 in
set_option maxHeartbeats 4000000 in
theorem kg_X7_setTarget_0 {G : kG} {q : kP} {d : Nat} {x : gd} {P : Option gv → gd → Prop} {X : String → gd → Prop} (hq : kV q) 
    (h : KE G q (d + 6) zk_X7_needFor 0 [(0, vr 100), (1, vi 2), (2, vi 0)] [] x (ri (fun r2 x1 => KT G q (d + 6) zk_X7_knownFrom 0 [(0, vr 100), (1, vi 0), (2, vi r2)] [] x1 (ri (fun r4 x3 => vp_in r2 702 ∧ (∀ x6 : gd, x6 = si x3 43 (r2 : Int32).toNatClampNeg r4 → vp_in r2 702 ∧ ((¬ ((x6.1 43 (r2 : Int32).toNatClampNeg) = (-1 : Int32)) → KE G q (d + 7) zk_X7_setTarget 46 [(0, vr 100), (1, vi r2)] [] x6 P X) ∧ ((x6.1 43 (r2 : Int32).toNatClampNeg) = (-1 : Int32) → vp_in r2 702 ∧ (∀ x10 : gd, x10 = si x6 42 (r2 : Int32).toNatClampNeg 6 → KE G q (d + 7) zk_X7_setTarget 46 [(0, vr 100), (1, vi r2)] [] x10 P X)))))))) X) :
    KE G q (d + 7) zk_X7_setTarget 0 [(0, vr 100)] [] x P X := by
  refine T_aload_n 0 (dk dtk_X7_setTarget 0 rfl) rfl rfl ?_
  refine T_iconst (v := 2) (dk dtk_X7_setTarget 1 rfl) (by decide +kernel) ?_
  refine T_iconst (v := 0) (dk dtk_X7_setTarget 2 rfl) (by decide +kernel) ?_
  refine KD_Vi [vi 2, vi 0] [] rfl (dk dtk_X7_setTarget 3 rfl) kcv_X7_130 rfl kk_100 rfl (kl_100 hq) (Nat.le_of_ble_eq_true rfl) (Nat.le_of_ble_eq_true rfl) (gok_i (av_c (gkr (kl_100 hq)) av_n) as_n) rfl h (fun r2 x1 h => ?_)
  refine T_istore_n (lv2 := [(1, vi r2), (0, vr 100)]) (dk dtk_X7_setTarget 4 rfl) rfl (by decide) rfl ?_
  refine T_aload_n 1 (dk dtk_X7_setTarget 5 rfl) rfl rfl ?_
  refine T_getR 100 1 40 (dk dtk_X7_setTarget 6 rfl) kfl_X7_15 kk_100 (kl_100 hq) (by decide) rfl kr_100_1 ?_
  refine T_getR 40 2 43 (dk dtk_X7_setTarget 7 rfl) kfl_X7_254 kk_40 (kl_40 hq) (by decide) rfl kr_40_2 ?_
  refine T_iload_n 0 (dk dtk_X7_setTarget 8 rfl) rfl rfl ?_
  refine T_aload_n 1 (dk dtk_X7_setTarget 9 rfl) rfl rfl ?_
  refine T_iconst (v := 0) (dk dtk_X7_setTarget 10 rfl) (by decide +kernel) ?_
  refine T_iload_n 0 (dk dtk_X7_setTarget 11 rfl) rfl rfl ?_
  refine KC_Vi [vi 0, vi r2] [vi r2, vr 43] rfl (dk dtk_X7_setTarget 12 rfl) kcv_X7_266 rfl kk_100 rfl (kl_100 hq) (Nat.le_of_ble_eq_true rfl) (Nat.le_of_ble_eq_true rfl) (gok_i (av_c rfl (av_c (gkr (kl_100 hq)) av_n)) (as_c rfl (as_c (gkr (kl_43 hq)) as_n))) rfl h (fun r4 x3 h => ?_)
  obtain ⟨h5, h⟩ := h
  obtain ⟨x6, ex6⟩ : ∃ z, z = si x3 43 (r2 : Int32).toNatClampNeg r4 := ⟨_, rfl⟩
  have h := h x6 ex6
  refine T_iast 43 702 (dk dtk_X7_setTarget 13 rfl) kk_43 (kl_43 hq) h5 ?_
  rw [← ex6]
  refine T_aload_n 1 (dk dtk_X7_setTarget 14 rfl) rfl rfl ?_
  refine T_getR 100 1 40 (dk dtk_X7_setTarget 15 rfl) kfl_X7_15 kk_100 (kl_100 hq) (by decide) rfl kr_100_1 ?_
  refine T_getR 40 2 43 (dk dtk_X7_setTarget 16 rfl) kfl_X7_254 kk_40 (kl_40 hq) (by decide) rfl kr_40_2 ?_
  refine T_iload_n 0 (dk dtk_X7_setTarget 17 rfl) rfl rfl ?_
  obtain ⟨h7, h⟩ := h
  refine T_iald 43 702 (dk dtk_X7_setTarget 18 rfl) kk_43 (kl_43 hq) h7 ?_
  refine T_iconst (v := (-1)) (dk dtk_X7_setTarget 19 rfl) (by decide +kernel) ?_
  refine T_icmp_ne 46 (dk dtk_X7_setTarget 20 rfl) (by decide) (fun c8 => ?_) (fun c8 => ?_)
  · have h := h.1 c8
    exact T_sub [1, 0] rfl h
  · have h := h.2 c8
    refine T_aload_n 1 (dk dtk_X7_setTarget 21 rfl) rfl rfl ?_
    refine T_getR 100 1 40 (dk dtk_X7_setTarget 22 rfl) kfl_X7_15 kk_100 (kl_100 hq) (by decide) rfl kr_100_1 ?_
    refine T_getR 40 1 42 (dk dtk_X7_setTarget 23 rfl) kfl_X7_109 kk_40 (kl_40 hq) (by decide) rfl kr_40_1 ?_
    refine T_iload_n 0 (dk dtk_X7_setTarget 24 rfl) rfl rfl ?_
    refine T_bipush (v := 6) (dk dtk_X7_setTarget 25 rfl) (by decide +kernel) ?_
    obtain ⟨h9, h⟩ := h
    obtain ⟨x10, ex10⟩ : ∃ z, z = si x6 42 (r2 : Int32).toNatClampNeg 6 := ⟨_, rfl⟩
    have h := h x10 ex10
    refine T_iast 42 702 (dk dtk_X7_setTarget 26 rfl) kk_42 (kl_42 hq) h9 ?_
    rw [← ex10]
    exact T_sub [1, 0] rfl h
set_option maxRecDepth 100000 in
set_option maxHeartbeats 4000000 in
theorem kg_X7_setTarget_46 {G : kG} {q : kP} {d : Nat} {x : gd} {P : Option gv → gd → Prop} {X : String → gd → Prop} (hq : kV q) (l1 : Int32)
    (h : KE G q (d + 6) zk_X7_need 0 [(0, vr 100), (1, vi 10)] [] x (rv (fun x1 => P (some (vi l1)) x1)) X) :
    KE G q (d + 7) zk_X7_setTarget 46 [(0, vr 100), (1, vi l1)] [] x P X := by
  refine T_aload_n 0 (dk dtk_X7_setTarget 27 rfl) rfl rfl ?_
  refine T_bipush (v := 10) (dk dtk_X7_setTarget 28 rfl) (by decide +kernel) ?_
  refine T_sub (lv2 := [(1, vi l1)]) [1] rfl ?_
  refine KD_Vv [vi 10] [] rfl (dk dtk_X7_setTarget 29 rfl) kcv_X7_115 rfl kk_100 rfl (kl_100 hq) (Nat.le_of_ble_eq_true rfl) (Nat.le_of_ble_eq_true rfl) (gok_i (av_c rfl av_n) as_n) rfl h (fun x1 h => ?_)
  refine T_iload_n 0 (dk dtk_X7_setTarget 30 rfl) rfl rfl ?_
  exact KE_iret (dk dtk_X7_setTarget 31 rfl) rfl rfl h
set_option maxRecDepth 100000 in
theorem dtk_X7_rowStatement : dck cX7_rowStatement [(0, .aload_n 0, 1), (1, .iconst 2, 1), (2, .bipush 7, 2), (4, .invokevirtual 130, 3), (7, .istore_n 2, 1), (8, .aload_n 0, 1), (9, .bipush 25, 2), (11, .invokevirtual 115, 3), (14, .aload_n 0, 1), (15, .aload_n 0, 1), (16, .getfield 184, 3), (19, .iconst 1, 1), (20, .iadd, 1), (21, .invokevirtual 201, 3), (24, .istore_n 3, 1), (25, .aload_n 0, 1), (26, .bipush 26, 2), (28, .invokevirtual 115, 3), (31, .aload_n 0, 1), (32, .bipush 10, 2), (34, .invokevirtual 115, 3), (37, .aload_n 0, 1), (38, .aload_n 0, 1), (39, .getfield 184, 3), (42, .iconst 1, 1), (43, .iadd, 1), (44, .invokevirtual 201, 3), (47, .istore 4, 2), (49, .aload_n 0, 1), (50, .getfield 29, 3), (53, .iconst 1, 1), (54, .iload_n 1, 1), (55, .aload_n 0, 1), (56, .getfield 181, 3), (59, .invokevirtual 191, 3), (62, .istore 5, 2), (64, .aload_n 0, 1), (65, .getfield 29, 3), (68, .getfield 220, 3), (71, .iload 5, 2), (73, .iload_n 2, 1), (74, .iastore, 1), (75, .aload_n 0, 1), (76, .getfield 29, 3), (79, .getfield 276, 3), (82, .iload 5, 2), (84, .iload_n 3, 1), (85, .iastore, 1), (86, .aload_n 0, 1), (87, .getfield 29, 3), (90, .getfield 233, 3), (93, .iload 5, 2), (95, .iload 4, 2), (97, .iastore, 1), (98, .return_, 1)] = true := by decide +kernel
set_option maxRecDepth 100000 in
set_option maxHeartbeats 4000000 in
theorem kg_X7_rowStatement_0 {G : kG} {q : kP} {d : Nat} {x : gd} {P : Option gv → gd → Prop} {X : String → gd → Prop} (hq : kV q) (l1 : Int32)
    (h : KE G q (d + 6) zk_X7_needFor 0 [(0, vr 100), (1, vi 2), (2, vi 7)] [] x (ri (fun r2 x1 => KE G q (d + 6) zk_X7_need 0 [(0, vr 100), (1, vi 25)] [] x1 (rv (fun x3 => KE G q (d + 6) zk_X7_sum 0 [(0, vr 100), (1, vi ((x3.1 100 13) + 1))] [] x3 (ri (fun r5 x4 => KE G q (d + 6) zk_X7_need 0 [(0, vr 100), (1, vi 26)] [] x4 (rv (fun x6 => KE G q (d + 6) zk_X7_need 0 [(0, vr 100), (1, vi 10)] [] x6 (rv (fun x7 => KE G q (d + 6) zk_X7_sum 0 [(0, vr 100), (1, vi ((x7.1 100 13) + 1))] [] x7 (ri (fun r9 x8 => KT G q (d + 6) zk_X8_add 0 [(0, vr 80), (1, vi 1), (2, vi l1), (3, vi (x8.1 100 9))] [] x8 (ri (fun r11 x10 => vp_in r11 400 ∧ (∀ x13 : gd, x13 = si x10 85 (r11 : Int32).toNatClampNeg r2 → vp_in r11 400 ∧ (∀ x15 : gd, x15 = si x13 87 (r11 : Int32).toNatClampNeg r5 → vp_in r11 400 ∧ (∀ x17 : gd, x17 = si x15 88 (r11 : Int32).toNatClampNeg r9 → P none x17))))))) X)) X)) X)) X)) X)) X) :
    KE G q (d + 7) zk_X7_rowStatement 0 [(0, vr 100), (1, vi l1)] [] x P X := by
  refine T_aload_n 0 (dk dtk_X7_rowStatement 0 rfl) rfl rfl ?_
  refine T_iconst (v := 2) (dk dtk_X7_rowStatement 1 rfl) (by decide +kernel) ?_
  refine T_bipush (v := 7) (dk dtk_X7_rowStatement 2 rfl) (by decide +kernel) ?_
  refine KD_Vi [vi 2, vi 7] [] rfl (dk dtk_X7_rowStatement 3 rfl) kcv_X7_130 rfl kk_100 rfl (kl_100 hq) (Nat.le_of_ble_eq_true rfl) (Nat.le_of_ble_eq_true rfl) (gok_i (av_c (gkr (kl_100 hq)) (av_c rfl av_n)) as_n) rfl h (fun r2 x1 h => ?_)
  refine T_istore_n (lv2 := [(2, vi r2), (0, vr 100), (1, vi l1)]) (dk dtk_X7_rowStatement 4 rfl) rfl (by decide) rfl ?_
  refine T_aload_n 1 (dk dtk_X7_rowStatement 5 rfl) rfl rfl ?_
  refine T_bipush (v := 25) (dk dtk_X7_rowStatement 6 rfl) (by decide +kernel) ?_
  refine KD_Vv [vi 25] [] rfl (dk dtk_X7_rowStatement 7 rfl) kcv_X7_115 rfl kk_100 rfl (kl_100 hq) (Nat.le_of_ble_eq_true rfl) (Nat.le_of_ble_eq_true rfl) (gok_i (av_c rfl (av_c (gkr (kl_100 hq)) (av_c rfl av_n))) as_n) rfl h (fun x3 h => ?_)
  refine T_aload_n 1 (dk dtk_X7_rowStatement 8 rfl) rfl rfl ?_
  refine T_aload_n 1 (dk dtk_X7_rowStatement 9 rfl) rfl rfl ?_
  refine T_getI 100 13 (dk dtk_X7_rowStatement 10 rfl) kfl_X7_184 kk_100 (kl_100 hq) (by decide) rfl ?_
  refine T_iconst (v := 1) (dk dtk_X7_rowStatement 11 rfl) (by decide +kernel) ?_
  refine T_iadd (dk dtk_X7_rowStatement 12 rfl) ?_
  refine KD_Vi [vi ((x3.1 100 13) + 1)] [] rfl (dk dtk_X7_rowStatement 13 rfl) kcv_X7_201 rfl kk_100 rfl (kl_100 hq) (Nat.le_of_ble_eq_true rfl) (Nat.le_of_ble_eq_true rfl) (gok_i (av_c rfl (av_c (gkr (kl_100 hq)) (av_c rfl av_n))) as_n) rfl h (fun r5 x4 h => ?_)
  refine T_istore_n (lv2 := [(3, vi r5), (2, vi r2), (0, vr 100), (1, vi l1)]) (dk dtk_X7_rowStatement 14 rfl) rfl (by decide) rfl ?_
  refine T_aload_n 2 (dk dtk_X7_rowStatement 15 rfl) rfl rfl ?_
  refine T_bipush (v := 26) (dk dtk_X7_rowStatement 16 rfl) (by decide +kernel) ?_
  refine KD_Vv [vi 26] [] rfl (dk dtk_X7_rowStatement 17 rfl) kcv_X7_115 rfl kk_100 rfl (kl_100 hq) (Nat.le_of_ble_eq_true rfl) (Nat.le_of_ble_eq_true rfl) (gok_i (av_c rfl (av_c rfl (av_c (gkr (kl_100 hq)) (av_c rfl av_n)))) as_n) rfl h (fun x6 h => ?_)
  refine T_aload_n 2 (dk dtk_X7_rowStatement 18 rfl) rfl rfl ?_
  refine T_bipush (v := 10) (dk dtk_X7_rowStatement 19 rfl) (by decide +kernel) ?_
  refine KD_Vv [vi 10] [] rfl (dk dtk_X7_rowStatement 20 rfl) kcv_X7_115 rfl kk_100 rfl (kl_100 hq) (Nat.le_of_ble_eq_true rfl) (Nat.le_of_ble_eq_true rfl) (gok_i (av_c rfl (av_c rfl (av_c (gkr (kl_100 hq)) (av_c rfl av_n)))) as_n) rfl h (fun x7 h => ?_)
  refine T_aload_n 2 (dk dtk_X7_rowStatement 21 rfl) rfl rfl ?_
  refine T_aload_n 2 (dk dtk_X7_rowStatement 22 rfl) rfl rfl ?_
  refine T_getI 100 13 (dk dtk_X7_rowStatement 23 rfl) kfl_X7_184 kk_100 (kl_100 hq) (by decide) rfl ?_
  refine T_iconst (v := 1) (dk dtk_X7_rowStatement 24 rfl) (by decide +kernel) ?_
  refine T_iadd (dk dtk_X7_rowStatement 25 rfl) ?_
  refine KD_Vi [vi ((x7.1 100 13) + 1)] [] rfl (dk dtk_X7_rowStatement 26 rfl) kcv_X7_201 rfl kk_100 rfl (kl_100 hq) (Nat.le_of_ble_eq_true rfl) (Nat.le_of_ble_eq_true rfl) (gok_i (av_c rfl (av_c rfl (av_c (gkr (kl_100 hq)) (av_c rfl av_n)))) as_n) rfl h (fun r9 x8 h => ?_)
  refine T_istore (lv2 := [(4, vi r9), (3, vi r5), (2, vi r2), (0, vr 100), (1, vi l1)]) (dk dtk_X7_rowStatement 27 rfl) (by decide) rfl ?_
  refine T_aload_n 3 (dk dtk_X7_rowStatement 28 rfl) rfl rfl ?_
  refine T_getR 100 3 80 (dk dtk_X7_rowStatement 29 rfl) kfl_X7_29 kk_100 (kl_100 hq) (by decide) rfl kr_100_3 ?_
  refine T_iconst (v := 1) (dk dtk_X7_rowStatement 30 rfl) (by decide +kernel) ?_
  refine T_iload_n 4 (dk dtk_X7_rowStatement 31 rfl) rfl rfl ?_
  refine T_aload_n 3 (dk dtk_X7_rowStatement 32 rfl) rfl rfl ?_
  refine T_getI 100 9 (dk dtk_X7_rowStatement 33 rfl) kfl_X7_181 kk_100 (kl_100 hq) (by decide) rfl ?_
  refine T_sub (lv2 := [(4, vi r9), (3, vi r5), (2, vi r2), (0, vr 100)]) [0, 1, 2, 3] rfl ?_
  refine KC_Vi [vi 1, vi l1, vi (x8.1 100 9)] [] rfl (dk dtk_X7_rowStatement 34 rfl) kcv_X7_191 rfl kk_80 rfl (kl_80 hq) (Nat.le_of_ble_eq_true rfl) (Nat.le_of_ble_eq_true rfl) (gok_i (av_c rfl (av_c rfl (av_c rfl (av_c (gkr (kl_100 hq)) av_n)))) as_n) rfl h (fun r11 x10 h => ?_)
  refine T_istore (lv2 := [(5, vi r11), (4, vi r9), (3, vi r5), (2, vi r2), (0, vr 100)]) (dk dtk_X7_rowStatement 35 rfl) (by decide) rfl ?_
  refine T_aload_n 4 (dk dtk_X7_rowStatement 36 rfl) rfl rfl ?_
  refine T_getR 100 3 80 (dk dtk_X7_rowStatement 37 rfl) kfl_X7_29 kk_100 (kl_100 hq) (by decide) rfl kr_100_3 ?_
  refine T_getR 80 4 85 (dk dtk_X7_rowStatement 38 rfl) kfl_X7_220 kk_80 (kl_80 hq) (by decide) rfl kr_80_4 ?_
  refine T_iload 0 (dk dtk_X7_rowStatement 39 rfl) rfl ?_
  refine T_iload_n 3 (dk dtk_X7_rowStatement 40 rfl) rfl rfl ?_
  obtain ⟨h12, h⟩ := h
  obtain ⟨x13, ex13⟩ : ∃ z, z = si x10 85 (r11 : Int32).toNatClampNeg r2 := ⟨_, rfl⟩
  have h := h x13 ex13
  refine T_iast 85 400 (dk dtk_X7_rowStatement 41 rfl) kk_85 (kl_85 hq) h12 ?_
  rw [← ex13]
  refine T_aload_n 4 (dk dtk_X7_rowStatement 42 rfl) rfl rfl ?_
  refine T_getR 100 3 80 (dk dtk_X7_rowStatement 43 rfl) kfl_X7_29 kk_100 (kl_100 hq) (by decide) rfl kr_100_3 ?_
  refine T_getR 80 6 87 (dk dtk_X7_rowStatement 44 rfl) kfl_X7_276 kk_80 (kl_80 hq) (by decide) rfl kr_80_6 ?_
  refine T_iload 0 (dk dtk_X7_rowStatement 45 rfl) rfl ?_
  refine T_iload_n 2 (dk dtk_X7_rowStatement 46 rfl) rfl rfl ?_
  obtain ⟨h14, h⟩ := h
  obtain ⟨x15, ex15⟩ : ∃ z, z = si x13 87 (r11 : Int32).toNatClampNeg r5 := ⟨_, rfl⟩
  have h := h x15 ex15
  refine T_iast 87 400 (dk dtk_X7_rowStatement 47 rfl) kk_87 (kl_87 hq) h14 ?_
  rw [← ex15]
  refine T_aload_n 4 (dk dtk_X7_rowStatement 48 rfl) rfl rfl ?_
  refine T_getR 100 3 80 (dk dtk_X7_rowStatement 49 rfl) kfl_X7_29 kk_100 (kl_100 hq) (by decide) rfl kr_100_3 ?_
  refine T_getR 80 7 88 (dk dtk_X7_rowStatement 50 rfl) kfl_X7_233 kk_80 (kl_80 hq) (by decide) rfl kr_80_7 ?_
  refine T_iload 0 (dk dtk_X7_rowStatement 51 rfl) rfl ?_
  refine T_iload 1 (dk dtk_X7_rowStatement 52 rfl) rfl ?_
  obtain ⟨h16, h⟩ := h
  obtain ⟨x17, ex17⟩ : ∃ z, z = si x15 88 (r11 : Int32).toNatClampNeg r9 := ⟨_, rfl⟩
  have h := h x17 ex17
  refine T_iast 88 400 (dk dtk_X7_rowStatement 53 rfl) kk_88 (kl_88 hq) h16 ?_
  rw [← ex17]
  exact KE_vret (dk dtk_X7_rowStatement 54 rfl) rfl h
end
