set_option maxRecDepth 100000 in
theorem dtk_X11_thread : dck cX11_thread [(0, .aload_n 0, 1), (1, .invokevirtual 160, 3), (4, .iload_n 1, 1), (5, .aload_n 0, 1), (6, .getfield 28, 3), (9, .getfield 124, 3), (12, .invokestatic 163, 3), (15, .iload_n 2, 1), (16, .iconst 5, 1), (17, .invokestatic 132, 3), (20, .iload_n 2, 1), (21, .tableswitch 71 0 3 #[31, 41, 51, 62], 31), (52, .aload_n 0, 1), (53, .getfield 46, 3), (56, .iload_n 1, 1), (57, .iconst 0, 1), (58, .invokevirtual 242, 3), (61, .ireturn, 1), (62, .aload_n 0, 1), (63, .getfield 46, 3), (66, .iload_n 1, 1), (67, .iconst 1, 1), (68, .invokevirtual 242, 3), (71, .ireturn, 1), (72, .aload_n 0, 1), (73, .getfield 46, 3), (76, .iload_n 1, 1), (77, .bipush 7, 2), (79, .invokevirtual 242, 3), (82, .ireturn, 1), (83, .aload_n 0, 1), (84, .getfield 46, 3), (87, .iload_n 1, 1), (88, .invokevirtual 245, 3), (91, .ireturn, 1), (92, .aload_n 0, 1), (93, .getfield 46, 3), (96, .iload_n 1, 1), (97, .invokevirtual 248, 3), (100, .ireturn, 1)] = true := by decide +kernel
set_option maxRecDepth 100000 in
set_option maxHeartbeats 4000000 in
theorem kg_X11_thread_0 {G : kG} {q : kP} {d : Nat} {x : gd} {P : Option gv → gd → Prop} {X : String → gd → Prop} (hq : kV q) (l1 : Int32) (l2 : Int32)
    (h : KE G q (d + 6) zk_X11_needRun 0 [(0, vr 0)] [] x (rv (fun x1 => KE G q (d + 6) zk_X11_needIndex 0 [(0, vi l1), (1, vi (x1.1 60 10))] [] x1 (rv (fun x2 => KE G q (d + 6) zk_X11_needWhat 0 [(0, vi l2), (1, vi 5)] [] x2 (rv (fun x3 => (((l2 = 0) → KT G q (d + 6) zk_X5_get 0 [(0, vr 120), (1, vi l1), (2, vi 0)] [] x3 (ri (fun r6 x5 => P (some (vi r6)) x5))) ∧ ((l2 = 1) → KT G q (d + 6) zk_X5_get 0 [(0, vr 120), (1, vi l1), (2, vi 1)] [] x3 (ri (fun r9 x8 => P (some (vi r9)) x8))) ∧ ((l2 = 2) → KT G q (d + 6) zk_X5_get 0 [(0, vr 120), (1, vi l1), (2, vi 7)] [] x3 (ri (fun r12 x11 => P (some (vi r12)) x11))) ∧ ((l2 = 3) → KT G q (d + 6) zk_X5_known 0 [(0, vr 120), (1, vi l1)] [] x3 (ri (fun r15 x14 => P (some (vi r15)) x14))) ∧ ((∀ k ∈ [(0 : Int32), (1 : Int32), (2 : Int32), (3 : Int32)], ¬ l2 = k) → KT G q (d + 6) zk_X5_lineOf 0 [(0, vr 120), (1, vi l1)] [] x3 (ri (fun r18 x17 => P (some (vi r18)) x17)))))) X)) X)) X) :
    KE G q (d + 7) zk_X11_thread 0 [(0, vr 0), (1, vi l1), (2, vi l2)] [] x P X := by
  refine T_aload_n 0 (dk dtk_X11_thread 0 rfl) rfl rfl ?_
  refine KD_Vv [] [] rfl (dk dtk_X11_thread 1 rfl) kcv_X11_160 rfl kk_0 rfl (kl_0 hq) (Nat.le_of_ble_eq_true rfl) (Nat.le_of_ble_eq_true rfl) (gok_i (av_c (gkr (kl_0 hq)) (av_c rfl (av_c rfl av_n))) as_n) rfl h (fun x1 h => ?_)
  refine T_iload_n 1 (dk dtk_X11_thread 2 rfl) rfl rfl ?_
  refine T_aload_n 0 (dk dtk_X11_thread 3 rfl) rfl rfl ?_
  refine T_getR 0 2 60 (dk dtk_X11_thread 4 rfl) kfl_X11_28 kk_0 (kl_0 hq) (by decide) rfl kr_0_2 ?_
  refine T_getI 60 10 (dk dtk_X11_thread 5 rfl) kfl_X11_124 kk_60 (kl_60 hq) (by decide) rfl ?_
  refine KD_Sv [vi l1, vi (x1.1 60 10)] [] rfl (dk dtk_X11_thread 6 rfl) kcs_X11_163 rfl (Nat.le_of_ble_eq_true rfl) (Nat.le_of_ble_eq_true rfl) (gok_i (av_c (gkr (kl_0 hq)) (av_c rfl (av_c rfl av_n))) as_n) rfl h (fun x2 h => ?_)
  refine T_iload_n 2 (dk dtk_X11_thread 7 rfl) rfl rfl ?_
  refine T_iconst (v := 5) (dk dtk_X11_thread 8 rfl) (by decide +kernel) ?_
  refine KD_Sv [vi l2, vi 5] [] rfl (dk dtk_X11_thread 9 rfl) kcs_X11_132 rfl (Nat.le_of_ble_eq_true rfl) (Nat.le_of_ble_eq_true rfl) (gok_i (av_c (gkr (kl_0 hq)) (av_c rfl (av_c rfl av_n))) as_n) rfl h (fun x3 h => ?_)
  refine T_iload_n 2 (dk dtk_X11_thread 10 rfl) rfl rfl ?_
  by_cases c4 : l2 = 0
  · have h := h.1 c4
    refine T_table 31 52 (dk dtk_X11_thread 11 rfl) (by decide) (by rw [c4]; decide +kernel) (by decide) ?_
    refine T_aload_n 0 (dk dtk_X11_thread 12 rfl) rfl rfl ?_
    refine T_getR 0 4 120 (dk dtk_X11_thread 13 rfl) kfl_X11_46 kk_0 (kl_0 hq) (by decide) rfl kr_0_4 ?_
    refine T_iload_n 1 (dk dtk_X11_thread 14 rfl) rfl rfl ?_
    refine T_iconst (v := 0) (dk dtk_X11_thread 15 rfl) (by decide +kernel) ?_
    refine T_sub (lv2 := []) [] rfl ?_
    refine KC_Vi [vi l1, vi 0] [] rfl (dk dtk_X11_thread 16 rfl) kcv_X11_242 rfl kk_120 rfl (kl_120 hq) (Nat.le_of_ble_eq_true rfl) (Nat.le_of_ble_eq_true rfl) (gok_i av_n as_n) rfl h (fun r6 x5 h => ?_)
    exact KE_iret (dk dtk_X11_thread 17 rfl) rfl rfl h
  · have h := h.2
    by_cases c7 : l2 = 1
    · have h := h.1 c7
      refine T_table 41 62 (dk dtk_X11_thread 11 rfl) (by decide) (by rw [c7]; decide +kernel) (by decide) ?_
      refine T_aload_n 0 (dk dtk_X11_thread 18 rfl) rfl rfl ?_
      refine T_getR 0 4 120 (dk dtk_X11_thread 19 rfl) kfl_X11_46 kk_0 (kl_0 hq) (by decide) rfl kr_0_4 ?_
      refine T_iload_n 1 (dk dtk_X11_thread 20 rfl) rfl rfl ?_
      refine T_iconst (v := 1) (dk dtk_X11_thread 21 rfl) (by decide +kernel) ?_
      refine T_sub (lv2 := []) [] rfl ?_
      refine KC_Vi [vi l1, vi 1] [] rfl (dk dtk_X11_thread 22 rfl) kcv_X11_242 rfl kk_120 rfl (kl_120 hq) (Nat.le_of_ble_eq_true rfl) (Nat.le_of_ble_eq_true rfl) (gok_i av_n as_n) rfl h (fun r9 x8 h => ?_)
      exact KE_iret (dk dtk_X11_thread 23 rfl) rfl rfl h
    · have h := h.2
      by_cases c10 : l2 = 2
      · have h := h.1 c10
        refine T_table 51 72 (dk dtk_X11_thread 11 rfl) (by decide) (by rw [c10]; decide +kernel) (by decide) ?_
        refine T_aload_n 0 (dk dtk_X11_thread 24 rfl) rfl rfl ?_
        refine T_getR 0 4 120 (dk dtk_X11_thread 25 rfl) kfl_X11_46 kk_0 (kl_0 hq) (by decide) rfl kr_0_4 ?_
        refine T_iload_n 1 (dk dtk_X11_thread 26 rfl) rfl rfl ?_
        refine T_bipush (v := 7) (dk dtk_X11_thread 27 rfl) (by decide +kernel) ?_
        refine T_sub (lv2 := []) [] rfl ?_
        refine KC_Vi [vi l1, vi 7] [] rfl (dk dtk_X11_thread 28 rfl) kcv_X11_242 rfl kk_120 rfl (kl_120 hq) (Nat.le_of_ble_eq_true rfl) (Nat.le_of_ble_eq_true rfl) (gok_i av_n as_n) rfl h (fun r12 x11 h => ?_)
        exact KE_iret (dk dtk_X11_thread 29 rfl) rfl rfl h
      · have h := h.2
        by_cases c13 : l2 = 3
        · have h := h.1 c13
          refine T_table 62 83 (dk dtk_X11_thread 11 rfl) (by decide) (by rw [c13]; decide +kernel) (by decide) ?_
          refine T_aload_n 0 (dk dtk_X11_thread 30 rfl) rfl rfl ?_
          refine T_getR 0 4 120 (dk dtk_X11_thread 31 rfl) kfl_X11_46 kk_0 (kl_0 hq) (by decide) rfl kr_0_4 ?_
          refine T_iload_n 1 (dk dtk_X11_thread 32 rfl) rfl rfl ?_
          refine T_sub (lv2 := []) [] rfl ?_
          refine KC_Vi [vi l1] [] rfl (dk dtk_X11_thread 33 rfl) kcv_X11_245 rfl kk_120 rfl (kl_120 hq) (Nat.le_of_ble_eq_true rfl) (Nat.le_of_ble_eq_true rfl) (gok_i av_n as_n) rfl h (fun r15 x14 h => ?_)
          exact KE_iret (dk dtk_X11_thread 34 rfl) rfl rfl h
        · have h := h.2
          have n16 : ∀ k ∈ [(0 : Int32), (1 : Int32), (2 : Int32), (3 : Int32)], ¬ l2 = k := (gno c4 (gno c7 (gno c10 (gno c13 gno0))))
          have h := h n16
          refine T_table 71 92 (dk dtk_X11_thread 11 rfl) (by decide) (gtab_d [(0 : Int32), (1 : Int32), (2 : Int32), (3 : Int32)] (by decide +kernel) n16) (by decide) ?_
          refine T_aload_n 0 (dk dtk_X11_thread 35 rfl) rfl rfl ?_
          refine T_getR 0 4 120 (dk dtk_X11_thread 36 rfl) kfl_X11_46 kk_0 (kl_0 hq) (by decide) rfl kr_0_4 ?_
          refine T_iload_n 1 (dk dtk_X11_thread 37 rfl) rfl rfl ?_
          refine T_sub (lv2 := []) [] rfl ?_
          refine KC_Vi [vi l1] [] rfl (dk dtk_X11_thread 38 rfl) kcv_X11_248 rfl kk_120 rfl (kl_120 hq) (Nat.le_of_ble_eq_true rfl) (Nat.le_of_ble_eq_true rfl) (gok_i av_n as_n) rfl h (fun r18 x17 h => ?_)
          exact KE_iret (dk dtk_X11_thread 39 rfl) rfl rfl h
set_option maxRecDepth 100000 in
theorem dtk_X11_local : dck cX11_local [(0, .aload_n 0, 1), (1, .invokevirtual 160, 3), (4, .iload_n 1, 1), (5, .aload_n 0, 1), (6, .getfield 28, 3), (9, .getfield 124, 3), (12, .invokestatic 163, 3), (15, .iload_n 2, 1), (16, .aload_n 0, 1), (17, .getfield 46, 3), (20, .iload_n 1, 1), (21, .invokevirtual 245, 3), (24, .invokestatic 163, 3), (27, .aload_n 0, 1), (28, .getfield 46, 3), (31, .iload_n 1, 1), (32, .bipush 8, 2), (34, .iload_n 2, 1), (35, .iadd, 1), (36, .invokevirtual 242, 3), (39, .ireturn, 1)] = true := by decide +kernel
set_option maxRecDepth 100000 in
set_option maxHeartbeats 4000000 in
theorem kg_X11_local_0 {G : kG} {q : kP} {d : Nat} {x : gd} {P : Option gv → gd → Prop} {X : String → gd → Prop} (hq : kV q) (l1 : Int32) (l2 : Int32)
    (h : KE G q (d + 6) zk_X11_needRun 0 [(0, vr 0)] [] x (rv (fun x1 => KE G q (d + 6) zk_X11_needIndex 0 [(0, vi l1), (1, vi (x1.1 60 10))] [] x1 (rv (fun x2 => KT G q (d + 6) zk_X5_known 0 [(0, vr 120), (1, vi l1)] [] x2 (ri (fun r4 x3 => KE G q (d + 6) zk_X11_needIndex 0 [(0, vi l2), (1, vi r4)] [] x3 (rv (fun x5 => KT G q (d + 6) zk_X5_get 0 [(0, vr 120), (1, vi l1), (2, vi (8 + l2))] [] x5 (ri (fun r7 x6 => P (some (vi r7)) x6)))) X)))) X)) X) :
    KE G q (d + 7) zk_X11_local 0 [(0, vr 0), (1, vi l1), (2, vi l2)] [] x P X := by
  refine T_aload_n 0 (dk dtk_X11_local 0 rfl) rfl rfl ?_
  refine KD_Vv [] [] rfl (dk dtk_X11_local 1 rfl) kcv_X11_160 rfl kk_0 rfl (kl_0 hq) (Nat.le_of_ble_eq_true rfl) (Nat.le_of_ble_eq_true rfl) (gok_i (av_c (gkr (kl_0 hq)) (av_c rfl (av_c rfl av_n))) as_n) rfl h (fun x1 h => ?_)
  refine T_iload_n 1 (dk dtk_X11_local 2 rfl) rfl rfl ?_
  refine T_aload_n 0 (dk dtk_X11_local 3 rfl) rfl rfl ?_
  refine T_getR 0 2 60 (dk dtk_X11_local 4 rfl) kfl_X11_28 kk_0 (kl_0 hq) (by decide) rfl kr_0_2 ?_
  refine T_getI 60 10 (dk dtk_X11_local 5 rfl) kfl_X11_124 kk_60 (kl_60 hq) (by decide) rfl ?_
  refine KD_Sv [vi l1, vi (x1.1 60 10)] [] rfl (dk dtk_X11_local 6 rfl) kcs_X11_163 rfl (Nat.le_of_ble_eq_true rfl) (Nat.le_of_ble_eq_true rfl) (gok_i (av_c (gkr (kl_0 hq)) (av_c rfl (av_c rfl av_n))) as_n) rfl h (fun x2 h => ?_)
  refine T_iload_n 2 (dk dtk_X11_local 7 rfl) rfl rfl ?_
  refine T_aload_n 0 (dk dtk_X11_local 8 rfl) rfl rfl ?_
  refine T_getR 0 4 120 (dk dtk_X11_local 9 rfl) kfl_X11_46 kk_0 (kl_0 hq) (by decide) rfl kr_0_4 ?_
  refine T_iload_n 1 (dk dtk_X11_local 10 rfl) rfl rfl ?_
  refine KC_Vi [vi l1] [vi l2] rfl (dk dtk_X11_local 11 rfl) kcv_X11_245 rfl kk_120 rfl (kl_120 hq) (Nat.le_of_ble_eq_true rfl) (Nat.le_of_ble_eq_true rfl) (gok_i (av_c (gkr (kl_0 hq)) (av_c rfl (av_c rfl av_n))) (as_c rfl as_n)) rfl h (fun r4 x3 h => ?_)
  refine KD_Sv [vi l2, vi r4] [] rfl (dk dtk_X11_local 12 rfl) kcs_X11_163 rfl (Nat.le_of_ble_eq_true rfl) (Nat.le_of_ble_eq_true rfl) (gok_i (av_c (gkr (kl_0 hq)) (av_c rfl (av_c rfl av_n))) as_n) rfl h (fun x5 h => ?_)
  refine T_aload_n 0 (dk dtk_X11_local 13 rfl) rfl rfl ?_
  refine T_getR 0 4 120 (dk dtk_X11_local 14 rfl) kfl_X11_46 kk_0 (kl_0 hq) (by decide) rfl kr_0_4 ?_
  refine T_iload_n 1 (dk dtk_X11_local 15 rfl) rfl rfl ?_
  refine T_bipush (v := 8) (dk dtk_X11_local 16 rfl) (by decide +kernel) ?_
  refine T_iload_n 2 (dk dtk_X11_local 17 rfl) rfl rfl ?_
  refine T_iadd (dk dtk_X11_local 18 rfl) ?_
  refine T_sub (lv2 := []) [] rfl ?_
  refine KC_Vi [vi l1, vi (8 + l2)] [] rfl (dk dtk_X11_local 19 rfl) kcv_X11_242 rfl kk_120 rfl (kl_120 hq) (Nat.le_of_ble_eq_true rfl) (Nat.le_of_ble_eq_true rfl) (gok_i av_n as_n) rfl h (fun r7 x6 h => ?_)
  exact KE_iret (dk dtk_X11_local 20 rfl) rfl rfl h
set_option maxRecDepth 100000 in
theorem dtk_X11_act : dck cX11_act [(0, .aload_n 0, 1), (1, .invokevirtual 160, 3), (4, .iload_n 1, 1), (5, .aload_n 0, 1), (6, .getfield 53, 3), (9, .getfield 206, 3), (12, .invokestatic 163, 3), (15, .iload_n 2, 1), (16, .iconst 5, 1), (17, .invokestatic 132, 3), (20, .iload_n 2, 1), (21, .tableswitch 71 0 3 #[31, 41, 51, 61], 31), (52, .aload_n 0, 1), (53, .getfield 53, 3), (56, .getfield 251, 3), (59, .iload_n 1, 1), (60, .iaload, 1), (61, .ireturn, 1), (62, .aload_n 0, 1), (63, .getfield 53, 3), (66, .getfield 254, 3), (69, .iload_n 1, 1), (70, .iaload, 1), (71, .ireturn, 1), (72, .aload_n 0, 1), (73, .getfield 53, 3), (76, .getfield 257, 3), (79, .iload_n 1, 1), (80, .iaload, 1), (81, .ireturn, 1), (82, .aload_n 0, 1), (83, .getfield 53, 3), (86, .getfield 260, 3), (89, .iload_n 1, 1), (90, .iaload, 1), (91, .ireturn, 1), (92, .aload_n 0, 1), (93, .getfield 53, 3), (96, .getfield 263, 3), (99, .iload_n 1, 1), (100, .iaload, 1), (101, .ireturn, 1)] = true := by decide +kernel
set_option maxRecDepth 100000 in
set_option maxHeartbeats 4000000 in
theorem kg_X11_act_0 {G : kG} {q : kP} {d : Nat} {x : gd} {P : Option gv → gd → Prop} {X : String → gd → Prop} (hq : kV q) (l1 : Int32) (l2 : Int32)
    (h : KE G q (d + 6) zk_X11_needRun 0 [(0, vr 0)] [] x (rv (fun x1 => KE G q (d + 6) zk_X11_needIndex 0 [(0, vi l1), (1, vi (x1.1 160 3))] [] x1 (rv (fun x2 => KE G q (d + 6) zk_X11_needWhat 0 [(0, vi l2), (1, vi 5)] [] x2 (rv (fun x3 => (((l2 = 0) → vp_in l1 400 ∧ P (some (vi (x3.1 166 (l1 : Int32).toNatClampNeg))) x3) ∧ ((l2 = 1) → vp_in l1 400 ∧ P (some (vi (x3.1 167 (l1 : Int32).toNatClampNeg))) x3) ∧ ((l2 = 2) → vp_in l1 400 ∧ P (some (vi (x3.1 168 (l1 : Int32).toNatClampNeg))) x3) ∧ ((l2 = 3) → vp_in l1 400 ∧ P (some (vi (x3.1 169 (l1 : Int32).toNatClampNeg))) x3) ∧ ((∀ k ∈ [(0 : Int32), (1 : Int32), (2 : Int32), (3 : Int32)], ¬ l2 = k) → vp_in l1 400 ∧ P (some (vi (x3.1 170 (l1 : Int32).toNatClampNeg))) x3)))) X)) X)) X) :
    KE G q (d + 7) zk_X11_act 0 [(0, vr 0), (1, vi l1), (2, vi l2)] [] x P X := by
  refine T_aload_n 0 (dk dtk_X11_act 0 rfl) rfl rfl ?_
  refine KD_Vv [] [] rfl (dk dtk_X11_act 1 rfl) kcv_X11_160 rfl kk_0 rfl (kl_0 hq) (Nat.le_of_ble_eq_true rfl) (Nat.le_of_ble_eq_true rfl) (gok_i (av_c (gkr (kl_0 hq)) (av_c rfl (av_c rfl av_n))) as_n) rfl h (fun x1 h => ?_)
  refine T_iload_n 1 (dk dtk_X11_act 2 rfl) rfl rfl ?_
  refine T_aload_n 0 (dk dtk_X11_act 3 rfl) rfl rfl ?_
  refine T_getR 0 5 160 (dk dtk_X11_act 4 rfl) kfl_X11_53 kk_0 (kl_0 hq) (by decide) rfl kr_0_5 ?_
  refine T_getI 160 3 (dk dtk_X11_act 5 rfl) kfl_X11_206 kk_160 (kl_160 hq) (by decide) rfl ?_
  refine KD_Sv [vi l1, vi (x1.1 160 3)] [] rfl (dk dtk_X11_act 6 rfl) kcs_X11_163 rfl (Nat.le_of_ble_eq_true rfl) (Nat.le_of_ble_eq_true rfl) (gok_i (av_c (gkr (kl_0 hq)) (av_c rfl (av_c rfl av_n))) as_n) rfl h (fun x2 h => ?_)
  refine T_iload_n 2 (dk dtk_X11_act 7 rfl) rfl rfl ?_
  refine T_iconst (v := 5) (dk dtk_X11_act 8 rfl) (by decide +kernel) ?_
  refine KD_Sv [vi l2, vi 5] [] rfl (dk dtk_X11_act 9 rfl) kcs_X11_132 rfl (Nat.le_of_ble_eq_true rfl) (Nat.le_of_ble_eq_true rfl) (gok_i (av_c (gkr (kl_0 hq)) (av_c rfl (av_c rfl av_n))) as_n) rfl h (fun x3 h => ?_)
  refine T_iload_n 2 (dk dtk_X11_act 10 rfl) rfl rfl ?_
  by_cases c4 : l2 = 0
  · have h := h.1 c4
    refine T_table 31 52 (dk dtk_X11_act 11 rfl) (by decide) (by rw [c4]; decide +kernel) (by decide) ?_
    refine T_aload_n 0 (dk dtk_X11_act 12 rfl) rfl rfl ?_
    refine T_getR 0 5 160 (dk dtk_X11_act 13 rfl) kfl_X11_53 kk_0 (kl_0 hq) (by decide) rfl kr_0_5 ?_
    refine T_getR 160 5 166 (dk dtk_X11_act 14 rfl) kfl_X11_251 kk_160 (kl_160 hq) (by decide) rfl kr_160_5 ?_
    refine T_iload_n 1 (dk dtk_X11_act 15 rfl) rfl rfl ?_
    obtain ⟨h5, h⟩ := h
    refine T_iald 166 400 (dk dtk_X11_act 16 rfl) kk_166 (kl_166 hq) h5 ?_
    exact KE_iret (dk dtk_X11_act 17 rfl) rfl rfl h
  · have h := h.2
    by_cases c6 : l2 = 1
    · have h := h.1 c6
      refine T_table 41 62 (dk dtk_X11_act 11 rfl) (by decide) (by rw [c6]; decide +kernel) (by decide) ?_
      refine T_aload_n 0 (dk dtk_X11_act 18 rfl) rfl rfl ?_
      refine T_getR 0 5 160 (dk dtk_X11_act 19 rfl) kfl_X11_53 kk_0 (kl_0 hq) (by decide) rfl kr_0_5 ?_
      refine T_getR 160 6 167 (dk dtk_X11_act 20 rfl) kfl_X11_254 kk_160 (kl_160 hq) (by decide) rfl kr_160_6 ?_
      refine T_iload_n 1 (dk dtk_X11_act 21 rfl) rfl rfl ?_
      obtain ⟨h7, h⟩ := h
      refine T_iald 167 400 (dk dtk_X11_act 22 rfl) kk_167 (kl_167 hq) h7 ?_
      exact KE_iret (dk dtk_X11_act 23 rfl) rfl rfl h
    · have h := h.2
      by_cases c8 : l2 = 2
      · have h := h.1 c8
        refine T_table 51 72 (dk dtk_X11_act 11 rfl) (by decide) (by rw [c8]; decide +kernel) (by decide) ?_
        refine T_aload_n 0 (dk dtk_X11_act 24 rfl) rfl rfl ?_
        refine T_getR 0 5 160 (dk dtk_X11_act 25 rfl) kfl_X11_53 kk_0 (kl_0 hq) (by decide) rfl kr_0_5 ?_
        refine T_getR 160 7 168 (dk dtk_X11_act 26 rfl) kfl_X11_257 kk_160 (kl_160 hq) (by decide) rfl kr_160_7 ?_
        refine T_iload_n 1 (dk dtk_X11_act 27 rfl) rfl rfl ?_
        obtain ⟨h9, h⟩ := h
        refine T_iald 168 400 (dk dtk_X11_act 28 rfl) kk_168 (kl_168 hq) h9 ?_
        exact KE_iret (dk dtk_X11_act 29 rfl) rfl rfl h
      · have h := h.2
        by_cases c10 : l2 = 3
        · have h := h.1 c10
          refine T_table 61 82 (dk dtk_X11_act 11 rfl) (by decide) (by rw [c10]; decide +kernel) (by decide) ?_
          refine T_aload_n 0 (dk dtk_X11_act 30 rfl) rfl rfl ?_
          refine T_getR 0 5 160 (dk dtk_X11_act 31 rfl) kfl_X11_53 kk_0 (kl_0 hq) (by decide) rfl kr_0_5 ?_
          refine T_getR 160 8 169 (dk dtk_X11_act 32 rfl) kfl_X11_260 kk_160 (kl_160 hq) (by decide) rfl kr_160_8 ?_
          refine T_iload_n 1 (dk dtk_X11_act 33 rfl) rfl rfl ?_
          obtain ⟨h11, h⟩ := h
          refine T_iald 169 400 (dk dtk_X11_act 34 rfl) kk_169 (kl_169 hq) h11 ?_
          exact KE_iret (dk dtk_X11_act 35 rfl) rfl rfl h
        · have h := h.2
          have n12 : ∀ k ∈ [(0 : Int32), (1 : Int32), (2 : Int32), (3 : Int32)], ¬ l2 = k := (gno c4 (gno c6 (gno c8 (gno c10 gno0))))
          have h := h n12
          refine T_table 71 92 (dk dtk_X11_act 11 rfl) (by decide) (gtab_d [(0 : Int32), (1 : Int32), (2 : Int32), (3 : Int32)] (by decide +kernel) n12) (by decide) ?_
          refine T_aload_n 0 (dk dtk_X11_act 36 rfl) rfl rfl ?_
          refine T_getR 0 5 160 (dk dtk_X11_act 37 rfl) kfl_X11_53 kk_0 (kl_0 hq) (by decide) rfl kr_0_5 ?_
          refine T_getR 160 9 170 (dk dtk_X11_act 38 rfl) kfl_X11_263 kk_160 (kl_160 hq) (by decide) rfl kr_160_9 ?_
          refine T_iload_n 1 (dk dtk_X11_act 39 rfl) rfl rfl ?_
          obtain ⟨h13, h⟩ := h
          refine T_iald 170 400 (dk dtk_X11_act 40 rfl) kk_170 (kl_170 hq) h13 ?_
          exact KE_iret (dk dtk_X11_act 41 rfl) rfl rfl h
set_option maxRecDepth 100000 in
theorem dtk_X11_before : dck cX11_before [(0, .aload_n 0, 1), (1, .invokevirtual 160, 3), (4, .iload_n 1, 1), (5, .aload_n 0, 1), (6, .getfield 53, 3), (9, .getfield 206, 3), (12, .invokestatic 163, 3), (15, .iload_n 2, 1), (16, .aload_n 0, 1), (17, .getfield 53, 3), (20, .getfield 206, 3), (23, .invokestatic 163, 3), (26, .aload_n 0, 1), (27, .getfield 53, 3), (30, .iload_n 1, 1), (31, .iload_n 2, 1), (32, .invokevirtual 266, 3), (35, .ireturn, 1)] = true := by decide +kernel
set_option maxRecDepth 100000 in
set_option maxHeartbeats 4000000 in
theorem kg_X11_before_0 {G : kG} {q : kP} {d : Nat} {x : gd} {P : Option gv → gd → Prop} {X : String → gd → Prop} (hq : kV q) (l1 : Int32) (l2 : Int32)
    (h : KE G q (d + 6) zk_X11_needRun 0 [(0, vr 0)] [] x (rv (fun x1 => KE G q (d + 6) zk_X11_needIndex 0 [(0, vi l1), (1, vi (x1.1 160 3))] [] x1 (rv (fun x2 => KE G q (d + 6) zk_X11_needIndex 0 [(0, vi l2), (1, vi (x2.1 160 3))] [] x2 (rv (fun x3 => KT G q (d + 6) zk_X4_isBefore 0 [(0, vr 160), (1, vi l1), (2, vi l2)] [] x3 (ri (fun r5 x4 => gbool r5 ∧ P (some (vi r5)) x4)))) X)) X)) X) :
    KE G q (d + 7) zk_X11_before 0 [(0, vr 0), (1, vi l1), (2, vi l2)] [] x P X := by
  refine T_aload_n 0 (dk dtk_X11_before 0 rfl) rfl rfl ?_
  refine KD_Vv [] [] rfl (dk dtk_X11_before 1 rfl) kcv_X11_160 rfl kk_0 rfl (kl_0 hq) (Nat.le_of_ble_eq_true rfl) (Nat.le_of_ble_eq_true rfl) (gok_i (av_c (gkr (kl_0 hq)) (av_c rfl (av_c rfl av_n))) as_n) rfl h (fun x1 h => ?_)
  refine T_iload_n 1 (dk dtk_X11_before 2 rfl) rfl rfl ?_
  refine T_aload_n 0 (dk dtk_X11_before 3 rfl) rfl rfl ?_
  refine T_getR 0 5 160 (dk dtk_X11_before 4 rfl) kfl_X11_53 kk_0 (kl_0 hq) (by decide) rfl kr_0_5 ?_
  refine T_getI 160 3 (dk dtk_X11_before 5 rfl) kfl_X11_206 kk_160 (kl_160 hq) (by decide) rfl ?_
  refine KD_Sv [vi l1, vi (x1.1 160 3)] [] rfl (dk dtk_X11_before 6 rfl) kcs_X11_163 rfl (Nat.le_of_ble_eq_true rfl) (Nat.le_of_ble_eq_true rfl) (gok_i (av_c (gkr (kl_0 hq)) (av_c rfl (av_c rfl av_n))) as_n) rfl h (fun x2 h => ?_)
  refine T_iload_n 2 (dk dtk_X11_before 7 rfl) rfl rfl ?_
  refine T_aload_n 0 (dk dtk_X11_before 8 rfl) rfl rfl ?_
  refine T_getR 0 5 160 (dk dtk_X11_before 9 rfl) kfl_X11_53 kk_0 (kl_0 hq) (by decide) rfl kr_0_5 ?_
  refine T_getI 160 3 (dk dtk_X11_before 10 rfl) kfl_X11_206 kk_160 (kl_160 hq) (by decide) rfl ?_
  refine KD_Sv [vi l2, vi (x2.1 160 3)] [] rfl (dk dtk_X11_before 11 rfl) kcs_X11_163 rfl (Nat.le_of_ble_eq_true rfl) (Nat.le_of_ble_eq_true rfl) (gok_i (av_c (gkr (kl_0 hq)) (av_c rfl (av_c rfl av_n))) as_n) rfl h (fun x3 h => ?_)
  refine T_aload_n 0 (dk dtk_X11_before 12 rfl) rfl rfl ?_
  refine T_getR 0 5 160 (dk dtk_X11_before 13 rfl) kfl_X11_53 kk_0 (kl_0 hq) (by decide) rfl kr_0_5 ?_
  refine T_iload_n 1 (dk dtk_X11_before 14 rfl) rfl rfl ?_
  refine T_iload_n 2 (dk dtk_X11_before 15 rfl) rfl rfl ?_
  refine T_sub (lv2 := []) [] rfl ?_
  refine KC_Vi [vi l1, vi l2] [] rfl (dk dtk_X11_before 16 rfl) kcv_X11_266 rfl kk_160 rfl (kl_160 hq) (Nat.le_of_ble_eq_true rfl) (Nat.le_of_ble_eq_true rfl) (gok_i av_n as_n) rfl h (fun r5 x4 h => ?_)
  exact KE_iret (dk dtk_X11_before 17 rfl) rfl h.1.1 h.2
set_option maxRecDepth 100000 in
theorem dtk_X11_race : dck cX11_race [(0, .aload_n 0, 1), (1, .invokevirtual 160, 3), (4, .iload_n 1, 1), (5, .aload_n 0, 1), (6, .getfield 53, 3), (9, .invokevirtual 213, 3), (12, .invokestatic 163, 3), (15, .iload_n 2, 1), (16, .iconst 2, 1), (17, .invokestatic 132, 3), (20, .aload_n 0, 1), (21, .getfield 53, 3), (24, .iload_n 1, 1), (25, .invokevirtual 270, 3), (28, .istore_n 3, 1), (29, .iload_n 2, 1), (30, .iconst 1, 1), (31, .if_icmp .ne 7, 3), (34, .iload_n 3, 1), (35, .goto 12, 3), (38, .aload_n 0, 1), (39, .getfield 53, 3), (42, .iload_n 1, 1), (43, .iload_n 3, 1), (44, .invokevirtual 273, 3), (47, .ireturn, 1)] = true := by decide +kernel
set_option maxRecDepth 100000 in
set_option maxHeartbeats 4000000 in
theorem kg_X11_race_0 {G : kG} {q : kP} {d : Nat} {x : gd} {P : Option gv → gd → Prop} {X : String → gd → Prop} (hq : kV q) (l1 : Int32) (l2 : Int32)
    (h : KE G q (d + 6) zk_X11_needRun 0 [(0, vr 0)] [] x (rv (fun x1 => KT G q (d + 6) zk_X4_races 0 [(0, vr 160)] [] x1 (ri (fun r3 x2 => KE G q (d + 6) zk_X11_needIndex 0 [(0, vi l1), (1, vi r3)] [] x2 (rv (fun x4 => KE G q (d + 6) zk_X11_needWhat 0 [(0, vi l2), (1, vi 2)] [] x4 (rv (fun x5 => KT G q (d + 6) zk_X4_laterOfRace 0 [(0, vr 160), (1, vi l1)] [] x5 (ri (fun r7 x6 => ((¬ (l2 = (1 : Int32)) → KT G q (d + 6) zk_X4_earlierOfRace 0 [(0, vr 160), (1, vi l1), (2, vi r7)] [] x6 (ri (fun r10 x9 => P (some (vi r10)) x9))) ∧ (l2 = (1 : Int32) → P (some (vi r7)) x6)))))) X)) X)))) X) :
    KE G q (d + 7) zk_X11_race 0 [(0, vr 0), (1, vi l1), (2, vi l2)] [] x P X := by
  refine T_aload_n 0 (dk dtk_X11_race 0 rfl) rfl rfl ?_
  refine KD_Vv [] [] rfl (dk dtk_X11_race 1 rfl) kcv_X11_160 rfl kk_0 rfl (kl_0 hq) (Nat.le_of_ble_eq_true rfl) (Nat.le_of_ble_eq_true rfl) (gok_i (av_c (gkr (kl_0 hq)) (av_c rfl (av_c rfl av_n))) as_n) rfl h (fun x1 h => ?_)
  refine T_iload_n 1 (dk dtk_X11_race 2 rfl) rfl rfl ?_
  refine T_aload_n 0 (dk dtk_X11_race 3 rfl) rfl rfl ?_
  refine T_getR 0 5 160 (dk dtk_X11_race 4 rfl) kfl_X11_53 kk_0 (kl_0 hq) (by decide) rfl kr_0_5 ?_
  refine KC_Vi [] [vi l1] rfl (dk dtk_X11_race 5 rfl) kcv_X11_213 rfl kk_160 rfl (kl_160 hq) (Nat.le_of_ble_eq_true rfl) (Nat.le_of_ble_eq_true rfl) (gok_i (av_c (gkr (kl_0 hq)) (av_c rfl (av_c rfl av_n))) (as_c rfl as_n)) rfl h (fun r3 x2 h => ?_)
  refine KD_Sv [vi l1, vi r3] [] rfl (dk dtk_X11_race 6 rfl) kcs_X11_163 rfl (Nat.le_of_ble_eq_true rfl) (Nat.le_of_ble_eq_true rfl) (gok_i (av_c (gkr (kl_0 hq)) (av_c rfl (av_c rfl av_n))) as_n) rfl h (fun x4 h => ?_)
  refine T_iload_n 2 (dk dtk_X11_race 7 rfl) rfl rfl ?_
  refine T_iconst (v := 2) (dk dtk_X11_race 8 rfl) (by decide +kernel) ?_
  refine KD_Sv [vi l2, vi 2] [] rfl (dk dtk_X11_race 9 rfl) kcs_X11_132 rfl (Nat.le_of_ble_eq_true rfl) (Nat.le_of_ble_eq_true rfl) (gok_i (av_c (gkr (kl_0 hq)) (av_c rfl (av_c rfl av_n))) as_n) rfl h (fun x5 h => ?_)
  refine T_aload_n 0 (dk dtk_X11_race 10 rfl) rfl rfl ?_
  refine T_getR 0 5 160 (dk dtk_X11_race 11 rfl) kfl_X11_53 kk_0 (kl_0 hq) (by decide) rfl kr_0_5 ?_
  refine T_iload_n 1 (dk dtk_X11_race 12 rfl) rfl rfl ?_
  refine KC_Vi [vi l1] [] rfl (dk dtk_X11_race 13 rfl) kcv_X11_270 rfl kk_160 rfl (kl_160 hq) (Nat.le_of_ble_eq_true rfl) (Nat.le_of_ble_eq_true rfl) (gok_i (av_c (gkr (kl_0 hq)) (av_c rfl (av_c rfl av_n))) as_n) rfl h (fun r7 x6 h => ?_)
  refine T_istore_n (lv2 := [(3, vi r7), (0, vr 0), (1, vi l1), (2, vi l2)]) (dk dtk_X11_race 14 rfl) rfl (by decide) rfl ?_
  refine T_iload_n 3 (dk dtk_X11_race 15 rfl) rfl rfl ?_
  refine T_iconst (v := 1) (dk dtk_X11_race 16 rfl) (by decide +kernel) ?_
  refine T_icmp_ne 38 (dk dtk_X11_race 17 rfl) (by decide) (fun c8 => ?_) (fun c8 => ?_)
  · have h := h.1 c8
    refine T_aload_n 1 (dk dtk_X11_race 20 rfl) rfl rfl ?_
    refine T_getR 0 5 160 (dk dtk_X11_race 21 rfl) kfl_X11_53 kk_0 (kl_0 hq) (by decide) rfl kr_0_5 ?_
    refine T_iload_n 2 (dk dtk_X11_race 22 rfl) rfl rfl ?_
    refine T_iload_n 0 (dk dtk_X11_race 23 rfl) rfl rfl ?_
    refine T_sub (lv2 := []) [] rfl ?_
    refine KC_Vi [vi l1, vi r7] [] rfl (dk dtk_X11_race 24 rfl) kcv_X11_273 rfl kk_160 rfl (kl_160 hq) (Nat.le_of_ble_eq_true rfl) (Nat.le_of_ble_eq_true rfl) (gok_i av_n as_n) rfl h (fun r10 x9 h => ?_)
    exact KE_iret (dk dtk_X11_race 25 rfl) rfl rfl h
  · have h := h.2 c8
    refine T_iload_n 0 (dk dtk_X11_race 18 rfl) rfl rfl ?_
    refine T_goto 47 (dk dtk_X11_race 19 rfl) (by decide) ?_
    exact KE_iret (dk dtk_X11_race 25 rfl) rfl rfl h
set_option maxRecDepth 100000 in
theorem dtk_X11_linear : dck cX11_linear [(0, .aload_n 0, 1), (1, .invokevirtual 160, 3), (4, .iload_n 1, 1), (5, .ifCond .lt 8, 3), (8, .iload_n 1, 1), (9, .iconst 3, 1), (10, .if_icmp .le 14, 3), (13, .new 70, 3), (16, .dup, 1), (17, .ldc_w 276, 3), (20, .invokespecial 74, 3), (23, .athrow, 1), (24, .aload_n 0, 1), (25, .getfield 53, 3), (28, .getfield 216, 3), (31, .bipush 12, 2), (33, .if_icmp .le 5, 3), (36, .iconst (-1), 1), (37, .ireturn, 1), (38, .aload_n 0, 1), (39, .getfield 280, 3), (42, .ifnonnull 14, 3), (45, .aload_n 0, 1), (46, .new 278, 3), (49, .dup, 1), (50, .invokespecial 284, 3), (53, .putfield 280, 3), (56, .aload_n 0, 1), (57, .getfield 280, 3), (60, .aload_n 0, 1), (61, .getfield 53, 3), (64, .invokevirtual 285, 3), (67, .aload_n 0, 1), (68, .getfield 280, 3), (71, .iload_n 1, 1), (72, .invokevirtual 289, 3), (75, .istore_n 2, 1), (76, .iload_n 2, 1), (77, .iconst (-1), 1), (78, .if_icmp .ne 7, 3), (81, .iconst 1, 1), (82, .goto 7, 3), (85, .bipush (-2), 2), (87, .iload_n 2, 1), (88, .isub, 1), (89, .ireturn, 1)] = true := by decide +kernel
set_option maxRecDepth 100000 in
theorem dtk_X11_attempt : dck cX11_attempt [(0, .aload_n 0, 1), (1, .invokevirtual 148, 3), (4, .iload_n 1, 1), (5, .invokestatic 151, 3), (8, .iload_n 2, 1), (9, .iconst 1, 1), (10, .if_icmp .lt 10, 3), (13, .iload_n 2, 1), (14, .sipush 3000, 3), (17, .if_icmp .le 14, 3), (20, .new 70, 3), (23, .dup, 1), (24, .ldc_w 292, 3), (27, .invokespecial 74, 3), (30, .athrow, 1), (31, .aload_n 0, 1), (32, .getfield 294, 3), (35, .ifnonnull 18, 3), (38, .aload_n 0, 1), (39, .new 298, 3), (42, .dup, 1), (43, .aload_n 0, 1), (44, .getfield 28, 3), (47, .invokespecial 300, 3), (50, .putfield 294, 3), (53, .aload_n 0, 1), (54, .getfield 59, 3), (57, .iload_n 1, 1), (58, .aaload, 1), (59, .ifnonnull 16, 3), (62, .aload_n 0, 1), (63, .getfield 59, 3), (66, .iload_n 1, 1), (67, .new 57, 3), (70, .dup, 1), (71, .invokespecial 301, 3), (74, .aastore, 1), (75, .aload_n 0, 1), (76, .getfield 294, 3), (79, .iload_n 1, 1), (80, .iload_n 2, 1), (81, .aload_n 0, 1), (82, .getfield 59, 3), (85, .iload_n 1, 1), (86, .aaload, 1), (87, .invokevirtual 302, 3), (90, .aload_n 0, 1), (91, .getfield 59, 3), (94, .iload_n 1, 1), (95, .aaload, 1), (96, .getfield 306, 3), (99, .ireturn, 1)] = true := by decide +kernel
set_option maxRecDepth 100000 in
theorem dtk_X11_tried : dck cX11_tried [(0, .iload_n 1, 1), (1, .invokestatic 151, 3), (4, .iload_n 2, 1), (5, .bipush 6, 2), (7, .invokestatic 132, 3), (10, .aload_n 0, 1), (11, .iload_n 1, 1), (12, .invokevirtual 309, 3), (15, .ifCond .ne 5, 3), (18, .iconst 0, 1), (19, .ireturn, 1), (20, .aload_n 0, 1), (21, .getfield 59, 3), (24, .iload_n 1, 1), (25, .aaload, 1), (26, .astore_n 3, 1), (27, .iload_n 2, 1), (28, .tableswitch 69 0 4 #[36, 41, 54, 59, 64], 36), (64, .aload_n 3, 1), (65, .getfield 306, 3), (68, .ireturn, 1), (69, .aload_n 3, 1), (70, .getfield 313, 3), (73, .ifCond .eq 7, 3), (76, .iconst 1, 1), (77, .goto 4, 3), (80, .iconst 0, 1), (81, .ireturn, 1), (82, .aload_n 3, 1), (83, .getfield 316, 3), (86, .ireturn, 1), (87, .aload_n 3, 1), (88, .getfield 319, 3), (91, .ireturn, 1), (92, .aload_n 3, 1), (93, .getfield 322, 3), (96, .ireturn, 1), (97, .aload_n 3, 1), (98, .getfield 325, 3), (101, .ireturn, 1)] = true := by decide +kernel
set_option maxRecDepth 100000 in
set_option maxHeartbeats 4000000 in
theorem kg_X11_tried_0 {G : kG} {q : kP} {d : Nat} {x : gd} {P : Option gv → gd → Prop} {X : String → gd → Prop} (hq : kV q) (l1 : Int32) (l2 : Int32)
    (h : KE G q (d + 6) zk_X11_needWay 0 [(0, vi l1)] [] x (rv (fun x1 => KE G q (d + 6) zk_X11_needWhat 0 [(0, vi l2), (1, vi 6)] [] x1 (rv (fun x2 => KT G q (d + 6) zk_X11_wasTried 0 [(0, vr 0), (1, vi l1)] [] x2 (ri (fun r4 x3 => ((¬ (r4 = (0 : Int32)) → vp_in l1 2 ∧ (∀ u7, u7 = (kf q).1 7 (l1 : Int32).toNatClampNeg → ∃ c8, u7 = some c8 ∧ kiT q c8 ∧ (((l2 = 0) → P (some (vi (x3.1 c8 0))) x3) ∧ ((l2 = 1) → (((x3.1 c8 1) = (0 : Int32) → P (some (vi 0)) x3) ∧ (¬ ((x3.1 c8 1) = (0 : Int32)) → P (some (vi 1)) x3))) ∧ ((l2 = 2) → P (some (vi (x3.1 c8 2))) x3) ∧ ((l2 = 3) → P (some (vi (x3.1 c8 3))) x3) ∧ ((l2 = 4) → P (some (vi (x3.1 c8 4))) x3) ∧ ((∀ k ∈ [(0 : Int32), (1 : Int32), (2 : Int32), (3 : Int32), (4 : Int32)], ¬ l2 = k) → P (some (vi (x3.1 c8 5))) x3)))) ∧ (r4 = (0 : Int32) → P (some (vi 0)) x3)))))) X)) X) :
    KE G q (d + 7) zk_X11_tried 0 [(0, vr 0), (1, vi l1), (2, vi l2)] [] x P X := by
  refine T_iload_n 1 (dk dtk_X11_tried 0 rfl) rfl rfl ?_
  refine KD_Sv [vi l1] [] rfl (dk dtk_X11_tried 1 rfl) kcs_X11_151 rfl (Nat.le_of_ble_eq_true rfl) (Nat.le_of_ble_eq_true rfl) (gok_i (av_c (gkr (kl_0 hq)) (av_c rfl (av_c rfl av_n))) as_n) rfl h (fun x1 h => ?_)
  refine T_iload_n 2 (dk dtk_X11_tried 2 rfl) rfl rfl ?_
  refine T_bipush (v := 6) (dk dtk_X11_tried 3 rfl) (by decide +kernel) ?_
  refine KD_Sv [vi l2, vi 6] [] rfl (dk dtk_X11_tried 4 rfl) kcs_X11_132 rfl (Nat.le_of_ble_eq_true rfl) (Nat.le_of_ble_eq_true rfl) (gok_i (av_c (gkr (kl_0 hq)) (av_c rfl (av_c rfl av_n))) as_n) rfl h (fun x2 h => ?_)
  refine T_aload_n 0 (dk dtk_X11_tried 5 rfl) rfl rfl ?_
  refine T_iload_n 1 (dk dtk_X11_tried 6 rfl) rfl rfl ?_
  refine KC_Vi [vi l1] [] rfl (dk dtk_X11_tried 7 rfl) kcv_X11_309 rfl kk_0 rfl (kl_0 hq) (Nat.le_of_ble_eq_true rfl) (Nat.le_of_ble_eq_true rfl) (gok_i (av_c (gkr (kl_0 hq)) (av_c rfl (av_c rfl av_n))) as_n) rfl h (fun r4 x3 h => ?_)
  refine T_if_ne 20 (dk dtk_X11_tried 8 rfl) (by decide) (fun c5 => ?_) (fun c5 => ?_)
  · have h := h.1 c5
    refine T_aload_n 0 (dk dtk_X11_tried 11 rfl) rfl rfl ?_
    refine T_getR 0 6 7 (dk dtk_X11_tried 12 rfl) kfl_X11_59 kk_0 (kl_0 hq) (by decide) rfl kr_0_6 ?_
    refine T_iload_n 1 (dk dtk_X11_tried 13 rfl) rfl rfl ?_
    obtain ⟨h6, h⟩ := h
    obtain ⟨u7, eu7⟩ : ∃ z, z = (kf q).1 7 (l1 : Int32).toNatClampNeg := ⟨_, rfl⟩
    have h := h u7 eu7
    refine T_aaldT 7 2 (dk dtk_X11_tried 14 rfl) kk_7 (kl_7 hq) h6 ?_
    rw [← eu7]
    obtain ⟨c8, rfl, g9, h⟩ := h
    refine T_astore_n (lv2 := [(3, vr c8), (0, vr 0), (1, vi l1), (2, vi l2)]) (dk dtk_X11_tried 15 rfl) rfl (by decide) rfl ?_
    refine T_iload_n 3 (dk dtk_X11_tried 16 rfl) rfl rfl ?_
    by_cases c10 : l2 = 0
    · have h := h.1 c10
      refine T_table 36 64 (dk dtk_X11_tried 17 rfl) (by decide) (by rw [c10]; decide +kernel) (by decide) ?_
      refine T_aload_n 0 (dk dtk_X11_tried 18 rfl) rfl rfl ?_
      refine T_getI c8 0 (dk dtk_X11_tried 19 rfl) kfl_X11_306 (kk_T0 g9) (kl_T0 hq g9) (by decide) rfl ?_
      exact KE_iret (dk dtk_X11_tried 20 rfl) rfl rfl h
    · have h := h.2
      by_cases c11 : l2 = 1
      · have h := h.1 c11
        refine T_table 41 69 (dk dtk_X11_tried 17 rfl) (by decide) (by rw [c11]; decide +kernel) (by decide) ?_
        refine T_aload_n 0 (dk dtk_X11_tried 21 rfl) rfl rfl ?_
        refine T_getI c8 1 (dk dtk_X11_tried 22 rfl) kfl_X11_313 (kk_T0 g9) (kl_T0 hq g9) (by decide) rfl ?_
        refine T_if_eq 80 (dk dtk_X11_tried 23 rfl) (by decide) (fun c12 => ?_) (fun c12 => ?_)
        · have h := h.1 c12
          refine T_iconst (v := 0) (dk dtk_X11_tried 26 rfl) (by decide +kernel) ?_
          exact KE_iret (dk dtk_X11_tried 27 rfl) rfl rfl h
        · have h := h.2 c12
          refine T_iconst (v := 1) (dk dtk_X11_tried 24 rfl) (by decide +kernel) ?_
          refine T_goto 81 (dk dtk_X11_tried 25 rfl) (by decide) ?_
          exact KE_iret (dk dtk_X11_tried 27 rfl) rfl rfl h
      · have h := h.2
        by_cases c13 : l2 = 2
        · have h := h.1 c13
          refine T_table 54 82 (dk dtk_X11_tried 17 rfl) (by decide) (by rw [c13]; decide +kernel) (by decide) ?_
          refine T_aload_n 0 (dk dtk_X11_tried 28 rfl) rfl rfl ?_
          refine T_getI c8 2 (dk dtk_X11_tried 29 rfl) kfl_X11_316 (kk_T0 g9) (kl_T0 hq g9) (by decide) rfl ?_
          exact KE_iret (dk dtk_X11_tried 30 rfl) rfl rfl h
        · have h := h.2
          by_cases c14 : l2 = 3
          · have h := h.1 c14
            refine T_table 59 87 (dk dtk_X11_tried 17 rfl) (by decide) (by rw [c14]; decide +kernel) (by decide) ?_
            refine T_aload_n 0 (dk dtk_X11_tried 31 rfl) rfl rfl ?_
            refine T_getI c8 3 (dk dtk_X11_tried 32 rfl) kfl_X11_319 (kk_T0 g9) (kl_T0 hq g9) (by decide) rfl ?_
            exact KE_iret (dk dtk_X11_tried 33 rfl) rfl rfl h
          · have h := h.2
            by_cases c15 : l2 = 4
            · have h := h.1 c15
              refine T_table 64 92 (dk dtk_X11_tried 17 rfl) (by decide) (by rw [c15]; decide +kernel) (by decide) ?_
              refine T_aload_n 0 (dk dtk_X11_tried 34 rfl) rfl rfl ?_
              refine T_getI c8 4 (dk dtk_X11_tried 35 rfl) kfl_X11_322 (kk_T0 g9) (kl_T0 hq g9) (by decide) rfl ?_
              exact KE_iret (dk dtk_X11_tried 36 rfl) rfl rfl h
            · have h := h.2
              have n16 : ∀ k ∈ [(0 : Int32), (1 : Int32), (2 : Int32), (3 : Int32), (4 : Int32)], ¬ l2 = k := (gno c10 (gno c11 (gno c13 (gno c14 (gno c15 gno0)))))
              have h := h n16
              refine T_table 69 97 (dk dtk_X11_tried 17 rfl) (by decide) (gtab_d [(0 : Int32), (1 : Int32), (2 : Int32), (3 : Int32), (4 : Int32)] (by decide +kernel) n16) (by decide) ?_
              refine T_aload_n 0 (dk dtk_X11_tried 37 rfl) rfl rfl ?_
              refine T_getI c8 5 (dk dtk_X11_tried 38 rfl) kfl_X11_325 (kk_T0 g9) (kl_T0 hq g9) (by decide) rfl ?_
              exact KE_iret (dk dtk_X11_tried 39 rfl) rfl rfl h
  · have h := h.2 c5
    refine T_iconst (v := 0) (dk dtk_X11_tried 9 rfl) (by decide +kernel) ?_
    exact KE_iret (dk dtk_X11_tried 10 rfl) rfl rfl h
set_option maxRecDepth 100000 in
theorem dtk_X11_outcome : dck cX11_outcome [(0, .iload_n 1, 1), (1, .invokestatic 151, 3), (4, .iload_n 2, 1), (5, .aload_n 0, 1), (6, .iload_n 1, 1), (7, .invokevirtual 309, 3), (10, .ifCond .eq 15, 3), (13, .aload_n 0, 1), (14, .getfield 59, 3), (17, .iload_n 1, 1), (18, .aaload, 1), (19, .getfield 319, 3), (22, .goto 4, 3), (25, .iconst 0, 1), (26, .invokestatic 163, 3), (29, .iload_n 3, 1), (30, .aload_n 0, 1), (31, .getfield 28, 3), (34, .getfield 136, 3), (37, .invokestatic 163, 3), (40, .aload_n 0, 1), (41, .getfield 59, 3), (44, .iload_n 1, 1), (45, .aaload, 1), (46, .iload_n 2, 1), (47, .iload_n 3, 1), (48, .invokevirtual 328, 3), (51, .ireturn, 1)] = true := by decide +kernel
set_option maxRecDepth 100000 in
set_option maxHeartbeats 4000000 in
theorem kg_X11_outcome_0 {G : kG} {q : kP} {d : Nat} {x : gd} {P : Option gv → gd → Prop} {X : String → gd → Prop} (hq : kV q) (l1 : Int32) (l2 : Int32) (l3 : Int32)
    (h : KE G q (d + 6) zk_X11_needWay 0 [(0, vi l1)] [] x (rv (fun x1 => KT G q (d + 6) zk_X11_wasTried 0 [(0, vr 0), (1, vi l1)] [] x1 (ri (fun r3 x2 => ((r3 = (0 : Int32) → KE G q (d + 7) zk_X11_outcome 26 [(0, vr 0), (1, vi l1), (2, vi l2), (3, vi l3)] [vi 0, vi l2] x2 P X) ∧ (¬ (r3 = (0 : Int32)) → vp_in l1 2 ∧ (∀ u6, u6 = (kf q).1 7 (l1 : Int32).toNatClampNeg → ∃ c7, u6 = some c7 ∧ kiT q c7 ∧ KE G q (d + 7) zk_X11_outcome 26 [(0, vr 0), (1, vi l1), (2, vi l2), (3, vi l3)] [vi (x2.1 c7 3), vi l2] x2 P X))))))) X) :
    KE G q (d + 7) zk_X11_outcome 0 [(0, vr 0), (1, vi l1), (2, vi l2), (3, vi l3)] [] x P X := by
  refine T_iload_n 1 (dk dtk_X11_outcome 0 rfl) rfl rfl ?_
  refine KD_Sv [vi l1] [] rfl (dk dtk_X11_outcome 1 rfl) kcs_X11_151 rfl (Nat.le_of_ble_eq_true rfl) (Nat.le_of_ble_eq_true rfl) (gok_i (av_c (gkr (kl_0 hq)) (av_c rfl (av_c rfl (av_c rfl av_n)))) as_n) rfl h (fun x1 h => ?_)
  refine T_iload_n 2 (dk dtk_X11_outcome 2 rfl) rfl rfl ?_
  refine T_aload_n 0 (dk dtk_X11_outcome 3 rfl) rfl rfl ?_
  refine T_iload_n 1 (dk dtk_X11_outcome 4 rfl) rfl rfl ?_
  refine KC_Vi [vi l1] [vi l2] rfl (dk dtk_X11_outcome 5 rfl) kcv_X11_309 rfl kk_0 rfl (kl_0 hq) (Nat.le_of_ble_eq_true rfl) (Nat.le_of_ble_eq_true rfl) (gok_i (av_c (gkr (kl_0 hq)) (av_c rfl (av_c rfl (av_c rfl av_n)))) (as_c rfl as_n)) rfl h (fun r3 x2 h => ?_)
  refine T_if_eq 25 (dk dtk_X11_outcome 6 rfl) (by decide) (fun c4 => ?_) (fun c4 => ?_)
  · have h := h.1 c4
    refine T_iconst (v := 0) (dk dtk_X11_outcome 13 rfl) (by decide +kernel) ?_
    exact h
  · have h := h.2 c4
    refine T_aload_n 0 (dk dtk_X11_outcome 7 rfl) rfl rfl ?_
    refine T_getR 0 6 7 (dk dtk_X11_outcome 8 rfl) kfl_X11_59 kk_0 (kl_0 hq) (by decide) rfl kr_0_6 ?_
    refine T_iload_n 1 (dk dtk_X11_outcome 9 rfl) rfl rfl ?_
    obtain ⟨h5, h⟩ := h
    obtain ⟨u6, eu6⟩ : ∃ z, z = (kf q).1 7 (l1 : Int32).toNatClampNeg := ⟨_, rfl⟩
    have h := h u6 eu6
    refine T_aaldT 7 2 (dk dtk_X11_outcome 10 rfl) kk_7 (kl_7 hq) h5 ?_
    rw [← eu6]
    obtain ⟨c7, rfl, g8, h⟩ := h
    refine T_getI c7 3 (dk dtk_X11_outcome 11 rfl) kfl_X11_319 (kk_T0 g8) (kl_T0 hq g8) (by decide) rfl ?_
    refine T_goto 26 (dk dtk_X11_outcome 12 rfl) (by decide) ?_
    exact h
set_option maxRecDepth 100000 in
set_option maxHeartbeats 4000000 in
theorem kg_X11_outcome_26 {G : kG} {q : kP} {d : Nat} {x : gd} {P : Option gv → gd → Prop} {X : String → gd → Prop} (hq : kV q) (l1 : Int32) (l2 : Int32) (l3 : Int32) (s0 : Int32) (s1 : Int32)
    (h : KE G q (d + 6) zk_X11_needIndex 0 [(0, vi s1), (1, vi s0)] [] x (rv (fun x1 => KE G q (d + 6) zk_X11_needIndex 0 [(0, vi l3), (1, vi (x1.1 60 6))] [] x1 (rv (fun x2 => vp_in l1 2 ∧ (∀ u4, u4 = (kf q).1 7 (l1 : Int32).toNatClampNeg → ∃ c5, u4 = some c5 ∧ kiT q c5 ∧ KT G q (d + 6) zk_X10_valueOf 0 [(0, vr c5), (1, vi l2), (2, vi l3)] [] x2 (ri (fun r8 x7 => P (some (vi r8)) x7))))) X)) X) :
    KE G q (d + 7) zk_X11_outcome 26 [(0, vr 0), (1, vi l1), (2, vi l2), (3, vi l3)] [vi s0, vi s1] x P X := by
  refine KD_Sv [vi s1, vi s0] [] rfl (dk dtk_X11_outcome 14 rfl) kcs_X11_163 rfl (Nat.le_of_ble_eq_true rfl) (Nat.le_of_ble_eq_true rfl) (gok_i (av_c (gkr (kl_0 hq)) (av_c rfl (av_c rfl (av_c rfl av_n)))) as_n) rfl h (fun x1 h => ?_)
  refine T_iload_n 3 (dk dtk_X11_outcome 15 rfl) rfl rfl ?_
  refine T_aload_n 0 (dk dtk_X11_outcome 16 rfl) rfl rfl ?_
  refine T_getR 0 2 60 (dk dtk_X11_outcome 17 rfl) kfl_X11_28 kk_0 (kl_0 hq) (by decide) rfl kr_0_2 ?_
  refine T_getI 60 6 (dk dtk_X11_outcome 18 rfl) kfl_X11_136 kk_60 (kl_60 hq) (by decide) rfl ?_
  refine KD_Sv [vi l3, vi (x1.1 60 6)] [] rfl (dk dtk_X11_outcome 19 rfl) kcs_X11_163 rfl (Nat.le_of_ble_eq_true rfl) (Nat.le_of_ble_eq_true rfl) (gok_i (av_c (gkr (kl_0 hq)) (av_c rfl (av_c rfl (av_c rfl av_n)))) as_n) rfl h (fun x2 h => ?_)
  refine T_aload_n 0 (dk dtk_X11_outcome 20 rfl) rfl rfl ?_
  refine T_getR 0 6 7 (dk dtk_X11_outcome 21 rfl) kfl_X11_59 kk_0 (kl_0 hq) (by decide) rfl kr_0_6 ?_
  refine T_iload_n 1 (dk dtk_X11_outcome 22 rfl) rfl rfl ?_
  obtain ⟨h3, h⟩ := h
  obtain ⟨u4, eu4⟩ : ∃ z, z = (kf q).1 7 (l1 : Int32).toNatClampNeg := ⟨_, rfl⟩
  have h := h u4 eu4
  refine T_aaldT 7 2 (dk dtk_X11_outcome 23 rfl) kk_7 (kl_7 hq) h3 ?_
  rw [← eu4]
  refine T_iload_n 2 (dk dtk_X11_outcome 24 rfl) rfl rfl ?_
  refine T_iload_n 3 (dk dtk_X11_outcome 25 rfl) rfl rfl ?_
  obtain ⟨c5, rfl, g6, h⟩ := h
  refine T_sub (lv2 := []) [] rfl ?_
  refine KC_Vi [vi l2, vi l3] [] rfl (dk dtk_X11_outcome 26 rfl) kcv_X11_328 rfl (kk_T0 g6) rfl (kl_T0 hq g6) (Nat.le_of_ble_eq_true rfl) (Nat.le_of_ble_eq_true rfl) (gok_i av_n as_n) rfl h (fun r8 x7 h => ?_)
  exact KE_iret (dk dtk_X11_outcome 27 rfl) rfl rfl h
set_option maxRecDepth 100000 in
theorem dtk_X11_finding : dck cX11_finding [(0, .iload_n 1, 1), (1, .invokestatic 151, 3), (4, .iload_n 2, 1), (5, .invokestatic 331, 3), (8, .aload_n 0, 1), (9, .iload_n 1, 1), (10, .iload_n 2, 1), (11, .invokevirtual 334, 3), (14, .istore_n 3, 1), (15, .iload_n 3, 1), (16, .iconst (-1), 1), (17, .if_icmp .ne 7, 3), (20, .iconst (-1), 1), (21, .goto 14, 3), (24, .aload_n 0, 1), (25, .getfield 59, 3), (28, .iload_n 1, 1), (29, .aaload, 1), (30, .getfield 337, 3), (33, .iload_n 3, 1), (34, .iaload, 1), (35, .ireturn, 1)] = true := by decide +kernel
set_option maxRecDepth 100000 in
set_option maxHeartbeats 4000000 in
theorem kg_X11_finding_0 {G : kG} {q : kP} {d : Nat} {x : gd} {P : Option gv → gd → Prop} {X : String → gd → Prop} (hq : kV q) (l1 : Int32) (l2 : Int32)
    (h : KE G q (d + 6) zk_X11_needWay 0 [(0, vi l1)] [] x (rv (fun x1 => KE G q (d + 6) zk_X11_needFinding 0 [(0, vi l2)] [] x1 (rv (fun x2 => KT G q (d + 6) zk_X11_firstState 0 [(0, vr 0), (1, vi l1), (2, vi l2)] [] x2 (ri (fun r4 x3 => ((¬ (r4 = (-1 : Int32)) → vp_in l1 2 ∧ (∀ u7, u7 = (kf q).1 7 (l1 : Int32).toNatClampNeg → ∃ c8, u7 = some c8 ∧ kiT q c8 ∧ vp_in r4 3000 ∧ P (some (vi (x3.1 (c8 + 12) (r4 : Int32).toNatClampNeg))) x3)) ∧ (r4 = (-1 : Int32) → P (some (vi (-1))) x3)))))) X)) X) :
    KE G q (d + 7) zk_X11_finding 0 [(0, vr 0), (1, vi l1), (2, vi l2)] [] x P X := by
  refine T_iload_n 1 (dk dtk_X11_finding 0 rfl) rfl rfl ?_
  refine KD_Sv [vi l1] [] rfl (dk dtk_X11_finding 1 rfl) kcs_X11_151 rfl (Nat.le_of_ble_eq_true rfl) (Nat.le_of_ble_eq_true rfl) (gok_i (av_c (gkr (kl_0 hq)) (av_c rfl (av_c rfl av_n))) as_n) rfl h (fun x1 h => ?_)
  refine T_iload_n 2 (dk dtk_X11_finding 2 rfl) rfl rfl ?_
  refine KD_Sv [vi l2] [] rfl (dk dtk_X11_finding 3 rfl) kcs_X11_331 rfl (Nat.le_of_ble_eq_true rfl) (Nat.le_of_ble_eq_true rfl) (gok_i (av_c (gkr (kl_0 hq)) (av_c rfl (av_c rfl av_n))) as_n) rfl h (fun x2 h => ?_)
  refine T_aload_n 0 (dk dtk_X11_finding 4 rfl) rfl rfl ?_
  refine T_iload_n 1 (dk dtk_X11_finding 5 rfl) rfl rfl ?_
  refine T_iload_n 2 (dk dtk_X11_finding 6 rfl) rfl rfl ?_
  refine T_sub (lv2 := [(0, vr 0), (1, vi l1)]) [0, 1] rfl ?_
  refine KC_Vi [vi l1, vi l2] [] rfl (dk dtk_X11_finding 7 rfl) kcv_X11_334 rfl kk_0 rfl (kl_0 hq) (Nat.le_of_ble_eq_true rfl) (Nat.le_of_ble_eq_true rfl) (gok_i (av_c (gkr (kl_0 hq)) (av_c rfl av_n)) as_n) rfl h (fun r4 x3 h => ?_)
  refine T_istore_n (lv2 := [(3, vi r4), (0, vr 0), (1, vi l1)]) (dk dtk_X11_finding 8 rfl) rfl (by decide) rfl ?_
  refine T_iload_n 0 (dk dtk_X11_finding 9 rfl) rfl rfl ?_
  refine T_iconst (v := (-1)) (dk dtk_X11_finding 10 rfl) (by decide +kernel) ?_
  refine T_icmp_ne 24 (dk dtk_X11_finding 11 rfl) (by decide) (fun c5 => ?_) (fun c5 => ?_)
  · have h := h.1 c5
    refine T_aload_n 1 (dk dtk_X11_finding 14 rfl) rfl rfl ?_
    refine T_getR 0 6 7 (dk dtk_X11_finding 15 rfl) kfl_X11_59 kk_0 (kl_0 hq) (by decide) rfl kr_0_6 ?_
    refine T_iload_n 2 (dk dtk_X11_finding 16 rfl) rfl rfl ?_
    obtain ⟨h6, h⟩ := h
    obtain ⟨u7, eu7⟩ : ∃ z, z = (kf q).1 7 (l1 : Int32).toNatClampNeg := ⟨_, rfl⟩
    have h := h u7 eu7
    refine T_aaldT 7 2 (dk dtk_X11_finding 17 rfl) kk_7 (kl_7 hq) h6 ?_
    rw [← eu7]
    obtain ⟨c8, rfl, g9, h⟩ := h
    refine T_getR c8 11 (c8 + 12) (dk dtk_X11_finding 18 rfl) kfl_X11_337 (kk_T0 g9) (kl_T0 hq g9) (by decide) rfl (kr_T_11 g9) ?_
    refine T_iload_n 0 (dk dtk_X11_finding 19 rfl) rfl rfl ?_
    obtain ⟨h10, h⟩ := h
    refine T_iald (c8 + 12) 3000 (dk dtk_X11_finding 20 rfl) (kk_T12 g9) (kl_T12 hq g9) h10 ?_
    exact KE_iret (dk dtk_X11_finding 21 rfl) rfl rfl h
  · have h := h.2 c5
    refine T_iconst (v := (-1)) (dk dtk_X11_finding 12 rfl) (by decide +kernel) ?_
    refine T_goto 35 (dk dtk_X11_finding 13 rfl) (by decide) ?_
    exact KE_iret (dk dtk_X11_finding 21 rfl) rfl rfl h
set_option maxRecDepth 100000 in
theorem dtk_X11_show : dck cX11_show [(0, .iload_n 1, 1), (1, .invokestatic 151, 3), (4, .iload_n 2, 1), (5, .invokestatic 331, 3), (8, .aload_n 0, 1), (9, .iload_n 1, 1), (10, .iload_n 2, 1), (11, .invokevirtual 334, 3), (14, .istore_n 3, 1), (15, .iload_n 3, 1), (16, .iconst (-1), 1), (17, .if_icmp .ne 14, 3), (20, .new 102, 3), (23, .dup, 1), (24, .ldc_w 340, 3), (27, .invokespecial 191, 3), (30, .athrow, 1), (31, .aload_n 0, 1), (32, .getfield 59, 3), (35, .iload_n 1, 1), (36, .aaload, 1), (37, .getfield 337, 3), (40, .iload_n 3, 1), (41, .iaload, 1), (42, .istore 4, 2), (44, .iload 4, 2), (46, .sipush 400, 3), (49, .if_icmp .le 14, 3), (52, .new 102, 3), (55, .dup, 1), (56, .ldc_w 342, 3), (59, .invokespecial 191, 3), (62, .athrow, 1), (63, .aload_n 0, 1), (64, .getfield 59, 3), (67, .iload_n 1, 1), (68, .aaload, 1), (69, .iload_n 3, 1), (70, .aload_n 0, 1), (71, .getfield 53, 3), (74, .getfield 203, 3), (77, .invokevirtual 344, 3), (80, .aload_n 0, 1), (81, .iload_n 1, 1), (82, .invokevirtual 154, 3), (85, .iconst 0, 1), (86, .istore 5, 2), (88, .iload 5, 2), (90, .iload 4, 2), (92, .if_icmp .ge 23, 3), (95, .aload_n 0, 1), (96, .aload_n 0, 1), (97, .getfield 53, 3), (100, .getfield 203, 3), (103, .iload 5, 2), (105, .iaload, 1), (106, .invokevirtual 192, 3), (109, .iinc 5 1, 3), (112, .goto (-24), 3), (115, .iload 4, 2), (117, .ireturn, 1)] = true := by decide +kernel
set_option maxRecDepth 100000 in
set_option maxHeartbeats 4000000 in
theorem kg_X11_show_0 {G : kG} {q : kP} {d : Nat} {x : gd} {P : Option gv → gd → Prop} {X : String → gd → Prop} (hq : kV q) (l1 : Int32) (l2 : Int32)
    (h : KE G q (d + 6) zk_X11_needWay 0 [(0, vi l1)] [] x (rv (fun x1 => KE G q (d + 6) zk_X11_needFinding 0 [(0, vi l2)] [] x1 (rv (fun x2 => KT G q (d + 6) zk_X11_firstState 0 [(0, vr 0), (1, vi l1), (2, vi l2)] [] x2 (ri (fun r4 x3 => ((¬ (r4 = (-1 : Int32)) → vp_in l1 2 ∧ (∀ u7, u7 = (kf q).1 7 (l1 : Int32).toNatClampNeg → ∃ c8, u7 = some c8 ∧ kiT q c8 ∧ vp_in r4 3000 ∧ (((x3.1 (c8 + 12) (r4 : Int32).toNatClampNeg) ≤ (400 : Int32) → vp_in l1 2 ∧ (∀ u13, u13 = (kf q).1 7 (l1 : Int32).toNatClampNeg → ∃ c14, u13 = some c14 ∧ kiT q c14 ∧ KT G q (d + 6) zk_X10_pathTo 0 [(0, vr c14), (1, vi r4), (2, vr 162)] [] x3 (rv (fun x16 => KT G q (d + 6) zk_X11_beginRun 0 [(0, vr 0), (1, vi l1)] [] x16 (rv (fun x17 => KE G q (d + 7) zk_X11_show 88 [(0, vr 0), (4, vi (x3.1 (c8 + 12) (r4 : Int32).toNatClampNeg)), (5, vi 0)] [] x17 P X)))))) ∧ (¬ ((x3.1 (c8 + 12) (r4 : Int32).toNatClampNeg) ≤ (400 : Int32)) → X iSE x3)))) ∧ (r4 = (-1 : Int32) → X iSE x3)))))) X)) X) :
    KE G q (d + 7) zk_X11_show 0 [(0, vr 0), (1, vi l1), (2, vi l2)] [] x P X := by
  refine T_iload_n 1 (dk dtk_X11_show 0 rfl) rfl rfl ?_
  refine KD_Sv [vi l1] [] rfl (dk dtk_X11_show 1 rfl) kcs_X11_151 rfl (Nat.le_of_ble_eq_true rfl) (Nat.le_of_ble_eq_true rfl) (gok_i (av_c (gkr (kl_0 hq)) (av_c rfl (av_c rfl av_n))) as_n) rfl h (fun x1 h => ?_)
  refine T_iload_n 2 (dk dtk_X11_show 2 rfl) rfl rfl ?_
  refine KD_Sv [vi l2] [] rfl (dk dtk_X11_show 3 rfl) kcs_X11_331 rfl (Nat.le_of_ble_eq_true rfl) (Nat.le_of_ble_eq_true rfl) (gok_i (av_c (gkr (kl_0 hq)) (av_c rfl (av_c rfl av_n))) as_n) rfl h (fun x2 h => ?_)
  refine T_aload_n 0 (dk dtk_X11_show 4 rfl) rfl rfl ?_
  refine T_iload_n 1 (dk dtk_X11_show 5 rfl) rfl rfl ?_
  refine T_iload_n 2 (dk dtk_X11_show 6 rfl) rfl rfl ?_
  refine T_sub (lv2 := [(0, vr 0), (1, vi l1)]) [0, 1] rfl ?_
  refine KC_Vi [vi l1, vi l2] [] rfl (dk dtk_X11_show 7 rfl) kcv_X11_334 rfl kk_0 rfl (kl_0 hq) (Nat.le_of_ble_eq_true rfl) (Nat.le_of_ble_eq_true rfl) (gok_i (av_c (gkr (kl_0 hq)) (av_c rfl av_n)) as_n) rfl h (fun r4 x3 h => ?_)
  refine T_istore_n (lv2 := [(3, vi r4), (0, vr 0), (1, vi l1)]) (dk dtk_X11_show 8 rfl) rfl (by decide) rfl ?_
  refine T_iload_n 0 (dk dtk_X11_show 9 rfl) rfl rfl ?_
  refine T_iconst (v := (-1)) (dk dtk_X11_show 10 rfl) (by decide +kernel) ?_
  refine T_icmp_ne 31 (dk dtk_X11_show 11 rfl) (by decide) (fun c5 => ?_) (fun c5 => ?_)
  · have h := h.1 c5
    refine T_aload_n 1 (dk dtk_X11_show 17 rfl) rfl rfl ?_
    refine T_getR 0 6 7 (dk dtk_X11_show 18 rfl) kfl_X11_59 kk_0 (kl_0 hq) (by decide) rfl kr_0_6 ?_
    refine T_iload_n 2 (dk dtk_X11_show 19 rfl) rfl rfl ?_
    obtain ⟨h6, h⟩ := h
    obtain ⟨u7, eu7⟩ : ∃ z, z = (kf q).1 7 (l1 : Int32).toNatClampNeg := ⟨_, rfl⟩
    have h := h u7 eu7
    refine T_aaldT 7 2 (dk dtk_X11_show 20 rfl) kk_7 (kl_7 hq) h6 ?_
    rw [← eu7]
    obtain ⟨c8, rfl, g9, h⟩ := h
    refine T_getR c8 11 (c8 + 12) (dk dtk_X11_show 21 rfl) kfl_X11_337 (kk_T0 g9) (kl_T0 hq g9) (by decide) rfl (kr_T_11 g9) ?_
    refine T_iload_n 0 (dk dtk_X11_show 22 rfl) rfl rfl ?_
    obtain ⟨h10, h⟩ := h
    refine T_iald (c8 + 12) 3000 (dk dtk_X11_show 23 rfl) (kk_T12 g9) (kl_T12 hq g9) h10 ?_
    refine T_istore (lv2 := [(4, vi (x3.1 (c8 + 12) (r4 : Int32).toNatClampNeg)), (3, vi r4), (0, vr 0), (1, vi l1)]) (dk dtk_X11_show 24 rfl) (by decide) rfl ?_
    refine T_iload 0 (dk dtk_X11_show 25 rfl) rfl ?_
    refine T_sipush (v := 400) (dk dtk_X11_show 26 rfl) (by decide +kernel) ?_
    refine T_icmp_le 63 (dk dtk_X11_show 27 rfl) (by decide) (fun c11 => ?_) (fun c11 => ?_)
    · have h := h.1 c11
      refine T_aload_n 2 (dk dtk_X11_show 33 rfl) rfl rfl ?_
      refine T_getR 0 6 7 (dk dtk_X11_show 34 rfl) kfl_X11_59 kk_0 (kl_0 hq) (by decide) rfl kr_0_6 ?_
      refine T_iload_n 3 (dk dtk_X11_show 35 rfl) rfl rfl ?_
      obtain ⟨h12, h⟩ := h
      obtain ⟨u13, eu13⟩ : ∃ z, z = (kf q).1 7 (l1 : Int32).toNatClampNeg := ⟨_, rfl⟩
      have h := h u13 eu13
      refine T_aaldT 7 2 (dk dtk_X11_show 36 rfl) kk_7 (kl_7 hq) h12 ?_
      rw [← eu13]
      refine T_iload_n 1 (dk dtk_X11_show 37 rfl) rfl rfl ?_
      refine T_aload_n 2 (dk dtk_X11_show 38 rfl) rfl rfl ?_
      refine T_getR 0 5 160 (dk dtk_X11_show 39 rfl) kfl_X11_53 kk_0 (kl_0 hq) (by decide) rfl kr_0_5 ?_
      refine T_getR 160 1 162 (dk dtk_X11_show 40 rfl) kfl_X11_203 kk_160 (kl_160 hq) (by decide) rfl kr_160_1 ?_
      obtain ⟨c14, rfl, g15, h⟩ := h
      refine T_sub (lv2 := [(4, vi (x3.1 (c8 + 12) (r4 : Int32).toNatClampNeg)), (0, vr 0), (1, vi l1)]) [0, 2, 3] rfl ?_
      refine KC_Vv [vi r4, vr 162] [] rfl (dk dtk_X11_show 41 rfl) kcv_X11_344 rfl (kk_T0 g15) rfl (kl_T0 hq g15) (Nat.le_of_ble_eq_true rfl) (Nat.le_of_ble_eq_true rfl) (gok_i (av_c rfl (av_c (gkr (kl_0 hq)) (av_c rfl av_n))) as_n) rfl h (fun x16 h => ?_)
      refine T_aload_n 1 (dk dtk_X11_show 42 rfl) rfl rfl ?_
      refine T_iload_n 2 (dk dtk_X11_show 43 rfl) rfl rfl ?_
      refine T_sub (lv2 := [(4, vi (x3.1 (c8 + 12) (r4 : Int32).toNatClampNeg)), (0, vr 0)]) [0, 1] rfl ?_
      refine KC_Vv [vi l1] [] rfl (dk dtk_X11_show 44 rfl) kcv_X11_154 rfl kk_0 rfl (kl_0 hq) (Nat.le_of_ble_eq_true rfl) (Nat.le_of_ble_eq_true rfl) (gok_i (av_c rfl (av_c (gkr (kl_0 hq)) av_n)) as_n) rfl h (fun x17 h => ?_)
      refine T_iconst (v := 0) (dk dtk_X11_show 45 rfl) (by decide +kernel) ?_
      refine T_istore (lv2 := [(5, vi 0), (4, vi (x3.1 (c8 + 12) (r4 : Int32).toNatClampNeg)), (0, vr 0)]) (dk dtk_X11_show 46 rfl) (by decide) rfl ?_
      exact T_sub [2, 1, 0] rfl h
    · have h := h.2 c11
      exact T_thrW kth_X11_102_342 (dk dtk_X11_show 28 rfl) (dk dtk_X11_show 29 rfl) (dk dtk_X11_show 30 rfl) (dk dtk_X11_show 31 rfl) (dk dtk_X11_show 32 rfl) (by intro z hz; cases hz) (by omega) (Nat.le_of_ble_eq_true rfl) (Or.inr ⟨rfl, _, rfl, h⟩)
  · have h := h.2 c5
    exact T_thrW kth_X11_102_340 (dk dtk_X11_show 12 rfl) (dk dtk_X11_show 13 rfl) (dk dtk_X11_show 14 rfl) (dk dtk_X11_show 15 rfl) (dk dtk_X11_show 16 rfl) (by intro z hz; cases hz) (by omega) (Nat.le_of_ble_eq_true rfl) (Or.inr ⟨rfl, _, rfl, h⟩)
set_option maxRecDepth 100000 in
set_option maxHeartbeats 4000000 in
theorem kg_X11_show_88 {G : kG} {q : kP} {d : Nat} {x : gd} {P : Option gv → gd → Prop} {X : String → gd → Prop} (hq : kV q) (l4 : Int32) (l5 : Int32)
    (h : ((l4 ≤ l5 → P (some (vi l4)) x) ∧ (¬ (l4 ≤ l5) → vp_in l5 400 ∧ KT G q (d + 6) zk_X11_doChoice 0 [(0, vr 0), (1, vi (x.1 162 (l5 : Int32).toNatClampNeg))] [] x (rv (fun x3 => KE G q (d + 7) zk_X11_show 88 [(0, vr 0), (4, vi l4), (5, vi (l5 + 1))] [] x3 P X))))) :
    KE G q (d + 7) zk_X11_show 88 [(0, vr 0), (4, vi l4), (5, vi l5)] [] x P X := by
  refine T_iload 2 (dk dtk_X11_show 47 rfl) rfl ?_
  refine T_iload 1 (dk dtk_X11_show 48 rfl) rfl ?_
  refine T_icmp_ge 115 (dk dtk_X11_show 49 rfl) (by decide) (fun c1 => ?_) (fun c1 => ?_)
  · have h := h.1 c1
    refine T_iload 1 (dk dtk_X11_show 59 rfl) rfl ?_
    exact KE_iret (dk dtk_X11_show 60 rfl) rfl rfl h
  · have h := h.2 c1
    refine T_aload_n 0 (dk dtk_X11_show 50 rfl) rfl rfl ?_
    refine T_aload_n 0 (dk dtk_X11_show 51 rfl) rfl rfl ?_
    refine T_getR 0 5 160 (dk dtk_X11_show 52 rfl) kfl_X11_53 kk_0 (kl_0 hq) (by decide) rfl kr_0_5 ?_
    refine T_getR 160 1 162 (dk dtk_X11_show 53 rfl) kfl_X11_203 kk_160 (kl_160 hq) (by decide) rfl kr_160_1 ?_
    refine T_iload 2 (dk dtk_X11_show 54 rfl) rfl ?_
    obtain ⟨h2, h⟩ := h
    refine T_iald 162 400 (dk dtk_X11_show 55 rfl) kk_162 (kl_162 hq) h2 ?_
    refine KC_Vv [vi (x.1 162 (l5 : Int32).toNatClampNeg)] [] rfl (dk dtk_X11_show 56 rfl) kcv_X11_192 rfl kk_0 rfl (kl_0 hq) (Nat.le_of_ble_eq_true rfl) (Nat.le_of_ble_eq_true rfl) (gok_i (av_c (gkr (kl_0 hq)) (av_c rfl (av_c rfl av_n))) as_n) rfl h (fun x3 h => ?_)
    refine T_iinc (v := l5 + 1) (lv2 := [(5, vi (l5 + 1)), (0, vr 0), (4, vi l4)]) 2 (dk dtk_X11_show 57 rfl) rfl rfl (by decide) rfl ?_
    refine T_goto 88 (dk dtk_X11_show 58 rfl) (by decide) ?_
    exact T_sub [1, 2, 0] rfl h
set_option maxRecDepth 100000 in
theorem dtk_X11_common : dck cX11_common [(0, .iload_n 1, 1), (1, .invokestatic 151, 3), (4, .iload_n 2, 1), (5, .aload_n 0, 1), (6, .getfield 110, 3), (9, .ifCond .eq 13, 3), (12, .aload_n 0, 1), (13, .getfield 28, 3), (16, .getfield 136, 3), (19, .goto 4, 3), (22, .iconst 0, 1), (23, .invokestatic 163, 3), (26, .aload_n 0, 1), (27, .iload_n 1, 1), (28, .invokevirtual 309, 3), (31, .ifCond .eq 17, 3), (34, .aload_n 0, 1), (35, .getfield 59, 3), (38, .iload_n 1, 1), (39, .aaload, 1), (40, .getfield 348, 3), (43, .iload_n 2, 1), (44, .iaload, 1), (45, .goto 14, 3), (48, .iconst 1, 1), (49, .aload_n 0, 1), (50, .getfield 28, 3), (53, .getfield 139, 3), (56, .ishl, 1), (57, .iconst 1, 1), (58, .isub, 1), (59, .ireturn, 1)] = true := by decide +kernel
set_option maxRecDepth 100000 in
set_option maxHeartbeats 4000000 in
theorem kg_X11_common_0 {G : kG} {q : kP} {d : Nat} {x : gd} {P : Option gv → gd → Prop} {X : String → gd → Prop} (hq : kV q) (l1 : Int32) (l2 : Int32)
    (h : KE G q (d + 6) zk_X11_needWay 0 [(0, vi l1)] [] x (rv (fun x1 => (((x1.1 0 9) = (0 : Int32) → KE G q (d + 7) zk_X11_common 23 [(0, vr 0), (1, vi l1), (2, vi l2)] [vi 0, vi l2] x1 P X) ∧ (¬ ((x1.1 0 9) = (0 : Int32)) → KE G q (d + 7) zk_X11_common 23 [(0, vr 0), (1, vi l1), (2, vi l2)] [vi (x1.1 60 6), vi l2] x1 P X)))) X) :
    KE G q (d + 7) zk_X11_common 0 [(0, vr 0), (1, vi l1), (2, vi l2)] [] x P X := by
  refine T_iload_n 1 (dk dtk_X11_common 0 rfl) rfl rfl ?_
  refine KD_Sv [vi l1] [] rfl (dk dtk_X11_common 1 rfl) kcs_X11_151 rfl (Nat.le_of_ble_eq_true rfl) (Nat.le_of_ble_eq_true rfl) (gok_i (av_c (gkr (kl_0 hq)) (av_c rfl (av_c rfl av_n))) as_n) rfl h (fun x1 h => ?_)
  refine T_iload_n 2 (dk dtk_X11_common 2 rfl) rfl rfl ?_
  refine T_aload_n 0 (dk dtk_X11_common 3 rfl) rfl rfl ?_
  refine T_getI 0 9 (dk dtk_X11_common 4 rfl) kfl_X11_110 kk_0 (kl_0 hq) (by decide) rfl ?_
  refine T_if_eq 22 (dk dtk_X11_common 5 rfl) (by decide) (fun c2 => ?_) (fun c2 => ?_)
  · have h := h.1 c2
    refine T_iconst (v := 0) (dk dtk_X11_common 10 rfl) (by decide +kernel) ?_
    exact h
  · have h := h.2 c2
    refine T_aload_n 0 (dk dtk_X11_common 6 rfl) rfl rfl ?_
    refine T_getR 0 2 60 (dk dtk_X11_common 7 rfl) kfl_X11_28 kk_0 (kl_0 hq) (by decide) rfl kr_0_2 ?_
    refine T_getI 60 6 (dk dtk_X11_common 8 rfl) kfl_X11_136 kk_60 (kl_60 hq) (by decide) rfl ?_
    refine T_goto 23 (dk dtk_X11_common 9 rfl) (by decide) ?_
    exact h
set_option maxRecDepth 100000 in
set_option maxHeartbeats 4000000 in
theorem kg_X11_common_23 {G : kG} {q : kP} {d : Nat} {x : gd} {P : Option gv → gd → Prop} {X : String → gd → Prop} (hq : kV q) (l1 : Int32) (l2 : Int32) (s0 : Int32) (s1 : Int32)
    (h : KE G q (d + 6) zk_X11_needIndex 0 [(0, vi s1), (1, vi s0)] [] x (rv (fun x1 => KT G q (d + 6) zk_X11_wasTried 0 [(0, vr 0), (1, vi l1)] [] x1 (ri (fun r3 x2 => ((r3 = (0 : Int32) → P (some (vi ((1 <<< ((x2.1 60 9) &&& 31 : Int32)) - 1))) x2) ∧ (¬ (r3 = (0 : Int32)) → vp_in l1 2 ∧ (∀ u6, u6 = (kf q).1 7 (l1 : Int32).toNatClampNeg → ∃ c7, u6 = some c7 ∧ kiT q c7 ∧ vp_in l2 24 ∧ P (some (vi (x2.1 (c7 + 8) (l2 : Int32).toNatClampNeg))) x2))))))) X) :
    KE G q (d + 7) zk_X11_common 23 [(0, vr 0), (1, vi l1), (2, vi l2)] [vi s0, vi s1] x P X := by
  refine KD_Sv [vi s1, vi s0] [] rfl (dk dtk_X11_common 11 rfl) kcs_X11_163 rfl (Nat.le_of_ble_eq_true rfl) (Nat.le_of_ble_eq_true rfl) (gok_i (av_c (gkr (kl_0 hq)) (av_c rfl (av_c rfl av_n))) as_n) rfl h (fun x1 h => ?_)
  refine T_aload_n 0 (dk dtk_X11_common 12 rfl) rfl rfl ?_
  refine T_iload_n 1 (dk dtk_X11_common 13 rfl) rfl rfl ?_
  refine KC_Vi [vi l1] [] rfl (dk dtk_X11_common 14 rfl) kcv_X11_309 rfl kk_0 rfl (kl_0 hq) (Nat.le_of_ble_eq_true rfl) (Nat.le_of_ble_eq_true rfl) (gok_i (av_c (gkr (kl_0 hq)) (av_c rfl (av_c rfl av_n))) as_n) rfl h (fun r3 x2 h => ?_)
  refine T_if_eq 48 (dk dtk_X11_common 15 rfl) (by decide) (fun c4 => ?_) (fun c4 => ?_)
  · have h := h.1 c4
    refine T_iconst (v := 1) (dk dtk_X11_common 24 rfl) (by decide +kernel) ?_
    refine T_aload_n 0 (dk dtk_X11_common 25 rfl) rfl rfl ?_
    refine T_getR 0 2 60 (dk dtk_X11_common 26 rfl) kfl_X11_28 kk_0 (kl_0 hq) (by decide) rfl kr_0_2 ?_
    refine T_getI 60 9 (dk dtk_X11_common 27 rfl) kfl_X11_139 kk_60 (kl_60 hq) (by decide) rfl ?_
    refine T_ishl (dk dtk_X11_common 28 rfl) ?_
    refine T_iconst (v := 1) (dk dtk_X11_common 29 rfl) (by decide +kernel) ?_
    refine T_isub (dk dtk_X11_common 30 rfl) ?_
    exact KE_iret (dk dtk_X11_common 31 rfl) rfl rfl h
  · have h := h.2 c4
    refine T_aload_n 0 (dk dtk_X11_common 16 rfl) rfl rfl ?_
    refine T_getR 0 6 7 (dk dtk_X11_common 17 rfl) kfl_X11_59 kk_0 (kl_0 hq) (by decide) rfl kr_0_6 ?_
    refine T_iload_n 1 (dk dtk_X11_common 18 rfl) rfl rfl ?_
    obtain ⟨h5, h⟩ := h
    obtain ⟨u6, eu6⟩ : ∃ z, z = (kf q).1 7 (l1 : Int32).toNatClampNeg := ⟨_, rfl⟩
    have h := h u6 eu6
    refine T_aaldT 7 2 (dk dtk_X11_common 19 rfl) kk_7 (kl_7 hq) h5 ?_
    rw [← eu6]
    obtain ⟨c7, rfl, g8, h⟩ := h
    refine T_getR c7 7 (c7 + 8) (dk dtk_X11_common 20 rfl) kfl_X11_348 (kk_T0 g8) (kl_T0 hq g8) (by decide) rfl (kr_T_7 g8) ?_
    refine T_iload_n 2 (dk dtk_X11_common 21 rfl) rfl rfl ?_
    obtain ⟨h9, h⟩ := h
    refine T_iald (c7 + 8) 24 (dk dtk_X11_common 22 rfl) (kk_T8 g8) (kl_T8 hq g8) h9 ?_
    refine T_goto 59 (dk dtk_X11_common 23 rfl) (by decide) ?_
    exact KE_iret (dk dtk_X11_common 31 rfl) rfl rfl h
set_option maxRecDepth 100000 in
theorem dtk_X11_ring : dck cX11_ring [(0, .iload_n 1, 1), (1, .invokestatic 151, 3), (4, .aload_n 0, 1), (5, .iload_n 1, 1), (6, .invokevirtual 309, 3), (9, .ifCond .eq 15, 3), (12, .aload_n 0, 1), (13, .getfield 59, 3), (16, .iload_n 1, 1), (17, .aaload, 1), (18, .invokevirtual 351, 3), (21, .goto 4, 3), (24, .iconst 0, 1), (25, .ireturn, 1)] = true := by decide +kernel
set_option maxRecDepth 100000 in
set_option maxHeartbeats 4000000 in
theorem kg_X11_ring_0 {G : kG} {q : kP} {d : Nat} {x : gd} {P : Option gv → gd → Prop} {X : String → gd → Prop} (hq : kV q) (l1 : Int32)
    (h : KE G q (d + 6) zk_X11_needWay 0 [(0, vi l1)] [] x (rv (fun x1 => KT G q (d + 6) zk_X11_wasTried 0 [(0, vr 0), (1, vi l1)] [] x1 (ri (fun r3 x2 => ((r3 = (0 : Int32) → P (some (vi 0)) x2) ∧ (¬ (r3 = (0 : Int32)) → vp_in l1 2 ∧ (∀ u6, u6 = (kf q).1 7 (l1 : Int32).toNatClampNeg → ∃ c7, u6 = some c7 ∧ kiT q c7 ∧ KT G q (d + 6) zk_X10_shortestRing 0 [(0, vr c7)] [] x2 (ri (fun r10 x9 => P (some (vi r10)) x9))))))))) X) :
    KE G q (d + 7) zk_X11_ring 0 [(0, vr 0), (1, vi l1)] [] x P X := by
  refine T_iload_n 1 (dk dtk_X11_ring 0 rfl) rfl rfl ?_
  refine KD_Sv [vi l1] [] rfl (dk dtk_X11_ring 1 rfl) kcs_X11_151 rfl (Nat.le_of_ble_eq_true rfl) (Nat.le_of_ble_eq_true rfl) (gok_i (av_c (gkr (kl_0 hq)) (av_c rfl av_n)) as_n) rfl h (fun x1 h => ?_)
  refine T_aload_n 0 (dk dtk_X11_ring 2 rfl) rfl rfl ?_
  refine T_iload_n 1 (dk dtk_X11_ring 3 rfl) rfl rfl ?_
  refine KC_Vi [vi l1] [] rfl (dk dtk_X11_ring 4 rfl) kcv_X11_309 rfl kk_0 rfl (kl_0 hq) (Nat.le_of_ble_eq_true rfl) (Nat.le_of_ble_eq_true rfl) (gok_i (av_c (gkr (kl_0 hq)) (av_c rfl av_n)) as_n) rfl h (fun r3 x2 h => ?_)
  refine T_if_eq 24 (dk dtk_X11_ring 5 rfl) (by decide) (fun c4 => ?_) (fun c4 => ?_)
  · have h := h.1 c4
    refine T_iconst (v := 0) (dk dtk_X11_ring 12 rfl) (by decide +kernel) ?_
    exact KE_iret (dk dtk_X11_ring 13 rfl) rfl rfl h
  · have h := h.2 c4
    refine T_aload_n 0 (dk dtk_X11_ring 6 rfl) rfl rfl ?_
    refine T_getR 0 6 7 (dk dtk_X11_ring 7 rfl) kfl_X11_59 kk_0 (kl_0 hq) (by decide) rfl kr_0_6 ?_
    refine T_iload_n 1 (dk dtk_X11_ring 8 rfl) rfl rfl ?_
    obtain ⟨h5, h⟩ := h
    obtain ⟨u6, eu6⟩ : ∃ z, z = (kf q).1 7 (l1 : Int32).toNatClampNeg := ⟨_, rfl⟩
    have h := h u6 eu6
    refine T_aaldT 7 2 (dk dtk_X11_ring 9 rfl) kk_7 (kl_7 hq) h5 ?_
    rw [← eu6]
    obtain ⟨c7, rfl, g8, h⟩ := h
    refine T_sub (lv2 := []) [] rfl ?_
    refine KC_Vi [] [] rfl (dk dtk_X11_ring 10 rfl) kcv_X11_351 rfl (kk_T0 g8) rfl (kl_T0 hq g8) (Nat.le_of_ble_eq_true rfl) (Nat.le_of_ble_eq_true rfl) (gok_i av_n as_n) rfl h (fun r10 x9 h => ?_)
    refine T_goto 25 (dk dtk_X11_ring 11 rfl) (by decide) ?_
    exact KE_iret (dk dtk_X11_ring 13 rfl) rfl rfl h
