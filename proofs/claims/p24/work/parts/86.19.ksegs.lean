set_option maxRecDepth 100000 in
theorem dtk_X11_wipe : dck cX11_wipe [(0, .aload_n 0, 1), (1, .getfield 10, 3), (4, .getfield 77, 3), (7, .istore_n 1, 1), (8, .aload_n 0, 1), (9, .getfield 10, 3), (12, .iconst 0, 1), (13, .putfield 77, 3), (16, .aload_n 0, 1), (17, .invokevirtual 86, 3), (20, .iload_n 1, 1), (21, .ireturn, 1)] = true := by decide +kernel
set_option maxRecDepth 100000 in
set_option maxHeartbeats 4000000 in
theorem kg_X11_wipe_0 {G : kG} {q : kP} {d : Nat} {x : gd} {P : Option gv → gd → Prop} (hq : kV q) 
    (h : (∀ x1 : gd, x1 = si x 20 1 0 → KT G q d zk_X11_forgetAll 0 [(0, vr 0)] [] x1 (rv (fun x2 => P (some (vi (x.1 20 1))) x2)))) :
    KT G q (d + 1) zk_X11_wipe 0 [(0, vr 0)] [] x P := by
  refine T_aload_n 0 (dk dtk_X11_wipe 0 rfl) rfl rfl ?_
  refine T_getR 0 0 20 (dk dtk_X11_wipe 1 rfl) kfl_X11_10 kk_0 (kl_0 hq) (by decide) rfl kr_0_0 ?_
  refine T_getI 20 1 (dk dtk_X11_wipe 2 rfl) kfl_X11_77 kk_20 (kl_20 hq) (by decide) rfl ?_
  refine T_istore_n (lv2 := [(1, vi (x.1 20 1)), (0, vr 0)]) (dk dtk_X11_wipe 3 rfl) rfl (by decide) rfl ?_
  refine T_aload_n 1 (dk dtk_X11_wipe 4 rfl) rfl rfl ?_
  refine T_getR 0 0 20 (dk dtk_X11_wipe 5 rfl) kfl_X11_10 kk_0 (kl_0 hq) (by decide) rfl kr_0_0 ?_
  refine T_iconst (v := 0) (dk dtk_X11_wipe 6 rfl) (by decide +kernel) ?_
  obtain ⟨x1, ex1⟩ : ∃ z, z = si x 20 1 0 := ⟨_, rfl⟩
  have h := h x1 ex1
  refine T_putI 20 1 (dk dtk_X11_wipe 7 rfl) kfl_X11_77 kk_20 (kl_20 hq) (by decide) rfl ⟨rfl, rfl⟩ ?_
  rw [← ex1]
  refine T_aload_n 1 (dk dtk_X11_wipe 8 rfl) rfl rfl ?_
  refine T_sub (lv2 := [(1, vi (x.1 20 1))]) [0] rfl ?_
  refine KC_Vv [] [] rfl (dk dtk_X11_wipe 9 rfl) kcv_X11_86 rfl kk_0 rfl (kl_0 hq) (Nat.le_of_ble_eq_true rfl) (Nat.le_of_ble_eq_true rfl) (gok_i (av_c rfl av_n) as_n) rfl h (fun x2 h => ?_)
  refine T_iload_n 0 (dk dtk_X11_wipe 10 rfl) rfl rfl ?_
  exact KT_iret (dk dtk_X11_wipe 11 rfl) rfl rfl h
set_option maxRecDepth 100000 in
theorem dtk_X11_compile : dck cX11_compile [(0, .aload_n 0, 1), (1, .invokevirtual 86, 3), (4, .aload_n 0, 1), (5, .getfield 10, 3), (8, .invokevirtual 89, 3), (11, .iconst 0, 1), (12, .istore_n 1, 1), (13, .iconst (-1), 1), (14, .istore_n 2, 1), (15, .aload_n 0, 1), (16, .getfield 37, 3), (19, .invokevirtual 92, 3), (22, .aload_n 0, 1), (23, .getfield 21, 3), (26, .invokevirtual 95, 3), (29, .istore_n 1, 1), (30, .aload_n 0, 1), (31, .getfield 21, 3), (34, .getfield 99, 3), (37, .istore_n 2, 1), (38, .goto 20, 3), (41, .astore_n 3, 1), (42, .aload_n 0, 1), (43, .getfield 37, 3), (46, .getfield 104, 3), (49, .istore_n 1, 1), (50, .aload_n 0, 1), (51, .getfield 37, 3), (54, .invokevirtual 107, 3), (57, .istore_n 2, 1), (58, .aload_n 0, 1), (59, .iload_n 1, 1), (60, .ifCond .ne 7, 3), (63, .iconst 1, 1), (64, .goto 4, 3), (67, .iconst 0, 1), (68, .putfield 110, 3), (71, .aload_n 0, 1), (72, .aload_n 0, 1), (73, .getfield 110, 3), (76, .ifCond .eq 7, 3), (79, .iconst (-1), 1), (80, .goto 12, 3), (83, .aload_n 0, 1), (84, .getfield 10, 3), (87, .getfield 114, 3), (90, .iload_n 2, 1), (91, .iaload, 1), (92, .putfield 63, 3), (95, .aload_n 0, 1), (96, .aload_n 0, 1), (97, .getfield 110, 3), (100, .ifCond .eq 7, 3), (103, .iconst (-1), 1), (104, .goto 12, 3), (107, .aload_n 0, 1), (108, .getfield 10, 3), (111, .getfield 118, 3), (114, .iload_n 2, 1), (115, .iaload, 1), (116, .putfield 67, 3), (119, .aload_n 0, 1), (120, .getfield 110, 3), (123, .ifCond .ne 6, 3), (126, .iload_n 1, 1), (127, .ineg, 1), (128, .ireturn, 1), (129, .aload_n 0, 1), (130, .getfield 37, 3), (133, .invokevirtual 121, 3), (136, .aload_n 0, 1), (137, .getfield 28, 3), (140, .getfield 124, 3), (143, .ireturn, 1)] = true := by decide +kernel
set_option maxRecDepth 100000 in
theorem dtk_X11_fault : dck cX11_fault [(0, .iload_n 1, 1), (1, .ifCond .eq 18, 3), (4, .iload_n 1, 1), (5, .iconst 1, 1), (6, .if_icmp .eq 13, 3), (9, .new 127, 3), (12, .dup, 1), (13, .ldc 129, 2), (15, .invokespecial 131, 3), (18, .athrow, 1), (19, .iload_n 1, 1), (20, .ifCond .ne 10, 3), (23, .aload_n 0, 1), (24, .getfield 63, 3), (27, .goto 7, 3), (30, .aload_n 0, 1), (31, .getfield 67, 3), (34, .ireturn, 1)] = true := by decide +kernel
set_option maxRecDepth 100000 in
set_option maxHeartbeats 4000000 in
theorem kg_X11_fault_0 {G : kG} {q : kP} {d : Nat} {x : gd} {P : Option gv → gd → Prop} {X : String → gd → Prop} (hq : kV q) (l1 : Int32)
    (h : ((l1 = (0 : Int32) → KE G q (d + 6) zk_X11_fault 19 [(0, vr 0), (1, vi l1)] [] x P X) ∧ (¬ (l1 = (0 : Int32)) → ((l1 = (1 : Int32) → KE G q (d + 6) zk_X11_fault 19 [(0, vr 0), (1, vi l1)] [] x P X) ∧ (¬ (l1 = (1 : Int32)) → X iOE x))))) :
    KE G q (d + 6) zk_X11_fault 0 [(0, vr 0), (1, vi l1)] [] x P X := by
  refine T_iload_n 1 (dk dtk_X11_fault 0 rfl) rfl rfl ?_
  refine T_if_eq 19 (dk dtk_X11_fault 1 rfl) (by decide) (fun c1 => ?_) (fun c1 => ?_)
  · have h := h.1 c1
    exact h
  · have h := h.2 c1
    refine T_iload_n 1 (dk dtk_X11_fault 2 rfl) rfl rfl ?_
    refine T_iconst (v := 1) (dk dtk_X11_fault 3 rfl) (by decide +kernel) ?_
    refine T_icmp_eq 19 (dk dtk_X11_fault 4 rfl) (by decide) (fun c2 => ?_) (fun c2 => ?_)
    · have h := h.1 c2
      exact h
    · have h := h.2 c2
      exact T_thr kth_X11_127_129 (dk dtk_X11_fault 5 rfl) (dk dtk_X11_fault 6 rfl) (dk dtk_X11_fault 7 rfl) (dk dtk_X11_fault 8 rfl) (dk dtk_X11_fault 9 rfl) (by intro z hz; cases hz) (by omega) (Nat.le_of_ble_eq_true rfl) (Or.inr ⟨rfl, _, rfl, h⟩)
set_option maxRecDepth 100000 in
set_option maxHeartbeats 4000000 in
theorem kg_X11_fault_19 {G : kG} {q : kP} {d : Nat} {x : gd} {P : Option gv → gd → Prop} {X : String → gd → Prop} (hq : kV q) (l1 : Int32)
    (h : ((¬ (l1 = (0 : Int32)) → P (some (vi (x.1 0 12))) x) ∧ (l1 = (0 : Int32) → P (some (vi (x.1 0 11))) x))) :
    KE G q (d + 6) zk_X11_fault 19 [(0, vr 0), (1, vi l1)] [] x P X := by
  refine T_iload_n 1 (dk dtk_X11_fault 10 rfl) rfl rfl ?_
  refine T_if_ne 30 (dk dtk_X11_fault 11 rfl) (by decide) (fun c1 => ?_) (fun c1 => ?_)
  · have h := h.1 c1
    refine T_aload_n 0 (dk dtk_X11_fault 15 rfl) rfl rfl ?_
    refine T_getI 0 12 (dk dtk_X11_fault 16 rfl) kfl_X11_67 kk_0 (kl_0 hq) (by decide) rfl ?_
    exact KE_iret (dk dtk_X11_fault 17 rfl) rfl rfl h
  · have h := h.2 c1
    refine T_aload_n 0 (dk dtk_X11_fault 12 rfl) rfl rfl ?_
    refine T_getI 0 11 (dk dtk_X11_fault 13 rfl) kfl_X11_63 kk_0 (kl_0 hq) (by decide) rfl ?_
    refine T_goto 34 (dk dtk_X11_fault 14 rfl) (by decide) ?_
    exact KE_iret (dk dtk_X11_fault 17 rfl) rfl rfl h
set_option maxRecDepth 100000 in
theorem dtk_X11_count : dck cX11_count [(0, .iload_n 1, 1), (1, .iconst 5, 1), (2, .invokestatic 132, 3), (5, .aload_n 0, 1), (6, .getfield 110, 3), (9, .ifCond .ne 5, 3), (12, .iconst 0, 1), (13, .ireturn, 1), (14, .iload_n 1, 1), (15, .tableswitch 61 0 3 #[29, 37, 45, 53], 29), (44, .aload_n 0, 1), (45, .getfield 28, 3), (48, .getfield 136, 3), (51, .ireturn, 1), (52, .aload_n 0, 1), (53, .getfield 28, 3), (56, .getfield 139, 3), (59, .ireturn, 1), (60, .aload_n 0, 1), (61, .getfield 28, 3), (64, .getfield 124, 3), (67, .ireturn, 1), (68, .aload_n 0, 1), (69, .getfield 28, 3), (72, .getfield 142, 3), (75, .ireturn, 1), (76, .aload_n 0, 1), (77, .getfield 28, 3), (80, .getfield 145, 3), (83, .ireturn, 1)] = true := by decide +kernel
set_option maxRecDepth 100000 in
set_option maxHeartbeats 4000000 in
theorem kg_X11_count_0 {G : kG} {q : kP} {d : Nat} {x : gd} {P : Option gv → gd → Prop} {X : String → gd → Prop} (hq : kV q) (l1 : Int32)
    (h : KE G q (d + 6) zk_X11_needWhat 0 [(0, vi l1), (1, vi 5)] [] x (rv (fun x1 => ((¬ ((x1.1 0 9) = (0 : Int32)) → (((l1 = 0) → P (some (vi (x1.1 60 6))) x1) ∧ ((l1 = 1) → P (some (vi (x1.1 60 9))) x1) ∧ ((l1 = 2) → P (some (vi (x1.1 60 10))) x1) ∧ ((l1 = 3) → P (some (vi (x1.1 60 14))) x1) ∧ ((∀ k ∈ [(0 : Int32), (1 : Int32), (2 : Int32), (3 : Int32)], ¬ l1 = k) → P (some (vi (x1.1 60 16))) x1))) ∧ ((x1.1 0 9) = (0 : Int32) → P (some (vi 0)) x1)))) X) :
    KE G q (d + 7) zk_X11_count 0 [(0, vr 0), (1, vi l1)] [] x P X := by
  refine T_iload_n 1 (dk dtk_X11_count 0 rfl) rfl rfl ?_
  refine T_iconst (v := 5) (dk dtk_X11_count 1 rfl) (by decide +kernel) ?_
  refine KD_Sv [vi l1, vi 5] [] rfl (dk dtk_X11_count 2 rfl) kcs_X11_132 rfl (Nat.le_of_ble_eq_true rfl) (Nat.le_of_ble_eq_true rfl) (gok_i (av_c (gkr (kl_0 hq)) (av_c rfl av_n)) as_n) rfl h (fun x1 h => ?_)
  refine T_aload_n 0 (dk dtk_X11_count 3 rfl) rfl rfl ?_
  refine T_getI 0 9 (dk dtk_X11_count 4 rfl) kfl_X11_110 kk_0 (kl_0 hq) (by decide) rfl ?_
  refine T_if_ne 14 (dk dtk_X11_count 5 rfl) (by decide) (fun c2 => ?_) (fun c2 => ?_)
  · have h := h.1 c2
    refine T_iload_n 1 (dk dtk_X11_count 8 rfl) rfl rfl ?_
    by_cases c3 : l1 = 0
    · have h := h.1 c3
      refine T_table 29 44 (dk dtk_X11_count 9 rfl) (by decide) (by rw [c3]; decide +kernel) (by decide) ?_
      refine T_aload_n 0 (dk dtk_X11_count 10 rfl) rfl rfl ?_
      refine T_getR 0 2 60 (dk dtk_X11_count 11 rfl) kfl_X11_28 kk_0 (kl_0 hq) (by decide) rfl kr_0_2 ?_
      refine T_getI 60 6 (dk dtk_X11_count 12 rfl) kfl_X11_136 kk_60 (kl_60 hq) (by decide) rfl ?_
      exact KE_iret (dk dtk_X11_count 13 rfl) rfl rfl h
    · have h := h.2
      by_cases c4 : l1 = 1
      · have h := h.1 c4
        refine T_table 37 52 (dk dtk_X11_count 9 rfl) (by decide) (by rw [c4]; decide +kernel) (by decide) ?_
        refine T_aload_n 0 (dk dtk_X11_count 14 rfl) rfl rfl ?_
        refine T_getR 0 2 60 (dk dtk_X11_count 15 rfl) kfl_X11_28 kk_0 (kl_0 hq) (by decide) rfl kr_0_2 ?_
        refine T_getI 60 9 (dk dtk_X11_count 16 rfl) kfl_X11_139 kk_60 (kl_60 hq) (by decide) rfl ?_
        exact KE_iret (dk dtk_X11_count 17 rfl) rfl rfl h
      · have h := h.2
        by_cases c5 : l1 = 2
        · have h := h.1 c5
          refine T_table 45 60 (dk dtk_X11_count 9 rfl) (by decide) (by rw [c5]; decide +kernel) (by decide) ?_
          refine T_aload_n 0 (dk dtk_X11_count 18 rfl) rfl rfl ?_
          refine T_getR 0 2 60 (dk dtk_X11_count 19 rfl) kfl_X11_28 kk_0 (kl_0 hq) (by decide) rfl kr_0_2 ?_
          refine T_getI 60 10 (dk dtk_X11_count 20 rfl) kfl_X11_124 kk_60 (kl_60 hq) (by decide) rfl ?_
          exact KE_iret (dk dtk_X11_count 21 rfl) rfl rfl h
        · have h := h.2
          by_cases c6 : l1 = 3
          · have h := h.1 c6
            refine T_table 53 68 (dk dtk_X11_count 9 rfl) (by decide) (by rw [c6]; decide +kernel) (by decide) ?_
            refine T_aload_n 0 (dk dtk_X11_count 22 rfl) rfl rfl ?_
            refine T_getR 0 2 60 (dk dtk_X11_count 23 rfl) kfl_X11_28 kk_0 (kl_0 hq) (by decide) rfl kr_0_2 ?_
            refine T_getI 60 14 (dk dtk_X11_count 24 rfl) kfl_X11_142 kk_60 (kl_60 hq) (by decide) rfl ?_
            exact KE_iret (dk dtk_X11_count 25 rfl) rfl rfl h
          · have h := h.2
            have n7 : ∀ k ∈ [(0 : Int32), (1 : Int32), (2 : Int32), (3 : Int32)], ¬ l1 = k := (gno c3 (gno c4 (gno c5 (gno c6 gno0))))
            have h := h n7
            refine T_table 61 76 (dk dtk_X11_count 9 rfl) (by decide) (gtab_d [(0 : Int32), (1 : Int32), (2 : Int32), (3 : Int32)] (by decide +kernel) n7) (by decide) ?_
            refine T_aload_n 0 (dk dtk_X11_count 26 rfl) rfl rfl ?_
            refine T_getR 0 2 60 (dk dtk_X11_count 27 rfl) kfl_X11_28 kk_0 (kl_0 hq) (by decide) rfl kr_0_2 ?_
            refine T_getI 60 16 (dk dtk_X11_count 28 rfl) kfl_X11_145 kk_60 (kl_60 hq) (by decide) rfl ?_
            exact KE_iret (dk dtk_X11_count 29 rfl) rfl rfl h
  · have h := h.2 c2
    refine T_iconst (v := 0) (dk dtk_X11_count 6 rfl) (by decide +kernel) ?_
    exact KE_iret (dk dtk_X11_count 7 rfl) rfl rfl h
set_option maxRecDepth 100000 in
theorem dtk_X11_begin : dck cX11_begin [(0, .aload_n 0, 1), (1, .invokevirtual 148, 3), (4, .iload_n 1, 1), (5, .invokestatic 151, 3), (8, .aload_n 0, 1), (9, .iload_n 1, 1), (10, .invokevirtual 154, 3), (13, .aload_n 0, 1), (14, .getfield 46, 3), (17, .getfield 157, 3), (20, .ireturn, 1)] = true := by decide +kernel
set_option maxRecDepth 100000 in
set_option maxHeartbeats 4000000 in
theorem kg_X11_begin_0 {G : kG} {q : kP} {d : Nat} {x : gd} {P : Option gv → gd → Prop} {X : String → gd → Prop} (hq : kV q) (l1 : Int32)
    (h : KE G q (d + 6) zk_X11_needCompiled 0 [(0, vr 0)] [] x (rv (fun x1 => KE G q (d + 6) zk_X11_needWay 0 [(0, vi l1)] [] x1 (rv (fun x2 => KT G q (d + 6) zk_X11_beginRun 0 [(0, vr 0), (1, vi l1)] [] x2 (rv (fun x3 => P (some (vi (x3.1 120 13))) x3)))) X)) X) :
    KE G q (d + 7) zk_X11_begin 0 [(0, vr 0), (1, vi l1)] [] x P X := by
  refine T_aload_n 0 (dk dtk_X11_begin 0 rfl) rfl rfl ?_
  refine KD_Vv [] [] rfl (dk dtk_X11_begin 1 rfl) kcv_X11_148 rfl kk_0 rfl (kl_0 hq) (Nat.le_of_ble_eq_true rfl) (Nat.le_of_ble_eq_true rfl) (gok_i (av_c (gkr (kl_0 hq)) (av_c rfl av_n)) as_n) rfl h (fun x1 h => ?_)
  refine T_iload_n 1 (dk dtk_X11_begin 2 rfl) rfl rfl ?_
  refine KD_Sv [vi l1] [] rfl (dk dtk_X11_begin 3 rfl) kcs_X11_151 rfl (Nat.le_of_ble_eq_true rfl) (Nat.le_of_ble_eq_true rfl) (gok_i (av_c (gkr (kl_0 hq)) (av_c rfl av_n)) as_n) rfl h (fun x2 h => ?_)
  refine T_aload_n 0 (dk dtk_X11_begin 4 rfl) rfl rfl ?_
  refine T_iload_n 1 (dk dtk_X11_begin 5 rfl) rfl rfl ?_
  refine T_sub (lv2 := [(0, vr 0)]) [0] rfl ?_
  refine KC_Vv [vi l1] [] rfl (dk dtk_X11_begin 6 rfl) kcv_X11_154 rfl kk_0 rfl (kl_0 hq) (Nat.le_of_ble_eq_true rfl) (Nat.le_of_ble_eq_true rfl) (gok_i (av_c (gkr (kl_0 hq)) av_n) as_n) rfl h (fun x3 h => ?_)
  refine T_aload_n 0 (dk dtk_X11_begin 7 rfl) rfl rfl ?_
  refine T_getR 0 4 120 (dk dtk_X11_begin 8 rfl) kfl_X11_46 kk_0 (kl_0 hq) (by decide) rfl kr_0_4 ?_
  refine T_getI 120 13 (dk dtk_X11_begin 9 rfl) kfl_X11_157 kk_120 (kl_120 hq) (by decide) rfl ?_
  exact KE_iret (dk dtk_X11_begin 10 rfl) rfl rfl h
set_option maxRecDepth 100000 in
theorem dtk_X11_choices : dck cX11_choices [(0, .aload_n 0, 1), (1, .invokevirtual 160, 3), (4, .aload_n 0, 1), (5, .getfield 46, 3), (8, .getfield 157, 3), (11, .ireturn, 1)] = true := by decide +kernel
set_option maxRecDepth 100000 in
set_option maxHeartbeats 4000000 in
theorem kg_X11_choices_0 {G : kG} {q : kP} {d : Nat} {x : gd} {P : Option gv → gd → Prop} {X : String → gd → Prop} (hq : kV q) 
    (h : KE G q (d + 6) zk_X11_needRun 0 [(0, vr 0)] [] x (rv (fun x1 => P (some (vi (x1.1 120 13))) x1)) X) :
    KE G q (d + 7) zk_X11_choices 0 [(0, vr 0)] [] x P X := by
  refine T_aload_n 0 (dk dtk_X11_choices 0 rfl) rfl rfl ?_
  refine KD_Vv [] [] rfl (dk dtk_X11_choices 1 rfl) kcv_X11_160 rfl kk_0 rfl (kl_0 hq) (Nat.le_of_ble_eq_true rfl) (Nat.le_of_ble_eq_true rfl) (gok_i (av_c (gkr (kl_0 hq)) av_n) as_n) rfl h (fun x1 h => ?_)
  refine T_aload_n 0 (dk dtk_X11_choices 2 rfl) rfl rfl ?_
  refine T_getR 0 4 120 (dk dtk_X11_choices 3 rfl) kfl_X11_46 kk_0 (kl_0 hq) (by decide) rfl kr_0_4 ?_
  refine T_getI 120 13 (dk dtk_X11_choices 4 rfl) kfl_X11_157 kk_120 (kl_120 hq) (by decide) rfl ?_
  exact KE_iret (dk dtk_X11_choices 5 rfl) rfl rfl h
set_option maxRecDepth 100000 in
theorem dtk_X11_choice : dck cX11_choice [(0, .aload_n 0, 1), (1, .invokevirtual 160, 3), (4, .iload_n 1, 1), (5, .aload_n 0, 1), (6, .getfield 46, 3), (9, .getfield 157, 3), (12, .invokestatic 163, 3), (15, .iload_n 2, 1), (16, .iconst 5, 1), (17, .invokestatic 132, 3), (20, .aload_n 0, 1), (21, .getfield 46, 3), (24, .getfield 166, 3), (27, .iload_n 1, 1), (28, .iaload, 1), (29, .istore_n 3, 1), (30, .aload_n 0, 1), (31, .getfield 46, 3), (34, .getfield 169, 3), (37, .iload_n 1, 1), (38, .iaload, 1), (39, .istore 4, 2), (41, .iload_n 2, 1), (42, .tableswitch 91 0 3 #[30, 32, 44, 63], 30), (72, .iload_n 3, 1), (73, .ireturn, 1), (74, .iload 4, 2), (76, .iconst (-1), 1), (77, .if_icmp .ne 7, 3), (80, .iconst 0, 1), (81, .goto 4, 3), (84, .iconst 1, 1), (85, .ireturn, 1), (86, .iload 4, 2), (88, .iconst (-1), 1), (89, .if_icmp .ne 14, 3), (92, .aload_n 0, 1), (93, .getfield 46, 3), (96, .iload_n 3, 1), (97, .invokevirtual 172, 3), (100, .goto 4, 3), (103, .iconst 1, 1), (104, .ireturn, 1), (105, .iload 4, 2), (107, .iconst (-1), 1), (108, .if_icmp .ne 14, 3), (111, .aload_n 0, 1), (112, .getfield 46, 3), (115, .iload_n 3, 1), (116, .invokevirtual 176, 3), (119, .goto 13, 3), (122, .aload_n 0, 1), (123, .getfield 46, 3), (126, .iload_n 3, 1), (127, .iload 4, 2), (129, .invokevirtual 179, 3), (132, .ireturn, 1), (133, .aload_n 0, 1), (134, .getfield 46, 3), (137, .getfield 183, 3), (140, .iload_n 1, 1), (141, .iaload, 1), (142, .ireturn, 1)] = true := by decide +kernel
set_option maxRecDepth 100000 in
set_option maxHeartbeats 4000000 in
theorem kg_X11_choice_0 {G : kG} {q : kP} {d : Nat} {x : gd} {P : Option gv → gd → Prop} {X : String → gd → Prop} (hq : kV q) (l1 : Int32) (l2 : Int32)
    (h : KE G q (d + 6) zk_X11_needRun 0 [(0, vr 0)] [] x (rv (fun x1 => KE G q (d + 6) zk_X11_needIndex 0 [(0, vi l1), (1, vi (x1.1 120 13))] [] x1 (rv (fun x2 => KE G q (d + 6) zk_X11_needWhat 0 [(0, vi l2), (1, vi 5)] [] x2 (rv (fun x3 => vp_in l1 84 ∧ vp_in l1 84 ∧ (((l2 = 0) → P (some (vi (x3.1 131 (l1 : Int32).toNatClampNeg))) x3) ∧ ((l2 = 1) → ((¬ ((x3.1 132 (l1 : Int32).toNatClampNeg) = (-1 : Int32)) → P (some (vi 1)) x3) ∧ ((x3.1 132 (l1 : Int32).toNatClampNeg) = (-1 : Int32) → P (some (vi 0)) x3))) ∧ ((l2 = 2) → ((¬ ((x3.1 132 (l1 : Int32).toNatClampNeg) = (-1 : Int32)) → P (some (vi 1)) x3) ∧ ((x3.1 132 (l1 : Int32).toNatClampNeg) = (-1 : Int32) → KT G q (d + 6) zk_X5_sortOf 0 [(0, vr 120), (1, vi (x3.1 131 (l1 : Int32).toNatClampNeg))] [] x3 (ri (fun r12 x11 => P (some (vi r12)) x11))))) ∧ ((l2 = 3) → ((¬ ((x3.1 132 (l1 : Int32).toNatClampNeg) = (-1 : Int32)) → KT G q (d + 6) zk_X5_lateCell 0 [(0, vr 120), (1, vi (x3.1 131 (l1 : Int32).toNatClampNeg)), (2, vi (x3.1 132 (l1 : Int32).toNatClampNeg))] [] x3 (ri (fun r16 x15 => P (some (vi r16)) x15))) ∧ ((x3.1 132 (l1 : Int32).toNatClampNeg) = (-1 : Int32) → KT G q (d + 6) zk_X5_objectOf 0 [(0, vr 120), (1, vi (x3.1 131 (l1 : Int32).toNatClampNeg))] [] x3 (ri (fun r18 x17 => P (some (vi r18)) x17))))) ∧ ((∀ k ∈ [(0 : Int32), (1 : Int32), (2 : Int32), (3 : Int32)], ¬ l2 = k) → vp_in l1 84 ∧ P (some (vi (x3.1 133 (l1 : Int32).toNatClampNeg))) x3)))) X)) X)) X) :
    KE G q (d + 7) zk_X11_choice 0 [(0, vr 0), (1, vi l1), (2, vi l2)] [] x P X := by
  refine T_aload_n 0 (dk dtk_X11_choice 0 rfl) rfl rfl ?_
  refine KD_Vv [] [] rfl (dk dtk_X11_choice 1 rfl) kcv_X11_160 rfl kk_0 rfl (kl_0 hq) (Nat.le_of_ble_eq_true rfl) (Nat.le_of_ble_eq_true rfl) (gok_i (av_c (gkr (kl_0 hq)) (av_c rfl (av_c rfl av_n))) as_n) rfl h (fun x1 h => ?_)
  refine T_iload_n 1 (dk dtk_X11_choice 2 rfl) rfl rfl ?_
  refine T_aload_n 0 (dk dtk_X11_choice 3 rfl) rfl rfl ?_
  refine T_getR 0 4 120 (dk dtk_X11_choice 4 rfl) kfl_X11_46 kk_0 (kl_0 hq) (by decide) rfl kr_0_4 ?_
  refine T_getI 120 13 (dk dtk_X11_choice 5 rfl) kfl_X11_157 kk_120 (kl_120 hq) (by decide) rfl ?_
  refine KD_Sv [vi l1, vi (x1.1 120 13)] [] rfl (dk dtk_X11_choice 6 rfl) kcs_X11_163 rfl (Nat.le_of_ble_eq_true rfl) (Nat.le_of_ble_eq_true rfl) (gok_i (av_c (gkr (kl_0 hq)) (av_c rfl (av_c rfl av_n))) as_n) rfl h (fun x2 h => ?_)
  refine T_iload_n 2 (dk dtk_X11_choice 7 rfl) rfl rfl ?_
  refine T_iconst (v := 5) (dk dtk_X11_choice 8 rfl) (by decide +kernel) ?_
  refine KD_Sv [vi l2, vi 5] [] rfl (dk dtk_X11_choice 9 rfl) kcs_X11_132 rfl (Nat.le_of_ble_eq_true rfl) (Nat.le_of_ble_eq_true rfl) (gok_i (av_c (gkr (kl_0 hq)) (av_c rfl (av_c rfl av_n))) as_n) rfl h (fun x3 h => ?_)
  refine T_aload_n 0 (dk dtk_X11_choice 10 rfl) rfl rfl ?_
  refine T_getR 0 4 120 (dk dtk_X11_choice 11 rfl) kfl_X11_46 kk_0 (kl_0 hq) (by decide) rfl kr_0_4 ?_
  refine T_getR 120 10 131 (dk dtk_X11_choice 12 rfl) kfl_X11_166 kk_120 (kl_120 hq) (by decide) rfl kr_120_10 ?_
  refine T_iload_n 1 (dk dtk_X11_choice 13 rfl) rfl rfl ?_
  obtain ⟨h4, h⟩ := h
  refine T_iald 131 84 (dk dtk_X11_choice 14 rfl) kk_131 (kl_131 hq) h4 ?_
  refine T_istore_n (lv2 := [(3, vi (x3.1 131 (l1 : Int32).toNatClampNeg)), (0, vr 0), (1, vi l1), (2, vi l2)]) (dk dtk_X11_choice 15 rfl) rfl (by decide) rfl ?_
  refine T_aload_n 1 (dk dtk_X11_choice 16 rfl) rfl rfl ?_
  refine T_getR 0 4 120 (dk dtk_X11_choice 17 rfl) kfl_X11_46 kk_0 (kl_0 hq) (by decide) rfl kr_0_4 ?_
  refine T_getR 120 11 132 (dk dtk_X11_choice 18 rfl) kfl_X11_169 kk_120 (kl_120 hq) (by decide) rfl kr_120_11 ?_
  refine T_iload_n 2 (dk dtk_X11_choice 19 rfl) rfl rfl ?_
  obtain ⟨h5, h⟩ := h
  refine T_iald 132 84 (dk dtk_X11_choice 20 rfl) kk_132 (kl_132 hq) h5 ?_
  refine T_istore (lv2 := [(4, vi (x3.1 132 (l1 : Int32).toNatClampNeg)), (3, vi (x3.1 131 (l1 : Int32).toNatClampNeg)), (0, vr 0), (1, vi l1), (2, vi l2)]) (dk dtk_X11_choice 21 rfl) (by decide) rfl ?_
  refine T_iload_n 4 (dk dtk_X11_choice 22 rfl) rfl rfl ?_
  by_cases c6 : l2 = 0
  · have h := h.1 c6
    refine T_table 30 72 (dk dtk_X11_choice 23 rfl) (by decide) (by rw [c6]; decide +kernel) (by decide) ?_
    refine T_iload_n 1 (dk dtk_X11_choice 24 rfl) rfl rfl ?_
    exact KE_iret (dk dtk_X11_choice 25 rfl) rfl rfl h
  · have h := h.2
    by_cases c7 : l2 = 1
    · have h := h.1 c7
      refine T_table 32 74 (dk dtk_X11_choice 23 rfl) (by decide) (by rw [c7]; decide +kernel) (by decide) ?_
      refine T_iload 0 (dk dtk_X11_choice 26 rfl) rfl ?_
      refine T_iconst (v := (-1)) (dk dtk_X11_choice 27 rfl) (by decide +kernel) ?_
      refine T_icmp_ne 84 (dk dtk_X11_choice 28 rfl) (by decide) (fun c8 => ?_) (fun c8 => ?_)
      · have h := h.1 c8
        refine T_iconst (v := 1) (dk dtk_X11_choice 31 rfl) (by decide +kernel) ?_
        exact KE_iret (dk dtk_X11_choice 32 rfl) rfl rfl h
      · have h := h.2 c8
        refine T_iconst (v := 0) (dk dtk_X11_choice 29 rfl) (by decide +kernel) ?_
        refine T_goto 85 (dk dtk_X11_choice 30 rfl) (by decide) ?_
        exact KE_iret (dk dtk_X11_choice 32 rfl) rfl rfl h
    · have h := h.2
      by_cases c9 : l2 = 2
      · have h := h.1 c9
        refine T_table 44 86 (dk dtk_X11_choice 23 rfl) (by decide) (by rw [c9]; decide +kernel) (by decide) ?_
        refine T_iload 0 (dk dtk_X11_choice 33 rfl) rfl ?_
        refine T_iconst (v := (-1)) (dk dtk_X11_choice 34 rfl) (by decide +kernel) ?_
        refine T_icmp_ne 103 (dk dtk_X11_choice 35 rfl) (by decide) (fun c10 => ?_) (fun c10 => ?_)
        · have h := h.1 c10
          refine T_iconst (v := 1) (dk dtk_X11_choice 41 rfl) (by decide +kernel) ?_
          exact KE_iret (dk dtk_X11_choice 42 rfl) rfl rfl h
        · have h := h.2 c10
          refine T_aload_n 2 (dk dtk_X11_choice 36 rfl) rfl rfl ?_
          refine T_getR 0 4 120 (dk dtk_X11_choice 37 rfl) kfl_X11_46 kk_0 (kl_0 hq) (by decide) rfl kr_0_4 ?_
          refine T_iload_n 1 (dk dtk_X11_choice 38 rfl) rfl rfl ?_
          refine T_sub (lv2 := []) [] rfl ?_
          refine KC_Vi [vi (x3.1 131 (l1 : Int32).toNatClampNeg)] [] rfl (dk dtk_X11_choice 39 rfl) kcv_X11_172 rfl kk_120 rfl (kl_120 hq) (Nat.le_of_ble_eq_true rfl) (Nat.le_of_ble_eq_true rfl) (gok_i av_n as_n) rfl h (fun r12 x11 h => ?_)
          refine T_goto 104 (dk dtk_X11_choice 40 rfl) (by decide) ?_
          exact KE_iret (dk dtk_X11_choice 42 rfl) rfl rfl h
      · have h := h.2
        by_cases c13 : l2 = 3
        · have h := h.1 c13
          refine T_table 63 105 (dk dtk_X11_choice 23 rfl) (by decide) (by rw [c13]; decide +kernel) (by decide) ?_
          refine T_iload 0 (dk dtk_X11_choice 43 rfl) rfl ?_
          refine T_iconst (v := (-1)) (dk dtk_X11_choice 44 rfl) (by decide +kernel) ?_
          refine T_icmp_ne 122 (dk dtk_X11_choice 45 rfl) (by decide) (fun c14 => ?_) (fun c14 => ?_)
          · have h := h.1 c14
            refine T_aload_n 2 (dk dtk_X11_choice 51 rfl) rfl rfl ?_
            refine T_getR 0 4 120 (dk dtk_X11_choice 52 rfl) kfl_X11_46 kk_0 (kl_0 hq) (by decide) rfl kr_0_4 ?_
            refine T_iload_n 1 (dk dtk_X11_choice 53 rfl) rfl rfl ?_
            refine T_iload 0 (dk dtk_X11_choice 54 rfl) rfl ?_
            refine T_sub (lv2 := []) [] rfl ?_
            refine KC_Vi [vi (x3.1 131 (l1 : Int32).toNatClampNeg), vi (x3.1 132 (l1 : Int32).toNatClampNeg)] [] rfl (dk dtk_X11_choice 55 rfl) kcv_X11_179 rfl kk_120 rfl (kl_120 hq) (Nat.le_of_ble_eq_true rfl) (Nat.le_of_ble_eq_true rfl) (gok_i av_n as_n) rfl h (fun r16 x15 h => ?_)
            exact KE_iret (dk dtk_X11_choice 56 rfl) rfl rfl h
          · have h := h.2 c14
            refine T_aload_n 2 (dk dtk_X11_choice 46 rfl) rfl rfl ?_
            refine T_getR 0 4 120 (dk dtk_X11_choice 47 rfl) kfl_X11_46 kk_0 (kl_0 hq) (by decide) rfl kr_0_4 ?_
            refine T_iload_n 1 (dk dtk_X11_choice 48 rfl) rfl rfl ?_
            refine T_sub (lv2 := []) [] rfl ?_
            refine KC_Vi [vi (x3.1 131 (l1 : Int32).toNatClampNeg)] [] rfl (dk dtk_X11_choice 49 rfl) kcv_X11_176 rfl kk_120 rfl (kl_120 hq) (Nat.le_of_ble_eq_true rfl) (Nat.le_of_ble_eq_true rfl) (gok_i av_n as_n) rfl h (fun r18 x17 h => ?_)
            refine T_goto 132 (dk dtk_X11_choice 50 rfl) (by decide) ?_
            exact KE_iret (dk dtk_X11_choice 56 rfl) rfl rfl h
        · have h := h.2
          have n19 : ∀ k ∈ [(0 : Int32), (1 : Int32), (2 : Int32), (3 : Int32)], ¬ l2 = k := (gno c6 (gno c7 (gno c9 (gno c13 gno0))))
          have h := h n19
          refine T_table 91 133 (dk dtk_X11_choice 23 rfl) (by decide) (gtab_d [(0 : Int32), (1 : Int32), (2 : Int32), (3 : Int32)] (by decide +kernel) n19) (by decide) ?_
          refine T_aload_n 2 (dk dtk_X11_choice 57 rfl) rfl rfl ?_
          refine T_getR 0 4 120 (dk dtk_X11_choice 58 rfl) kfl_X11_46 kk_0 (kl_0 hq) (by decide) rfl kr_0_4 ?_
          refine T_getR 120 12 133 (dk dtk_X11_choice 59 rfl) kfl_X11_183 kk_120 (kl_120 hq) (by decide) rfl kr_120_12 ?_
          refine T_iload_n 3 (dk dtk_X11_choice 60 rfl) rfl rfl ?_
          obtain ⟨h20, h⟩ := h
          refine T_iald 133 84 (dk dtk_X11_choice 61 rfl) kk_133 (kl_133 hq) h20 ?_
          exact KE_iret (dk dtk_X11_choice 62 rfl) rfl rfl h
set_option maxRecDepth 100000 in
theorem dtk_X11_go : dck cX11_go [(0, .aload_n 0, 1), (1, .invokevirtual 160, 3), (4, .aload_n 0, 1), (5, .getfield 53, 3), (8, .getfield 186, 3), (11, .sipush 400, 3), (14, .if_icmp .lt 13, 3), (17, .new 102, 3), (20, .dup, 1), (21, .ldc 189, 2), (23, .invokespecial 191, 3), (26, .athrow, 1), (27, .iload_n 1, 1), (28, .aload_n 0, 1), (29, .getfield 46, 3), (32, .getfield 157, 3), (35, .invokestatic 163, 3), (38, .aload_n 0, 1), (39, .iload_n 1, 1), (40, .invokevirtual 192, 3), (43, .aload_n 0, 1), (44, .getfield 46, 3), (47, .getfield 157, 3), (50, .ireturn, 1)] = true := by decide +kernel
set_option maxRecDepth 100000 in
set_option maxHeartbeats 4000000 in
theorem kg_X11_go_0 {G : kG} {q : kP} {d : Nat} {x : gd} {P : Option gv → gd → Prop} {X : String → gd → Prop} (hq : kV q) (l1 : Int32)
    (h : KE G q (d + 6) zk_X11_needRun 0 [(0, vr 0)] [] x (rv (fun x1 => (((x1.1 160 2) < (400 : Int32) → KE G q (d + 6) zk_X11_needIndex 0 [(0, vi l1), (1, vi (x1.1 120 13))] [] x1 (rv (fun x3 => KT G q (d + 6) zk_X11_doChoice 0 [(0, vr 0), (1, vi l1)] [] x3 (rv (fun x4 => P (some (vi (x4.1 120 13))) x4)))) X) ∧ (¬ ((x1.1 160 2) < (400 : Int32)) → X iSE x1)))) X) :
    KE G q (d + 7) zk_X11_go 0 [(0, vr 0), (1, vi l1)] [] x P X := by
  refine T_aload_n 0 (dk dtk_X11_go 0 rfl) rfl rfl ?_
  refine KD_Vv [] [] rfl (dk dtk_X11_go 1 rfl) kcv_X11_160 rfl kk_0 rfl (kl_0 hq) (Nat.le_of_ble_eq_true rfl) (Nat.le_of_ble_eq_true rfl) (gok_i (av_c (gkr (kl_0 hq)) (av_c rfl av_n)) as_n) rfl h (fun x1 h => ?_)
  refine T_aload_n 0 (dk dtk_X11_go 2 rfl) rfl rfl ?_
  refine T_getR 0 5 160 (dk dtk_X11_go 3 rfl) kfl_X11_53 kk_0 (kl_0 hq) (by decide) rfl kr_0_5 ?_
  refine T_getI 160 2 (dk dtk_X11_go 4 rfl) kfl_X11_186 kk_160 (kl_160 hq) (by decide) rfl ?_
  refine T_sipush (v := 400) (dk dtk_X11_go 5 rfl) (by decide +kernel) ?_
  refine T_icmp_lt 27 (dk dtk_X11_go 6 rfl) (by decide) (fun c2 => ?_) (fun c2 => ?_)
  · have h := h.1 c2
    refine T_iload_n 1 (dk dtk_X11_go 12 rfl) rfl rfl ?_
    refine T_aload_n 0 (dk dtk_X11_go 13 rfl) rfl rfl ?_
    refine T_getR 0 4 120 (dk dtk_X11_go 14 rfl) kfl_X11_46 kk_0 (kl_0 hq) (by decide) rfl kr_0_4 ?_
    refine T_getI 120 13 (dk dtk_X11_go 15 rfl) kfl_X11_157 kk_120 (kl_120 hq) (by decide) rfl ?_
    refine KD_Sv [vi l1, vi (x1.1 120 13)] [] rfl (dk dtk_X11_go 16 rfl) kcs_X11_163 rfl (Nat.le_of_ble_eq_true rfl) (Nat.le_of_ble_eq_true rfl) (gok_i (av_c (gkr (kl_0 hq)) (av_c rfl av_n)) as_n) rfl h (fun x3 h => ?_)
    refine T_aload_n 0 (dk dtk_X11_go 17 rfl) rfl rfl ?_
    refine T_iload_n 1 (dk dtk_X11_go 18 rfl) rfl rfl ?_
    refine T_sub (lv2 := [(0, vr 0)]) [0] rfl ?_
    refine KC_Vv [vi l1] [] rfl (dk dtk_X11_go 19 rfl) kcv_X11_192 rfl kk_0 rfl (kl_0 hq) (Nat.le_of_ble_eq_true rfl) (Nat.le_of_ble_eq_true rfl) (gok_i (av_c (gkr (kl_0 hq)) av_n) as_n) rfl h (fun x4 h => ?_)
    refine T_aload_n 0 (dk dtk_X11_go 20 rfl) rfl rfl ?_
    refine T_getR 0 4 120 (dk dtk_X11_go 21 rfl) kfl_X11_46 kk_0 (kl_0 hq) (by decide) rfl kr_0_4 ?_
    refine T_getI 120 13 (dk dtk_X11_go 22 rfl) kfl_X11_157 kk_120 (kl_120 hq) (by decide) rfl ?_
    exact KE_iret (dk dtk_X11_go 23 rfl) rfl rfl h
  · have h := h.2 c2
    exact T_thr kth_X11_102_189 (dk dtk_X11_go 7 rfl) (dk dtk_X11_go 8 rfl) (dk dtk_X11_go 9 rfl) (dk dtk_X11_go 10 rfl) (dk dtk_X11_go 11 rfl) (by intro z hz; cases hz) (by omega) (Nat.le_of_ble_eq_true rfl) (Or.inr ⟨rfl, _, rfl, h⟩)
set_option maxRecDepth 100000 in
theorem dtk_X11_draw : dck cX11_draw [(0, .aload_n 0, 1), (1, .invokevirtual 160, 3), (4, .iload_n 2, 1), (5, .ifCond .lt 10, 3), (8, .iload_n 2, 1), (9, .sipush 400, 3), (12, .if_icmp .le 13, 3), (15, .new 70, 3), (18, .dup, 1), (19, .ldc 195, 2), (21, .invokespecial 74, 3), (24, .athrow, 1), (25, .iload_n 1, 1), (26, .istore_n 3, 1), (27, .iconst 0, 1), (28, .istore 4, 2), (30, .iconst 0, 1), (31, .istore 5, 2), (33, .iload 5, 2), (35, .iload_n 2, 1), (36, .if_icmp .ge 64, 3), (39, .aload_n 0, 1), (40, .getfield 46, 3), (43, .getfield 157, 3), (46, .ifCond .le 54, 3), (49, .aload_n 0, 1), (50, .getfield 53, 3), (53, .getfield 186, 3), (56, .sipush 400, 3), (59, .if_icmp .ge 41, 3), (62, .iload_n 3, 1), (63, .ldc 197, 2), (65, .imul, 1), (66, .sipush 12345, 3), (69, .iadd, 1), (70, .istore_n 3, 1), (71, .aload_n 0, 1), (72, .iload_n 3, 1), (73, .bipush 16, 2), (75, .iushr, 1), (76, .sipush 32767, 3), (79, .iand, 1), (80, .aload_n 0, 1), (81, .getfield 46, 3), (84, .getfield 157, 3), (87, .irem, 1), (88, .invokevirtual 192, 3), (91, .iinc 4 1, 3), (94, .iinc 5 1, 3), (97, .goto (-64), 3), (100, .iload 4, 2), (102, .ireturn, 1)] = true := by decide +kernel
set_option maxRecDepth 100000 in
set_option maxHeartbeats 4000000 in
theorem kg_X11_draw_0 {G : kG} {q : kP} {d : Nat} {x : gd} {P : Option gv → gd → Prop} {X : String → gd → Prop} (hq : kV q) (l1 : Int32) (l2 : Int32)
    (h : KE G q (d + 6) zk_X11_needRun 0 [(0, vr 0)] [] x (rv (fun x1 => ((l2 < (0 : Int32) → KE G q (d + 7) zk_X11_draw 15 [] [] x1 P X) ∧ (¬ (l2 < (0 : Int32)) → ((l2 ≤ (400 : Int32) → KE G q (d + 7) zk_X11_draw 33 [(0, vr 0), (2, vi l2), (3, vi l1), (4, vi 0), (5, vi 0)] [] x1 P X) ∧ (¬ (l2 ≤ (400 : Int32)) → KE G q (d + 7) zk_X11_draw 15 [] [] x1 P X)))))) X) :
    KE G q (d + 7) zk_X11_draw 0 [(0, vr 0), (1, vi l1), (2, vi l2)] [] x P X := by
  refine T_aload_n 0 (dk dtk_X11_draw 0 rfl) rfl rfl ?_
  refine KD_Vv [] [] rfl (dk dtk_X11_draw 1 rfl) kcv_X11_160 rfl kk_0 rfl (kl_0 hq) (Nat.le_of_ble_eq_true rfl) (Nat.le_of_ble_eq_true rfl) (gok_i (av_c (gkr (kl_0 hq)) (av_c rfl (av_c rfl av_n))) as_n) rfl h (fun x1 h => ?_)
  refine T_iload_n 2 (dk dtk_X11_draw 2 rfl) rfl rfl ?_
  refine T_if_lt 15 (dk dtk_X11_draw 3 rfl) (by decide) (fun c2 => ?_) (fun c2 => ?_)
  · have h := h.1 c2
    exact T_sub [] rfl h
  · have h := h.2 c2
    refine T_iload_n 2 (dk dtk_X11_draw 4 rfl) rfl rfl ?_
    refine T_sipush (v := 400) (dk dtk_X11_draw 5 rfl) (by decide +kernel) ?_
    refine T_icmp_le 25 (dk dtk_X11_draw 6 rfl) (by decide) (fun c3 => ?_) (fun c3 => ?_)
    · have h := h.1 c3
      refine T_iload_n 1 (dk dtk_X11_draw 12 rfl) rfl rfl ?_
      refine T_istore_n (lv2 := [(3, vi l1), (0, vr 0), (1, vi l1), (2, vi l2)]) (dk dtk_X11_draw 13 rfl) rfl (by decide) rfl ?_
      refine T_iconst (v := 0) (dk dtk_X11_draw 14 rfl) (by decide +kernel) ?_
      refine T_istore (lv2 := [(4, vi 0), (3, vi l1), (0, vr 0), (1, vi l1), (2, vi l2)]) (dk dtk_X11_draw 15 rfl) (by decide) rfl ?_
      refine T_iconst (v := 0) (dk dtk_X11_draw 16 rfl) (by decide +kernel) ?_
      refine T_istore (lv2 := [(5, vi 0), (4, vi 0), (3, vi l1), (0, vr 0), (1, vi l1), (2, vi l2)]) (dk dtk_X11_draw 17 rfl) (by decide) rfl ?_
      exact T_sub [3, 5, 2, 1, 0] rfl h
    · have h := h.2 c3
      exact T_sub [] rfl h
set_option maxRecDepth 100000 in
set_option maxHeartbeats 4000000 in
theorem kg_X11_draw_15 {G : kG} {q : kP} {d : Nat} {x : gd} {P : Option gv → gd → Prop} {X : String → gd → Prop} (hq : kV q) 
    (h : X iAE x) :
    KE G q (d + 7) zk_X11_draw 15 [] [] x P X := by
  exact T_thr kth_X11_70_195 (dk dtk_X11_draw 7 rfl) (dk dtk_X11_draw 8 rfl) (dk dtk_X11_draw 9 rfl) (dk dtk_X11_draw 10 rfl) (dk dtk_X11_draw 11 rfl) (by intro z hz; cases hz) (by omega) (Nat.le_of_ble_eq_true rfl) (Or.inr ⟨rfl, _, rfl, h⟩)
set_option maxRecDepth 100000 in
set_option maxHeartbeats 4000000 in
theorem kg_X11_draw_33 {G : kG} {q : kP} {d : Nat} {x : gd} {P : Option gv → gd → Prop} {X : String → gd → Prop} (hq : kV q) (l2 : Int32) (l3 : Int32) (l4 : Int32) (l5 : Int32)
    (h : ((l2 ≤ l5 → P (some (vi l4)) x) ∧ (¬ (l2 ≤ l5) → (((x.1 120 13) ≤ (0 : Int32) → P (some (vi l4)) x) ∧ (¬ ((x.1 120 13) ≤ (0 : Int32)) → (((400 : Int32) ≤ (x.1 160 2) → P (some (vi l4)) x) ∧ (¬ ((400 : Int32) ≤ (x.1 160 2)) → ¬ (x.1 120 13) = 0 ∧ KT G q (d + 6) zk_X11_doChoice 0 [(0, vr 0), (1, vi ((((((l3 * 1103515245) + 12345 : Int32).toUInt32 >>> ((16 : Int32).toUInt32 &&& Int32.toUInt32 31)).toInt32) &&& 32767) - (((((l3 * 1103515245) + 12345 : Int32).toUInt32 >>> ((16 : Int32).toUInt32 &&& Int32.toUInt32 31)).toInt32) &&& 32767) / (x.1 120 13) * (x.1 120 13)))] [] x (rv (fun x5 => KE G q (d + 7) zk_X11_draw 33 [(0, vr 0), (2, vi l2), (3, vi ((l3 * 1103515245) + 12345)), (4, vi (l4 + 1)), (5, vi (l5 + 1))] [] x5 P X))))))))) :
    KE G q (d + 7) zk_X11_draw 33 [(0, vr 0), (2, vi l2), (3, vi l3), (4, vi l4), (5, vi l5)] [] x P X := by
  refine T_iload 4 (dk dtk_X11_draw 18 rfl) rfl ?_
  refine T_iload_n 1 (dk dtk_X11_draw 19 rfl) rfl rfl ?_
  refine T_icmp_ge 100 (dk dtk_X11_draw 20 rfl) (by decide) (fun c1 => ?_) (fun c1 => ?_)
  · have h := h.1 c1
    refine T_iload 3 (dk dtk_X11_draw 50 rfl) rfl ?_
    exact KE_iret (dk dtk_X11_draw 51 rfl) rfl rfl h
  · have h := h.2 c1
    refine T_aload_n 0 (dk dtk_X11_draw 21 rfl) rfl rfl ?_
    refine T_getR 0 4 120 (dk dtk_X11_draw 22 rfl) kfl_X11_46 kk_0 (kl_0 hq) (by decide) rfl kr_0_4 ?_
    refine T_getI 120 13 (dk dtk_X11_draw 23 rfl) kfl_X11_157 kk_120 (kl_120 hq) (by decide) rfl ?_
    refine T_if_le 100 (dk dtk_X11_draw 24 rfl) (by decide) (fun c2 => ?_) (fun c2 => ?_)
    · have h := h.1 c2
      refine T_iload 3 (dk dtk_X11_draw 50 rfl) rfl ?_
      exact KE_iret (dk dtk_X11_draw 51 rfl) rfl rfl h
    · have h := h.2 c2
      refine T_aload_n 0 (dk dtk_X11_draw 25 rfl) rfl rfl ?_
      refine T_getR 0 5 160 (dk dtk_X11_draw 26 rfl) kfl_X11_53 kk_0 (kl_0 hq) (by decide) rfl kr_0_5 ?_
      refine T_getI 160 2 (dk dtk_X11_draw 27 rfl) kfl_X11_186 kk_160 (kl_160 hq) (by decide) rfl ?_
      refine T_sipush (v := 400) (dk dtk_X11_draw 28 rfl) (by decide +kernel) ?_
      refine T_icmp_ge 100 (dk dtk_X11_draw 29 rfl) (by decide) (fun c3 => ?_) (fun c3 => ?_)
      · have h := h.1 c3
        refine T_iload 3 (dk dtk_X11_draw 50 rfl) rfl ?_
        exact KE_iret (dk dtk_X11_draw 51 rfl) rfl rfl h
      · have h := h.2 c3
        refine T_iload_n 2 (dk dtk_X11_draw 30 rfl) rfl rfl ?_
        refine T_ldc (v := 1103515245) (dk dtk_X11_draw 31 rfl) kkc_X11_197 ?_
        refine T_imul (dk dtk_X11_draw 32 rfl) ?_
        refine T_sipush (v := 12345) (dk dtk_X11_draw 33 rfl) (by decide +kernel) ?_
        refine T_iadd (dk dtk_X11_draw 34 rfl) ?_
        refine T_istore_n (lv2 := [(3, vi ((l3 * 1103515245) + 12345)), (0, vr 0), (2, vi l2), (4, vi l4), (5, vi l5)]) (dk dtk_X11_draw 35 rfl) rfl (by decide) rfl ?_
        refine T_aload_n 1 (dk dtk_X11_draw 36 rfl) rfl rfl ?_
        refine T_iload_n 0 (dk dtk_X11_draw 37 rfl) rfl rfl ?_
        refine T_bipush (v := 16) (dk dtk_X11_draw 38 rfl) (by decide +kernel) ?_
        refine T_iushr (dk dtk_X11_draw 39 rfl) ?_
        refine T_sipush (v := 32767) (dk dtk_X11_draw 40 rfl) (by decide +kernel) ?_
        refine T_iand (dk dtk_X11_draw 41 rfl) ?_
        refine T_aload_n 1 (dk dtk_X11_draw 42 rfl) rfl rfl ?_
        refine T_getR 0 4 120 (dk dtk_X11_draw 43 rfl) kfl_X11_46 kk_0 (kl_0 hq) (by decide) rfl kr_0_4 ?_
        refine T_getI 120 13 (dk dtk_X11_draw 44 rfl) kfl_X11_157 kk_120 (kl_120 hq) (by decide) rfl ?_
        obtain ⟨h4, h⟩ := h
        refine T_irem (dk dtk_X11_draw 45 rfl) h4 ?_
        refine KC_Vv [vi ((((((l3 * 1103515245) + 12345 : Int32).toUInt32 >>> ((16 : Int32).toUInt32 &&& Int32.toUInt32 31)).toInt32) &&& 32767) - (((((l3 * 1103515245) + 12345 : Int32).toUInt32 >>> ((16 : Int32).toUInt32 &&& Int32.toUInt32 31)).toInt32) &&& 32767) / (x.1 120 13) * (x.1 120 13))] [] rfl (dk dtk_X11_draw 46 rfl) kcv_X11_192 rfl kk_0 rfl (kl_0 hq) (Nat.le_of_ble_eq_true rfl) (Nat.le_of_ble_eq_true rfl) (gok_i (av_c rfl (av_c (gkr (kl_0 hq)) (av_c rfl (av_c rfl (av_c rfl av_n))))) as_n) rfl h (fun x5 h => ?_)
        refine T_iinc (v := l4 + 1) (lv2 := [(4, vi (l4 + 1)), (3, vi ((l3 * 1103515245) + 12345)), (0, vr 0), (2, vi l2), (5, vi l5)]) 3 (dk dtk_X11_draw 47 rfl) rfl rfl (by decide) rfl ?_
        refine T_iinc (v := l5 + 1) (lv2 := [(5, vi (l5 + 1)), (4, vi (l4 + 1)), (3, vi ((l3 * 1103515245) + 12345)), (0, vr 0), (2, vi l2)]) 4 (dk dtk_X11_draw 48 rfl) rfl rfl (by decide) rfl ?_
        refine T_goto 33 (dk dtk_X11_draw 49 rfl) (by decide) ?_
        exact T_sub [3, 4, 2, 1, 0] rfl h
set_option maxRecDepth 100000 in
theorem dtk_X11_again : dck cX11_again [(0, .aload_n 0, 1), (1, .invokevirtual 160, 3), (4, .iload_n 1, 1), (5, .ifCond .lt 14, 3), (8, .iload_n 1, 1), (9, .aload_n 0, 1), (10, .getfield 53, 3), (13, .getfield 186, 3), (16, .if_icmp .le 13, 3), (19, .new 70, 3), (22, .dup, 1), (23, .ldc 198, 2), (25, .invokespecial 74, 3), (28, .athrow, 1), (29, .aload_n 0, 1), (30, .aload_n 0, 1), (31, .getfield 46, 3), (34, .getfield 200, 3), (37, .invokevirtual 154, 3), (40, .iconst 0, 1), (41, .istore_n 2, 1), (42, .iload_n 2, 1), (43, .iload_n 1, 1), (44, .if_icmp .ge 22, 3), (47, .aload_n 0, 1), (48, .aload_n 0, 1), (49, .getfield 53, 3), (52, .getfield 203, 3), (55, .iload_n 2, 1), (56, .iaload, 1), (57, .invokevirtual 192, 3), (60, .iinc 2 1, 3), (63, .goto (-21), 3), (66, .aload_n 0, 1), (67, .getfield 46, 3), (70, .getfield 157, 3), (73, .ireturn, 1)] = true := by decide +kernel
set_option maxRecDepth 100000 in
set_option maxHeartbeats 4000000 in
theorem kg_X11_again_0 {G : kG} {q : kP} {d : Nat} {x : gd} {P : Option gv → gd → Prop} {X : String → gd → Prop} (hq : kV q) (l1 : Int32)
    (h : KE G q (d + 6) zk_X11_needRun 0 [(0, vr 0)] [] x (rv (fun x1 => ((l1 < (0 : Int32) → KE G q (d + 7) zk_X11_again 19 [] [] x1 P X) ∧ (¬ (l1 < (0 : Int32)) → ((l1 ≤ (x1.1 160 2) → KT G q (d + 6) zk_X11_beginRun 0 [(0, vr 0), (1, vi (x1.1 120 3))] [] x1 (rv (fun x4 => KE G q (d + 7) zk_X11_again 42 [(0, vr 0), (1, vi l1), (2, vi 0)] [] x4 P X))) ∧ (¬ (l1 ≤ (x1.1 160 2)) → KE G q (d + 7) zk_X11_again 19 [] [] x1 P X)))))) X) :
    KE G q (d + 7) zk_X11_again 0 [(0, vr 0), (1, vi l1)] [] x P X := by
  refine T_aload_n 0 (dk dtk_X11_again 0 rfl) rfl rfl ?_
  refine KD_Vv [] [] rfl (dk dtk_X11_again 1 rfl) kcv_X11_160 rfl kk_0 rfl (kl_0 hq) (Nat.le_of_ble_eq_true rfl) (Nat.le_of_ble_eq_true rfl) (gok_i (av_c (gkr (kl_0 hq)) (av_c rfl av_n)) as_n) rfl h (fun x1 h => ?_)
  refine T_iload_n 1 (dk dtk_X11_again 2 rfl) rfl rfl ?_
  refine T_if_lt 19 (dk dtk_X11_again 3 rfl) (by decide) (fun c2 => ?_) (fun c2 => ?_)
  · have h := h.1 c2
    exact T_sub [] rfl h
  · have h := h.2 c2
    refine T_iload_n 1 (dk dtk_X11_again 4 rfl) rfl rfl ?_
    refine T_aload_n 0 (dk dtk_X11_again 5 rfl) rfl rfl ?_
    refine T_getR 0 5 160 (dk dtk_X11_again 6 rfl) kfl_X11_53 kk_0 (kl_0 hq) (by decide) rfl kr_0_5 ?_
    refine T_getI 160 2 (dk dtk_X11_again 7 rfl) kfl_X11_186 kk_160 (kl_160 hq) (by decide) rfl ?_
    refine T_icmp_le 29 (dk dtk_X11_again 8 rfl) (by decide) (fun c3 => ?_) (fun c3 => ?_)
    · have h := h.1 c3
      refine T_aload_n 0 (dk dtk_X11_again 14 rfl) rfl rfl ?_
      refine T_aload_n 0 (dk dtk_X11_again 15 rfl) rfl rfl ?_
      refine T_getR 0 4 120 (dk dtk_X11_again 16 rfl) kfl_X11_46 kk_0 (kl_0 hq) (by decide) rfl kr_0_4 ?_
      refine T_getI 120 3 (dk dtk_X11_again 17 rfl) kfl_X11_200 kk_120 (kl_120 hq) (by decide) rfl ?_
      refine KC_Vv [vi (x1.1 120 3)] [] rfl (dk dtk_X11_again 18 rfl) kcv_X11_154 rfl kk_0 rfl (kl_0 hq) (Nat.le_of_ble_eq_true rfl) (Nat.le_of_ble_eq_true rfl) (gok_i (av_c (gkr (kl_0 hq)) (av_c rfl av_n)) as_n) rfl h (fun x4 h => ?_)
      refine T_iconst (v := 0) (dk dtk_X11_again 19 rfl) (by decide +kernel) ?_
      refine T_istore_n (lv2 := [(2, vi 0), (0, vr 0), (1, vi l1)]) (dk dtk_X11_again 20 rfl) rfl (by decide) rfl ?_
      exact T_sub [1, 2, 0] rfl h
    · have h := h.2 c3
      exact T_sub [] rfl h
set_option maxRecDepth 100000 in
set_option maxHeartbeats 4000000 in
theorem kg_X11_again_19 {G : kG} {q : kP} {d : Nat} {x : gd} {P : Option gv → gd → Prop} {X : String → gd → Prop} (hq : kV q) 
    (h : X iAE x) :
    KE G q (d + 7) zk_X11_again 19 [] [] x P X := by
  exact T_thr kth_X11_70_198 (dk dtk_X11_again 9 rfl) (dk dtk_X11_again 10 rfl) (dk dtk_X11_again 11 rfl) (dk dtk_X11_again 12 rfl) (dk dtk_X11_again 13 rfl) (by intro z hz; cases hz) (by omega) (Nat.le_of_ble_eq_true rfl) (Or.inr ⟨rfl, _, rfl, h⟩)
set_option maxRecDepth 100000 in
set_option maxHeartbeats 4000000 in
theorem kg_X11_again_42 {G : kG} {q : kP} {d : Nat} {x : gd} {P : Option gv → gd → Prop} {X : String → gd → Prop} (hq : kV q) (l1 : Int32) (l2 : Int32)
    (h : ((l1 ≤ l2 → P (some (vi (x.1 120 13))) x) ∧ (¬ (l1 ≤ l2) → vp_in l2 400 ∧ KT G q (d + 6) zk_X11_doChoice 0 [(0, vr 0), (1, vi (x.1 162 (l2 : Int32).toNatClampNeg))] [] x (rv (fun x3 => KE G q (d + 7) zk_X11_again 42 [(0, vr 0), (1, vi l1), (2, vi (l2 + 1))] [] x3 P X))))) :
    KE G q (d + 7) zk_X11_again 42 [(0, vr 0), (1, vi l1), (2, vi l2)] [] x P X := by
  refine T_iload_n 2 (dk dtk_X11_again 21 rfl) rfl rfl ?_
  refine T_iload_n 1 (dk dtk_X11_again 22 rfl) rfl rfl ?_
  refine T_icmp_ge 66 (dk dtk_X11_again 23 rfl) (by decide) (fun c1 => ?_) (fun c1 => ?_)
  · have h := h.1 c1
    refine T_aload_n 0 (dk dtk_X11_again 33 rfl) rfl rfl ?_
    refine T_getR 0 4 120 (dk dtk_X11_again 34 rfl) kfl_X11_46 kk_0 (kl_0 hq) (by decide) rfl kr_0_4 ?_
    refine T_getI 120 13 (dk dtk_X11_again 35 rfl) kfl_X11_157 kk_120 (kl_120 hq) (by decide) rfl ?_
    exact KE_iret (dk dtk_X11_again 36 rfl) rfl rfl h
  · have h := h.2 c1
    refine T_aload_n 0 (dk dtk_X11_again 24 rfl) rfl rfl ?_
    refine T_aload_n 0 (dk dtk_X11_again 25 rfl) rfl rfl ?_
    refine T_getR 0 5 160 (dk dtk_X11_again 26 rfl) kfl_X11_53 kk_0 (kl_0 hq) (by decide) rfl kr_0_5 ?_
    refine T_getR 160 1 162 (dk dtk_X11_again 27 rfl) kfl_X11_203 kk_160 (kl_160 hq) (by decide) rfl kr_160_1 ?_
    refine T_iload_n 2 (dk dtk_X11_again 28 rfl) rfl rfl ?_
    obtain ⟨h2, h⟩ := h
    refine T_iald 162 400 (dk dtk_X11_again 29 rfl) kk_162 (kl_162 hq) h2 ?_
    refine KC_Vv [vi (x.1 162 (l2 : Int32).toNatClampNeg)] [] rfl (dk dtk_X11_again 30 rfl) kcv_X11_192 rfl kk_0 rfl (kl_0 hq) (Nat.le_of_ble_eq_true rfl) (Nat.le_of_ble_eq_true rfl) (gok_i (av_c (gkr (kl_0 hq)) (av_c rfl (av_c rfl av_n))) as_n) rfl h (fun x3 h => ?_)
    refine T_iinc (v := l2 + 1) (lv2 := [(2, vi (l2 + 1)), (0, vr 0), (1, vi l1)]) 2 (dk dtk_X11_again 31 rfl) rfl rfl (by decide) rfl ?_
    refine T_goto 42 (dk dtk_X11_again 32 rfl) (by decide) ?_
    exact T_sub [1, 2, 0] rfl h
set_option maxRecDepth 100000 in
theorem dtk_X11_run : dck cX11_run [(0, .aload_n 0, 1), (1, .invokevirtual 160, 3), (4, .iload_n 1, 1), (5, .bipush 8, 2), (7, .invokestatic 132, 3), (10, .iload_n 1, 1), (11, .tableswitch 113 0 6 #[41, 49, 57, 65, 81, 97, 105], 41), (52, .aload_n 0, 1), (53, .getfield 46, 3), (56, .getfield 200, 3), (59, .ireturn, 1), (60, .aload_n 0, 1), (61, .getfield 53, 3), (64, .getfield 186, 3), (67, .ireturn, 1), (68, .aload_n 0, 1), (69, .getfield 53, 3), (72, .getfield 206, 3), (75, .ireturn, 1), (76, .aload_n 0, 1), (77, .getfield 46, 3), (80, .getfield 157, 3), (83, .ifCond .ne 7, 3), (86, .iconst 1, 1), (87, .goto 4, 3), (90, .iconst 0, 1), (91, .ireturn, 1), (92, .aload_n 0, 1), (93, .getfield 46, 3), (96, .invokevirtual 209, 3), (99, .ifCond .eq 7, 3), (102, .iconst 1, 1), (103, .goto 4, 3), (106, .iconst 0, 1), (107, .ireturn, 1), (108, .aload_n 0, 1), (109, .getfield 53, 3), (112, .invokevirtual 213, 3), (115, .ireturn, 1), (116, .aload_n 0, 1), (117, .getfield 53, 3), (120, .getfield 216, 3), (123, .ireturn, 1), (124, .aload_n 0, 1), (125, .getfield 46, 3), (128, .invokevirtual 219, 3), (131, .ireturn, 1)] = true := by decide +kernel
set_option maxRecDepth 100000 in
set_option maxHeartbeats 4000000 in
theorem kg_X11_run_0 {G : kG} {q : kP} {d : Nat} {x : gd} {P : Option gv → gd → Prop} {X : String → gd → Prop} (hq : kV q) (l1 : Int32)
    (h : KE G q (d + 6) zk_X11_needRun 0 [(0, vr 0)] [] x (rv (fun x1 => KE G q (d + 6) zk_X11_needWhat 0 [(0, vi l1), (1, vi 8)] [] x1 (rv (fun x2 => (((l1 = 0) → P (some (vi (x2.1 120 3))) x2) ∧ ((l1 = 1) → P (some (vi (x2.1 160 2))) x2) ∧ ((l1 = 2) → P (some (vi (x2.1 160 3))) x2) ∧ ((l1 = 3) → ((¬ ((x2.1 120 13) = (0 : Int32)) → P (some (vi 0)) x2) ∧ ((x2.1 120 13) = (0 : Int32) → P (some (vi 1)) x2))) ∧ ((l1 = 4) → KT G q (d + 6) zk_X5_isStuck 0 [(0, vr 120)] [] x2 (ri (fun r10 x9 => ((r10 = (0 : Int32) → P (some (vi 0)) x9) ∧ (¬ (r10 = (0 : Int32)) → P (some (vi 1)) x9))))) ∧ ((l1 = 5) → KT G q (d + 6) zk_X4_races 0 [(0, vr 160)] [] x2 (ri (fun r14 x13 => P (some (vi r14)) x13))) ∧ ((l1 = 6) → P (some (vi (x2.1 160 4))) x2) ∧ ((∀ k ∈ [(0 : Int32), (1 : Int32), (2 : Int32), (3 : Int32), (4 : Int32), (5 : Int32), (6 : Int32)], ¬ l1 = k) → KT G q (d + 6) zk_X5_allLate 0 [(0, vr 120)] [] x2 (ri (fun r18 x17 => P (some (vi r18)) x17)))))) X)) X) :
    KE G q (d + 7) zk_X11_run 0 [(0, vr 0), (1, vi l1)] [] x P X := by
  refine T_aload_n 0 (dk dtk_X11_run 0 rfl) rfl rfl ?_
  refine KD_Vv [] [] rfl (dk dtk_X11_run 1 rfl) kcv_X11_160 rfl kk_0 rfl (kl_0 hq) (Nat.le_of_ble_eq_true rfl) (Nat.le_of_ble_eq_true rfl) (gok_i (av_c (gkr (kl_0 hq)) (av_c rfl av_n)) as_n) rfl h (fun x1 h => ?_)
  refine T_iload_n 1 (dk dtk_X11_run 2 rfl) rfl rfl ?_
  refine T_bipush (v := 8) (dk dtk_X11_run 3 rfl) (by decide +kernel) ?_
  refine KD_Sv [vi l1, vi 8] [] rfl (dk dtk_X11_run 4 rfl) kcs_X11_132 rfl (Nat.le_of_ble_eq_true rfl) (Nat.le_of_ble_eq_true rfl) (gok_i (av_c (gkr (kl_0 hq)) (av_c rfl av_n)) as_n) rfl h (fun x2 h => ?_)
  refine T_iload_n 1 (dk dtk_X11_run 5 rfl) rfl rfl ?_
  by_cases c3 : l1 = 0
  · have h := h.1 c3
    refine T_table 41 52 (dk dtk_X11_run 6 rfl) (by decide) (by rw [c3]; decide +kernel) (by decide) ?_
    refine T_aload_n 0 (dk dtk_X11_run 7 rfl) rfl rfl ?_
    refine T_getR 0 4 120 (dk dtk_X11_run 8 rfl) kfl_X11_46 kk_0 (kl_0 hq) (by decide) rfl kr_0_4 ?_
    refine T_getI 120 3 (dk dtk_X11_run 9 rfl) kfl_X11_200 kk_120 (kl_120 hq) (by decide) rfl ?_
    exact KE_iret (dk dtk_X11_run 10 rfl) rfl rfl h
  · have h := h.2
    by_cases c4 : l1 = 1
    · have h := h.1 c4
      refine T_table 49 60 (dk dtk_X11_run 6 rfl) (by decide) (by rw [c4]; decide +kernel) (by decide) ?_
      refine T_aload_n 0 (dk dtk_X11_run 11 rfl) rfl rfl ?_
      refine T_getR 0 5 160 (dk dtk_X11_run 12 rfl) kfl_X11_53 kk_0 (kl_0 hq) (by decide) rfl kr_0_5 ?_
      refine T_getI 160 2 (dk dtk_X11_run 13 rfl) kfl_X11_186 kk_160 (kl_160 hq) (by decide) rfl ?_
      exact KE_iret (dk dtk_X11_run 14 rfl) rfl rfl h
    · have h := h.2
      by_cases c5 : l1 = 2
      · have h := h.1 c5
        refine T_table 57 68 (dk dtk_X11_run 6 rfl) (by decide) (by rw [c5]; decide +kernel) (by decide) ?_
        refine T_aload_n 0 (dk dtk_X11_run 15 rfl) rfl rfl ?_
        refine T_getR 0 5 160 (dk dtk_X11_run 16 rfl) kfl_X11_53 kk_0 (kl_0 hq) (by decide) rfl kr_0_5 ?_
        refine T_getI 160 3 (dk dtk_X11_run 17 rfl) kfl_X11_206 kk_160 (kl_160 hq) (by decide) rfl ?_
        exact KE_iret (dk dtk_X11_run 18 rfl) rfl rfl h
      · have h := h.2
        by_cases c6 : l1 = 3
        · have h := h.1 c6
          refine T_table 65 76 (dk dtk_X11_run 6 rfl) (by decide) (by rw [c6]; decide +kernel) (by decide) ?_
          refine T_aload_n 0 (dk dtk_X11_run 19 rfl) rfl rfl ?_
          refine T_getR 0 4 120 (dk dtk_X11_run 20 rfl) kfl_X11_46 kk_0 (kl_0 hq) (by decide) rfl kr_0_4 ?_
          refine T_getI 120 13 (dk dtk_X11_run 21 rfl) kfl_X11_157 kk_120 (kl_120 hq) (by decide) rfl ?_
          refine T_if_ne 90 (dk dtk_X11_run 22 rfl) (by decide) (fun c7 => ?_) (fun c7 => ?_)
          · have h := h.1 c7
            refine T_iconst (v := 0) (dk dtk_X11_run 25 rfl) (by decide +kernel) ?_
            exact KE_iret (dk dtk_X11_run 26 rfl) rfl rfl h
          · have h := h.2 c7
            refine T_iconst (v := 1) (dk dtk_X11_run 23 rfl) (by decide +kernel) ?_
            refine T_goto 91 (dk dtk_X11_run 24 rfl) (by decide) ?_
            exact KE_iret (dk dtk_X11_run 26 rfl) rfl rfl h
        · have h := h.2
          by_cases c8 : l1 = 4
          · have h := h.1 c8
            refine T_table 81 92 (dk dtk_X11_run 6 rfl) (by decide) (by rw [c8]; decide +kernel) (by decide) ?_
            refine T_aload_n 0 (dk dtk_X11_run 27 rfl) rfl rfl ?_
            refine T_getR 0 4 120 (dk dtk_X11_run 28 rfl) kfl_X11_46 kk_0 (kl_0 hq) (by decide) rfl kr_0_4 ?_
            refine T_sub (lv2 := []) [] rfl ?_
            refine KC_Vi [] [] rfl (dk dtk_X11_run 29 rfl) kcv_X11_209 rfl kk_120 rfl (kl_120 hq) (Nat.le_of_ble_eq_true rfl) (Nat.le_of_ble_eq_true rfl) (gok_i av_n as_n) rfl h (fun r10 x9 h => ?_)
            refine T_if_eq 106 (dk dtk_X11_run 30 rfl) (by decide) (fun c11 => ?_) (fun c11 => ?_)
            · have h := h.1 c11
              refine T_iconst (v := 0) (dk dtk_X11_run 33 rfl) (by decide +kernel) ?_
              exact KE_iret (dk dtk_X11_run 34 rfl) rfl rfl h
            · have h := h.2 c11
              refine T_iconst (v := 1) (dk dtk_X11_run 31 rfl) (by decide +kernel) ?_
              refine T_goto 107 (dk dtk_X11_run 32 rfl) (by decide) ?_
              exact KE_iret (dk dtk_X11_run 34 rfl) rfl rfl h
          · have h := h.2
            by_cases c12 : l1 = 5
            · have h := h.1 c12
              refine T_table 97 108 (dk dtk_X11_run 6 rfl) (by decide) (by rw [c12]; decide +kernel) (by decide) ?_
              refine T_aload_n 0 (dk dtk_X11_run 35 rfl) rfl rfl ?_
              refine T_getR 0 5 160 (dk dtk_X11_run 36 rfl) kfl_X11_53 kk_0 (kl_0 hq) (by decide) rfl kr_0_5 ?_
              refine T_sub (lv2 := []) [] rfl ?_
              refine KC_Vi [] [] rfl (dk dtk_X11_run 37 rfl) kcv_X11_213 rfl kk_160 rfl (kl_160 hq) (Nat.le_of_ble_eq_true rfl) (Nat.le_of_ble_eq_true rfl) (gok_i av_n as_n) rfl h (fun r14 x13 h => ?_)
              exact KE_iret (dk dtk_X11_run 38 rfl) rfl rfl h
            · have h := h.2
              by_cases c15 : l1 = 6
              · have h := h.1 c15
                refine T_table 105 116 (dk dtk_X11_run 6 rfl) (by decide) (by rw [c15]; decide +kernel) (by decide) ?_
                refine T_aload_n 0 (dk dtk_X11_run 39 rfl) rfl rfl ?_
                refine T_getR 0 5 160 (dk dtk_X11_run 40 rfl) kfl_X11_53 kk_0 (kl_0 hq) (by decide) rfl kr_0_5 ?_
                refine T_getI 160 4 (dk dtk_X11_run 41 rfl) kfl_X11_216 kk_160 (kl_160 hq) (by decide) rfl ?_
                exact KE_iret (dk dtk_X11_run 42 rfl) rfl rfl h
              · have h := h.2
                have n16 : ∀ k ∈ [(0 : Int32), (1 : Int32), (2 : Int32), (3 : Int32), (4 : Int32), (5 : Int32), (6 : Int32)], ¬ l1 = k := (gno c3 (gno c4 (gno c5 (gno c6 (gno c8 (gno c12 (gno c15 gno0)))))))
                have h := h n16
                refine T_table 113 124 (dk dtk_X11_run 6 rfl) (by decide) (gtab_d [(0 : Int32), (1 : Int32), (2 : Int32), (3 : Int32), (4 : Int32), (5 : Int32), (6 : Int32)] (by decide +kernel) n16) (by decide) ?_
                refine T_aload_n 0 (dk dtk_X11_run 43 rfl) rfl rfl ?_
                refine T_getR 0 4 120 (dk dtk_X11_run 44 rfl) kfl_X11_46 kk_0 (kl_0 hq) (by decide) rfl kr_0_4 ?_
                refine T_sub (lv2 := []) [] rfl ?_
                refine KC_Vi [] [] rfl (dk dtk_X11_run 45 rfl) kcv_X11_219 rfl kk_120 rfl (kl_120 hq) (Nat.le_of_ble_eq_true rfl) (Nat.le_of_ble_eq_true rfl) (gok_i av_n as_n) rfl h (fun r18 x17 h => ?_)
                exact KE_iret (dk dtk_X11_run 46 rfl) rfl rfl h
set_option maxRecDepth 100000 in
theorem dtk_X11_cell : dck cX11_cell [(0, .aload_n 0, 1), (1, .invokevirtual 160, 3), (4, .iload_n 1, 1), (5, .aload_n 0, 1), (6, .getfield 28, 3), (9, .getfield 136, 3), (12, .invokestatic 163, 3), (15, .aload_n 0, 1), (16, .getfield 46, 3), (19, .getfield 222, 3), (22, .iload_n 1, 1), (23, .iaload, 1), (24, .ireturn, 1)] = true := by decide +kernel
set_option maxRecDepth 100000 in
set_option maxHeartbeats 4000000 in
theorem kg_X11_cell_0 {G : kG} {q : kP} {d : Nat} {x : gd} {P : Option gv → gd → Prop} {X : String → gd → Prop} (hq : kV q) (l1 : Int32)
    (h : KE G q (d + 6) zk_X11_needRun 0 [(0, vr 0)] [] x (rv (fun x1 => KE G q (d + 6) zk_X11_needIndex 0 [(0, vi l1), (1, vi (x1.1 60 6))] [] x1 (rv (fun x2 => vp_in l1 228 ∧ P (some (vi (x2.1 125 (l1 : Int32).toNatClampNeg))) x2)) X)) X) :
    KE G q (d + 7) zk_X11_cell 0 [(0, vr 0), (1, vi l1)] [] x P X := by
  refine T_aload_n 0 (dk dtk_X11_cell 0 rfl) rfl rfl ?_
  refine KD_Vv [] [] rfl (dk dtk_X11_cell 1 rfl) kcv_X11_160 rfl kk_0 rfl (kl_0 hq) (Nat.le_of_ble_eq_true rfl) (Nat.le_of_ble_eq_true rfl) (gok_i (av_c (gkr (kl_0 hq)) (av_c rfl av_n)) as_n) rfl h (fun x1 h => ?_)
  refine T_iload_n 1 (dk dtk_X11_cell 2 rfl) rfl rfl ?_
  refine T_aload_n 0 (dk dtk_X11_cell 3 rfl) rfl rfl ?_
  refine T_getR 0 2 60 (dk dtk_X11_cell 4 rfl) kfl_X11_28 kk_0 (kl_0 hq) (by decide) rfl kr_0_2 ?_
  refine T_getI 60 6 (dk dtk_X11_cell 5 rfl) kfl_X11_136 kk_60 (kl_60 hq) (by decide) rfl ?_
  refine KD_Sv [vi l1, vi (x1.1 60 6)] [] rfl (dk dtk_X11_cell 6 rfl) kcs_X11_163 rfl (Nat.le_of_ble_eq_true rfl) (Nat.le_of_ble_eq_true rfl) (gok_i (av_c (gkr (kl_0 hq)) (av_c rfl av_n)) as_n) rfl h (fun x2 h => ?_)
  refine T_aload_n 0 (dk dtk_X11_cell 7 rfl) rfl rfl ?_
  refine T_getR 0 4 120 (dk dtk_X11_cell 8 rfl) kfl_X11_46 kk_0 (kl_0 hq) (by decide) rfl kr_0_4 ?_
  refine T_getR 120 4 125 (dk dtk_X11_cell 9 rfl) kfl_X11_222 kk_120 (kl_120 hq) (by decide) rfl kr_120_4 ?_
  refine T_iload_n 1 (dk dtk_X11_cell 10 rfl) rfl rfl ?_
  obtain ⟨h3, h⟩ := h
  refine T_iald 125 228 (dk dtk_X11_cell 11 rfl) kk_125 (kl_125 hq) h3 ?_
  exact KE_iret (dk dtk_X11_cell 12 rfl) rfl rfl h
set_option maxRecDepth 100000 in
theorem dtk_X11_seen : dck cX11_seen [(0, .aload_n 0, 1), (1, .invokevirtual 160, 3), (4, .iload_n 1, 1), (5, .aload_n 0, 1), (6, .getfield 28, 3), (9, .getfield 124, 3), (12, .invokestatic 163, 3), (15, .iload_n 2, 1), (16, .aload_n 0, 1), (17, .getfield 28, 3), (20, .getfield 136, 3), (23, .invokestatic 163, 3), (26, .aload_n 0, 1), (27, .getfield 46, 3), (30, .iload_n 1, 1), (31, .iload_n 2, 1), (32, .invokevirtual 225, 3), (35, .ireturn, 1)] = true := by decide +kernel
set_option maxRecDepth 100000 in
set_option maxHeartbeats 4000000 in
theorem kg_X11_seen_0 {G : kG} {q : kP} {d : Nat} {x : gd} {P : Option gv → gd → Prop} {X : String → gd → Prop} (hq : kV q) (l1 : Int32) (l2 : Int32)
    (h : KE G q (d + 6) zk_X11_needRun 0 [(0, vr 0)] [] x (rv (fun x1 => KE G q (d + 6) zk_X11_needIndex 0 [(0, vi l1), (1, vi (x1.1 60 10))] [] x1 (rv (fun x2 => KE G q (d + 6) zk_X11_needIndex 0 [(0, vi l2), (1, vi (x2.1 60 6))] [] x2 (rv (fun x3 => KT G q (d + 6) zk_X5_seenBy 0 [(0, vr 120), (1, vi l1), (2, vi l2)] [] x3 (ri (fun r5 x4 => P (some (vi r5)) x4)))) X)) X)) X) :
    KE G q (d + 7) zk_X11_seen 0 [(0, vr 0), (1, vi l1), (2, vi l2)] [] x P X := by
  refine T_aload_n 0 (dk dtk_X11_seen 0 rfl) rfl rfl ?_
  refine KD_Vv [] [] rfl (dk dtk_X11_seen 1 rfl) kcv_X11_160 rfl kk_0 rfl (kl_0 hq) (Nat.le_of_ble_eq_true rfl) (Nat.le_of_ble_eq_true rfl) (gok_i (av_c (gkr (kl_0 hq)) (av_c rfl (av_c rfl av_n))) as_n) rfl h (fun x1 h => ?_)
  refine T_iload_n 1 (dk dtk_X11_seen 2 rfl) rfl rfl ?_
  refine T_aload_n 0 (dk dtk_X11_seen 3 rfl) rfl rfl ?_
  refine T_getR 0 2 60 (dk dtk_X11_seen 4 rfl) kfl_X11_28 kk_0 (kl_0 hq) (by decide) rfl kr_0_2 ?_
  refine T_getI 60 10 (dk dtk_X11_seen 5 rfl) kfl_X11_124 kk_60 (kl_60 hq) (by decide) rfl ?_
  refine KD_Sv [vi l1, vi (x1.1 60 10)] [] rfl (dk dtk_X11_seen 6 rfl) kcs_X11_163 rfl (Nat.le_of_ble_eq_true rfl) (Nat.le_of_ble_eq_true rfl) (gok_i (av_c (gkr (kl_0 hq)) (av_c rfl (av_c rfl av_n))) as_n) rfl h (fun x2 h => ?_)
  refine T_iload_n 2 (dk dtk_X11_seen 7 rfl) rfl rfl ?_
  refine T_aload_n 0 (dk dtk_X11_seen 8 rfl) rfl rfl ?_
  refine T_getR 0 2 60 (dk dtk_X11_seen 9 rfl) kfl_X11_28 kk_0 (kl_0 hq) (by decide) rfl kr_0_2 ?_
  refine T_getI 60 6 (dk dtk_X11_seen 10 rfl) kfl_X11_136 kk_60 (kl_60 hq) (by decide) rfl ?_
  refine KD_Sv [vi l2, vi (x2.1 60 6)] [] rfl (dk dtk_X11_seen 11 rfl) kcs_X11_163 rfl (Nat.le_of_ble_eq_true rfl) (Nat.le_of_ble_eq_true rfl) (gok_i (av_c (gkr (kl_0 hq)) (av_c rfl (av_c rfl av_n))) as_n) rfl h (fun x3 h => ?_)
  refine T_aload_n 0 (dk dtk_X11_seen 12 rfl) rfl rfl ?_
  refine T_getR 0 4 120 (dk dtk_X11_seen 13 rfl) kfl_X11_46 kk_0 (kl_0 hq) (by decide) rfl kr_0_4 ?_
  refine T_iload_n 1 (dk dtk_X11_seen 14 rfl) rfl rfl ?_
  refine T_iload_n 2 (dk dtk_X11_seen 15 rfl) rfl rfl ?_
  refine T_sub (lv2 := []) [] rfl ?_
  refine KC_Vi [vi l1, vi l2] [] rfl (dk dtk_X11_seen 16 rfl) kcv_X11_225 rfl kk_120 rfl (kl_120 hq) (Nat.le_of_ble_eq_true rfl) (Nat.le_of_ble_eq_true rfl) (gok_i av_n as_n) rfl h (fun r5 x4 h => ?_)
  exact KE_iret (dk dtk_X11_seen 17 rfl) rfl rfl h
set_option maxRecDepth 100000 in
theorem dtk_X11_lock : dck cX11_lock [(0, .aload_n 0, 1), (1, .invokevirtual 160, 3), (4, .iload_n 1, 1), (5, .aload_n 0, 1), (6, .getfield 28, 3), (9, .getfield 139, 3), (12, .invokestatic 163, 3), (15, .iload_n 2, 1), (16, .iconst 3, 1), (17, .invokestatic 132, 3), (20, .iload_n 2, 1), (21, .lookupswitch 45 #[(0, 27), (1, 36)], 27), (48, .aload_n 0, 1), (49, .getfield 46, 3), (52, .iload_n 1, 1), (53, .invokevirtual 228, 3), (56, .ireturn, 1), (57, .aload_n 0, 1), (58, .getfield 46, 3), (61, .iload_n 1, 1), (62, .invokevirtual 231, 3), (65, .ireturn, 1), (66, .aload_n 0, 1), (67, .getfield 46, 3), (70, .iload_n 1, 1), (71, .invokevirtual 234, 3), (74, .invokestatic 237, 3), (77, .ireturn, 1)] = true := by decide +kernel
set_option maxRecDepth 100000 in
set_option maxHeartbeats 4000000 in
theorem kg_X11_lock_0 {G : kG} {q : kP} {d : Nat} {x : gd} {P : Option gv → gd → Prop} {X : String → gd → Prop} (hq : kV q) (l1 : Int32) (l2 : Int32)
    (h : KE G q (d + 6) zk_X11_needRun 0 [(0, vr 0)] [] x (rv (fun x1 => KE G q (d + 6) zk_X11_needIndex 0 [(0, vi l1), (1, vi (x1.1 60 9))] [] x1 (rv (fun x2 => KE G q (d + 6) zk_X11_needWhat 0 [(0, vi l2), (1, vi 3)] [] x2 (rv (fun x3 => (((l2 = 0) → KT G q (d + 6) zk_X5_holder 0 [(0, vr 120), (1, vi l1)] [] x3 (ri (fun r6 x5 => P (some (vi r6)) x5))) ∧ ((l2 = 1) → KT G q (d + 6) zk_X5_often 0 [(0, vr 120), (1, vi l1)] [] x3 (ri (fun r9 x8 => P (some (vi r9)) x8))) ∧ ((∀ k ∈ [(0 : Int32), (1 : Int32)], ¬ l2 = k) → KT G q (d + 6) zk_X5_waiters 0 [(0, vr 120), (1, vi l1)] [] x3 (ri (fun r12 x11 => (∀ r14 : Int32, P (some (vi r14)) x11))))))) X)) X)) X) :
    KE G q (d + 7) zk_X11_lock 0 [(0, vr 0), (1, vi l1), (2, vi l2)] [] x P X := by
  refine T_aload_n 0 (dk dtk_X11_lock 0 rfl) rfl rfl ?_
  refine KD_Vv [] [] rfl (dk dtk_X11_lock 1 rfl) kcv_X11_160 rfl kk_0 rfl (kl_0 hq) (Nat.le_of_ble_eq_true rfl) (Nat.le_of_ble_eq_true rfl) (gok_i (av_c (gkr (kl_0 hq)) (av_c rfl (av_c rfl av_n))) as_n) rfl h (fun x1 h => ?_)
  refine T_iload_n 1 (dk dtk_X11_lock 2 rfl) rfl rfl ?_
  refine T_aload_n 0 (dk dtk_X11_lock 3 rfl) rfl rfl ?_
  refine T_getR 0 2 60 (dk dtk_X11_lock 4 rfl) kfl_X11_28 kk_0 (kl_0 hq) (by decide) rfl kr_0_2 ?_
  refine T_getI 60 9 (dk dtk_X11_lock 5 rfl) kfl_X11_139 kk_60 (kl_60 hq) (by decide) rfl ?_
  refine KD_Sv [vi l1, vi (x1.1 60 9)] [] rfl (dk dtk_X11_lock 6 rfl) kcs_X11_163 rfl (Nat.le_of_ble_eq_true rfl) (Nat.le_of_ble_eq_true rfl) (gok_i (av_c (gkr (kl_0 hq)) (av_c rfl (av_c rfl av_n))) as_n) rfl h (fun x2 h => ?_)
  refine T_iload_n 2 (dk dtk_X11_lock 7 rfl) rfl rfl ?_
  refine T_iconst (v := 3) (dk dtk_X11_lock 8 rfl) (by decide +kernel) ?_
  refine KD_Sv [vi l2, vi 3] [] rfl (dk dtk_X11_lock 9 rfl) kcs_X11_132 rfl (Nat.le_of_ble_eq_true rfl) (Nat.le_of_ble_eq_true rfl) (gok_i (av_c (gkr (kl_0 hq)) (av_c rfl (av_c rfl av_n))) as_n) rfl h (fun x3 h => ?_)
  refine T_iload_n 2 (dk dtk_X11_lock 10 rfl) rfl rfl ?_
  by_cases c4 : l2 = 0
  · have h := h.1 c4
    refine T_lookup 27 48 (dk dtk_X11_lock 11 rfl) (by decide +kernel) (by rw [c4]; decide +kernel) (by decide) ?_
    refine T_aload_n 0 (dk dtk_X11_lock 12 rfl) rfl rfl ?_
    refine T_getR 0 4 120 (dk dtk_X11_lock 13 rfl) kfl_X11_46 kk_0 (kl_0 hq) (by decide) rfl kr_0_4 ?_
    refine T_iload_n 1 (dk dtk_X11_lock 14 rfl) rfl rfl ?_
    refine T_sub (lv2 := []) [] rfl ?_
    refine KC_Vi [vi l1] [] rfl (dk dtk_X11_lock 15 rfl) kcv_X11_228 rfl kk_120 rfl (kl_120 hq) (Nat.le_of_ble_eq_true rfl) (Nat.le_of_ble_eq_true rfl) (gok_i av_n as_n) rfl h (fun r6 x5 h => ?_)
    exact KE_iret (dk dtk_X11_lock 16 rfl) rfl rfl h
  · have h := h.2
    by_cases c7 : l2 = 1
    · have h := h.1 c7
      refine T_lookup 36 57 (dk dtk_X11_lock 11 rfl) (by decide +kernel) (by rw [c7]; decide +kernel) (by decide) ?_
      refine T_aload_n 0 (dk dtk_X11_lock 17 rfl) rfl rfl ?_
      refine T_getR 0 4 120 (dk dtk_X11_lock 18 rfl) kfl_X11_46 kk_0 (kl_0 hq) (by decide) rfl kr_0_4 ?_
      refine T_iload_n 1 (dk dtk_X11_lock 19 rfl) rfl rfl ?_
      refine T_sub (lv2 := []) [] rfl ?_
      refine KC_Vi [vi l1] [] rfl (dk dtk_X11_lock 20 rfl) kcv_X11_231 rfl kk_120 rfl (kl_120 hq) (Nat.le_of_ble_eq_true rfl) (Nat.le_of_ble_eq_true rfl) (gok_i av_n as_n) rfl h (fun r9 x8 h => ?_)
      exact KE_iret (dk dtk_X11_lock 21 rfl) rfl rfl h
    · have h := h.2
      have n10 : ∀ k ∈ [(0 : Int32), (1 : Int32)], ¬ l2 = k := (gno c4 (gno c7 gno0))
      have h := h n10
      refine T_lookup 45 66 (dk dtk_X11_lock 11 rfl) (by decide +kernel) (glk_d [(0 : Int32), (1 : Int32)] (by decide +kernel) n10) (by decide) ?_
      refine T_aload_n 0 (dk dtk_X11_lock 22 rfl) rfl rfl ?_
      refine T_getR 0 4 120 (dk dtk_X11_lock 23 rfl) kfl_X11_46 kk_0 (kl_0 hq) (by decide) rfl kr_0_4 ?_
      refine T_iload_n 1 (dk dtk_X11_lock 24 rfl) rfl rfl ?_
      refine T_sub (lv2 := []) [] rfl ?_
      refine KC_Vi [vi l1] [] rfl (dk dtk_X11_lock 25 rfl) kcv_X11_234 rfl kk_120 rfl (kl_120 hq) (Nat.le_of_ble_eq_true rfl) (Nat.le_of_ble_eq_true rfl) (gok_i av_n as_n) rfl h (fun r12 x11 h => ?_)
      refine KC_Si (F := fun z y9 => y9 = x11) [vi r12] [] rfl (dk dtk_X11_lock 26 rfl) kcs_X11_237 rfl (Nat.le_of_ble_eq_true rfl) (Nat.le_of_ble_eq_true rfl) (gok_i av_n as_n) rfl (tj_bits r12 (fun r9 => ⟨rfl, _, rfl, r9, rfl, rfl⟩)) (fun r14 x13 h9 => ?_)
      cases h9
      have h := h r14
      exact KE_iret (dk dtk_X11_lock 27 rfl) rfl rfl h
