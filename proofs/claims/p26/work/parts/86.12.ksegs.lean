section
set_option maxRecDepth 100000 in
theorem dtk_X5_bringLate : dck cX5_bringLate [(0, .aload_n 0, 1), (1, .getfield 29, 3), (4, .aload_n 0, 1), (5, .iload_n 1, 1), (6, .iload_n 2, 1), (7, .invokevirtual 121, 3), (10, .aload_n 0, 1), (11, .iload_n 1, 1), (12, .iload_n 2, 1), (13, .invokevirtual 124, 3), (16, .iastore, 1), (17, .aload_n 0, 1), (18, .iload_n 1, 1), (19, .bipush 7, 2), (21, .invokevirtual 90, 3), (24, .iconst 1, 1), (25, .isub, 1), (26, .istore_n 3, 1), (27, .iload_n 2, 1), (28, .istore 4, 2), (30, .iload 4, 2), (32, .iload_n 3, 1), (33, .if_icmp .ge 34, 3), (36, .aload_n 0, 1), (37, .iload_n 1, 1), (38, .iload 4, 2), (40, .aload_n 0, 1), (41, .iload_n 1, 1), (42, .iload 4, 2), (44, .iconst 1, 1), (45, .iadd, 1), (46, .invokevirtual 121, 3), (49, .aload_n 0, 1), (50, .iload_n 1, 1), (51, .iload 4, 2), (53, .iconst 1, 1), (54, .iadd, 1), (55, .invokevirtual 124, 3), (58, .invokevirtual 208, 3), (61, .iinc 4 1, 3), (64, .goto (-34), 3), (67, .aload_n 0, 1), (68, .iload_n 1, 1), (69, .iload_n 3, 1), (70, .iconst 0, 1), (71, .iconst 0, 1), (72, .invokevirtual 208, 3), (75, .aload_n 0, 1), (76, .iload_n 1, 1), (77, .bipush 7, 2), (79, .iload_n 3, 1), (80, .invokevirtual 117, 3), (83, .return_, 1)] = true := by decide +kernel
set_option maxRecDepth 100000 in
set_option maxHeartbeats 4000000 in
theorem kg_X5_bringLate_0 {G : kG} {q : kP} {d : Nat} {x : gd} {P : Option gv → gd → Prop} (hq : kV q) {o : Nat} (ho : kiM q o) (l1 : Int32) (l2 : Int32)
    (h : KT G q d zk_X5_lateCell 0 [(0, vr o), (1, vi l1), (2, vi l2)] [] x (ri (fun r2 x1 => KT G q d zk_X5_lateValue 0 [(0, vr o), (1, vi l1), (2, vi l2)] [] x1 (ri (fun r4 x3 => vp_in r2 228 ∧ (∀ x6 : gd, x6 = si x3 (o + 5) (r2 : Int32).toNatClampNeg r4 → KT G q d zk_X5_get 0 [(0, vr o), (1, vi l1), (2, vi 7)] [] x6 (ri (fun r8 x7 => KT G q (d + 1) zk_X5_bringLate 30 [(0, vr o), (1, vi l1), (3, vi (r8 - 1)), (4, vi l2)] [] x7 P)))))))) :
    KT G q (d + 1) zk_X5_bringLate 0 [(0, vr o), (1, vi l1), (2, vi l2)] [] x P := by
  refine T_aload_n 0 (dk dtk_X5_bringLate 0 rfl) rfl rfl ?_
  refine T_getR o 4 (o + 5) (dk dtk_X5_bringLate 1 rfl) kfl_X5_29 (kk_M0 ho) (kl_M0 hq ho) (by decide) rfl (kr_M_4 ho) ?_
  refine T_aload_n 0 (dk dtk_X5_bringLate 2 rfl) rfl rfl ?_
  refine T_iload_n 1 (dk dtk_X5_bringLate 3 rfl) rfl rfl ?_
  refine T_iload_n 2 (dk dtk_X5_bringLate 4 rfl) rfl rfl ?_
  refine KC_Vi [vi l1, vi l2] [vr (o + 5)] rfl (dk dtk_X5_bringLate 5 rfl) kcv_X5_121 rfl (kk_M0 ho) rfl (kl_M0 hq ho) (Nat.le_of_ble_eq_true rfl) (Nat.le_of_ble_eq_true rfl) (gok_i (av_c (gkr (kl_M0 hq ho)) (av_c rfl (av_c rfl av_n))) (as_c (gkr (kl_M5 hq ho)) as_n)) rfl h (fun r2 x1 h => ?_)
  refine T_aload_n 0 (dk dtk_X5_bringLate 6 rfl) rfl rfl ?_
  refine T_iload_n 1 (dk dtk_X5_bringLate 7 rfl) rfl rfl ?_
  refine T_iload_n 2 (dk dtk_X5_bringLate 8 rfl) rfl rfl ?_
  refine KC_Vi [vi l1, vi l2] [vi r2, vr (o + 5)] rfl (dk dtk_X5_bringLate 9 rfl) kcv_X5_124 rfl (kk_M0 ho) rfl (kl_M0 hq ho) (Nat.le_of_ble_eq_true rfl) (Nat.le_of_ble_eq_true rfl) (gok_i (av_c (gkr (kl_M0 hq ho)) (av_c rfl (av_c rfl av_n))) (as_c rfl (as_c (gkr (kl_M5 hq ho)) as_n))) rfl h (fun r4 x3 h => ?_)
  obtain ⟨h5, h⟩ := h
  obtain ⟨x6, ex6⟩ : ∃ z, z = si x3 (o + 5) (r2 : Int32).toNatClampNeg r4 := ⟨_, rfl⟩
  have h := h x6 ex6
  refine T_iast (o + 5) 228 (dk dtk_X5_bringLate 10 rfl) (kk_M5 ho) (kl_M5 hq ho) h5 ?_
  rw [← ex6]
  refine T_aload_n 0 (dk dtk_X5_bringLate 11 rfl) rfl rfl ?_
  refine T_iload_n 1 (dk dtk_X5_bringLate 12 rfl) rfl rfl ?_
  refine T_bipush (v := 7) (dk dtk_X5_bringLate 13 rfl) (by decide +kernel) ?_
  refine KC_Vi [vi l1, vi 7] [] rfl (dk dtk_X5_bringLate 14 rfl) kcv_X5_90 rfl (kk_M0 ho) rfl (kl_M0 hq ho) (Nat.le_of_ble_eq_true rfl) (Nat.le_of_ble_eq_true rfl) (gok_i (av_c (gkr (kl_M0 hq ho)) (av_c rfl (av_c rfl av_n))) as_n) rfl h (fun r8 x7 h => ?_)
  refine T_iconst (v := 1) (dk dtk_X5_bringLate 15 rfl) (by decide +kernel) ?_
  refine T_isub (dk dtk_X5_bringLate 16 rfl) ?_
  refine T_istore_n (lv2 := [(3, vi (r8 - 1)), (0, vr o), (1, vi l1), (2, vi l2)]) (dk dtk_X5_bringLate 17 rfl) rfl (by decide) rfl ?_
  refine T_iload_n 3 (dk dtk_X5_bringLate 18 rfl) rfl rfl ?_
  refine T_istore (lv2 := [(4, vi l2), (3, vi (r8 - 1)), (0, vr o), (1, vi l1), (2, vi l2)]) (dk dtk_X5_bringLate 19 rfl) (by decide) rfl ?_
  exact T_sub [2, 3, 1, 0] rfl h
set_option maxRecDepth 100000 in
set_option maxHeartbeats 4000000 in
theorem kg_X5_bringLate_30 {G : kG} {q : kP} {d : Nat} {x : gd} {P : Option gv → gd → Prop} (hq : kV q) {o : Nat} (ho : kiM q o) (l1 : Int32) (l3 : Int32) (l4 : Int32)
    (h : ((l3 ≤ l4 → KT G q d zk_X5_setLate 0 [(0, vr o), (1, vi l1), (2, vi l3), (3, vi 0), (4, vi 0)] [] x (rv (fun x2 => KT G q d zk_X5_set 0 [(0, vr o), (1, vi l1), (2, vi 7), (3, vi l3)] [] x2 (rv (fun x3 => P none x3))))) ∧ (¬ (l3 ≤ l4) → KT G q d zk_X5_lateCell 0 [(0, vr o), (1, vi l1), (2, vi (l4 + 1))] [] x (ri (fun r5 x4 => KT G q d zk_X5_lateValue 0 [(0, vr o), (1, vi l1), (2, vi (l4 + 1))] [] x4 (ri (fun r7 x6 => KT G q d zk_X5_setLate 0 [(0, vr o), (1, vi l1), (2, vi l4), (3, vi r5), (4, vi r7)] [] x6 (rv (fun x8 => KT G q (d + 1) zk_X5_bringLate 30 [(0, vr o), (1, vi l1), (3, vi l3), (4, vi (l4 + 1))] [] x8 P))))))))) :
    KT G q (d + 1) zk_X5_bringLate 30 [(0, vr o), (1, vi l1), (3, vi l3), (4, vi l4)] [] x P := by
  refine T_iload 3 (dk dtk_X5_bringLate 20 rfl) rfl ?_
  refine T_iload_n 2 (dk dtk_X5_bringLate 21 rfl) rfl rfl ?_
  refine T_icmp_ge 67 (dk dtk_X5_bringLate 22 rfl) (by decide) (fun c1 => ?_) (fun c1 => ?_)
  · have h := h.1 c1
    refine T_aload_n 0 (dk dtk_X5_bringLate 41 rfl) rfl rfl ?_
    refine T_iload_n 1 (dk dtk_X5_bringLate 42 rfl) rfl rfl ?_
    refine T_iload_n 2 (dk dtk_X5_bringLate 43 rfl) rfl rfl ?_
    refine T_iconst (v := 0) (dk dtk_X5_bringLate 44 rfl) (by decide +kernel) ?_
    refine T_iconst (v := 0) (dk dtk_X5_bringLate 45 rfl) (by decide +kernel) ?_
    refine T_sub (lv2 := [(0, vr o), (1, vi l1), (3, vi l3)]) [0, 1, 2] rfl ?_
    refine KC_Vv [vi l1, vi l3, vi 0, vi 0] [] rfl (dk dtk_X5_bringLate 46 rfl) kcv_X5_208 rfl (kk_M0 ho) rfl (kl_M0 hq ho) (Nat.le_of_ble_eq_true rfl) (Nat.le_of_ble_eq_true rfl) (gok_i (av_c (gkr (kl_M0 hq ho)) (av_c rfl (av_c rfl av_n))) as_n) rfl h (fun x2 h => ?_)
    refine T_aload_n 0 (dk dtk_X5_bringLate 47 rfl) rfl rfl ?_
    refine T_iload_n 1 (dk dtk_X5_bringLate 48 rfl) rfl rfl ?_
    refine T_bipush (v := 7) (dk dtk_X5_bringLate 49 rfl) (by decide +kernel) ?_
    refine T_iload_n 2 (dk dtk_X5_bringLate 50 rfl) rfl rfl ?_
    refine T_sub (lv2 := []) [] rfl ?_
    refine KC_Vv [vi l1, vi 7, vi l3] [] rfl (dk dtk_X5_bringLate 51 rfl) kcv_X5_117 rfl (kk_M0 ho) rfl (kl_M0 hq ho) (Nat.le_of_ble_eq_true rfl) (Nat.le_of_ble_eq_true rfl) (gok_i av_n as_n) rfl h (fun x3 h => ?_)
    exact KT_vret (dk dtk_X5_bringLate 52 rfl) rfl h
  · have h := h.2 c1
    refine T_aload_n 0 (dk dtk_X5_bringLate 23 rfl) rfl rfl ?_
    refine T_iload_n 1 (dk dtk_X5_bringLate 24 rfl) rfl rfl ?_
    refine T_iload 3 (dk dtk_X5_bringLate 25 rfl) rfl ?_
    refine T_aload_n 0 (dk dtk_X5_bringLate 26 rfl) rfl rfl ?_
    refine T_iload_n 1 (dk dtk_X5_bringLate 27 rfl) rfl rfl ?_
    refine T_iload 3 (dk dtk_X5_bringLate 28 rfl) rfl ?_
    refine T_iconst (v := 1) (dk dtk_X5_bringLate 29 rfl) (by decide +kernel) ?_
    refine T_iadd (dk dtk_X5_bringLate 30 rfl) ?_
    refine KC_Vi [vi l1, vi (l4 + 1)] [vi l4, vi l1, vr o] rfl (dk dtk_X5_bringLate 31 rfl) kcv_X5_121 rfl (kk_M0 ho) rfl (kl_M0 hq ho) (Nat.le_of_ble_eq_true rfl) (Nat.le_of_ble_eq_true rfl) (gok_i (av_c (gkr (kl_M0 hq ho)) (av_c rfl (av_c rfl (av_c rfl av_n)))) (as_c rfl (as_c rfl (as_c (gkr (kl_M0 hq ho)) as_n)))) rfl h (fun r5 x4 h => ?_)
    refine T_aload_n 0 (dk dtk_X5_bringLate 32 rfl) rfl rfl ?_
    refine T_iload_n 1 (dk dtk_X5_bringLate 33 rfl) rfl rfl ?_
    refine T_iload 3 (dk dtk_X5_bringLate 34 rfl) rfl ?_
    refine T_iconst (v := 1) (dk dtk_X5_bringLate 35 rfl) (by decide +kernel) ?_
    refine T_iadd (dk dtk_X5_bringLate 36 rfl) ?_
    refine KC_Vi [vi l1, vi (l4 + 1)] [vi r5, vi l4, vi l1, vr o] rfl (dk dtk_X5_bringLate 37 rfl) kcv_X5_124 rfl (kk_M0 ho) rfl (kl_M0 hq ho) (Nat.le_of_ble_eq_true rfl) (Nat.le_of_ble_eq_true rfl) (gok_i (av_c (gkr (kl_M0 hq ho)) (av_c rfl (av_c rfl (av_c rfl av_n)))) (as_c rfl (as_c rfl (as_c rfl (as_c (gkr (kl_M0 hq ho)) as_n))))) rfl h (fun r7 x6 h => ?_)
    refine KC_Vv [vi l1, vi l4, vi r5, vi r7] [] rfl (dk dtk_X5_bringLate 38 rfl) kcv_X5_208 rfl (kk_M0 ho) rfl (kl_M0 hq ho) (Nat.le_of_ble_eq_true rfl) (Nat.le_of_ble_eq_true rfl) (gok_i (av_c (gkr (kl_M0 hq ho)) (av_c rfl (av_c rfl (av_c rfl av_n)))) as_n) rfl h (fun x8 h => ?_)
    refine T_iinc (v := l4 + 1) (lv2 := [(4, vi (l4 + 1)), (0, vr o), (1, vi l1), (3, vi l3)]) 3 (dk dtk_X5_bringLate 39 rfl) rfl rfl (by decide) rfl ?_
    refine T_goto 30 (dk dtk_X5_bringLate 40 rfl) (by decide) ?_
    exact T_sub [1, 2, 3, 0] rfl h
set_option maxRecDepth 100000 in
theorem dtk_X5_actFailure : dck cX5_actFailure [(0, .aload_n 0, 1), (1, .getfield 21, 3), (4, .getfield 136, 3), (7, .iload_n 2, 1), (8, .iaload, 1), (9, .istore 5, 2), (11, .iload_n 3, 1), (12, .tableswitch 182 0 15 #[80, 80, 80, 80, 80, 88, 105, 113, 129, 157, 182, 182, 182, 174, 174, 121], 80), (92, .aload_n 0, 1), (93, .iload_n 1, 1), (94, .iload_n 2, 1), (95, .iload_n 3, 1), (96, .invokevirtual 212, 3), (99, .ireturn, 1), (100, .aload_n 0, 1), (101, .iload 5, 2), (103, .iload_n 1, 1), (104, .aload_n 0, 1), (105, .iload 5, 2), (107, .invokevirtual 216, 3), (110, .iconst 1, 1), (111, .iadd, 1), (112, .invokevirtual 219, 3), (115, .iconst 0, 1), (116, .ireturn, 1), (117, .aload_n 0, 1), (118, .iload_n 1, 1), (119, .iload 5, 2), (121, .invokevirtual 222, 3), (124, .ireturn, 1), (125, .aload_n 0, 1), (126, .iload_n 1, 1), (127, .iload 5, 2), (129, .invokevirtual 225, 3), (132, .ireturn, 1), (133, .aload_n 0, 1), (134, .iload_n 1, 1), (135, .iload 5, 2), (137, .invokevirtual 228, 3), (140, .ireturn, 1), (141, .aload_n 0, 1), (142, .iload_n 1, 1), (143, .iload 5, 2), (145, .aload_n 0, 1), (146, .getfield 21, 3), (149, .getfield 182, 3), (152, .iload_n 2, 1), (153, .iaload, 1), (154, .iconst 1, 1), (155, .if_icmp .ne 7, 3), (158, .iconst 1, 1), (159, .goto 4, 3), (162, .iconst 0, 1), (163, .iload 4, 2), (165, .invokevirtual 231, 3), (168, .ireturn, 1), (169, .aload_n 0, 1), (170, .iload 5, 2), (172, .iconst 0, 1), (173, .invokevirtual 90, 3), (176, .ifCond .ne 7, 3), (179, .iconst 0, 1), (180, .goto 5, 3), (183, .bipush 7, 2), (185, .ireturn, 1), (186, .aload_n 0, 1), (187, .iload_n 1, 1), (188, .iload_n 2, 1), (189, .iload_n 3, 1), (190, .invokevirtual 235, 3), (193, .ireturn, 1), (194, .iconst 0, 1), (195, .ireturn, 1)] = true := by decide +kernel
set_option maxRecDepth 100000 in
set_option maxHeartbeats 4000000 in
theorem kg_X5_actFailure_0 {G : kG} {q : kP} {d : Nat} {x : gd} {P : Option gv → gd → Prop} (hq : kV q) {o : Nat} (ho : kiM q o) (l1 : Int32) (l2 : Int32) (l3 : Int32) (l4 : Int32)
    (h : vp_in l2 400 ∧ (((l3 = 0 ∨ l3 = 1 ∨ l3 = 2 ∨ l3 = 3 ∨ l3 = 4) → KT G q d zk_X5_doAccess 0 [(0, vr o), (1, vi l1), (2, vi l2), (3, vi l3)] [] x (ri (fun r4 x3 => P (some (vi r4)) x3))) ∧ ((l3 = 5) → KT G q d zk_X5_often 0 [(0, vr o), (1, vi (x.1 85 (l2 : Int32).toNatClampNeg))] [] x (ri (fun r7 x6 => KT G q d zk_X5_setLock 0 [(0, vr o), (1, vi (x.1 85 (l2 : Int32).toNatClampNeg)), (2, vi l1), (3, vi (r7 + 1))] [] x6 (rv (fun x8 => P (some (vi 0)) x8))))) ∧ ((l3 = 6) → KT G q d zk_X5_doGive 0 [(0, vr o), (1, vi l1), (2, vi (x.1 85 (l2 : Int32).toNatClampNeg))] [] x (ri (fun r11 x10 => P (some (vi r11)) x10))) ∧ ((l3 = 7) → KT G q d zk_X5_doWait 0 [(0, vr o), (1, vi l1), (2, vi (x.1 85 (l2 : Int32).toNatClampNeg))] [] x (ri (fun r14 x13 => P (some (vi r14)) x13))) ∧ ((l3 = 15) → KT G q d zk_X5_doRetake 0 [(0, vr o), (1, vi l1), (2, vi (x.1 85 (l2 : Int32).toNatClampNeg))] [] x (ri (fun r17 x16 => P (some (vi r17)) x16))) ∧ ((l3 = 8) → vp_in l2 400 ∧ ((¬ ((x.1 84 (l2 : Int32).toNatClampNeg) = (1 : Int32)) → KT G q (d + 1) zk_X5_actFailure 163 [(4, vi l4)] [vi 0, vi (x.1 85 (l2 : Int32).toNatClampNeg), vi l1, vr o] x P) ∧ ((x.1 84 (l2 : Int32).toNatClampNeg) = (1 : Int32) → KT G q (d + 1) zk_X5_actFailure 163 [(4, vi l4)] [vi 1, vi (x.1 85 (l2 : Int32).toNatClampNeg), vi l1, vr o] x P))) ∧ ((l3 = 9) → KT G q d zk_X5_get 0 [(0, vr o), (1, vi (x.1 85 (l2 : Int32).toNatClampNeg)), (2, vi 0)] [] x (ri (fun r23 x22 => ((¬ (r23 = (0 : Int32)) → P (some (vi 7)) x22) ∧ (r23 = (0 : Int32) → P (some (vi 0)) x22))))) ∧ ((l3 = 13 ∨ l3 = 14) → KT G q d zk_X5_doCallOrBack 0 [(0, vr o), (1, vi l1), (2, vi l2), (3, vi l3)] [] x (ri (fun r27 x26 => P (some (vi r27)) x26))) ∧ ((∀ k ∈ [(0 : Int32), (1 : Int32), (2 : Int32), (3 : Int32), (4 : Int32), (5 : Int32), (6 : Int32), (7 : Int32), (15 : Int32), (8 : Int32), (9 : Int32), (13 : Int32), (14 : Int32)], ¬ l3 = k) → P (some (vi 0)) x))) :
    KT G q (d + 1) zk_X5_actFailure 0 [(0, vr o), (1, vi l1), (2, vi l2), (3, vi l3), (4, vi l4)] [] x P := by
  refine T_aload_n 0 (dk dtk_X5_actFailure 0 rfl) rfl rfl ?_
  refine T_getR o 1 80 (dk dtk_X5_actFailure 1 rfl) kfl_X5_21 (kk_M0 ho) (kl_M0 hq ho) (by decide) rfl (kr_M_1 ho) ?_
  refine T_getR 80 4 85 (dk dtk_X5_actFailure 2 rfl) kfl_X5_136 kk_80 (kl_80 hq) (by decide) rfl kr_80_4 ?_
  refine T_iload_n 2 (dk dtk_X5_actFailure 3 rfl) rfl rfl ?_
  obtain ⟨h1, h⟩ := h
  refine T_iald 85 400 (dk dtk_X5_actFailure 4 rfl) kk_85 (kl_85 hq) h1 ?_
  refine T_istore (lv2 := [(5, vi (x.1 85 (l2 : Int32).toNatClampNeg)), (0, vr o), (1, vi l1), (2, vi l2), (3, vi l3), (4, vi l4)]) (dk dtk_X5_actFailure 5 rfl) (by decide) rfl ?_
  refine T_iload_n 4 (dk dtk_X5_actFailure 6 rfl) rfl rfl ?_
  by_cases c2 : l3 = 0 ∨ l3 = 1 ∨ l3 = 2 ∨ l3 = 3 ∨ l3 = 4
  · have h := h.1 c2
    refine T_table 80 92 (dk dtk_X5_actFailure 7 rfl) (by decide) (by rcases c2 with q9 | q9 | q9 | q9 | q9 <;> rw [q9] <;> decide +kernel) (by decide) ?_
    refine T_aload_n 1 (dk dtk_X5_actFailure 8 rfl) rfl rfl ?_
    refine T_iload_n 2 (dk dtk_X5_actFailure 9 rfl) rfl rfl ?_
    refine T_iload_n 3 (dk dtk_X5_actFailure 10 rfl) rfl rfl ?_
    refine T_iload_n 4 (dk dtk_X5_actFailure 11 rfl) rfl rfl ?_
    refine T_sub (lv2 := []) [] rfl ?_
    refine KC_Vi [vi l1, vi l2, vi l3] [] rfl (dk dtk_X5_actFailure 12 rfl) kcv_X5_212 rfl (kk_M0 ho) rfl (kl_M0 hq ho) (Nat.le_of_ble_eq_true rfl) (Nat.le_of_ble_eq_true rfl) (gok_i av_n as_n) rfl h (fun r4 x3 h => ?_)
    exact KT_iret (dk dtk_X5_actFailure 13 rfl) rfl rfl h
  · have h := h.2
    by_cases c5 : l3 = 5
    · have h := h.1 c5
      refine T_table 88 100 (dk dtk_X5_actFailure 7 rfl) (by decide) (by rw [c5]; decide +kernel) (by decide) ?_
      refine T_aload_n 1 (dk dtk_X5_actFailure 14 rfl) rfl rfl ?_
      refine T_iload 0 (dk dtk_X5_actFailure 15 rfl) rfl ?_
      refine T_iload_n 2 (dk dtk_X5_actFailure 16 rfl) rfl rfl ?_
      refine T_aload_n 1 (dk dtk_X5_actFailure 17 rfl) rfl rfl ?_
      refine T_iload 0 (dk dtk_X5_actFailure 18 rfl) rfl ?_
      refine T_sub (lv2 := []) [] rfl ?_
      refine KC_Vi [vi (x.1 85 (l2 : Int32).toNatClampNeg)] [vi l1, vi (x.1 85 (l2 : Int32).toNatClampNeg), vr o] rfl (dk dtk_X5_actFailure 19 rfl) kcv_X5_216 rfl (kk_M0 ho) rfl (kl_M0 hq ho) (Nat.le_of_ble_eq_true rfl) (Nat.le_of_ble_eq_true rfl) (gok_i av_n (as_c rfl (as_c rfl (as_c (gkr (kl_M0 hq ho)) as_n)))) rfl h (fun r7 x6 h => ?_)
      refine T_iconst (v := 1) (dk dtk_X5_actFailure 20 rfl) (by decide +kernel) ?_
      refine T_iadd (dk dtk_X5_actFailure 21 rfl) ?_
      refine KC_Vv [vi (x.1 85 (l2 : Int32).toNatClampNeg), vi l1, vi (r7 + 1)] [] rfl (dk dtk_X5_actFailure 22 rfl) kcv_X5_219 rfl (kk_M0 ho) rfl (kl_M0 hq ho) (Nat.le_of_ble_eq_true rfl) (Nat.le_of_ble_eq_true rfl) (gok_i av_n as_n) rfl h (fun x8 h => ?_)
      refine T_iconst (v := 0) (dk dtk_X5_actFailure 23 rfl) (by decide +kernel) ?_
      exact KT_iret (dk dtk_X5_actFailure 24 rfl) rfl rfl h
    · have h := h.2
      by_cases c9 : l3 = 6
      · have h := h.1 c9
        refine T_table 105 117 (dk dtk_X5_actFailure 7 rfl) (by decide) (by rw [c9]; decide +kernel) (by decide) ?_
        refine T_aload_n 1 (dk dtk_X5_actFailure 25 rfl) rfl rfl ?_
        refine T_iload_n 2 (dk dtk_X5_actFailure 26 rfl) rfl rfl ?_
        refine T_iload 0 (dk dtk_X5_actFailure 27 rfl) rfl ?_
        refine T_sub (lv2 := []) [] rfl ?_
        refine KC_Vi [vi l1, vi (x.1 85 (l2 : Int32).toNatClampNeg)] [] rfl (dk dtk_X5_actFailure 28 rfl) kcv_X5_222 rfl (kk_M0 ho) rfl (kl_M0 hq ho) (Nat.le_of_ble_eq_true rfl) (Nat.le_of_ble_eq_true rfl) (gok_i av_n as_n) rfl h (fun r11 x10 h => ?_)
        exact KT_iret (dk dtk_X5_actFailure 29 rfl) rfl rfl h
      · have h := h.2
        by_cases c12 : l3 = 7
        · have h := h.1 c12
          refine T_table 113 125 (dk dtk_X5_actFailure 7 rfl) (by decide) (by rw [c12]; decide +kernel) (by decide) ?_
          refine T_aload_n 1 (dk dtk_X5_actFailure 30 rfl) rfl rfl ?_
          refine T_iload_n 2 (dk dtk_X5_actFailure 31 rfl) rfl rfl ?_
          refine T_iload 0 (dk dtk_X5_actFailure 32 rfl) rfl ?_
          refine T_sub (lv2 := []) [] rfl ?_
          refine KC_Vi [vi l1, vi (x.1 85 (l2 : Int32).toNatClampNeg)] [] rfl (dk dtk_X5_actFailure 33 rfl) kcv_X5_225 rfl (kk_M0 ho) rfl (kl_M0 hq ho) (Nat.le_of_ble_eq_true rfl) (Nat.le_of_ble_eq_true rfl) (gok_i av_n as_n) rfl h (fun r14 x13 h => ?_)
          exact KT_iret (dk dtk_X5_actFailure 34 rfl) rfl rfl h
        · have h := h.2
          by_cases c15 : l3 = 15
          · have h := h.1 c15
            refine T_table 121 133 (dk dtk_X5_actFailure 7 rfl) (by decide) (by rw [c15]; decide +kernel) (by decide) ?_
            refine T_aload_n 1 (dk dtk_X5_actFailure 35 rfl) rfl rfl ?_
            refine T_iload_n 2 (dk dtk_X5_actFailure 36 rfl) rfl rfl ?_
            refine T_iload 0 (dk dtk_X5_actFailure 37 rfl) rfl ?_
            refine T_sub (lv2 := []) [] rfl ?_
            refine KC_Vi [vi l1, vi (x.1 85 (l2 : Int32).toNatClampNeg)] [] rfl (dk dtk_X5_actFailure 38 rfl) kcv_X5_228 rfl (kk_M0 ho) rfl (kl_M0 hq ho) (Nat.le_of_ble_eq_true rfl) (Nat.le_of_ble_eq_true rfl) (gok_i av_n as_n) rfl h (fun r17 x16 h => ?_)
            exact KT_iret (dk dtk_X5_actFailure 39 rfl) rfl rfl h
          · have h := h.2
            by_cases c18 : l3 = 8
            · have h := h.1 c18
              refine T_table 129 141 (dk dtk_X5_actFailure 7 rfl) (by decide) (by rw [c18]; decide +kernel) (by decide) ?_
              refine T_aload_n 1 (dk dtk_X5_actFailure 40 rfl) rfl rfl ?_
              refine T_iload_n 2 (dk dtk_X5_actFailure 41 rfl) rfl rfl ?_
              refine T_iload 0 (dk dtk_X5_actFailure 42 rfl) rfl ?_
              refine T_aload_n 1 (dk dtk_X5_actFailure 43 rfl) rfl rfl ?_
              refine T_getR o 1 80 (dk dtk_X5_actFailure 44 rfl) kfl_X5_21 (kk_M0 ho) (kl_M0 hq ho) (by decide) rfl (kr_M_1 ho) ?_
              refine T_getR 80 3 84 (dk dtk_X5_actFailure 45 rfl) kfl_X5_182 kk_80 (kl_80 hq) (by decide) rfl kr_80_3 ?_
              refine T_iload_n 3 (dk dtk_X5_actFailure 46 rfl) rfl rfl ?_
              obtain ⟨h19, h⟩ := h
              refine T_iald 84 400 (dk dtk_X5_actFailure 47 rfl) kk_84 (kl_84 hq) h19 ?_
              refine T_iconst (v := 1) (dk dtk_X5_actFailure 48 rfl) (by decide +kernel) ?_
              refine T_icmp_ne 162 (dk dtk_X5_actFailure 49 rfl) (by decide) (fun c20 => ?_) (fun c20 => ?_)
              · have h := h.1 c20
                refine T_iconst (v := 0) (dk dtk_X5_actFailure 52 rfl) (by decide +kernel) ?_
                exact T_sub [5] rfl h
              · have h := h.2 c20
                refine T_iconst (v := 1) (dk dtk_X5_actFailure 50 rfl) (by decide +kernel) ?_
                refine T_goto 163 (dk dtk_X5_actFailure 51 rfl) (by decide) ?_
                exact T_sub [5] rfl h
            · have h := h.2
              by_cases c21 : l3 = 9
              · have h := h.1 c21
                refine T_table 157 169 (dk dtk_X5_actFailure 7 rfl) (by decide) (by rw [c21]; decide +kernel) (by decide) ?_
                refine T_aload_n 1 (dk dtk_X5_actFailure 56 rfl) rfl rfl ?_
                refine T_iload 0 (dk dtk_X5_actFailure 57 rfl) rfl ?_
                refine T_iconst (v := 0) (dk dtk_X5_actFailure 58 rfl) (by decide +kernel) ?_
                refine T_sub (lv2 := []) [] rfl ?_
                refine KC_Vi [vi (x.1 85 (l2 : Int32).toNatClampNeg), vi 0] [] rfl (dk dtk_X5_actFailure 59 rfl) kcv_X5_90 rfl (kk_M0 ho) rfl (kl_M0 hq ho) (Nat.le_of_ble_eq_true rfl) (Nat.le_of_ble_eq_true rfl) (gok_i av_n as_n) rfl h (fun r23 x22 h => ?_)
                refine T_if_ne 183 (dk dtk_X5_actFailure 60 rfl) (by decide) (fun c24 => ?_) (fun c24 => ?_)
                · have h := h.1 c24
                  refine T_bipush (v := 7) (dk dtk_X5_actFailure 63 rfl) (by decide +kernel) ?_
                  exact KT_iret (dk dtk_X5_actFailure 64 rfl) rfl rfl h
                · have h := h.2 c24
                  refine T_iconst (v := 0) (dk dtk_X5_actFailure 61 rfl) (by decide +kernel) ?_
                  refine T_goto 185 (dk dtk_X5_actFailure 62 rfl) (by decide) ?_
                  exact KT_iret (dk dtk_X5_actFailure 64 rfl) rfl rfl h
              · have h := h.2
                by_cases c25 : l3 = 13 ∨ l3 = 14
                · have h := h.1 c25
                  refine T_table 174 186 (dk dtk_X5_actFailure 7 rfl) (by decide) (by rcases c25 with q9 | q9 <;> rw [q9] <;> decide +kernel) (by decide) ?_
                  refine T_aload_n 1 (dk dtk_X5_actFailure 65 rfl) rfl rfl ?_
                  refine T_iload_n 2 (dk dtk_X5_actFailure 66 rfl) rfl rfl ?_
                  refine T_iload_n 3 (dk dtk_X5_actFailure 67 rfl) rfl rfl ?_
                  refine T_iload_n 4 (dk dtk_X5_actFailure 68 rfl) rfl rfl ?_
                  refine T_sub (lv2 := []) [] rfl ?_
                  refine KC_Vi [vi l1, vi l2, vi l3] [] rfl (dk dtk_X5_actFailure 69 rfl) kcv_X5_235 rfl (kk_M0 ho) rfl (kl_M0 hq ho) (Nat.le_of_ble_eq_true rfl) (Nat.le_of_ble_eq_true rfl) (gok_i av_n as_n) rfl h (fun r27 x26 h => ?_)
                  exact KT_iret (dk dtk_X5_actFailure 70 rfl) rfl rfl h
                · have h := h.2
                  have n28 : ∀ k ∈ [(0 : Int32), (1 : Int32), (2 : Int32), (3 : Int32), (4 : Int32), (5 : Int32), (6 : Int32), (7 : Int32), (15 : Int32), (8 : Int32), (9 : Int32), (13 : Int32), (14 : Int32)], ¬ l3 = k := (gno (fun q9 => c2 (Or.inl q9)) (gno (fun q9 => c2 (Or.inr (Or.inl q9))) (gno (fun q9 => c2 (Or.inr (Or.inr (Or.inl q9)))) (gno (fun q9 => c2 (Or.inr (Or.inr (Or.inr (Or.inl q9))))) (gno (fun q9 => c2 (Or.inr (Or.inr (Or.inr (Or.inr (q9)))))) (gno c5 (gno c9 (gno c12 (gno c15 (gno c18 (gno c21 (gno (fun q9 => c25 (Or.inl q9)) (gno (fun q9 => c25 (Or.inr (q9))) gno0)))))))))))))
                  have h := h n28
                  refine T_table 182 194 (dk dtk_X5_actFailure 7 rfl) (by decide) (gtab_d [(0 : Int32), (1 : Int32), (2 : Int32), (3 : Int32), (4 : Int32), (5 : Int32), (6 : Int32), (7 : Int32), (15 : Int32), (8 : Int32), (9 : Int32), (13 : Int32), (14 : Int32)] (by decide +kernel) n28) (by decide) ?_
                  refine T_iconst (v := 0) (dk dtk_X5_actFailure 71 rfl) (by decide +kernel) ?_
                  exact KT_iret (dk dtk_X5_actFailure 72 rfl) rfl rfl h
set_option maxRecDepth 100000 in
set_option maxHeartbeats 4000000 in
theorem kg_X5_actFailure_163 {G : kG} {q : kP} {d : Nat} {x : gd} {P : Option gv → gd → Prop} (hq : kV q) {o : Nat} (ho : kiM q o) (l4 : Int32) (s0 : Int32) (s1 : Int32) (s2 : Int32)
    (h : KT G q d zk_X5_doWake 0 [(0, vr o), (1, vi s2), (2, vi s1), (3, vi s0), (4, vi l4)] [] x (ri (fun r2 x1 => P (some (vi r2)) x1))) :
    KT G q (d + 1) zk_X5_actFailure 163 [(4, vi l4)] [vi s0, vi s1, vi s2, vr o] x P := by
  refine T_iload 0 (dk dtk_X5_actFailure 53 rfl) rfl ?_
  refine T_sub (lv2 := []) [] rfl ?_
  refine KC_Vi [vi s2, vi s1, vi s0, vi l4] [] rfl (dk dtk_X5_actFailure 54 rfl) kcv_X5_231 rfl (kk_M0 ho) rfl (kl_M0 hq ho) (Nat.le_of_ble_eq_true rfl) (Nat.le_of_ble_eq_true rfl) (gok_i av_n as_n) rfl h (fun r2 x1 h => ?_)
  exact KT_iret (dk dtk_X5_actFailure 55 rfl) rfl rfl h
set_option maxRecDepth 100000 in
theorem dtk_X5_doAccess : dck cX5_doAccess [(0, .aload_n 0, 1), (1, .iload_n 1, 1), (2, .invokevirtual 133, 3), (5, .istore 4, 2), (7, .aload_n 0, 1), (8, .getfield 25, 3), (11, .iload 4, 2), (13, .putfield 238, 3), (16, .iload 4, 2), (18, .iconst (-1), 1), (19, .if_icmp .ne 8, 3), (22, .aload_n 0, 1), (23, .getfield 154, 3), (26, .ireturn, 1), (27, .aload_n 0, 1), (28, .iload_n 1, 1), (29, .iload 4, 2), (31, .invokevirtual 240, 3), (34, .istore 5, 2), (36, .iload_n 3, 1), (37, .ifCond .ne 33, 3), (40, .aload_n 0, 1), (41, .getfield 25, 3), (44, .iload 5, 2), (46, .putfield 243, 3), (49, .aload_n 0, 1), (50, .iload_n 1, 1), (51, .bipush 8, 2), (53, .aload_n 0, 1), (54, .getfield 21, 3), (57, .getfield 182, 3), (60, .iload_n 2, 1), (61, .iaload, 1), (62, .iadd, 1), (63, .iload 5, 2), (65, .invokevirtual 117, 3), (68, .iconst 0, 1), (69, .ireturn, 1), (70, .aload_n 0, 1), (71, .getfield 11, 3), (74, .aload_n 0, 1), (75, .getfield 21, 3), (78, .getfield 160, 3), (81, .iload_n 2, 1), (82, .iaload, 1), (83, .aload_n 0, 1), (84, .getfield 29, 3), (87, .aload_n 0, 1), (88, .iload_n 1, 1), (89, .invokevirtual 142, 3), (92, .iload_n 1, 1), (93, .invokevirtual 145, 3), (96, .istore 6, 2), (98, .aload_n 0, 1), (99, .getfield 11, 3), (102, .getfield 149, 3), (105, .ifCond .eq 5, 3), (108, .iconst 1, 1), (109, .ireturn, 1), (110, .iload_n 3, 1), (111, .iconst 1, 1), (112, .if_icmp .ne 16, 3), (115, .aload_n 0, 1), (116, .iload_n 1, 1), (117, .iload_n 2, 1), (118, .iload 4, 2), (120, .iload 6, 2), (122, .invokevirtual 246, 3), (125, .goto 13, 3), (128, .aload_n 0, 1), (129, .iload_n 1, 1), (130, .iload_n 2, 1), (131, .iload 4, 2), (133, .iload 6, 2), (135, .invokevirtual 249, 3), (138, .ireturn, 1)] = true := by decide +kernel
set_option maxRecDepth 100000 in
set_option maxHeartbeats 4000000 in
theorem kg_X5_doAccess_0 {G : kG} {q : kP} {d : Nat} {x : gd} {P : Option gv → gd → Prop} (hq : kV q) {o : Nat} (ho : kiM q o) (l1 : Int32) (l2 : Int32) (l3 : Int32)
    (h : KT G q d zk_X5_placeOf 0 [(0, vr o), (1, vi l1)] [] x (ri (fun r2 x1 => (∀ x3 : gd, x3 = si x1 (o + 20) 2 r2 → ((¬ (r2 = (-1 : Int32)) → KT G q d zk_X5_seenBy 0 [(0, vr o), (1, vi l1), (2, vi r2)] [] x3 (ri (fun r6 x5 => ((¬ (l3 = (0 : Int32)) → vp_in l2 400 ∧ KT G q d zk_X5_localsAt 0 [(0, vr o), (1, vi l1)] [] x5 (ri (fun r10 x9 => KT G q d zk_X0_work 0 [(0, vr 60), (1, vi (x5.1 88 (l2 : Int32).toNatClampNeg)), (2, vr (o + 5)), (3, vi r10), (4, vi l1)] [] x9 (ri (fun r12 x11 => (((x11.1 60 5) = (0 : Int32) → ((¬ (l3 = (1 : Int32)) → KT G q d zk_X5_doExchange 0 [(0, vr o), (1, vi l1), (2, vi l2), (3, vi r2), (4, vi r12)] [] x11 (ri (fun r16 x15 => P (some (vi r16)) x15))) ∧ (l3 = (1 : Int32) → KT G q d zk_X5_doWrite 0 [(0, vr o), (1, vi l1), (2, vi l2), (3, vi r2), (4, vi r12)] [] x11 (ri (fun r18 x17 => P (some (vi r18)) x17))))) ∧ (¬ ((x11.1 60 5) = (0 : Int32)) → P (some (vi 1)) x11))))))) ∧ (l3 = (0 : Int32) → (∀ x19 : gd, x19 = si x5 (o + 20) 3 r6 → vp_in l2 400 ∧ KT G q d zk_X5_set 0 [(0, vr o), (1, vi l1), (2, vi (8 + (x19.1 84 (l2 : Int32).toNatClampNeg))), (3, vi r6)] [] x19 (rv (fun x21 => P (some (vi 0)) x21)))))))) ∧ (r2 = (-1 : Int32) → P (some (vi (x3.1 o 14))) x3)))))) :
    KT G q (d + 1) zk_X5_doAccess 0 [(0, vr o), (1, vi l1), (2, vi l2), (3, vi l3)] [] x P := by
  refine T_aload_n 0 (dk dtk_X5_doAccess 0 rfl) rfl rfl ?_
  refine T_iload_n 1 (dk dtk_X5_doAccess 1 rfl) rfl rfl ?_
  refine KC_Vi [vi l1] [] rfl (dk dtk_X5_doAccess 2 rfl) kcv_X5_133 rfl (kk_M0 ho) rfl (kl_M0 hq ho) (Nat.le_of_ble_eq_true rfl) (Nat.le_of_ble_eq_true rfl) (gok_i (av_c (gkr (kl_M0 hq ho)) (av_c rfl (av_c rfl (av_c rfl av_n)))) as_n) rfl h (fun r2 x1 h => ?_)
  refine T_istore (lv2 := [(4, vi r2), (0, vr o), (1, vi l1), (2, vi l2), (3, vi l3)]) (dk dtk_X5_doAccess 3 rfl) (by decide) rfl ?_
  refine T_aload_n 1 (dk dtk_X5_doAccess 4 rfl) rfl rfl ?_
  refine T_getR o 2 (o + 20) (dk dtk_X5_doAccess 5 rfl) kfl_X5_25 (kk_M0 ho) (kl_M0 hq ho) (by decide) rfl (kr_M_2 ho) ?_
  refine T_iload 0 (dk dtk_X5_doAccess 6 rfl) rfl ?_
  obtain ⟨x3, ex3⟩ : ∃ z, z = si x1 (o + 20) 2 r2 := ⟨_, rfl⟩
  have h := h x3 ex3
  refine T_putI (o + 20) 2 (dk dtk_X5_doAccess 7 rfl) kfl_X5_238 (kk_D0 (kiM_D ho)) (kl_D0 hq (kiM_D ho)) (by decide) rfl ⟨rfl, rfl⟩ ?_
  rw [← ex3]
  refine T_iload 0 (dk dtk_X5_doAccess 8 rfl) rfl ?_
  refine T_iconst (v := (-1)) (dk dtk_X5_doAccess 9 rfl) (by decide +kernel) ?_
  refine T_icmp_ne 27 (dk dtk_X5_doAccess 10 rfl) (by decide) (fun c4 => ?_) (fun c4 => ?_)
  · have h := h.1 c4
    refine T_aload_n 1 (dk dtk_X5_doAccess 14 rfl) rfl rfl ?_
    refine T_iload_n 2 (dk dtk_X5_doAccess 15 rfl) rfl rfl ?_
    refine T_iload 0 (dk dtk_X5_doAccess 16 rfl) rfl ?_
    refine KC_Vi [vi l1, vi r2] [] rfl (dk dtk_X5_doAccess 17 rfl) kcv_X5_240 rfl (kk_M0 ho) rfl (kl_M0 hq ho) (Nat.le_of_ble_eq_true rfl) (Nat.le_of_ble_eq_true rfl) (gok_i (av_c rfl (av_c (gkr (kl_M0 hq ho)) (av_c rfl (av_c rfl (av_c rfl av_n))))) as_n) rfl h (fun r6 x5 h => ?_)
    refine T_istore (lv2 := [(5, vi r6), (4, vi r2), (0, vr o), (1, vi l1), (2, vi l2), (3, vi l3)]) (dk dtk_X5_doAccess 18 rfl) (by decide) rfl ?_
    refine T_iload_n 5 (dk dtk_X5_doAccess 19 rfl) rfl rfl ?_
    refine T_if_ne 70 (dk dtk_X5_doAccess 20 rfl) (by decide) (fun c7 => ?_) (fun c7 => ?_)
    · have h := h.1 c7
      refine T_aload_n 2 (dk dtk_X5_doAccess 38 rfl) rfl rfl ?_
      refine T_getR o 0 60 (dk dtk_X5_doAccess 39 rfl) kfl_X5_11 (kk_M0 ho) (kl_M0 hq ho) (by decide) rfl (kr_M_0 ho) ?_
      refine T_aload_n 2 (dk dtk_X5_doAccess 40 rfl) rfl rfl ?_
      refine T_getR o 1 80 (dk dtk_X5_doAccess 41 rfl) kfl_X5_21 (kk_M0 ho) (kl_M0 hq ho) (by decide) rfl (kr_M_1 ho) ?_
      refine T_getR 80 7 88 (dk dtk_X5_doAccess 42 rfl) kfl_X5_160 kk_80 (kl_80 hq) (by decide) rfl kr_80_7 ?_
      refine T_iload_n 4 (dk dtk_X5_doAccess 43 rfl) rfl rfl ?_
      obtain ⟨h8, h⟩ := h
      refine T_iald 88 400 (dk dtk_X5_doAccess 44 rfl) kk_88 (kl_88 hq) h8 ?_
      refine T_aload_n 2 (dk dtk_X5_doAccess 45 rfl) rfl rfl ?_
      refine T_getR o 4 (o + 5) (dk dtk_X5_doAccess 46 rfl) kfl_X5_29 (kk_M0 ho) (kl_M0 hq ho) (by decide) rfl (kr_M_4 ho) ?_
      refine T_aload_n 2 (dk dtk_X5_doAccess 47 rfl) rfl rfl ?_
      refine T_iload_n 3 (dk dtk_X5_doAccess 48 rfl) rfl rfl ?_
      refine T_sub (lv2 := [(4, vi r2), (0, vr o), (1, vi l1), (2, vi l2), (3, vi l3)]) [1, 2, 3, 4, 5] rfl ?_
      refine KC_Vi [vi l1] [vr (o + 5), vi (x5.1 88 (l2 : Int32).toNatClampNeg), vr 60] rfl (dk dtk_X5_doAccess 49 rfl) kcv_X5_142 rfl (kk_M0 ho) rfl (kl_M0 hq ho) (Nat.le_of_ble_eq_true rfl) (Nat.le_of_ble_eq_true rfl) (gok_i (av_c rfl (av_c (gkr (kl_M0 hq ho)) (av_c rfl (av_c rfl (av_c rfl av_n))))) (as_c (gkr (kl_M5 hq ho)) (as_c rfl (as_c (gkr (kl_60 hq)) as_n)))) rfl h (fun r10 x9 h => ?_)
      refine T_iload_n 2 (dk dtk_X5_doAccess 50 rfl) rfl rfl ?_
      refine KC_Vi [vi (x5.1 88 (l2 : Int32).toNatClampNeg), vr (o + 5), vi r10, vi l1] [] rfl (dk dtk_X5_doAccess 51 rfl) kcv_X5_145 rfl kk_60 rfl (kl_60 hq) (Nat.le_of_ble_eq_true rfl) (Nat.le_of_ble_eq_true rfl) (gok_i (av_c rfl (av_c (gkr (kl_M0 hq ho)) (av_c rfl (av_c rfl (av_c rfl av_n))))) as_n) rfl h (fun r12 x11 h => ?_)
      refine T_istore (lv2 := [(6, vi r12), (4, vi r2), (0, vr o), (1, vi l1), (2, vi l2), (3, vi l3)]) (dk dtk_X5_doAccess 52 rfl) (by decide) rfl ?_
      refine T_aload_n 2 (dk dtk_X5_doAccess 53 rfl) rfl rfl ?_
      refine T_getR o 0 60 (dk dtk_X5_doAccess 54 rfl) kfl_X5_11 (kk_M0 ho) (kl_M0 hq ho) (by decide) rfl (kr_M_0 ho) ?_
      refine T_getI 60 5 (dk dtk_X5_doAccess 55 rfl) kfl_X5_149 kk_60 (kl_60 hq) (by decide) rfl ?_
      refine T_if_eq 110 (dk dtk_X5_doAccess 56 rfl) (by decide) (fun c13 => ?_) (fun c13 => ?_)
      · have h := h.1 c13
        refine T_iload_n 5 (dk dtk_X5_doAccess 59 rfl) rfl rfl ?_
        refine T_iconst (v := 1) (dk dtk_X5_doAccess 60 rfl) (by decide +kernel) ?_
        refine T_icmp_ne 128 (dk dtk_X5_doAccess 61 rfl) (by decide) (fun c14 => ?_) (fun c14 => ?_)
        · have h := h.1 c14
          refine T_aload_n 2 (dk dtk_X5_doAccess 69 rfl) rfl rfl ?_
          refine T_iload_n 3 (dk dtk_X5_doAccess 70 rfl) rfl rfl ?_
          refine T_iload_n 4 (dk dtk_X5_doAccess 71 rfl) rfl rfl ?_
          refine T_iload 1 (dk dtk_X5_doAccess 72 rfl) rfl ?_
          refine T_iload 0 (dk dtk_X5_doAccess 73 rfl) rfl ?_
          refine T_sub (lv2 := []) [] rfl ?_
          refine KC_Vi [vi l1, vi l2, vi r2, vi r12] [] rfl (dk dtk_X5_doAccess 74 rfl) kcv_X5_249 rfl (kk_M0 ho) rfl (kl_M0 hq ho) (Nat.le_of_ble_eq_true rfl) (Nat.le_of_ble_eq_true rfl) (gok_i av_n as_n) rfl h (fun r16 x15 h => ?_)
          exact KT_iret (dk dtk_X5_doAccess 75 rfl) rfl rfl h
        · have h := h.2 c14
          refine T_aload_n 2 (dk dtk_X5_doAccess 62 rfl) rfl rfl ?_
          refine T_iload_n 3 (dk dtk_X5_doAccess 63 rfl) rfl rfl ?_
          refine T_iload_n 4 (dk dtk_X5_doAccess 64 rfl) rfl rfl ?_
          refine T_iload 1 (dk dtk_X5_doAccess 65 rfl) rfl ?_
          refine T_iload 0 (dk dtk_X5_doAccess 66 rfl) rfl ?_
          refine T_sub (lv2 := []) [] rfl ?_
          refine KC_Vi [vi l1, vi l2, vi r2, vi r12] [] rfl (dk dtk_X5_doAccess 67 rfl) kcv_X5_246 rfl (kk_M0 ho) rfl (kl_M0 hq ho) (Nat.le_of_ble_eq_true rfl) (Nat.le_of_ble_eq_true rfl) (gok_i av_n as_n) rfl h (fun r18 x17 h => ?_)
          refine T_goto 138 (dk dtk_X5_doAccess 68 rfl) (by decide) ?_
          exact KT_iret (dk dtk_X5_doAccess 75 rfl) rfl rfl h
      · have h := h.2 c13
        refine T_iconst (v := 1) (dk dtk_X5_doAccess 57 rfl) (by decide +kernel) ?_
        exact KT_iret (dk dtk_X5_doAccess 58 rfl) rfl rfl h
    · have h := h.2 c7
      refine T_aload_n 2 (dk dtk_X5_doAccess 21 rfl) rfl rfl ?_
      refine T_getR o 2 (o + 20) (dk dtk_X5_doAccess 22 rfl) kfl_X5_25 (kk_M0 ho) (kl_M0 hq ho) (by decide) rfl (kr_M_2 ho) ?_
      refine T_iload 0 (dk dtk_X5_doAccess 23 rfl) rfl ?_
      obtain ⟨x19, ex19⟩ : ∃ z, z = si x5 (o + 20) 3 r6 := ⟨_, rfl⟩
      have h := h x19 ex19
      refine T_putI (o + 20) 3 (dk dtk_X5_doAccess 24 rfl) kfl_X5_243 (kk_D0 (kiM_D ho)) (kl_D0 hq (kiM_D ho)) (by decide) rfl ⟨rfl, rfl⟩ ?_
      rw [← ex19]
      refine T_aload_n 2 (dk dtk_X5_doAccess 25 rfl) rfl rfl ?_
      refine T_iload_n 3 (dk dtk_X5_doAccess 26 rfl) rfl rfl ?_
      refine T_bipush (v := 8) (dk dtk_X5_doAccess 27 rfl) (by decide +kernel) ?_
      refine T_aload_n 2 (dk dtk_X5_doAccess 28 rfl) rfl rfl ?_
      refine T_getR o 1 80 (dk dtk_X5_doAccess 29 rfl) kfl_X5_21 (kk_M0 ho) (kl_M0 hq ho) (by decide) rfl (kr_M_1 ho) ?_
      refine T_getR 80 3 84 (dk dtk_X5_doAccess 30 rfl) kfl_X5_182 kk_80 (kl_80 hq) (by decide) rfl kr_80_3 ?_
      refine T_iload_n 4 (dk dtk_X5_doAccess 31 rfl) rfl rfl ?_
      obtain ⟨h20, h⟩ := h
      refine T_iald 84 400 (dk dtk_X5_doAccess 32 rfl) kk_84 (kl_84 hq) h20 ?_
      refine T_iadd (dk dtk_X5_doAccess 33 rfl) ?_
      refine T_iload 0 (dk dtk_X5_doAccess 34 rfl) rfl ?_
      refine T_sub (lv2 := []) [] rfl ?_
      refine KC_Vv [vi l1, vi (8 + (x19.1 84 (l2 : Int32).toNatClampNeg)), vi r6] [] rfl (dk dtk_X5_doAccess 35 rfl) kcv_X5_117 rfl (kk_M0 ho) rfl (kl_M0 hq ho) (Nat.le_of_ble_eq_true rfl) (Nat.le_of_ble_eq_true rfl) (gok_i av_n as_n) rfl h (fun x21 h => ?_)
      refine T_iconst (v := 0) (dk dtk_X5_doAccess 36 rfl) (by decide +kernel) ?_
      exact KT_iret (dk dtk_X5_doAccess 37 rfl) rfl rfl h
  · have h := h.2 c4
    refine T_aload_n 1 (dk dtk_X5_doAccess 11 rfl) rfl rfl ?_
    refine T_getI o 14 (dk dtk_X5_doAccess 12 rfl) kfl_X5_154 (kk_M0 ho) (kl_M0 hq ho) (by decide) rfl ?_
    exact KT_iret (dk dtk_X5_doAccess 13 rfl) rfl rfl h
set_option maxRecDepth 100000 in
theorem dtk_X5_doWrite : dck cX5_doWrite [(0, .aload_n 0, 1), (1, .iload_n 2, 1), (2, .invokevirtual 166, 3), (5, .ifCond .ne 14, 3), (8, .aload_n 0, 1), (9, .getfield 29, 3), (12, .iload_n 3, 1), (13, .iload 4, 2), (15, .iastore, 1), (16, .goto 43, 3), (19, .aload_n 0, 1), (20, .iload_n 1, 1), (21, .bipush 7, 2), (23, .invokevirtual 90, 3), (26, .istore 5, 2), (28, .iload 5, 2), (30, .bipush 8, 2), (32, .if_icmp .lt 6, 3), (35, .bipush 9, 2), (37, .ireturn, 1), (38, .aload_n 0, 1), (39, .iload_n 1, 1), (40, .iload 5, 2), (42, .iload_n 3, 1), (43, .iload 4, 2), (45, .invokevirtual 208, 3), (48, .aload_n 0, 1), (49, .iload_n 1, 1), (50, .bipush 7, 2), (52, .iload 5, 2), (54, .iconst 1, 1), (55, .iadd, 1), (56, .invokevirtual 117, 3), (59, .aload_n 0, 1), (60, .getfield 25, 3), (63, .iload 4, 2), (65, .putfield 252, 3), (68, .iconst 0, 1), (69, .ireturn, 1)] = true := by decide +kernel
set_option maxRecDepth 100000 in
set_option maxHeartbeats 4000000 in
theorem kg_X5_doWrite_0 {G : kG} {q : kP} {d : Nat} {x : gd} {P : Option gv → gd → Prop} (hq : kV q) {o : Nat} (ho : kiM q o) (l1 : Int32) (l2 : Int32) (l3 : Int32) (l4 : Int32)
    (h : KT G q d zk_X5_goesLate 0 [(0, vr o), (1, vi l2)] [] x (ri (fun r2 x1 => ((¬ (r2 = (0 : Int32)) → KT G q d zk_X5_get 0 [(0, vr o), (1, vi l1), (2, vi 7)] [] x1 (ri (fun r5 x4 => ((r5 < (8 : Int32) → KT G q d zk_X5_setLate 0 [(0, vr o), (1, vi l1), (2, vi r5), (3, vi l3), (4, vi l4)] [] x4 (rv (fun x7 => KT G q d zk_X5_set 0 [(0, vr o), (1, vi l1), (2, vi 7), (3, vi (r5 + 1))] [] x7 (rv (fun x8 => (∀ x9 : gd, x9 = si x8 (o + 20) 4 l4 → P (some (vi 0)) x9)))))) ∧ (¬ (r5 < (8 : Int32)) → P (some (vi 9)) x4))))) ∧ (r2 = (0 : Int32) → vp_in l3 228 ∧ (∀ x11 : gd, x11 = si x1 (o + 5) (l3 : Int32).toNatClampNeg l4 → (∀ x12 : gd, x12 = si x11 (o + 20) 4 l4 → P (some (vi 0)) x12))))))) :
    KT G q (d + 1) zk_X5_doWrite 0 [(0, vr o), (1, vi l1), (2, vi l2), (3, vi l3), (4, vi l4)] [] x P := by
  refine T_aload_n 0 (dk dtk_X5_doWrite 0 rfl) rfl rfl ?_
  refine T_iload_n 2 (dk dtk_X5_doWrite 1 rfl) rfl rfl ?_
  refine T_sub (lv2 := [(0, vr o), (1, vi l1), (3, vi l3), (4, vi l4)]) [0, 1, 3, 4] rfl ?_
  refine KC_Vi [vi l2] [] rfl (dk dtk_X5_doWrite 2 rfl) kcv_X5_166 rfl (kk_M0 ho) rfl (kl_M0 hq ho) (Nat.le_of_ble_eq_true rfl) (Nat.le_of_ble_eq_true rfl) (gok_i (av_c (gkr (kl_M0 hq ho)) (av_c rfl (av_c rfl (av_c rfl av_n)))) as_n) rfl h (fun r2 x1 h => ?_)
  refine T_if_ne 19 (dk dtk_X5_doWrite 3 rfl) (by decide) (fun c3 => ?_) (fun c3 => ?_)
  · have h := h.1 c3
    refine T_aload_n 0 (dk dtk_X5_doWrite 10 rfl) rfl rfl ?_
    refine T_iload_n 1 (dk dtk_X5_doWrite 11 rfl) rfl rfl ?_
    refine T_bipush (v := 7) (dk dtk_X5_doWrite 12 rfl) (by decide +kernel) ?_
    refine KC_Vi [vi l1, vi 7] [] rfl (dk dtk_X5_doWrite 13 rfl) kcv_X5_90 rfl (kk_M0 ho) rfl (kl_M0 hq ho) (Nat.le_of_ble_eq_true rfl) (Nat.le_of_ble_eq_true rfl) (gok_i (av_c (gkr (kl_M0 hq ho)) (av_c rfl (av_c rfl (av_c rfl av_n)))) as_n) rfl h (fun r5 x4 h => ?_)
    refine T_istore (lv2 := [(5, vi r5), (0, vr o), (1, vi l1), (3, vi l3), (4, vi l4)]) (dk dtk_X5_doWrite 14 rfl) (by decide) rfl ?_
    refine T_iload 0 (dk dtk_X5_doWrite 15 rfl) rfl ?_
    refine T_bipush (v := 8) (dk dtk_X5_doWrite 16 rfl) (by decide +kernel) ?_
    refine T_icmp_lt 38 (dk dtk_X5_doWrite 17 rfl) (by decide) (fun c6 => ?_) (fun c6 => ?_)
    · have h := h.1 c6
      refine T_aload_n 1 (dk dtk_X5_doWrite 20 rfl) rfl rfl ?_
      refine T_iload_n 2 (dk dtk_X5_doWrite 21 rfl) rfl rfl ?_
      refine T_iload 0 (dk dtk_X5_doWrite 22 rfl) rfl ?_
      refine T_iload_n 3 (dk dtk_X5_doWrite 23 rfl) rfl rfl ?_
      refine T_iload 4 (dk dtk_X5_doWrite 24 rfl) rfl ?_
      refine T_sub (lv2 := [(5, vi r5), (0, vr o), (1, vi l1), (4, vi l4)]) [0, 1, 2, 4] rfl ?_
      refine KC_Vv [vi l1, vi r5, vi l3, vi l4] [] rfl (dk dtk_X5_doWrite 25 rfl) kcv_X5_208 rfl (kk_M0 ho) rfl (kl_M0 hq ho) (Nat.le_of_ble_eq_true rfl) (Nat.le_of_ble_eq_true rfl) (gok_i (av_c rfl (av_c (gkr (kl_M0 hq ho)) (av_c rfl (av_c rfl av_n)))) as_n) rfl h (fun x7 h => ?_)
      refine T_aload_n 1 (dk dtk_X5_doWrite 26 rfl) rfl rfl ?_
      refine T_iload_n 2 (dk dtk_X5_doWrite 27 rfl) rfl rfl ?_
      refine T_bipush (v := 7) (dk dtk_X5_doWrite 28 rfl) (by decide +kernel) ?_
      refine T_iload 0 (dk dtk_X5_doWrite 29 rfl) rfl ?_
      refine T_iconst (v := 1) (dk dtk_X5_doWrite 30 rfl) (by decide +kernel) ?_
      refine T_iadd (dk dtk_X5_doWrite 31 rfl) ?_
      refine T_sub (lv2 := [(0, vr o), (4, vi l4)]) [1, 3] rfl ?_
      refine KC_Vv [vi l1, vi 7, vi (r5 + 1)] [] rfl (dk dtk_X5_doWrite 32 rfl) kcv_X5_117 rfl (kk_M0 ho) rfl (kl_M0 hq ho) (Nat.le_of_ble_eq_true rfl) (Nat.le_of_ble_eq_true rfl) (gok_i (av_c (gkr (kl_M0 hq ho)) (av_c rfl av_n)) as_n) rfl h (fun x8 h => ?_)
      refine T_aload_n 0 (dk dtk_X5_doWrite 33 rfl) rfl rfl ?_
      refine T_getR o 2 (o + 20) (dk dtk_X5_doWrite 34 rfl) kfl_X5_25 (kk_M0 ho) (kl_M0 hq ho) (by decide) rfl (kr_M_2 ho) ?_
      refine T_iload 1 (dk dtk_X5_doWrite 35 rfl) rfl ?_
      obtain ⟨x9, ex9⟩ : ∃ z, z = si x8 (o + 20) 4 l4 := ⟨_, rfl⟩
      have h := h x9 ex9
      refine T_putI (o + 20) 4 (dk dtk_X5_doWrite 36 rfl) kfl_X5_252 (kk_D0 (kiM_D ho)) (kl_D0 hq (kiM_D ho)) (by decide) rfl ⟨rfl, rfl⟩ ?_
      rw [← ex9]
      refine T_iconst (v := 0) (dk dtk_X5_doWrite 37 rfl) (by decide +kernel) ?_
      exact KT_iret (dk dtk_X5_doWrite 38 rfl) rfl rfl h
    · have h := h.2 c6
      refine T_bipush (v := 9) (dk dtk_X5_doWrite 18 rfl) (by decide +kernel) ?_
      exact KT_iret (dk dtk_X5_doWrite 19 rfl) rfl rfl h
  · have h := h.2 c3
    refine T_aload_n 0 (dk dtk_X5_doWrite 4 rfl) rfl rfl ?_
    refine T_getR o 4 (o + 5) (dk dtk_X5_doWrite 5 rfl) kfl_X5_29 (kk_M0 ho) (kl_M0 hq ho) (by decide) rfl (kr_M_4 ho) ?_
    refine T_iload_n 2 (dk dtk_X5_doWrite 6 rfl) rfl rfl ?_
    refine T_iload 3 (dk dtk_X5_doWrite 7 rfl) rfl ?_
    obtain ⟨h10, h⟩ := h
    obtain ⟨x11, ex11⟩ : ∃ z, z = si x1 (o + 5) (l3 : Int32).toNatClampNeg l4 := ⟨_, rfl⟩
    have h := h x11 ex11
    refine T_iast (o + 5) 228 (dk dtk_X5_doWrite 8 rfl) (kk_M5 ho) (kl_M5 hq ho) h10 ?_
    rw [← ex11]
    refine T_goto 59 (dk dtk_X5_doWrite 9 rfl) (by decide) ?_
    refine T_aload_n 0 (dk dtk_X5_doWrite 33 rfl) rfl rfl ?_
    refine T_getR o 2 (o + 20) (dk dtk_X5_doWrite 34 rfl) kfl_X5_25 (kk_M0 ho) (kl_M0 hq ho) (by decide) rfl (kr_M_2 ho) ?_
    refine T_iload 3 (dk dtk_X5_doWrite 35 rfl) rfl ?_
    obtain ⟨x12, ex12⟩ : ∃ z, z = si x11 (o + 20) 4 l4 := ⟨_, rfl⟩
    have h := h x12 ex12
    refine T_putI (o + 20) 4 (dk dtk_X5_doWrite 36 rfl) kfl_X5_252 (kk_D0 (kiM_D ho)) (kl_D0 hq (kiM_D ho)) (by decide) rfl ⟨rfl, rfl⟩ ?_
    rw [← ex12]
    refine T_iconst (v := 0) (dk dtk_X5_doWrite 37 rfl) (by decide +kernel) ?_
    exact KT_iret (dk dtk_X5_doWrite 38 rfl) rfl rfl h
set_option maxRecDepth 100000 in
theorem dtk_X5_doExchange : dck cX5_doExchange [(0, .aload_n 0, 1), (1, .getfield 29, 3), (4, .iload_n 3, 1), (5, .iaload, 1), (6, .istore 5, 2), (8, .iload 5, 2), (10, .istore 6, 2), (12, .iload 4, 2), (14, .istore 7, 2), (16, .aload_n 0, 1), (17, .getfield 21, 3), (20, .getfield 127, 3), (23, .iload_n 2, 1), (24, .iaload, 1), (25, .iconst 3, 1), (26, .if_icmp .ne 13, 3), (29, .iload 5, 2), (31, .iload 4, 2), (33, .iadd, 1), (34, .istore 7, 2), (36, .goto 86, 3), (39, .aload_n 0, 1), (40, .getfield 21, 3), (43, .getfield 127, 3), (46, .iload_n 2, 1), (47, .iaload, 1), (48, .iconst 4, 1), (49, .if_icmp .ne 73, 3), (52, .aload_n 0, 1), (53, .getfield 11, 3), (56, .aload_n 0, 1), (57, .getfield 21, 3), (60, .getfield 163, 3), (63, .iload_n 2, 1), (64, .iaload, 1), (65, .aload_n 0, 1), (66, .getfield 29, 3), (69, .aload_n 0, 1), (70, .iload_n 1, 1), (71, .invokevirtual 142, 3), (74, .iload_n 1, 1), (75, .invokevirtual 145, 3), (78, .istore 8, 2), (80, .aload_n 0, 1), (81, .getfield 11, 3), (84, .getfield 149, 3), (87, .ifCond .eq 5, 3), (90, .iconst 1, 1), (91, .ireturn, 1), (92, .iload 5, 2), (94, .iload 4, 2), (96, .if_icmp .ne 7, 3), (99, .iconst 1, 1), (100, .goto 4, 3), (103, .iconst 0, 1), (104, .istore 6, 2), (106, .iload 5, 2), (108, .iload 4, 2), (110, .if_icmp .ne 8, 3), (113, .iload 8, 2), (115, .goto 5, 3), (118, .iload 5, 2), (120, .istore 7, 2), (122, .aload_n 0, 1), (123, .getfield 29, 3), (126, .iload_n 3, 1), (127, .iload 7, 2), (129, .iastore, 1), (130, .aload_n 0, 1), (131, .getfield 25, 3), (134, .iload 5, 2), (136, .putfield 243, 3), (139, .aload_n 0, 1), (140, .getfield 25, 3), (143, .iload 7, 2), (145, .putfield 252, 3), (148, .aload_n 0, 1), (149, .iload_n 1, 1), (150, .bipush 8, 2), (152, .aload_n 0, 1), (153, .getfield 21, 3), (156, .getfield 182, 3), (159, .iload_n 2, 1), (160, .iaload, 1), (161, .iadd, 1), (162, .iload 6, 2), (164, .invokevirtual 117, 3), (167, .iconst 0, 1), (168, .ireturn, 1)] = true := by decide +kernel
set_option maxRecDepth 100000 in
set_option maxHeartbeats 4000000 in
theorem kg_X5_doExchange_0 {G : kG} {q : kP} {d : Nat} {x : gd} {P : Option gv → gd → Prop} (hq : kV q) {o : Nat} (ho : kiM q o) (l1 : Int32) (l2 : Int32) (l3 : Int32) (l4 : Int32)
    (h : vp_in l3 228 ∧ vp_in l2 400 ∧ ((¬ ((x.1 81 (l2 : Int32).toNatClampNeg) = (3 : Int32)) → vp_in l2 400 ∧ ((¬ ((x.1 81 (l2 : Int32).toNatClampNeg) = (4 : Int32)) → KT G q (d + 1) zk_X5_doExchange 122 [(0, vr o), (1, vi l1), (2, vi l2), (3, vi l3), (5, vi (x.1 (o + 5) (l3 : Int32).toNatClampNeg)), (6, vi (x.1 (o + 5) (l3 : Int32).toNatClampNeg)), (7, vi l4)] [] x P) ∧ ((x.1 81 (l2 : Int32).toNatClampNeg) = (4 : Int32) → vp_in l2 400 ∧ KT G q d zk_X5_localsAt 0 [(0, vr o), (1, vi l1)] [] x (ri (fun r8 x7 => KT G q d zk_X0_work 0 [(0, vr 60), (1, vi (x.1 89 (l2 : Int32).toNatClampNeg)), (2, vr (o + 5)), (3, vi r8), (4, vi l1)] [] x7 (ri (fun r10 x9 => (((x9.1 60 5) = (0 : Int32) → ((¬ ((x.1 (o + 5) (l3 : Int32).toNatClampNeg) = l4) → KT G q (d + 1) zk_X5_doExchange 104 [(0, vr o), (1, vi l1), (2, vi l2), (3, vi l3), (4, vi l4), (5, vi (x.1 (o + 5) (l3 : Int32).toNatClampNeg)), (8, vi r10)] [vi 0] x9 P) ∧ ((x.1 (o + 5) (l3 : Int32).toNatClampNeg) = l4 → KT G q (d + 1) zk_X5_doExchange 104 [(0, vr o), (1, vi l1), (2, vi l2), (3, vi l3), (4, vi l4), (5, vi (x.1 (o + 5) (l3 : Int32).toNatClampNeg)), (8, vi r10)] [vi 1] x9 P))) ∧ (¬ ((x9.1 60 5) = (0 : Int32)) → P (some (vi 1)) x9))))))))) ∧ ((x.1 81 (l2 : Int32).toNatClampNeg) = (3 : Int32) → KT G q (d + 1) zk_X5_doExchange 122 [(0, vr o), (1, vi l1), (2, vi l2), (3, vi l3), (5, vi (x.1 (o + 5) (l3 : Int32).toNatClampNeg)), (6, vi (x.1 (o + 5) (l3 : Int32).toNatClampNeg)), (7, vi ((x.1 (o + 5) (l3 : Int32).toNatClampNeg) + l4))] [] x P))) :
    KT G q (d + 1) zk_X5_doExchange 0 [(0, vr o), (1, vi l1), (2, vi l2), (3, vi l3), (4, vi l4)] [] x P := by
  refine T_aload_n 0 (dk dtk_X5_doExchange 0 rfl) rfl rfl ?_
  refine T_getR o 4 (o + 5) (dk dtk_X5_doExchange 1 rfl) kfl_X5_29 (kk_M0 ho) (kl_M0 hq ho) (by decide) rfl (kr_M_4 ho) ?_
  refine T_iload_n 3 (dk dtk_X5_doExchange 2 rfl) rfl rfl ?_
  obtain ⟨h1, h⟩ := h
  refine T_iald (o + 5) 228 (dk dtk_X5_doExchange 3 rfl) (kk_M5 ho) (kl_M5 hq ho) h1 ?_
  refine T_istore (lv2 := [(5, vi (x.1 (o + 5) (l3 : Int32).toNatClampNeg)), (0, vr o), (1, vi l1), (2, vi l2), (3, vi l3), (4, vi l4)]) (dk dtk_X5_doExchange 4 rfl) (by decide) rfl ?_
  refine T_iload 0 (dk dtk_X5_doExchange 5 rfl) rfl ?_
  refine T_istore (lv2 := [(6, vi (x.1 (o + 5) (l3 : Int32).toNatClampNeg)), (5, vi (x.1 (o + 5) (l3 : Int32).toNatClampNeg)), (0, vr o), (1, vi l1), (2, vi l2), (3, vi l3), (4, vi l4)]) (dk dtk_X5_doExchange 6 rfl) (by decide) rfl ?_
  refine T_iload 6 (dk dtk_X5_doExchange 7 rfl) rfl ?_
  refine T_istore (lv2 := [(7, vi l4), (6, vi (x.1 (o + 5) (l3 : Int32).toNatClampNeg)), (5, vi (x.1 (o + 5) (l3 : Int32).toNatClampNeg)), (0, vr o), (1, vi l1), (2, vi l2), (3, vi l3), (4, vi l4)]) (dk dtk_X5_doExchange 8 rfl) (by decide) rfl ?_
  refine T_aload_n 3 (dk dtk_X5_doExchange 9 rfl) rfl rfl ?_
  refine T_getR o 1 80 (dk dtk_X5_doExchange 10 rfl) kfl_X5_21 (kk_M0 ho) (kl_M0 hq ho) (by decide) rfl (kr_M_1 ho) ?_
  refine T_getR 80 0 81 (dk dtk_X5_doExchange 11 rfl) kfl_X5_127 kk_80 (kl_80 hq) (by decide) rfl kr_80_0 ?_
  refine T_iload_n 5 (dk dtk_X5_doExchange 12 rfl) rfl rfl ?_
  obtain ⟨h2, h⟩ := h
  refine T_iald 81 400 (dk dtk_X5_doExchange 13 rfl) kk_81 (kl_81 hq) h2 ?_
  refine T_iconst (v := 3) (dk dtk_X5_doExchange 14 rfl) (by decide +kernel) ?_
  refine T_icmp_ne 39 (dk dtk_X5_doExchange 15 rfl) (by decide) (fun c3 => ?_) (fun c3 => ?_)
  · have h := h.1 c3
    refine T_aload_n 3 (dk dtk_X5_doExchange 21 rfl) rfl rfl ?_
    refine T_getR o 1 80 (dk dtk_X5_doExchange 22 rfl) kfl_X5_21 (kk_M0 ho) (kl_M0 hq ho) (by decide) rfl (kr_M_1 ho) ?_
    refine T_getR 80 0 81 (dk dtk_X5_doExchange 23 rfl) kfl_X5_127 kk_80 (kl_80 hq) (by decide) rfl kr_80_0 ?_
    refine T_iload_n 5 (dk dtk_X5_doExchange 24 rfl) rfl rfl ?_
    obtain ⟨h4, h⟩ := h
    refine T_iald 81 400 (dk dtk_X5_doExchange 25 rfl) kk_81 (kl_81 hq) h4 ?_
    refine T_iconst (v := 4) (dk dtk_X5_doExchange 26 rfl) (by decide +kernel) ?_
    refine T_icmp_ne 122 (dk dtk_X5_doExchange 27 rfl) (by decide) (fun c5 => ?_) (fun c5 => ?_)
    · have h := h.1 c5
      exact T_sub [3, 4, 5, 6, 2, 1, 0] rfl h
    · have h := h.2 c5
      refine T_aload_n 3 (dk dtk_X5_doExchange 28 rfl) rfl rfl ?_
      refine T_getR o 0 60 (dk dtk_X5_doExchange 29 rfl) kfl_X5_11 (kk_M0 ho) (kl_M0 hq ho) (by decide) rfl (kr_M_0 ho) ?_
      refine T_aload_n 3 (dk dtk_X5_doExchange 30 rfl) rfl rfl ?_
      refine T_getR o 1 80 (dk dtk_X5_doExchange 31 rfl) kfl_X5_21 (kk_M0 ho) (kl_M0 hq ho) (by decide) rfl (kr_M_1 ho) ?_
      refine T_getR 80 8 89 (dk dtk_X5_doExchange 32 rfl) kfl_X5_163 kk_80 (kl_80 hq) (by decide) rfl kr_80_8 ?_
      refine T_iload_n 5 (dk dtk_X5_doExchange 33 rfl) rfl rfl ?_
      obtain ⟨h6, h⟩ := h
      refine T_iald 89 400 (dk dtk_X5_doExchange 34 rfl) kk_89 (kl_89 hq) h6 ?_
      refine T_aload_n 3 (dk dtk_X5_doExchange 35 rfl) rfl rfl ?_
      refine T_getR o 4 (o + 5) (dk dtk_X5_doExchange 36 rfl) kfl_X5_29 (kk_M0 ho) (kl_M0 hq ho) (by decide) rfl (kr_M_4 ho) ?_
      refine T_aload_n 3 (dk dtk_X5_doExchange 37 rfl) rfl rfl ?_
      refine T_iload_n 4 (dk dtk_X5_doExchange 38 rfl) rfl rfl ?_
      refine T_sub (lv2 := [(5, vi (x.1 (o + 5) (l3 : Int32).toNatClampNeg)), (0, vr o), (1, vi l1), (2, vi l2), (3, vi l3), (4, vi l4)]) [2, 3, 4, 5, 6, 7] rfl ?_
      refine KC_Vi [vi l1] [vr (o + 5), vi (x.1 89 (l2 : Int32).toNatClampNeg), vr 60] rfl (dk dtk_X5_doExchange 39 rfl) kcv_X5_142 rfl (kk_M0 ho) rfl (kl_M0 hq ho) (Nat.le_of_ble_eq_true rfl) (Nat.le_of_ble_eq_true rfl) (gok_i (av_c rfl (av_c (gkr (kl_M0 hq ho)) (av_c rfl (av_c rfl (av_c rfl (av_c rfl av_n)))))) (as_c (gkr (kl_M5 hq ho)) (as_c rfl (as_c (gkr (kl_60 hq)) as_n)))) rfl h (fun r8 x7 h => ?_)
      refine T_iload_n 2 (dk dtk_X5_doExchange 40 rfl) rfl rfl ?_
      refine KC_Vi [vi (x.1 89 (l2 : Int32).toNatClampNeg), vr (o + 5), vi r8, vi l1] [] rfl (dk dtk_X5_doExchange 41 rfl) kcv_X5_145 rfl kk_60 rfl (kl_60 hq) (Nat.le_of_ble_eq_true rfl) (Nat.le_of_ble_eq_true rfl) (gok_i (av_c rfl (av_c (gkr (kl_M0 hq ho)) (av_c rfl (av_c rfl (av_c rfl (av_c rfl av_n)))))) as_n) rfl h (fun r10 x9 h => ?_)
      refine T_istore (lv2 := [(8, vi r10), (5, vi (x.1 (o + 5) (l3 : Int32).toNatClampNeg)), (0, vr o), (1, vi l1), (2, vi l2), (3, vi l3), (4, vi l4)]) (dk dtk_X5_doExchange 42 rfl) (by decide) rfl ?_
      refine T_aload_n 2 (dk dtk_X5_doExchange 43 rfl) rfl rfl ?_
      refine T_getR o 0 60 (dk dtk_X5_doExchange 44 rfl) kfl_X5_11 (kk_M0 ho) (kl_M0 hq ho) (by decide) rfl (kr_M_0 ho) ?_
      refine T_getI 60 5 (dk dtk_X5_doExchange 45 rfl) kfl_X5_149 kk_60 (kl_60 hq) (by decide) rfl ?_
      refine T_if_eq 92 (dk dtk_X5_doExchange 46 rfl) (by decide) (fun c11 => ?_) (fun c11 => ?_)
      · have h := h.1 c11
        refine T_iload 1 (dk dtk_X5_doExchange 49 rfl) rfl ?_
        refine T_iload 6 (dk dtk_X5_doExchange 50 rfl) rfl ?_
        refine T_icmp_ne 103 (dk dtk_X5_doExchange 51 rfl) (by decide) (fun c12 => ?_) (fun c12 => ?_)
        · have h := h.1 c12
          refine T_iconst (v := 0) (dk dtk_X5_doExchange 54 rfl) (by decide +kernel) ?_
          exact T_sub [2, 3, 4, 5, 6, 1, 0] rfl h
        · have h := h.2 c12
          refine T_iconst (v := 1) (dk dtk_X5_doExchange 52 rfl) (by decide +kernel) ?_
          refine T_goto 104 (dk dtk_X5_doExchange 53 rfl) (by decide) ?_
          exact T_sub [2, 3, 4, 5, 6, 1, 0] rfl h
      · have h := h.2 c11
        refine T_iconst (v := 1) (dk dtk_X5_doExchange 47 rfl) (by decide +kernel) ?_
        exact KT_iret (dk dtk_X5_doExchange 48 rfl) rfl rfl h
  · have h := h.2 c3
    refine T_iload 2 (dk dtk_X5_doExchange 16 rfl) rfl ?_
    refine T_iload 7 (dk dtk_X5_doExchange 17 rfl) rfl ?_
    refine T_iadd (dk dtk_X5_doExchange 18 rfl) ?_
    refine T_istore (lv2 := [(7, vi ((x.1 (o + 5) (l3 : Int32).toNatClampNeg) + l4)), (6, vi (x.1 (o + 5) (l3 : Int32).toNatClampNeg)), (5, vi (x.1 (o + 5) (l3 : Int32).toNatClampNeg)), (0, vr o), (1, vi l1), (2, vi l2), (3, vi l3), (4, vi l4)]) (dk dtk_X5_doExchange 19 rfl) (by decide) rfl ?_
    refine T_goto 122 (dk dtk_X5_doExchange 20 rfl) (by decide) ?_
    exact T_sub [3, 4, 5, 6, 2, 1, 0] rfl h
set_option maxRecDepth 100000 in
set_option maxHeartbeats 4000000 in
theorem kg_X5_doExchange_104 {G : kG} {q : kP} {d : Nat} {x : gd} {P : Option gv → gd → Prop} (hq : kV q) {o : Nat} (ho : kiM q o) (l1 : Int32) (l2 : Int32) (l3 : Int32) (l4 : Int32) (l5 : Int32) (l8 : Int32) (s0 : Int32)
    (h : ((¬ (l5 = l4) → KT G q (d + 1) zk_X5_doExchange 122 [(0, vr o), (1, vi l1), (2, vi l2), (3, vi l3), (5, vi l5), (6, vi s0), (7, vi l5)] [] x P) ∧ (l5 = l4 → KT G q (d + 1) zk_X5_doExchange 122 [(0, vr o), (1, vi l1), (2, vi l2), (3, vi l3), (5, vi l5), (6, vi s0), (7, vi l8)] [] x P))) :
    KT G q (d + 1) zk_X5_doExchange 104 [(0, vr o), (1, vi l1), (2, vi l2), (3, vi l3), (4, vi l4), (5, vi l5), (8, vi l8)] [vi s0] x P := by
  refine T_istore (lv2 := [(6, vi s0), (0, vr o), (1, vi l1), (2, vi l2), (3, vi l3), (4, vi l4), (5, vi l5), (8, vi l8)]) (dk dtk_X5_doExchange 55 rfl) (by decide) rfl ?_
  refine T_iload 6 (dk dtk_X5_doExchange 56 rfl) rfl ?_
  refine T_iload 5 (dk dtk_X5_doExchange 57 rfl) rfl ?_
  refine T_icmp_ne 118 (dk dtk_X5_doExchange 58 rfl) (by decide) (fun c1 => ?_) (fun c1 => ?_)
  · have h := h.1 c1
    refine T_iload 6 (dk dtk_X5_doExchange 61 rfl) rfl ?_
    refine T_istore (lv2 := [(7, vi l5), (6, vi s0), (0, vr o), (1, vi l1), (2, vi l2), (3, vi l3), (4, vi l4), (5, vi l5), (8, vi l8)]) (dk dtk_X5_doExchange 62 rfl) (by decide) rfl ?_
    exact T_sub [2, 3, 4, 5, 7, 1, 0] rfl h
  · have h := h.2 c1
    refine T_iload 7 (dk dtk_X5_doExchange 59 rfl) rfl ?_
    refine T_goto 120 (dk dtk_X5_doExchange 60 rfl) (by decide) ?_
    refine T_istore (lv2 := [(7, vi l8), (6, vi s0), (0, vr o), (1, vi l1), (2, vi l2), (3, vi l3), (4, vi l4), (5, vi l5), (8, vi l8)]) (dk dtk_X5_doExchange 62 rfl) (by decide) rfl ?_
    exact T_sub [2, 3, 4, 5, 7, 1, 0] rfl h
set_option maxRecDepth 100000 in
set_option maxHeartbeats 4000000 in
theorem kg_X5_doExchange_122 {G : kG} {q : kP} {d : Nat} {x : gd} {P : Option gv → gd → Prop} (hq : kV q) {o : Nat} (ho : kiM q o) (l1 : Int32) (l2 : Int32) (l3 : Int32) (l5 : Int32) (l6 : Int32) (l7 : Int32)
    (h : vp_in l3 228 ∧ (∀ x2 : gd, x2 = si x (o + 5) (l3 : Int32).toNatClampNeg l7 → (∀ x3 : gd, x3 = si x2 (o + 20) 3 l5 → (∀ x4 : gd, x4 = si x3 (o + 20) 4 l7 → vp_in l2 400 ∧ KT G q d zk_X5_set 0 [(0, vr o), (1, vi l1), (2, vi (8 + (x4.1 84 (l2 : Int32).toNatClampNeg))), (3, vi l6)] [] x4 (rv (fun x6 => P (some (vi 0)) x6)))))) :
    KT G q (d + 1) zk_X5_doExchange 122 [(0, vr o), (1, vi l1), (2, vi l2), (3, vi l3), (5, vi l5), (6, vi l6), (7, vi l7)] [] x P := by
  refine T_aload_n 0 (dk dtk_X5_doExchange 63 rfl) rfl rfl ?_
  refine T_getR o 4 (o + 5) (dk dtk_X5_doExchange 64 rfl) kfl_X5_29 (kk_M0 ho) (kl_M0 hq ho) (by decide) rfl (kr_M_4 ho) ?_
  refine T_iload_n 3 (dk dtk_X5_doExchange 65 rfl) rfl rfl ?_
  refine T_iload 6 (dk dtk_X5_doExchange 66 rfl) rfl ?_
  obtain ⟨h1, h⟩ := h
  obtain ⟨x2, ex2⟩ : ∃ z, z = si x (o + 5) (l3 : Int32).toNatClampNeg l7 := ⟨_, rfl⟩
  have h := h x2 ex2
  refine T_iast (o + 5) 228 (dk dtk_X5_doExchange 67 rfl) (kk_M5 ho) (kl_M5 hq ho) h1 ?_
  rw [← ex2]
  refine T_aload_n 0 (dk dtk_X5_doExchange 68 rfl) rfl rfl ?_
  refine T_getR o 2 (o + 20) (dk dtk_X5_doExchange 69 rfl) kfl_X5_25 (kk_M0 ho) (kl_M0 hq ho) (by decide) rfl (kr_M_2 ho) ?_
  refine T_iload 4 (dk dtk_X5_doExchange 70 rfl) rfl ?_
  obtain ⟨x3, ex3⟩ : ∃ z, z = si x2 (o + 20) 3 l5 := ⟨_, rfl⟩
  have h := h x3 ex3
  refine T_putI (o + 20) 3 (dk dtk_X5_doExchange 71 rfl) kfl_X5_243 (kk_D0 (kiM_D ho)) (kl_D0 hq (kiM_D ho)) (by decide) rfl ⟨rfl, rfl⟩ ?_
  rw [← ex3]
  refine T_aload_n 0 (dk dtk_X5_doExchange 72 rfl) rfl rfl ?_
  refine T_getR o 2 (o + 20) (dk dtk_X5_doExchange 73 rfl) kfl_X5_25 (kk_M0 ho) (kl_M0 hq ho) (by decide) rfl (kr_M_2 ho) ?_
  refine T_iload 6 (dk dtk_X5_doExchange 74 rfl) rfl ?_
  obtain ⟨x4, ex4⟩ : ∃ z, z = si x3 (o + 20) 4 l7 := ⟨_, rfl⟩
  have h := h x4 ex4
  refine T_putI (o + 20) 4 (dk dtk_X5_doExchange 75 rfl) kfl_X5_252 (kk_D0 (kiM_D ho)) (kl_D0 hq (kiM_D ho)) (by decide) rfl ⟨rfl, rfl⟩ ?_
  rw [← ex4]
  refine T_aload_n 0 (dk dtk_X5_doExchange 76 rfl) rfl rfl ?_
  refine T_iload_n 1 (dk dtk_X5_doExchange 77 rfl) rfl rfl ?_
  refine T_bipush (v := 8) (dk dtk_X5_doExchange 78 rfl) (by decide +kernel) ?_
  refine T_aload_n 0 (dk dtk_X5_doExchange 79 rfl) rfl rfl ?_
  refine T_getR o 1 80 (dk dtk_X5_doExchange 80 rfl) kfl_X5_21 (kk_M0 ho) (kl_M0 hq ho) (by decide) rfl (kr_M_1 ho) ?_
  refine T_getR 80 3 84 (dk dtk_X5_doExchange 81 rfl) kfl_X5_182 kk_80 (kl_80 hq) (by decide) rfl kr_80_3 ?_
  refine T_iload_n 2 (dk dtk_X5_doExchange 82 rfl) rfl rfl ?_
  obtain ⟨h5, h⟩ := h
  refine T_iald 84 400 (dk dtk_X5_doExchange 83 rfl) kk_84 (kl_84 hq) h5 ?_
  refine T_iadd (dk dtk_X5_doExchange 84 rfl) ?_
  refine T_iload 5 (dk dtk_X5_doExchange 85 rfl) rfl ?_
  refine T_sub (lv2 := []) [] rfl ?_
  refine KC_Vv [vi l1, vi (8 + (x4.1 84 (l2 : Int32).toNatClampNeg)), vi l6] [] rfl (dk dtk_X5_doExchange 86 rfl) kcv_X5_117 rfl (kk_M0 ho) rfl (kl_M0 hq ho) (Nat.le_of_ble_eq_true rfl) (Nat.le_of_ble_eq_true rfl) (gok_i av_n as_n) rfl h (fun x6 h => ?_)
  refine T_iconst (v := 0) (dk dtk_X5_doExchange 87 rfl) (by decide +kernel) ?_
  exact KT_iret (dk dtk_X5_doExchange 88 rfl) rfl rfl h
set_option maxRecDepth 100000 in
theorem dtk_X5_doGive : dck cX5_doGive [(0, .aload_n 0, 1), (1, .iload_n 2, 1), (2, .invokevirtual 113, 3), (5, .iload_n 1, 1), (6, .if_icmp .eq 5, 3), (9, .iconst 3, 1), (10, .ireturn, 1), (11, .aload_n 0, 1), (12, .iload_n 2, 1), (13, .invokevirtual 216, 3), (16, .iconst 1, 1), (17, .isub, 1), (18, .istore_n 3, 1), (19, .aload_n 0, 1), (20, .iload_n 2, 1), (21, .iload_n 3, 1), (22, .ifCond .ne 7, 3), (25, .iconst (-1), 1), (26, .goto 4, 3), (29, .iload_n 1, 1), (30, .iload_n 3, 1), (31, .invokevirtual 219, 3), (34, .iconst 0, 1), (35, .ireturn, 1)] = true := by decide +kernel
set_option maxRecDepth 100000 in
set_option maxHeartbeats 4000000 in
theorem kg_X5_doGive_0 {G : kG} {q : kP} {d : Nat} {x : gd} {P : Option gv → gd → Prop} (hq : kV q) {o : Nat} (ho : kiM q o) (l1 : Int32) (l2 : Int32)
    (h : KT G q d zk_X5_holder 0 [(0, vr o), (1, vi l2)] [] x (ri (fun r2 x1 => ((r2 = l1 → KT G q d zk_X5_often 0 [(0, vr o), (1, vi l2)] [] x1 (ri (fun r5 x4 => ((¬ ((r5 - 1) = (0 : Int32)) → KT G q (d + 1) zk_X5_doGive 30 [(3, vi (r5 - 1))] [vi l1, vi l2, vr o] x4 P) ∧ ((r5 - 1) = (0 : Int32) → KT G q (d + 1) zk_X5_doGive 30 [(3, vi (r5 - 1))] [vi (-1), vi l2, vr o] x4 P))))) ∧ (¬ (r2 = l1) → P (some (vi 3)) x1))))) :
    KT G q (d + 1) zk_X5_doGive 0 [(0, vr o), (1, vi l1), (2, vi l2)] [] x P := by
  refine T_aload_n 0 (dk dtk_X5_doGive 0 rfl) rfl rfl ?_
  refine T_iload_n 2 (dk dtk_X5_doGive 1 rfl) rfl rfl ?_
  refine KC_Vi [vi l2] [] rfl (dk dtk_X5_doGive 2 rfl) kcv_X5_113 rfl (kk_M0 ho) rfl (kl_M0 hq ho) (Nat.le_of_ble_eq_true rfl) (Nat.le_of_ble_eq_true rfl) (gok_i (av_c (gkr (kl_M0 hq ho)) (av_c rfl (av_c rfl av_n))) as_n) rfl h (fun r2 x1 h => ?_)
  refine T_iload_n 1 (dk dtk_X5_doGive 3 rfl) rfl rfl ?_
  refine T_icmp_eq 11 (dk dtk_X5_doGive 4 rfl) (by decide) (fun c3 => ?_) (fun c3 => ?_)
  · have h := h.1 c3
    refine T_aload_n 0 (dk dtk_X5_doGive 7 rfl) rfl rfl ?_
    refine T_iload_n 2 (dk dtk_X5_doGive 8 rfl) rfl rfl ?_
    refine KC_Vi [vi l2] [] rfl (dk dtk_X5_doGive 9 rfl) kcv_X5_216 rfl (kk_M0 ho) rfl (kl_M0 hq ho) (Nat.le_of_ble_eq_true rfl) (Nat.le_of_ble_eq_true rfl) (gok_i (av_c (gkr (kl_M0 hq ho)) (av_c rfl (av_c rfl av_n))) as_n) rfl h (fun r5 x4 h => ?_)
    refine T_iconst (v := 1) (dk dtk_X5_doGive 10 rfl) (by decide +kernel) ?_
    refine T_isub (dk dtk_X5_doGive 11 rfl) ?_
    refine T_istore_n (lv2 := [(3, vi (r5 - 1)), (0, vr o), (1, vi l1), (2, vi l2)]) (dk dtk_X5_doGive 12 rfl) rfl (by decide) rfl ?_
    refine T_aload_n 1 (dk dtk_X5_doGive 13 rfl) rfl rfl ?_
    refine T_iload_n 3 (dk dtk_X5_doGive 14 rfl) rfl rfl ?_
    refine T_iload_n 0 (dk dtk_X5_doGive 15 rfl) rfl rfl ?_
    refine T_if_ne 29 (dk dtk_X5_doGive 16 rfl) (by decide) (fun c6 => ?_) (fun c6 => ?_)
    · have h := h.1 c6
      refine T_iload_n 2 (dk dtk_X5_doGive 19 rfl) rfl rfl ?_
      exact T_sub [0] rfl h
    · have h := h.2 c6
      refine T_iconst (v := (-1)) (dk dtk_X5_doGive 17 rfl) (by decide +kernel) ?_
      refine T_goto 30 (dk dtk_X5_doGive 18 rfl) (by decide) ?_
      exact T_sub [0] rfl h
  · have h := h.2 c3
    refine T_iconst (v := 3) (dk dtk_X5_doGive 5 rfl) (by decide +kernel) ?_
    exact KT_iret (dk dtk_X5_doGive 6 rfl) rfl rfl h
set_option maxRecDepth 100000 in
set_option maxHeartbeats 4000000 in
theorem kg_X5_doGive_30 {G : kG} {q : kP} {d : Nat} {x : gd} {P : Option gv → gd → Prop} (hq : kV q) {o : Nat} (ho : kiM q o) (l3 : Int32) (s0 : Int32) (s1 : Int32)
    (h : KT G q d zk_X5_setLock 0 [(0, vr o), (1, vi s1), (2, vi s0), (3, vi l3)] [] x (rv (fun x1 => P (some (vi 0)) x1))) :
    KT G q (d + 1) zk_X5_doGive 30 [(3, vi l3)] [vi s0, vi s1, vr o] x P := by
  refine T_iload_n 0 (dk dtk_X5_doGive 20 rfl) rfl rfl ?_
  refine T_sub (lv2 := []) [] rfl ?_
  refine KC_Vv [vi s1, vi s0, vi l3] [] rfl (dk dtk_X5_doGive 21 rfl) kcv_X5_219 rfl (kk_M0 ho) rfl (kl_M0 hq ho) (Nat.le_of_ble_eq_true rfl) (Nat.le_of_ble_eq_true rfl) (gok_i av_n as_n) rfl h (fun x1 h => ?_)
  refine T_iconst (v := 0) (dk dtk_X5_doGive 22 rfl) (by decide +kernel) ?_
  exact KT_iret (dk dtk_X5_doGive 23 rfl) rfl rfl h
set_option maxRecDepth 100000 in
theorem dtk_X5_doWait : dck cX5_doWait [(0, .aload_n 0, 1), (1, .iload_n 2, 1), (2, .invokevirtual 113, 3), (5, .iload_n 1, 1), (6, .if_icmp .eq 5, 3), (9, .iconst 4, 1), (10, .ireturn, 1), (11, .aload_n 0, 1), (12, .iload_n 1, 1), (13, .iconst 3, 1), (14, .iload_n 2, 1), (15, .iconst 1, 1), (16, .iadd, 1), (17, .invokevirtual 117, 3), (20, .aload_n 0, 1), (21, .iload_n 1, 1), (22, .iconst 4, 1), (23, .aload_n 0, 1), (24, .iload_n 2, 1), (25, .invokevirtual 216, 3), (28, .invokevirtual 117, 3), (31, .aload_n 0, 1), (32, .iload_n 2, 1), (33, .iconst (-1), 1), (34, .iconst 0, 1), (35, .invokevirtual 219, 3), (38, .iconst 0, 1), (39, .ireturn, 1)] = true := by decide +kernel
set_option maxRecDepth 100000 in
set_option maxHeartbeats 4000000 in
theorem kg_X5_doWait_0 {G : kG} {q : kP} {d : Nat} {x : gd} {P : Option gv → gd → Prop} (hq : kV q) {o : Nat} (ho : kiM q o) (l1 : Int32) (l2 : Int32)
    (h : KT G q d zk_X5_holder 0 [(0, vr o), (1, vi l2)] [] x (ri (fun r2 x1 => ((r2 = l1 → KT G q d zk_X5_set 0 [(0, vr o), (1, vi l1), (2, vi 3), (3, vi (l2 + 1))] [] x1 (rv (fun x4 => KT G q d zk_X5_often 0 [(0, vr o), (1, vi l2)] [] x4 (ri (fun r6 x5 => KT G q d zk_X5_set 0 [(0, vr o), (1, vi l1), (2, vi 4), (3, vi r6)] [] x5 (rv (fun x7 => KT G q d zk_X5_setLock 0 [(0, vr o), (1, vi l2), (2, vi (-1)), (3, vi 0)] [] x7 (rv (fun x8 => P (some (vi 0)) x8))))))))) ∧ (¬ (r2 = l1) → P (some (vi 4)) x1))))) :
    KT G q (d + 1) zk_X5_doWait 0 [(0, vr o), (1, vi l1), (2, vi l2)] [] x P := by
  refine T_aload_n 0 (dk dtk_X5_doWait 0 rfl) rfl rfl ?_
  refine T_iload_n 2 (dk dtk_X5_doWait 1 rfl) rfl rfl ?_
  refine KC_Vi [vi l2] [] rfl (dk dtk_X5_doWait 2 rfl) kcv_X5_113 rfl (kk_M0 ho) rfl (kl_M0 hq ho) (Nat.le_of_ble_eq_true rfl) (Nat.le_of_ble_eq_true rfl) (gok_i (av_c (gkr (kl_M0 hq ho)) (av_c rfl (av_c rfl av_n))) as_n) rfl h (fun r2 x1 h => ?_)
  refine T_iload_n 1 (dk dtk_X5_doWait 3 rfl) rfl rfl ?_
  refine T_icmp_eq 11 (dk dtk_X5_doWait 4 rfl) (by decide) (fun c3 => ?_) (fun c3 => ?_)
  · have h := h.1 c3
    refine T_aload_n 0 (dk dtk_X5_doWait 7 rfl) rfl rfl ?_
    refine T_iload_n 1 (dk dtk_X5_doWait 8 rfl) rfl rfl ?_
    refine T_iconst (v := 3) (dk dtk_X5_doWait 9 rfl) (by decide +kernel) ?_
    refine T_iload_n 2 (dk dtk_X5_doWait 10 rfl) rfl rfl ?_
    refine T_iconst (v := 1) (dk dtk_X5_doWait 11 rfl) (by decide +kernel) ?_
    refine T_iadd (dk dtk_X5_doWait 12 rfl) ?_
    refine KC_Vv [vi l1, vi 3, vi (l2 + 1)] [] rfl (dk dtk_X5_doWait 13 rfl) kcv_X5_117 rfl (kk_M0 ho) rfl (kl_M0 hq ho) (Nat.le_of_ble_eq_true rfl) (Nat.le_of_ble_eq_true rfl) (gok_i (av_c (gkr (kl_M0 hq ho)) (av_c rfl (av_c rfl av_n))) as_n) rfl h (fun x4 h => ?_)
    refine T_aload_n 0 (dk dtk_X5_doWait 14 rfl) rfl rfl ?_
    refine T_iload_n 1 (dk dtk_X5_doWait 15 rfl) rfl rfl ?_
    refine T_iconst (v := 4) (dk dtk_X5_doWait 16 rfl) (by decide +kernel) ?_
    refine T_aload_n 0 (dk dtk_X5_doWait 17 rfl) rfl rfl ?_
    refine T_iload_n 2 (dk dtk_X5_doWait 18 rfl) rfl rfl ?_
    refine T_sub (lv2 := [(0, vr o), (2, vi l2)]) [0, 2] rfl ?_
    refine KC_Vi [vi l2] [vi 4, vi l1, vr o] rfl (dk dtk_X5_doWait 19 rfl) kcv_X5_216 rfl (kk_M0 ho) rfl (kl_M0 hq ho) (Nat.le_of_ble_eq_true rfl) (Nat.le_of_ble_eq_true rfl) (gok_i (av_c (gkr (kl_M0 hq ho)) (av_c rfl av_n)) (as_c rfl (as_c rfl (as_c (gkr (kl_M0 hq ho)) as_n)))) rfl h (fun r6 x5 h => ?_)
    refine KC_Vv [vi l1, vi 4, vi r6] [] rfl (dk dtk_X5_doWait 20 rfl) kcv_X5_117 rfl (kk_M0 ho) rfl (kl_M0 hq ho) (Nat.le_of_ble_eq_true rfl) (Nat.le_of_ble_eq_true rfl) (gok_i (av_c (gkr (kl_M0 hq ho)) (av_c rfl av_n)) as_n) rfl h (fun x7 h => ?_)
    refine T_aload_n 0 (dk dtk_X5_doWait 21 rfl) rfl rfl ?_
    refine T_iload_n 1 (dk dtk_X5_doWait 22 rfl) rfl rfl ?_
    refine T_iconst (v := (-1)) (dk dtk_X5_doWait 23 rfl) (by decide +kernel) ?_
    refine T_iconst (v := 0) (dk dtk_X5_doWait 24 rfl) (by decide +kernel) ?_
    refine T_sub (lv2 := []) [] rfl ?_
    refine KC_Vv [vi l2, vi (-1), vi 0] [] rfl (dk dtk_X5_doWait 25 rfl) kcv_X5_219 rfl (kk_M0 ho) rfl (kl_M0 hq ho) (Nat.le_of_ble_eq_true rfl) (Nat.le_of_ble_eq_true rfl) (gok_i av_n as_n) rfl h (fun x8 h => ?_)
    refine T_iconst (v := 0) (dk dtk_X5_doWait 26 rfl) (by decide +kernel) ?_
    exact KT_iret (dk dtk_X5_doWait 27 rfl) rfl rfl h
  · have h := h.2 c3
    refine T_iconst (v := 4) (dk dtk_X5_doWait 5 rfl) (by decide +kernel) ?_
    exact KT_iret (dk dtk_X5_doWait 6 rfl) rfl rfl h
end
section
set_option maxRecDepth 100000 in
theorem dtk_X5_doRetake : dck cX5_doRetake [(0, .aload_n 0, 1), (1, .iload_n 2, 1), (2, .iload_n 1, 1), (3, .aload_n 0, 1), (4, .iload_n 1, 1), (5, .iconst 4, 1), (6, .invokevirtual 90, 3), (9, .invokevirtual 219, 3), (12, .aload_n 0, 1), (13, .iload_n 1, 1), (14, .iconst 3, 1), (15, .iconst 0, 1), (16, .invokevirtual 117, 3), (19, .aload_n 0, 1), (20, .iload_n 1, 1), (21, .iconst 4, 1), (22, .iconst 0, 1), (23, .invokevirtual 117, 3), (26, .aload_n 0, 1), (27, .iload_n 1, 1), (28, .iconst 5, 1), (29, .iconst 0, 1), (30, .invokevirtual 117, 3), (33, .iconst 0, 1), (34, .ireturn, 1)] = true := by decide +kernel
set_option maxRecDepth 100000 in
set_option maxHeartbeats 4000000 in
theorem kg_X5_doRetake_0 {G : kG} {q : kP} {d : Nat} {x : gd} {P : Option gv → gd → Prop} (hq : kV q) {o : Nat} (ho : kiM q o) (l1 : Int32) (l2 : Int32)
    (h : KT G q d zk_X5_get 0 [(0, vr o), (1, vi l1), (2, vi 4)] [] x (ri (fun r2 x1 => KT G q d zk_X5_setLock 0 [(0, vr o), (1, vi l2), (2, vi l1), (3, vi r2)] [] x1 (rv (fun x3 => KT G q d zk_X5_set 0 [(0, vr o), (1, vi l1), (2, vi 3), (3, vi 0)] [] x3 (rv (fun x4 => KT G q d zk_X5_set 0 [(0, vr o), (1, vi l1), (2, vi 4), (3, vi 0)] [] x4 (rv (fun x5 => KT G q d zk_X5_set 0 [(0, vr o), (1, vi l1), (2, vi 5), (3, vi 0)] [] x5 (rv (fun x6 => P (some (vi 0)) x6))))))))))) :
    KT G q (d + 1) zk_X5_doRetake 0 [(0, vr o), (1, vi l1), (2, vi l2)] [] x P := by
  refine T_aload_n 0 (dk dtk_X5_doRetake 0 rfl) rfl rfl ?_
  refine T_iload_n 2 (dk dtk_X5_doRetake 1 rfl) rfl rfl ?_
  refine T_iload_n 1 (dk dtk_X5_doRetake 2 rfl) rfl rfl ?_
  refine T_aload_n 0 (dk dtk_X5_doRetake 3 rfl) rfl rfl ?_
  refine T_iload_n 1 (dk dtk_X5_doRetake 4 rfl) rfl rfl ?_
  refine T_iconst (v := 4) (dk dtk_X5_doRetake 5 rfl) (by decide +kernel) ?_
  refine T_sub (lv2 := [(0, vr o), (1, vi l1)]) [0, 1] rfl ?_
  refine KC_Vi [vi l1, vi 4] [vi l1, vi l2, vr o] rfl (dk dtk_X5_doRetake 6 rfl) kcv_X5_90 rfl (kk_M0 ho) rfl (kl_M0 hq ho) (Nat.le_of_ble_eq_true rfl) (Nat.le_of_ble_eq_true rfl) (gok_i (av_c (gkr (kl_M0 hq ho)) (av_c rfl av_n)) (as_c rfl (as_c rfl (as_c (gkr (kl_M0 hq ho)) as_n)))) rfl h (fun r2 x1 h => ?_)
  refine KC_Vv [vi l2, vi l1, vi r2] [] rfl (dk dtk_X5_doRetake 7 rfl) kcv_X5_219 rfl (kk_M0 ho) rfl (kl_M0 hq ho) (Nat.le_of_ble_eq_true rfl) (Nat.le_of_ble_eq_true rfl) (gok_i (av_c (gkr (kl_M0 hq ho)) (av_c rfl av_n)) as_n) rfl h (fun x3 h => ?_)
  refine T_aload_n 0 (dk dtk_X5_doRetake 8 rfl) rfl rfl ?_
  refine T_iload_n 1 (dk dtk_X5_doRetake 9 rfl) rfl rfl ?_
  refine T_iconst (v := 3) (dk dtk_X5_doRetake 10 rfl) (by decide +kernel) ?_
  refine T_iconst (v := 0) (dk dtk_X5_doRetake 11 rfl) (by decide +kernel) ?_
  refine KC_Vv [vi l1, vi 3, vi 0] [] rfl (dk dtk_X5_doRetake 12 rfl) kcv_X5_117 rfl (kk_M0 ho) rfl (kl_M0 hq ho) (Nat.le_of_ble_eq_true rfl) (Nat.le_of_ble_eq_true rfl) (gok_i (av_c (gkr (kl_M0 hq ho)) (av_c rfl av_n)) as_n) rfl h (fun x4 h => ?_)
  refine T_aload_n 0 (dk dtk_X5_doRetake 13 rfl) rfl rfl ?_
  refine T_iload_n 1 (dk dtk_X5_doRetake 14 rfl) rfl rfl ?_
  refine T_iconst (v := 4) (dk dtk_X5_doRetake 15 rfl) (by decide +kernel) ?_
  refine T_iconst (v := 0) (dk dtk_X5_doRetake 16 rfl) (by decide +kernel) ?_
  refine KC_Vv [vi l1, vi 4, vi 0] [] rfl (dk dtk_X5_doRetake 17 rfl) kcv_X5_117 rfl (kk_M0 ho) rfl (kl_M0 hq ho) (Nat.le_of_ble_eq_true rfl) (Nat.le_of_ble_eq_true rfl) (gok_i (av_c (gkr (kl_M0 hq ho)) (av_c rfl av_n)) as_n) rfl h (fun x5 h => ?_)
  refine T_aload_n 0 (dk dtk_X5_doRetake 18 rfl) rfl rfl ?_
  refine T_iload_n 1 (dk dtk_X5_doRetake 19 rfl) rfl rfl ?_
  refine T_iconst (v := 5) (dk dtk_X5_doRetake 20 rfl) (by decide +kernel) ?_
  refine T_iconst (v := 0) (dk dtk_X5_doRetake 21 rfl) (by decide +kernel) ?_
  refine T_sub (lv2 := []) [] rfl ?_
  refine KC_Vv [vi l1, vi 5, vi 0] [] rfl (dk dtk_X5_doRetake 22 rfl) kcv_X5_117 rfl (kk_M0 ho) rfl (kl_M0 hq ho) (Nat.le_of_ble_eq_true rfl) (Nat.le_of_ble_eq_true rfl) (gok_i av_n as_n) rfl h (fun x6 h => ?_)
  refine T_iconst (v := 0) (dk dtk_X5_doRetake 23 rfl) (by decide +kernel) ?_
  exact KT_iret (dk dtk_X5_doRetake 24 rfl) rfl rfl h
set_option maxRecDepth 100000 in
theorem dtk_X5_doWake : dck cX5_doWake [(0, .aload_n 0, 1), (1, .iload_n 2, 1), (2, .invokevirtual 113, 3), (5, .iload_n 1, 1), (6, .if_icmp .eq 5, 3), (9, .iconst 4, 1), (10, .ireturn, 1), (11, .aload_n 0, 1), (12, .getfield 25, 3), (15, .iload_n 3, 1), (16, .ifCond .eq 11, 3), (19, .aload_n 0, 1), (20, .iload_n 2, 1), (21, .invokevirtual 185, 3), (24, .goto 17, 3), (27, .iload 4, 2), (29, .iconst (-1), 1), (30, .if_icmp .ne 7, 3), (33, .iconst 0, 1), (34, .goto 7, 3), (37, .iconst 1, 1), (38, .iload 4, 2), (40, .ishl, 1), (41, .putfield 255, 3), (44, .iconst 0, 1), (45, .istore 5, 2), (47, .iload 5, 2), (49, .aload_n 0, 1), (50, .getfield 11, 3), (53, .getfield 67, 3), (56, .if_icmp .ge 33, 3), (59, .aload_n 0, 1), (60, .getfield 25, 3), (63, .getfield 255, 3), (66, .iload 5, 2), (68, .ishr, 1), (69, .iconst 1, 1), (70, .iand, 1), (71, .iconst 1, 1), (72, .if_icmp .ne 11, 3), (75, .aload_n 0, 1), (76, .iload 5, 2), (78, .iconst 5, 1), (79, .iconst 1, 1), (80, .invokevirtual 117, 3), (83, .iinc 5 1, 3), (86, .goto (-39), 3), (89, .iconst 0, 1), (90, .ireturn, 1)] = true := by decide +kernel
set_option maxRecDepth 100000 in
set_option maxHeartbeats 4000000 in
theorem kg_X5_doWake_0 {G : kG} {q : kP} {d : Nat} {x : gd} {P : Option gv → gd → Prop} (hq : kV q) {o : Nat} (ho : kiM q o) (l1 : Int32) (l2 : Int32) (l3 : Int32) (l4 : Int32)
    (h : KT G q d zk_X5_holder 0 [(0, vr o), (1, vi l2)] [] x (ri (fun r2 x1 => ((r2 = l1 → ((l3 = (0 : Int32) → ((¬ (l4 = (-1 : Int32)) → (∀ x6 : gd, x6 = si x1 (o + 20) 6 (1 <<< (l4 &&& 31 : Int32)) → KT G q (d + 1) zk_X5_doWake 47 [(0, vr o), (5, vi 0)] [] x6 P)) ∧ (l4 = (-1 : Int32) → (∀ x7 : gd, x7 = si x1 (o + 20) 6 0 → KT G q (d + 1) zk_X5_doWake 47 [(0, vr o), (5, vi 0)] [] x7 P)))) ∧ (¬ (l3 = (0 : Int32)) → KT G q d zk_X5_waiters 0 [(0, vr o), (1, vi l2)] [] x1 (ri (fun r9 x8 => (∀ x10 : gd, x10 = si x8 (o + 20) 6 r9 → KT G q (d + 1) zk_X5_doWake 47 [(0, vr o), (5, vi 0)] [] x10 P)))))) ∧ (¬ (r2 = l1) → P (some (vi 4)) x1))))) :
    KT G q (d + 1) zk_X5_doWake 0 [(0, vr o), (1, vi l1), (2, vi l2), (3, vi l3), (4, vi l4)] [] x P := by
  refine T_aload_n 0 (dk dtk_X5_doWake 0 rfl) rfl rfl ?_
  refine T_iload_n 2 (dk dtk_X5_doWake 1 rfl) rfl rfl ?_
  refine KC_Vi [vi l2] [] rfl (dk dtk_X5_doWake 2 rfl) kcv_X5_113 rfl (kk_M0 ho) rfl (kl_M0 hq ho) (Nat.le_of_ble_eq_true rfl) (Nat.le_of_ble_eq_true rfl) (gok_i (av_c (gkr (kl_M0 hq ho)) (av_c rfl (av_c rfl (av_c rfl (av_c rfl av_n))))) as_n) rfl h (fun r2 x1 h => ?_)
  refine T_iload_n 1 (dk dtk_X5_doWake 3 rfl) rfl rfl ?_
  refine T_icmp_eq 11 (dk dtk_X5_doWake 4 rfl) (by decide) (fun c3 => ?_) (fun c3 => ?_)
  · have h := h.1 c3
    refine T_aload_n 0 (dk dtk_X5_doWake 7 rfl) rfl rfl ?_
    refine T_getR o 2 (o + 20) (dk dtk_X5_doWake 8 rfl) kfl_X5_25 (kk_M0 ho) (kl_M0 hq ho) (by decide) rfl (kr_M_2 ho) ?_
    refine T_iload_n 3 (dk dtk_X5_doWake 9 rfl) rfl rfl ?_
    refine T_if_eq 27 (dk dtk_X5_doWake 10 rfl) (by decide) (fun c4 => ?_) (fun c4 => ?_)
    · have h := h.1 c4
      refine T_iload 4 (dk dtk_X5_doWake 15 rfl) rfl ?_
      refine T_iconst (v := (-1)) (dk dtk_X5_doWake 16 rfl) (by decide +kernel) ?_
      refine T_icmp_ne 37 (dk dtk_X5_doWake 17 rfl) (by decide) (fun c5 => ?_) (fun c5 => ?_)
      · have h := h.1 c5
        refine T_iconst (v := 1) (dk dtk_X5_doWake 20 rfl) (by decide +kernel) ?_
        refine T_iload 4 (dk dtk_X5_doWake 21 rfl) rfl ?_
        refine T_ishl (dk dtk_X5_doWake 22 rfl) ?_
        obtain ⟨x6, ex6⟩ : ∃ z, z = si x1 (o + 20) 6 (1 <<< (l4 &&& 31 : Int32)) := ⟨_, rfl⟩
        have h := h x6 ex6
        refine T_putI (o + 20) 6 (dk dtk_X5_doWake 23 rfl) kfl_X5_255 (kk_D0 (kiM_D ho)) (kl_D0 hq (kiM_D ho)) (by decide) rfl ⟨rfl, rfl⟩ ?_
        rw [← ex6]
        refine T_iconst (v := 0) (dk dtk_X5_doWake 24 rfl) (by decide +kernel) ?_
        refine T_istore (lv2 := [(5, vi 0), (0, vr o), (1, vi l1), (2, vi l2), (3, vi l3), (4, vi l4)]) (dk dtk_X5_doWake 25 rfl) (by decide) rfl ?_
        exact T_sub [1, 0] rfl h
      · have h := h.2 c5
        refine T_iconst (v := 0) (dk dtk_X5_doWake 18 rfl) (by decide +kernel) ?_
        refine T_goto 41 (dk dtk_X5_doWake 19 rfl) (by decide) ?_
        obtain ⟨x7, ex7⟩ : ∃ z, z = si x1 (o + 20) 6 0 := ⟨_, rfl⟩
        have h := h x7 ex7
        refine T_putI (o + 20) 6 (dk dtk_X5_doWake 23 rfl) kfl_X5_255 (kk_D0 (kiM_D ho)) (kl_D0 hq (kiM_D ho)) (by decide) rfl ⟨rfl, rfl⟩ ?_
        rw [← ex7]
        refine T_iconst (v := 0) (dk dtk_X5_doWake 24 rfl) (by decide +kernel) ?_
        refine T_istore (lv2 := [(5, vi 0), (0, vr o), (1, vi l1), (2, vi l2), (3, vi l3), (4, vi l4)]) (dk dtk_X5_doWake 25 rfl) (by decide) rfl ?_
        exact T_sub [1, 0] rfl h
    · have h := h.2 c4
      refine T_aload_n 0 (dk dtk_X5_doWake 11 rfl) rfl rfl ?_
      refine T_iload_n 2 (dk dtk_X5_doWake 12 rfl) rfl rfl ?_
      refine T_sub (lv2 := [(0, vr o)]) [0] rfl ?_
      refine KC_Vi [vi l2] [vr (o + 20)] rfl (dk dtk_X5_doWake 13 rfl) kcv_X5_185 rfl (kk_M0 ho) rfl (kl_M0 hq ho) (Nat.le_of_ble_eq_true rfl) (Nat.le_of_ble_eq_true rfl) (gok_i (av_c (gkr (kl_M0 hq ho)) av_n) (as_c (gkr (kl_D0 hq (kiM_D ho))) as_n)) rfl h (fun r9 x8 h => ?_)
      refine T_goto 41 (dk dtk_X5_doWake 14 rfl) (by decide) ?_
      obtain ⟨x10, ex10⟩ : ∃ z, z = si x8 (o + 20) 6 r9 := ⟨_, rfl⟩
      have h := h x10 ex10
      refine T_putI (o + 20) 6 (dk dtk_X5_doWake 23 rfl) kfl_X5_255 (kk_D0 (kiM_D ho)) (kl_D0 hq (kiM_D ho)) (by decide) rfl ⟨rfl, rfl⟩ ?_
      rw [← ex10]
      refine T_iconst (v := 0) (dk dtk_X5_doWake 24 rfl) (by decide +kernel) ?_
      refine T_istore (lv2 := [(5, vi 0), (0, vr o)]) (dk dtk_X5_doWake 25 rfl) (by decide) rfl ?_
      exact T_sub [1, 0] rfl h
  · have h := h.2 c3
    refine T_iconst (v := 4) (dk dtk_X5_doWake 5 rfl) (by decide +kernel) ?_
    exact KT_iret (dk dtk_X5_doWake 6 rfl) rfl rfl h
set_option maxRecDepth 100000 in
set_option maxHeartbeats 4000000 in
theorem kg_X5_doWake_47 {G : kG} {q : kP} {d : Nat} {x : gd} {P : Option gv → gd → Prop} (hq : kV q) {o : Nat} (ho : kiM q o) (l5 : Int32)
    (h : (((x.1 60 10) ≤ l5 → P (some (vi 0)) x) ∧ (¬ ((x.1 60 10) ≤ l5) → ((¬ ((((x.1 (o + 20) 6) >>> (l5 &&& 31 : Int32)) &&& 1) = (1 : Int32)) → KT G q (d + 1) zk_X5_doWake 47 [(0, vr o), (5, vi (l5 + 1))] [] x P) ∧ ((((x.1 (o + 20) 6) >>> (l5 &&& 31 : Int32)) &&& 1) = (1 : Int32) → KT G q d zk_X5_set 0 [(0, vr o), (1, vi l5), (2, vi 5), (3, vi 1)] [] x (rv (fun x3 => KT G q (d + 1) zk_X5_doWake 47 [(0, vr o), (5, vi (l5 + 1))] [] x3 P))))))) :
    KT G q (d + 1) zk_X5_doWake 47 [(0, vr o), (5, vi l5)] [] x P := by
  refine T_iload 1 (dk dtk_X5_doWake 26 rfl) rfl ?_
  refine T_aload_n 0 (dk dtk_X5_doWake 27 rfl) rfl rfl ?_
  refine T_getR o 0 60 (dk dtk_X5_doWake 28 rfl) kfl_X5_11 (kk_M0 ho) (kl_M0 hq ho) (by decide) rfl (kr_M_0 ho) ?_
  refine T_getI 60 10 (dk dtk_X5_doWake 29 rfl) kfl_X5_67 kk_60 (kl_60 hq) (by decide) rfl ?_
  refine T_icmp_ge 89 (dk dtk_X5_doWake 30 rfl) (by decide) (fun c1 => ?_) (fun c1 => ?_)
  · have h := h.1 c1
    refine T_iconst (v := 0) (dk dtk_X5_doWake 47 rfl) (by decide +kernel) ?_
    exact KT_iret (dk dtk_X5_doWake 48 rfl) rfl rfl h
  · have h := h.2 c1
    refine T_aload_n 0 (dk dtk_X5_doWake 31 rfl) rfl rfl ?_
    refine T_getR o 2 (o + 20) (dk dtk_X5_doWake 32 rfl) kfl_X5_25 (kk_M0 ho) (kl_M0 hq ho) (by decide) rfl (kr_M_2 ho) ?_
    refine T_getI (o + 20) 6 (dk dtk_X5_doWake 33 rfl) kfl_X5_255 (kk_D0 (kiM_D ho)) (kl_D0 hq (kiM_D ho)) (by decide) rfl ?_
    refine T_iload 1 (dk dtk_X5_doWake 34 rfl) rfl ?_
    refine T_ishr (dk dtk_X5_doWake 35 rfl) ?_
    refine T_iconst (v := 1) (dk dtk_X5_doWake 36 rfl) (by decide +kernel) ?_
    refine T_iand (dk dtk_X5_doWake 37 rfl) ?_
    refine T_iconst (v := 1) (dk dtk_X5_doWake 38 rfl) (by decide +kernel) ?_
    refine T_icmp_ne 83 (dk dtk_X5_doWake 39 rfl) (by decide) (fun c2 => ?_) (fun c2 => ?_)
    · have h := h.1 c2
      refine T_iinc (v := l5 + 1) (lv2 := [(5, vi (l5 + 1)), (0, vr o)]) 1 (dk dtk_X5_doWake 45 rfl) rfl rfl (by decide) rfl ?_
      refine T_goto 47 (dk dtk_X5_doWake 46 rfl) (by decide) ?_
      exact T_sub [1, 0] rfl h
    · have h := h.2 c2
      refine T_aload_n 0 (dk dtk_X5_doWake 40 rfl) rfl rfl ?_
      refine T_iload 1 (dk dtk_X5_doWake 41 rfl) rfl ?_
      refine T_iconst (v := 5) (dk dtk_X5_doWake 42 rfl) (by decide +kernel) ?_
      refine T_iconst (v := 1) (dk dtk_X5_doWake 43 rfl) (by decide +kernel) ?_
      refine KC_Vv [vi l5, vi 5, vi 1] [] rfl (dk dtk_X5_doWake 44 rfl) kcv_X5_117 rfl (kk_M0 ho) rfl (kl_M0 hq ho) (Nat.le_of_ble_eq_true rfl) (Nat.le_of_ble_eq_true rfl) (gok_i (av_c (gkr (kl_M0 hq ho)) (av_c rfl av_n)) as_n) rfl h (fun x3 h => ?_)
      refine T_iinc (v := l5 + 1) (lv2 := [(5, vi (l5 + 1)), (0, vr o)]) 1 (dk dtk_X5_doWake 45 rfl) rfl rfl (by decide) rfl ?_
      refine T_goto 47 (dk dtk_X5_doWake 46 rfl) (by decide) ?_
      exact T_sub [1, 0] rfl h
set_option maxRecDepth 100000 in
theorem dtk_X5_doCallOrBack : dck cX5_doCallOrBack [(0, .aload_n 0, 1), (1, .getfield 11, 3), (4, .aload_n 0, 1), (5, .getfield 21, 3), (8, .getfield 160, 3), (11, .iload_n 2, 1), (12, .iaload, 1), (13, .aload_n 0, 1), (14, .getfield 29, 3), (17, .aload_n 0, 1), (18, .iload_n 1, 1), (19, .invokevirtual 142, 3), (22, .iload_n 1, 1), (23, .invokevirtual 145, 3), (26, .istore 4, 2), (28, .aload_n 0, 1), (29, .getfield 11, 3), (32, .getfield 149, 3), (35, .ifCond .eq 5, 3), (38, .iconst 1, 1), (39, .ireturn, 1), (40, .aload_n 0, 1), (41, .iload_n 1, 1), (42, .bipush 6, 2), (44, .invokevirtual 90, 3), (47, .ifCond .eq 7, 3), (50, .iconst 1, 1), (51, .goto 4, 3), (54, .iconst 0, 1), (55, .istore 5, 2), (57, .iload 5, 2), (59, .iload_n 3, 1), (60, .bipush 13, 2), (62, .if_icmp .ne 7, 3), (65, .iconst 1, 1), (66, .goto 4, 3), (69, .iconst 0, 1), (70, .if_icmp .ne 6, 3), (73, .bipush 8, 2), (75, .ireturn, 1), (76, .aload_n 0, 1), (77, .iload_n 1, 1), (78, .bipush 6, 2), (80, .iload_n 3, 1), (81, .bipush 13, 2), (83, .if_icmp .ne 17, 3), (86, .aload_n 0, 1), (87, .getfield 21, 3), (90, .getfield 136, 3), (93, .iload_n 2, 1), (94, .iaload, 1), (95, .iconst 1, 1), (96, .iadd, 1), (97, .goto 4, 3), (100, .iconst 0, 1), (101, .invokevirtual 117, 3), (104, .aload_n 0, 1), (105, .getfield 25, 3), (108, .iload 4, 2), (110, .putfield 252, 3), (113, .iconst 0, 1), (114, .ireturn, 1)] = true := by decide +kernel
set_option maxRecDepth 100000 in
set_option maxHeartbeats 4000000 in
theorem kg_X5_doCallOrBack_0 {G : kG} {q : kP} {d : Nat} {x : gd} {P : Option gv → gd → Prop} (hq : kV q) {o : Nat} (ho : kiM q o) (l1 : Int32) (l2 : Int32) (l3 : Int32)
    (h : vp_in l2 400 ∧ KT G q d zk_X5_localsAt 0 [(0, vr o), (1, vi l1)] [] x (ri (fun r3 x2 => KT G q d zk_X0_work 0 [(0, vr 60), (1, vi (x.1 88 (l2 : Int32).toNatClampNeg)), (2, vr (o + 5)), (3, vi r3), (4, vi l1)] [] x2 (ri (fun r5 x4 => (((x4.1 60 5) = (0 : Int32) → KT G q d zk_X5_get 0 [(0, vr o), (1, vi l1), (2, vi 6)] [] x4 (ri (fun r8 x7 => ((r8 = (0 : Int32) → KT G q (d + 1) zk_X5_doCallOrBack 55 [(0, vr o), (1, vi l1), (2, vi l2), (3, vi l3), (4, vi r5)] [vi 0] x7 P) ∧ (¬ (r8 = (0 : Int32)) → KT G q (d + 1) zk_X5_doCallOrBack 55 [(0, vr o), (1, vi l1), (2, vi l2), (3, vi l3), (4, vi r5)] [vi 1] x7 P))))) ∧ (¬ ((x4.1 60 5) = (0 : Int32)) → P (some (vi 1)) x4))))))) :
    KT G q (d + 1) zk_X5_doCallOrBack 0 [(0, vr o), (1, vi l1), (2, vi l2), (3, vi l3)] [] x P := by
  refine T_aload_n 0 (dk dtk_X5_doCallOrBack 0 rfl) rfl rfl ?_
  refine T_getR o 0 60 (dk dtk_X5_doCallOrBack 1 rfl) kfl_X5_11 (kk_M0 ho) (kl_M0 hq ho) (by decide) rfl (kr_M_0 ho) ?_
  refine T_aload_n 0 (dk dtk_X5_doCallOrBack 2 rfl) rfl rfl ?_
  refine T_getR o 1 80 (dk dtk_X5_doCallOrBack 3 rfl) kfl_X5_21 (kk_M0 ho) (kl_M0 hq ho) (by decide) rfl (kr_M_1 ho) ?_
  refine T_getR 80 7 88 (dk dtk_X5_doCallOrBack 4 rfl) kfl_X5_160 kk_80 (kl_80 hq) (by decide) rfl kr_80_7 ?_
  refine T_iload_n 2 (dk dtk_X5_doCallOrBack 5 rfl) rfl rfl ?_
  obtain ⟨h1, h⟩ := h
  refine T_iald 88 400 (dk dtk_X5_doCallOrBack 6 rfl) kk_88 (kl_88 hq) h1 ?_
  refine T_aload_n 0 (dk dtk_X5_doCallOrBack 7 rfl) rfl rfl ?_
  refine T_getR o 4 (o + 5) (dk dtk_X5_doCallOrBack 8 rfl) kfl_X5_29 (kk_M0 ho) (kl_M0 hq ho) (by decide) rfl (kr_M_4 ho) ?_
  refine T_aload_n 0 (dk dtk_X5_doCallOrBack 9 rfl) rfl rfl ?_
  refine T_iload_n 1 (dk dtk_X5_doCallOrBack 10 rfl) rfl rfl ?_
  refine KC_Vi [vi l1] [vr (o + 5), vi (x.1 88 (l2 : Int32).toNatClampNeg), vr 60] rfl (dk dtk_X5_doCallOrBack 11 rfl) kcv_X5_142 rfl (kk_M0 ho) rfl (kl_M0 hq ho) (Nat.le_of_ble_eq_true rfl) (Nat.le_of_ble_eq_true rfl) (gok_i (av_c (gkr (kl_M0 hq ho)) (av_c rfl (av_c rfl (av_c rfl av_n)))) (as_c (gkr (kl_M5 hq ho)) (as_c rfl (as_c (gkr (kl_60 hq)) as_n)))) rfl h (fun r3 x2 h => ?_)
  refine T_iload_n 1 (dk dtk_X5_doCallOrBack 12 rfl) rfl rfl ?_
  refine KC_Vi [vi (x.1 88 (l2 : Int32).toNatClampNeg), vr (o + 5), vi r3, vi l1] [] rfl (dk dtk_X5_doCallOrBack 13 rfl) kcv_X5_145 rfl kk_60 rfl (kl_60 hq) (Nat.le_of_ble_eq_true rfl) (Nat.le_of_ble_eq_true rfl) (gok_i (av_c (gkr (kl_M0 hq ho)) (av_c rfl (av_c rfl (av_c rfl av_n)))) as_n) rfl h (fun r5 x4 h => ?_)
  refine T_istore (lv2 := [(4, vi r5), (0, vr o), (1, vi l1), (2, vi l2), (3, vi l3)]) (dk dtk_X5_doCallOrBack 14 rfl) (by decide) rfl ?_
  refine T_aload_n 1 (dk dtk_X5_doCallOrBack 15 rfl) rfl rfl ?_
  refine T_getR o 0 60 (dk dtk_X5_doCallOrBack 16 rfl) kfl_X5_11 (kk_M0 ho) (kl_M0 hq ho) (by decide) rfl (kr_M_0 ho) ?_
  refine T_getI 60 5 (dk dtk_X5_doCallOrBack 17 rfl) kfl_X5_149 kk_60 (kl_60 hq) (by decide) rfl ?_
  refine T_if_eq 40 (dk dtk_X5_doCallOrBack 18 rfl) (by decide) (fun c6 => ?_) (fun c6 => ?_)
  · have h := h.1 c6
    refine T_aload_n 1 (dk dtk_X5_doCallOrBack 21 rfl) rfl rfl ?_
    refine T_iload_n 2 (dk dtk_X5_doCallOrBack 22 rfl) rfl rfl ?_
    refine T_bipush (v := 6) (dk dtk_X5_doCallOrBack 23 rfl) (by decide +kernel) ?_
    refine KC_Vi [vi l1, vi 6] [] rfl (dk dtk_X5_doCallOrBack 24 rfl) kcv_X5_90 rfl (kk_M0 ho) rfl (kl_M0 hq ho) (Nat.le_of_ble_eq_true rfl) (Nat.le_of_ble_eq_true rfl) (gok_i (av_c rfl (av_c (gkr (kl_M0 hq ho)) (av_c rfl (av_c rfl (av_c rfl av_n))))) as_n) rfl h (fun r8 x7 h => ?_)
    refine T_if_eq 54 (dk dtk_X5_doCallOrBack 25 rfl) (by decide) (fun c9 => ?_) (fun c9 => ?_)
    · have h := h.1 c9
      refine T_iconst (v := 0) (dk dtk_X5_doCallOrBack 28 rfl) (by decide +kernel) ?_
      exact T_sub [1, 2, 3, 4, 0] rfl h
    · have h := h.2 c9
      refine T_iconst (v := 1) (dk dtk_X5_doCallOrBack 26 rfl) (by decide +kernel) ?_
      refine T_goto 55 (dk dtk_X5_doCallOrBack 27 rfl) (by decide) ?_
      exact T_sub [1, 2, 3, 4, 0] rfl h
  · have h := h.2 c6
    refine T_iconst (v := 1) (dk dtk_X5_doCallOrBack 19 rfl) (by decide +kernel) ?_
    exact KT_iret (dk dtk_X5_doCallOrBack 20 rfl) rfl rfl h
set_option maxRecDepth 100000 in
set_option maxHeartbeats 4000000 in
theorem kg_X5_doCallOrBack_55 {G : kG} {q : kP} {d : Nat} {x : gd} {P : Option gv → gd → Prop} (hq : kV q) {o : Nat} (ho : kiM q o) (l1 : Int32) (l2 : Int32) (l3 : Int32) (l4 : Int32) (s0 : Int32)
    (h : ((¬ (l3 = (13 : Int32)) → KT G q (d + 1) zk_X5_doCallOrBack 70 [(0, vr o), (1, vi l1), (2, vi l2), (3, vi l3), (4, vi l4)] [vi 0, vi s0] x P) ∧ (l3 = (13 : Int32) → KT G q (d + 1) zk_X5_doCallOrBack 70 [(0, vr o), (1, vi l1), (2, vi l2), (3, vi l3), (4, vi l4)] [vi 1, vi s0] x P))) :
    KT G q (d + 1) zk_X5_doCallOrBack 55 [(0, vr o), (1, vi l1), (2, vi l2), (3, vi l3), (4, vi l4)] [vi s0] x P := by
  refine T_istore (lv2 := [(5, vi s0), (0, vr o), (1, vi l1), (2, vi l2), (3, vi l3), (4, vi l4)]) (dk dtk_X5_doCallOrBack 29 rfl) (by decide) rfl ?_
  refine T_iload 0 (dk dtk_X5_doCallOrBack 30 rfl) rfl ?_
  refine T_iload_n 4 (dk dtk_X5_doCallOrBack 31 rfl) rfl rfl ?_
  refine T_bipush (v := 13) (dk dtk_X5_doCallOrBack 32 rfl) (by decide +kernel) ?_
  refine T_icmp_ne 69 (dk dtk_X5_doCallOrBack 33 rfl) (by decide) (fun c1 => ?_) (fun c1 => ?_)
  · have h := h.1 c1
    refine T_iconst (v := 0) (dk dtk_X5_doCallOrBack 36 rfl) (by decide +kernel) ?_
    exact T_sub [1, 2, 3, 4, 5] rfl h
  · have h := h.2 c1
    refine T_iconst (v := 1) (dk dtk_X5_doCallOrBack 34 rfl) (by decide +kernel) ?_
    refine T_goto 70 (dk dtk_X5_doCallOrBack 35 rfl) (by decide) ?_
    exact T_sub [1, 2, 3, 4, 5] rfl h
set_option maxRecDepth 100000 in
set_option maxHeartbeats 4000000 in
theorem kg_X5_doCallOrBack_70 {G : kG} {q : kP} {d : Nat} {x : gd} {P : Option gv → gd → Prop} (hq : kV q) {o : Nat} (ho : kiM q o) (l1 : Int32) (l2 : Int32) (l3 : Int32) (l4 : Int32) (s0 : Int32) (s1 : Int32)
    (h : ((¬ (s1 = s0) → ((¬ (l3 = (13 : Int32)) → KT G q (d + 1) zk_X5_doCallOrBack 101 [(0, vr o), (4, vi l4)] [vi 0, vi 6, vi l1, vr o] x P) ∧ (l3 = (13 : Int32) → vp_in l2 400 ∧ KT G q (d + 1) zk_X5_doCallOrBack 101 [(0, vr o), (4, vi l4)] [vi ((x.1 85 (l2 : Int32).toNatClampNeg) + 1), vi 6, vi l1, vr o] x P))) ∧ (s1 = s0 → P (some (vi 8)) x))) :
    KT G q (d + 1) zk_X5_doCallOrBack 70 [(0, vr o), (1, vi l1), (2, vi l2), (3, vi l3), (4, vi l4)] [vi s0, vi s1] x P := by
  refine T_icmp_ne 76 (dk dtk_X5_doCallOrBack 37 rfl) (by decide) (fun c1 => ?_) (fun c1 => ?_)
  · have h := h.1 c1
    refine T_aload_n 0 (dk dtk_X5_doCallOrBack 40 rfl) rfl rfl ?_
    refine T_iload_n 1 (dk dtk_X5_doCallOrBack 41 rfl) rfl rfl ?_
    refine T_bipush (v := 6) (dk dtk_X5_doCallOrBack 42 rfl) (by decide +kernel) ?_
    refine T_iload_n 3 (dk dtk_X5_doCallOrBack 43 rfl) rfl rfl ?_
    refine T_bipush (v := 13) (dk dtk_X5_doCallOrBack 44 rfl) (by decide +kernel) ?_
    refine T_icmp_ne 100 (dk dtk_X5_doCallOrBack 45 rfl) (by decide) (fun c2 => ?_) (fun c2 => ?_)
    · have h := h.1 c2
      refine T_iconst (v := 0) (dk dtk_X5_doCallOrBack 54 rfl) (by decide +kernel) ?_
      exact T_sub [0, 4] rfl h
    · have h := h.2 c2
      refine T_aload_n 0 (dk dtk_X5_doCallOrBack 46 rfl) rfl rfl ?_
      refine T_getR o 1 80 (dk dtk_X5_doCallOrBack 47 rfl) kfl_X5_21 (kk_M0 ho) (kl_M0 hq ho) (by decide) rfl (kr_M_1 ho) ?_
      refine T_getR 80 4 85 (dk dtk_X5_doCallOrBack 48 rfl) kfl_X5_136 kk_80 (kl_80 hq) (by decide) rfl kr_80_4 ?_
      refine T_iload_n 2 (dk dtk_X5_doCallOrBack 49 rfl) rfl rfl ?_
      obtain ⟨h3, h⟩ := h
      refine T_iald 85 400 (dk dtk_X5_doCallOrBack 50 rfl) kk_85 (kl_85 hq) h3 ?_
      refine T_iconst (v := 1) (dk dtk_X5_doCallOrBack 51 rfl) (by decide +kernel) ?_
      refine T_iadd (dk dtk_X5_doCallOrBack 52 rfl) ?_
      refine T_goto 101 (dk dtk_X5_doCallOrBack 53 rfl) (by decide) ?_
      exact T_sub [0, 4] rfl h
  · have h := h.2 c1
    refine T_bipush (v := 8) (dk dtk_X5_doCallOrBack 38 rfl) (by decide +kernel) ?_
    exact KT_iret (dk dtk_X5_doCallOrBack 39 rfl) rfl rfl h
set_option maxRecDepth 100000 in
set_option maxHeartbeats 4000000 in
theorem kg_X5_doCallOrBack_101 {G : kG} {q : kP} {d : Nat} {x : gd} {P : Option gv → gd → Prop} (hq : kV q) {o : Nat} (ho : kiM q o) (l4 : Int32) (s0 : Int32) (s1 : Int32) (s2 : Int32)
    (h : KT G q d zk_X5_set 0 [(0, vr o), (1, vi s2), (2, vi s1), (3, vi s0)] [] x (rv (fun x1 => (∀ x2 : gd, x2 = si x1 (o + 20) 4 l4 → P (some (vi 0)) x2)))) :
    KT G q (d + 1) zk_X5_doCallOrBack 101 [(0, vr o), (4, vi l4)] [vi s0, vi s1, vi s2, vr o] x P := by
  refine KC_Vv [vi s2, vi s1, vi s0] [] rfl (dk dtk_X5_doCallOrBack 55 rfl) kcv_X5_117 rfl (kk_M0 ho) rfl (kl_M0 hq ho) (Nat.le_of_ble_eq_true rfl) (Nat.le_of_ble_eq_true rfl) (gok_i (av_c (gkr (kl_M0 hq ho)) (av_c rfl av_n)) as_n) rfl h (fun x1 h => ?_)
  refine T_aload_n 0 (dk dtk_X5_doCallOrBack 56 rfl) rfl rfl ?_
  refine T_getR o 2 (o + 20) (dk dtk_X5_doCallOrBack 57 rfl) kfl_X5_25 (kk_M0 ho) (kl_M0 hq ho) (by decide) rfl (kr_M_2 ho) ?_
  refine T_iload 1 (dk dtk_X5_doCallOrBack 58 rfl) rfl ?_
  obtain ⟨x2, ex2⟩ : ∃ z, z = si x1 (o + 20) 4 l4 := ⟨_, rfl⟩
  have h := h x2 ex2
  refine T_putI (o + 20) 4 (dk dtk_X5_doCallOrBack 59 rfl) kfl_X5_252 (kk_D0 (kiM_D ho)) (kl_D0 hq (kiM_D ho)) (by decide) rfl ⟨rfl, rfl⟩ ?_
  rw [← ex2]
  refine T_iconst (v := 0) (dk dtk_X5_doCallOrBack 60 rfl) (by decide +kernel) ?_
  exact KT_iret (dk dtk_X5_doCallOrBack 61 rfl) rfl rfl h
set_option maxRecDepth 100000 in
theorem dtk_X5_rouse : dck cX5_rouse [(0, .aload_n 0, 1), (1, .iload_n 1, 1), (2, .iconst 0, 1), (3, .iconst 1, 1), (4, .invokevirtual 117, 3), (7, .aload_n 0, 1), (8, .iload_n 1, 1), (9, .iconst 2, 1), (10, .aload_n 0, 1), (11, .getfield 11, 3), (14, .getfield 258, 3), (17, .iload_n 1, 1), (18, .iaload, 1), (19, .invokevirtual 117, 3), (22, .aload_n 0, 1), (23, .iload_n 1, 1), (24, .invokevirtual 205, 3), (27, .return_, 1)] = true := by decide +kernel
set_option maxRecDepth 100000 in
set_option maxHeartbeats 4000000 in
theorem kg_X5_rouse_0 {G : kG} {q : kP} {d : Nat} {x : gd} {P : Option gv → gd → Prop} (hq : kV q) {o : Nat} (ho : kiM q o) (l1 : Int32)
    (h : KT G q d zk_X5_set 0 [(0, vr o), (1, vi l1), (2, vi 0), (3, vi 1)] [] x (rv (fun x1 => vp_in l1 6 ∧ KT G q d zk_X5_set 0 [(0, vr o), (1, vi l1), (2, vi 2), (3, vi (x1.1 72 (l1 : Int32).toNatClampNeg))] [] x1 (rv (fun x3 => KT G q d zk_X5_settle 0 [(0, vr o), (1, vi l1)] [] x3 (rv (fun x4 => P none x4))))))) :
    KT G q (d + 1) zk_X5_rouse 0 [(0, vr o), (1, vi l1)] [] x P := by
  refine T_aload_n 0 (dk dtk_X5_rouse 0 rfl) rfl rfl ?_
  refine T_iload_n 1 (dk dtk_X5_rouse 1 rfl) rfl rfl ?_
  refine T_iconst (v := 0) (dk dtk_X5_rouse 2 rfl) (by decide +kernel) ?_
  refine T_iconst (v := 1) (dk dtk_X5_rouse 3 rfl) (by decide +kernel) ?_
  refine KC_Vv [vi l1, vi 0, vi 1] [] rfl (dk dtk_X5_rouse 4 rfl) kcv_X5_117 rfl (kk_M0 ho) rfl (kl_M0 hq ho) (Nat.le_of_ble_eq_true rfl) (Nat.le_of_ble_eq_true rfl) (gok_i (av_c (gkr (kl_M0 hq ho)) (av_c rfl av_n)) as_n) rfl h (fun x1 h => ?_)
  refine T_aload_n 0 (dk dtk_X5_rouse 5 rfl) rfl rfl ?_
  refine T_iload_n 1 (dk dtk_X5_rouse 6 rfl) rfl rfl ?_
  refine T_iconst (v := 2) (dk dtk_X5_rouse 7 rfl) (by decide +kernel) ?_
  refine T_aload_n 0 (dk dtk_X5_rouse 8 rfl) rfl rfl ?_
  refine T_getR o 0 60 (dk dtk_X5_rouse 9 rfl) kfl_X5_11 (kk_M0 ho) (kl_M0 hq ho) (by decide) rfl (kr_M_0 ho) ?_
  refine T_getR 60 11 72 (dk dtk_X5_rouse 10 rfl) kfl_X5_258 kk_60 (kl_60 hq) (by decide) rfl kr_60_11 ?_
  refine T_iload_n 1 (dk dtk_X5_rouse 11 rfl) rfl rfl ?_
  obtain ⟨h2, h⟩ := h
  refine T_iald 72 6 (dk dtk_X5_rouse 12 rfl) kk_72 (kl_72 hq) h2 ?_
  refine KC_Vv [vi l1, vi 2, vi (x1.1 72 (l1 : Int32).toNatClampNeg)] [] rfl (dk dtk_X5_rouse 13 rfl) kcv_X5_117 rfl (kk_M0 ho) rfl (kl_M0 hq ho) (Nat.le_of_ble_eq_true rfl) (Nat.le_of_ble_eq_true rfl) (gok_i (av_c (gkr (kl_M0 hq ho)) (av_c rfl av_n)) as_n) rfl h (fun x3 h => ?_)
  refine T_aload_n 0 (dk dtk_X5_rouse 14 rfl) rfl rfl ?_
  refine T_iload_n 1 (dk dtk_X5_rouse 15 rfl) rfl rfl ?_
  refine T_sub (lv2 := []) [] rfl ?_
  refine KC_Vv [vi l1] [] rfl (dk dtk_X5_rouse 16 rfl) kcv_X5_205 rfl (kk_M0 ho) rfl (kl_M0 hq ho) (Nat.le_of_ble_eq_true rfl) (Nat.le_of_ble_eq_true rfl) (gok_i av_n as_n) rfl h (fun x4 h => ?_)
  exact KT_vret (dk dtk_X5_rouse 17 rfl) rfl h
set_option maxRecDepth 100000 in
theorem dtk_X5_settle : dck cX5_settle [(0, .iconst 0, 1), (1, .istore_n 2, 1), (2, .iconst 0, 1), (3, .istore_n 3, 1), (4, .iload_n 3, 1), (5, .ldc_w 261, 3), (8, .if_icmp .ge 92, 3), (11, .aload_n 0, 1), (12, .iload_n 1, 1), (13, .invokevirtual 94, 3), (16, .ifCond .eq 84, 3), (19, .aload_n 0, 1), (20, .iload_n 1, 1), (21, .iconst 2, 1), (22, .invokevirtual 90, 3), (25, .istore 4, 2), (27, .aload_n 0, 1), (28, .getfield 21, 3), (31, .getfield 127, 3), (34, .iload 4, 2), (36, .iaload, 1), (37, .istore 5, 2), (39, .iload 5, 2), (41, .bipush 16, 2), (43, .if_icmp .ge 6, 3), (46, .goto 54, 3), (49, .iload 5, 2), (51, .bipush 20, 2), (53, .if_icmp .ge 6, 3), (56, .iinc 2 1, 3), (59, .iload_n 2, 1), (60, .sipush 300, 3), (63, .if_icmp .le 8, 3), (66, .bipush 6, 2), (68, .goto 12, 3), (71, .aload_n 0, 1), (72, .iload_n 1, 1), (73, .iload 4, 2), (75, .iload 5, 2), (77, .invokevirtual 262, 3), (80, .istore 6, 2), (82, .iload 6, 2), (84, .ifCond .eq 10, 3), (87, .aload_n 0, 1), (88, .iload_n 1, 1), (89, .iload 6, 2), (91, .invokevirtual 202, 3), (94, .iinc 3 1, 3), (97, .goto (-93), 3), (100, .aload_n 0, 1), (101, .iload_n 1, 1), (102, .invokevirtual 265, 3), (105, .return_, 1)] = true := by decide +kernel
set_option maxRecDepth 100000 in
set_option maxHeartbeats 4000000 in
theorem kg_X5_settle_0 {G : kG} {q : kP} {d : Nat} {x : gd} {P : Option gv → gd → Prop} (hq : kV q) {o : Nat} (ho : kiM q o) (l1 : Int32)
    (h : KT G q (d + 1) zk_X5_settle 4 [(0, vr o), (1, vi l1), (2, vi 0), (3, vi 0)] [] x P) :
    KT G q (d + 1) zk_X5_settle 0 [(0, vr o), (1, vi l1)] [] x P := by
  refine T_iconst (v := 0) (dk dtk_X5_settle 0 rfl) (by decide +kernel) ?_
  refine T_istore_n (lv2 := [(2, vi 0), (0, vr o), (1, vi l1)]) (dk dtk_X5_settle 1 rfl) rfl (by decide) rfl ?_
  refine T_iconst (v := 0) (dk dtk_X5_settle 2 rfl) (by decide +kernel) ?_
  refine T_istore_n (lv2 := [(3, vi 0), (2, vi 0), (0, vr o), (1, vi l1)]) (dk dtk_X5_settle 3 rfl) rfl (by decide) rfl ?_
  exact T_sub [2, 3, 1, 0] rfl h
set_option maxRecDepth 100000 in
set_option maxHeartbeats 4000000 in
theorem kg_X5_settle_4 {G : kG} {q : kP} {d : Nat} {x : gd} {P : Option gv → gd → Prop} (hq : kV q) {o : Nat} (ho : kiM q o) (l1 : Int32) (l2 : Int32) (l3 : Int32)
    (h : (((1000000 : Int32) ≤ l3 → KT G q (d + 1) zk_X5_settle 100 [(0, vr o), (1, vi l1)] [] x P) ∧ (¬ ((1000000 : Int32) ≤ l3) → KT G q d zk_X5_isGoing 0 [(0, vr o), (1, vi l1)] [] x (ri (fun r3 x2 => ((r3 = (0 : Int32) → KT G q (d + 1) zk_X5_settle 100 [(0, vr o), (1, vi l1)] [] x2 P) ∧ (¬ (r3 = (0 : Int32)) → KT G q d zk_X5_get 0 [(0, vr o), (1, vi l1), (2, vi 2)] [] x2 (ri (fun r6 x5 => vp_in r6 400 ∧ (((16 : Int32) ≤ (x5.1 81 (r6 : Int32).toNatClampNeg) → (((20 : Int32) ≤ (x5.1 81 (r6 : Int32).toNatClampNeg) → KT G q (d + 1) zk_X5_settle 59 [(0, vr o), (1, vi l1), (2, vi l2), (3, vi l3), (4, vi r6), (5, vi (x5.1 81 (r6 : Int32).toNatClampNeg))] [] x5 P) ∧ (¬ ((20 : Int32) ≤ (x5.1 81 (r6 : Int32).toNatClampNeg)) → KT G q (d + 1) zk_X5_settle 59 [(0, vr o), (1, vi l1), (2, vi (l2 + 1)), (3, vi l3), (4, vi r6), (5, vi (x5.1 81 (r6 : Int32).toNatClampNeg))] [] x5 P))) ∧ (¬ ((16 : Int32) ≤ (x5.1 81 (r6 : Int32).toNatClampNeg)) → KT G q (d + 1) zk_X5_settle 100 [(0, vr o), (1, vi l1)] [] x5 P))))))))))) :
    KT G q (d + 1) zk_X5_settle 4 [(0, vr o), (1, vi l1), (2, vi l2), (3, vi l3)] [] x P := by
  refine T_iload_n 3 (dk dtk_X5_settle 4 rfl) rfl rfl ?_
  refine T_ldcw (v := 1000000) (dk dtk_X5_settle 5 rfl) kkc_X5_261 ?_
  refine T_icmp_ge 100 (dk dtk_X5_settle 6 rfl) (by decide) (fun c1 => ?_) (fun c1 => ?_)
  · have h := h.1 c1
    exact T_sub [0, 1] rfl h
  · have h := h.2 c1
    refine T_aload_n 0 (dk dtk_X5_settle 7 rfl) rfl rfl ?_
    refine T_iload_n 1 (dk dtk_X5_settle 8 rfl) rfl rfl ?_
    refine KC_Vi [vi l1] [] rfl (dk dtk_X5_settle 9 rfl) kcv_X5_94 rfl (kk_M0 ho) rfl (kl_M0 hq ho) (Nat.le_of_ble_eq_true rfl) (Nat.le_of_ble_eq_true rfl) (gok_i (av_c (gkr (kl_M0 hq ho)) (av_c rfl (av_c rfl (av_c rfl av_n)))) as_n) rfl h (fun r3 x2 h => ?_)
    refine T_if_eq 100 (dk dtk_X5_settle 10 rfl) (by decide) (fun c4 => ?_) (fun c4 => ?_)
    · have h := h.1 c4
      exact T_sub [0, 1] rfl h
    · have h := h.2 c4
      refine T_aload_n 0 (dk dtk_X5_settle 11 rfl) rfl rfl ?_
      refine T_iload_n 1 (dk dtk_X5_settle 12 rfl) rfl rfl ?_
      refine T_iconst (v := 2) (dk dtk_X5_settle 13 rfl) (by decide +kernel) ?_
      refine KC_Vi [vi l1, vi 2] [] rfl (dk dtk_X5_settle 14 rfl) kcv_X5_90 rfl (kk_M0 ho) rfl (kl_M0 hq ho) (Nat.le_of_ble_eq_true rfl) (Nat.le_of_ble_eq_true rfl) (gok_i (av_c (gkr (kl_M0 hq ho)) (av_c rfl (av_c rfl (av_c rfl av_n)))) as_n) rfl h (fun r6 x5 h => ?_)
      refine T_istore (lv2 := [(4, vi r6), (0, vr o), (1, vi l1), (2, vi l2), (3, vi l3)]) (dk dtk_X5_settle 15 rfl) (by decide) rfl ?_
      refine T_aload_n 1 (dk dtk_X5_settle 16 rfl) rfl rfl ?_
      refine T_getR o 1 80 (dk dtk_X5_settle 17 rfl) kfl_X5_21 (kk_M0 ho) (kl_M0 hq ho) (by decide) rfl (kr_M_1 ho) ?_
      refine T_getR 80 0 81 (dk dtk_X5_settle 18 rfl) kfl_X5_127 kk_80 (kl_80 hq) (by decide) rfl kr_80_0 ?_
      refine T_iload 0 (dk dtk_X5_settle 19 rfl) rfl ?_
      obtain ⟨h7, h⟩ := h
      refine T_iald 81 400 (dk dtk_X5_settle 20 rfl) kk_81 (kl_81 hq) h7 ?_
      refine T_istore (lv2 := [(5, vi (x5.1 81 (r6 : Int32).toNatClampNeg)), (4, vi r6), (0, vr o), (1, vi l1), (2, vi l2), (3, vi l3)]) (dk dtk_X5_settle 21 rfl) (by decide) rfl ?_
      refine T_iload 0 (dk dtk_X5_settle 22 rfl) rfl ?_
      refine T_bipush (v := 16) (dk dtk_X5_settle 23 rfl) (by decide +kernel) ?_
      refine T_icmp_ge 49 (dk dtk_X5_settle 24 rfl) (by decide) (fun c8 => ?_) (fun c8 => ?_)
      · have h := h.1 c8
        refine T_iload 0 (dk dtk_X5_settle 26 rfl) rfl ?_
        refine T_bipush (v := 20) (dk dtk_X5_settle 27 rfl) (by decide +kernel) ?_
        refine T_icmp_ge 59 (dk dtk_X5_settle 28 rfl) (by decide) (fun c9 => ?_) (fun c9 => ?_)
        · have h := h.1 c9
          exact T_sub [2, 3, 4, 5, 1, 0] rfl h
        · have h := h.2 c9
          refine T_iinc (v := l2 + 1) (lv2 := [(2, vi (l2 + 1)), (5, vi (x5.1 81 (r6 : Int32).toNatClampNeg)), (4, vi r6), (0, vr o), (1, vi l1), (3, vi l3)]) 4 (dk dtk_X5_settle 29 rfl) rfl rfl (by decide) rfl ?_
          exact T_sub [3, 4, 0, 5, 2, 1] rfl h
      · have h := h.2 c8
        refine T_goto 100 (dk dtk_X5_settle 25 rfl) (by decide) ?_
        exact T_sub [2, 3] rfl h
set_option maxRecDepth 100000 in
set_option maxHeartbeats 4000000 in
theorem kg_X5_settle_59 {G : kG} {q : kP} {d : Nat} {x : gd} {P : Option gv → gd → Prop} (hq : kV q) {o : Nat} (ho : kiM q o) (l1 : Int32) (l2 : Int32) (l3 : Int32) (l4 : Int32) (l5 : Int32)
    (h : ((l2 ≤ (300 : Int32) → KT G q d zk_X5_ownFailure 0 [(0, vr o), (1, vi l1), (2, vi l4), (3, vi l5)] [] x (ri (fun r3 x2 => KT G q (d + 1) zk_X5_settle 80 [(0, vr o), (1, vi l1), (2, vi l2), (3, vi l3)] [vi r3] x2 P))) ∧ (¬ (l2 ≤ (300 : Int32)) → KT G q (d + 1) zk_X5_settle 80 [(0, vr o), (1, vi l1), (2, vi l2), (3, vi l3)] [vi 6] x P))) :
    KT G q (d + 1) zk_X5_settle 59 [(0, vr o), (1, vi l1), (2, vi l2), (3, vi l3), (4, vi l4), (5, vi l5)] [] x P := by
  refine T_iload_n 2 (dk dtk_X5_settle 30 rfl) rfl rfl ?_
  refine T_sipush (v := 300) (dk dtk_X5_settle 31 rfl) (by decide +kernel) ?_
  refine T_icmp_le 71 (dk dtk_X5_settle 32 rfl) (by decide) (fun c1 => ?_) (fun c1 => ?_)
  · have h := h.1 c1
    refine T_aload_n 0 (dk dtk_X5_settle 35 rfl) rfl rfl ?_
    refine T_iload_n 1 (dk dtk_X5_settle 36 rfl) rfl rfl ?_
    refine T_iload 4 (dk dtk_X5_settle 37 rfl) rfl ?_
    refine T_iload 5 (dk dtk_X5_settle 38 rfl) rfl ?_
    refine T_sub (lv2 := [(0, vr o), (1, vi l1), (2, vi l2), (3, vi l3)]) [0, 1, 2, 3] rfl ?_
    refine KC_Vi [vi l1, vi l4, vi l5] [] rfl (dk dtk_X5_settle 39 rfl) kcv_X5_262 rfl (kk_M0 ho) rfl (kl_M0 hq ho) (Nat.le_of_ble_eq_true rfl) (Nat.le_of_ble_eq_true rfl) (gok_i (av_c (gkr (kl_M0 hq ho)) (av_c rfl (av_c rfl (av_c rfl av_n)))) as_n) rfl h (fun r3 x2 h => ?_)
    exact h
  · have h := h.2 c1
    refine T_bipush (v := 6) (dk dtk_X5_settle 33 rfl) (by decide +kernel) ?_
    refine T_goto 80 (dk dtk_X5_settle 34 rfl) (by decide) ?_
    exact T_sub [0, 1, 2, 3] rfl h
set_option maxRecDepth 100000 in
set_option maxHeartbeats 4000000 in
theorem kg_X5_settle_80 {G : kG} {q : kP} {d : Nat} {x : gd} {P : Option gv → gd → Prop} (hq : kV q) {o : Nat} (ho : kiM q o) (l1 : Int32) (l2 : Int32) (l3 : Int32) (s0 : Int32)
    (h : ((s0 = (0 : Int32) → KT G q (d + 1) zk_X5_settle 4 [(0, vr o), (1, vi l1), (2, vi l2), (3, vi (l3 + 1))] [] x P) ∧ (¬ (s0 = (0 : Int32)) → KT G q d zk_X5_fail 0 [(0, vr o), (1, vi l1), (2, vi s0)] [] x (rv (fun x2 => KT G q (d + 1) zk_X5_settle 4 [(0, vr o), (1, vi l1), (2, vi l2), (3, vi (l3 + 1))] [] x2 P))))) :
    KT G q (d + 1) zk_X5_settle 80 [(0, vr o), (1, vi l1), (2, vi l2), (3, vi l3)] [vi s0] x P := by
  refine T_istore (lv2 := [(6, vi s0), (0, vr o), (1, vi l1), (2, vi l2), (3, vi l3)]) (dk dtk_X5_settle 40 rfl) (by decide) rfl ?_
  refine T_iload 0 (dk dtk_X5_settle 41 rfl) rfl ?_
  refine T_if_eq 94 (dk dtk_X5_settle 42 rfl) (by decide) (fun c1 => ?_) (fun c1 => ?_)
  · have h := h.1 c1
    refine T_iinc (v := l3 + 1) (lv2 := [(3, vi (l3 + 1)), (6, vi s0), (0, vr o), (1, vi l1), (2, vi l2)]) 4 (dk dtk_X5_settle 47 rfl) rfl rfl (by decide) rfl ?_
    refine T_goto 4 (dk dtk_X5_settle 48 rfl) (by decide) ?_
    exact T_sub [2, 3, 4, 0] rfl h
  · have h := h.2 c1
    refine T_aload_n 1 (dk dtk_X5_settle 43 rfl) rfl rfl ?_
    refine T_iload_n 2 (dk dtk_X5_settle 44 rfl) rfl rfl ?_
    refine T_iload 0 (dk dtk_X5_settle 45 rfl) rfl ?_
    refine T_sub (lv2 := [(0, vr o), (1, vi l1), (2, vi l2), (3, vi l3)]) [1, 2, 3, 4] rfl ?_
    refine KC_Vv [vi l1, vi s0] [] rfl (dk dtk_X5_settle 46 rfl) kcv_X5_202 rfl (kk_M0 ho) rfl (kl_M0 hq ho) (Nat.le_of_ble_eq_true rfl) (Nat.le_of_ble_eq_true rfl) (gok_i (av_c (gkr (kl_M0 hq ho)) (av_c rfl (av_c rfl (av_c rfl av_n)))) as_n) rfl h (fun x2 h => ?_)
    refine T_iinc (v := l3 + 1) (lv2 := [(3, vi (l3 + 1)), (0, vr o), (1, vi l1), (2, vi l2)]) 3 (dk dtk_X5_settle 47 rfl) rfl rfl (by decide) rfl ?_
    refine T_goto 4 (dk dtk_X5_settle 48 rfl) (by decide) ?_
    exact T_sub [1, 2, 3, 0] rfl h
set_option maxRecDepth 100000 in
set_option maxHeartbeats 4000000 in
theorem kg_X5_settle_100 {G : kG} {q : kP} {d : Nat} {x : gd} {P : Option gv → gd → Prop} (hq : kV q) {o : Nat} (ho : kiM q o) (l1 : Int32)
    (h : KT G q d zk_X5_blankUnknown 0 [(0, vr o), (1, vi l1)] [] x (rv (fun x1 => P none x1))) :
    KT G q (d + 1) zk_X5_settle 100 [(0, vr o), (1, vi l1)] [] x P := by
  refine T_aload_n 0 (dk dtk_X5_settle 49 rfl) rfl rfl ?_
  refine T_iload_n 1 (dk dtk_X5_settle 50 rfl) rfl rfl ?_
  refine T_sub (lv2 := []) [] rfl ?_
  refine KC_Vv [vi l1] [] rfl (dk dtk_X5_settle 51 rfl) kcv_X5_265 rfl (kk_M0 ho) rfl (kl_M0 hq ho) (Nat.le_of_ble_eq_true rfl) (Nat.le_of_ble_eq_true rfl) (gok_i av_n as_n) rfl h (fun x1 h => ?_)
  exact KT_vret (dk dtk_X5_settle 52 rfl) rfl h
set_option maxRecDepth 100000 in
theorem dtk_X5_ownFailure : dck cX5_ownFailure [(0, .iload_n 3, 1), (1, .bipush 21, 2), (3, .if_icmp .eq 9, 3), (6, .iload_n 3, 1), (7, .bipush 19, 2), (9, .if_icmp .ne 19, 3), (12, .aload_n 0, 1), (13, .iload_n 1, 1), (14, .iconst 0, 1), (15, .iconst 2, 1), (16, .invokevirtual 117, 3), (19, .aload_n 0, 1), (20, .iload_n 1, 1), (21, .iconst 2, 1), (22, .iconst 0, 1), (23, .invokevirtual 117, 3), (26, .iconst 0, 1), (27, .ireturn, 1), (28, .iload_n 3, 1), (29, .bipush 20, 2), (31, .if_icmp .ne 20, 3), (34, .aload_n 0, 1), (35, .iload_n 1, 1), (36, .iconst 2, 1), (37, .aload_n 0, 1), (38, .getfield 21, 3), (41, .getfield 182, 3), (44, .iload_n 2, 1), (45, .iaload, 1), (46, .invokevirtual 117, 3), (49, .iconst 0, 1), (50, .ireturn, 1), (51, .aload_n 0, 1), (52, .getfield 11, 3), (55, .aload_n 0, 1), (56, .getfield 21, 3), (59, .getfield 160, 3), (62, .iload_n 2, 1), (63, .iaload, 1), (64, .aload_n 0, 1), (65, .getfield 29, 3), (68, .aload_n 0, 1), (69, .iload_n 1, 1), (70, .invokevirtual 142, 3), (73, .iload_n 1, 1), (74, .invokevirtual 145, 3), (77, .istore 4, 2), (79, .aload_n 0, 1), (80, .getfield 11, 3), (83, .getfield 149, 3), (86, .ifCond .eq 5, 3), (89, .iconst 1, 1), (90, .ireturn, 1), (91, .iload_n 3, 1), (92, .bipush 18, 2), (94, .if_icmp .ne 10, 3), (97, .iload 4, 2), (99, .ifCond .ne 5, 3), (102, .iconst 5, 1), (103, .ireturn, 1), (104, .iload_n 3, 1), (105, .bipush 16, 2), (107, .if_icmp .ne 22, 3), (110, .aload_n 0, 1), (111, .iload_n 1, 1), (112, .bipush 8, 2), (114, .aload_n 0, 1), (115, .getfield 21, 3), (118, .getfield 182, 3), (121, .iload_n 2, 1), (122, .iaload, 1), (123, .iadd, 1), (124, .iload 4, 2), (126, .invokevirtual 117, 3), (129, .aload_n 0, 1), (130, .iload_n 1, 1), (131, .iconst 2, 1), (132, .iload_n 3, 1), (133, .bipush 17, 2), (135, .if_icmp .ne 20, 3), (138, .iload 4, 2), (140, .ifCond .ne 15, 3), (143, .aload_n 0, 1), (144, .getfield 21, 3), (147, .getfield 182, 3), (150, .iload_n 2, 1), (151, .iaload, 1), (152, .goto 6, 3), (155, .iload_n 2, 1), (156, .iconst 1, 1), (157, .iadd, 1), (158, .invokevirtual 117, 3), (161, .iconst 0, 1), (162, .ireturn, 1)] = true := by decide +kernel
set_option maxRecDepth 100000 in
set_option maxHeartbeats 4000000 in
theorem kg_X5_ownFailure_0 {G : kG} {q : kP} {d : Nat} {x : gd} {P : Option gv → gd → Prop} (hq : kV q) {o : Nat} (ho : kiM q o) (l1 : Int32) (l2 : Int32) (l3 : Int32)
    (h : ((l3 = (21 : Int32) → KT G q (d + 1) zk_X5_ownFailure 12 [(0, vr o), (1, vi l1)] [] x P) ∧ (¬ (l3 = (21 : Int32)) → ((¬ (l3 = (19 : Int32)) → ((¬ (l3 = (20 : Int32)) → vp_in l2 400 ∧ KT G q d zk_X5_localsAt 0 [(0, vr o), (1, vi l1)] [] x (ri (fun r6 x5 => KT G q d zk_X0_work 0 [(0, vr 60), (1, vi (x.1 88 (l2 : Int32).toNatClampNeg)), (2, vr (o + 5)), (3, vi r6), (4, vi l1)] [] x5 (ri (fun r8 x7 => (((x7.1 60 5) = (0 : Int32) → ((¬ (l3 = (18 : Int32)) → KT G q (d + 1) zk_X5_ownFailure 104 [(0, vr o), (1, vi l1), (2, vi l2), (3, vi l3), (4, vi r8)] [] x7 P) ∧ (l3 = (18 : Int32) → ((¬ (r8 = (0 : Int32)) → KT G q (d + 1) zk_X5_ownFailure 104 [(0, vr o), (1, vi l1), (2, vi l2), (3, vi l3), (4, vi r8)] [] x7 P) ∧ (r8 = (0 : Int32) → P (some (vi 5)) x7))))) ∧ (¬ ((x7.1 60 5) = (0 : Int32)) → P (some (vi 1)) x7))))))) ∧ (l3 = (20 : Int32) → vp_in l2 400 ∧ KT G q d zk_X5_set 0 [(0, vr o), (1, vi l1), (2, vi 2), (3, vi (x.1 84 (l2 : Int32).toNatClampNeg))] [] x (rv (fun x13 => P (some (vi 0)) x13))))) ∧ (l3 = (19 : Int32) → KT G q (d + 1) zk_X5_ownFailure 12 [(0, vr o), (1, vi l1)] [] x P))))) :
    KT G q (d + 1) zk_X5_ownFailure 0 [(0, vr o), (1, vi l1), (2, vi l2), (3, vi l3)] [] x P := by
  refine T_iload_n 3 (dk dtk_X5_ownFailure 0 rfl) rfl rfl ?_
  refine T_bipush (v := 21) (dk dtk_X5_ownFailure 1 rfl) (by decide +kernel) ?_
  refine T_icmp_eq 12 (dk dtk_X5_ownFailure 2 rfl) (by decide) (fun c1 => ?_) (fun c1 => ?_)
  · have h := h.1 c1
    exact T_sub [0, 1] rfl h
  · have h := h.2 c1
    refine T_iload_n 3 (dk dtk_X5_ownFailure 3 rfl) rfl rfl ?_
    refine T_bipush (v := 19) (dk dtk_X5_ownFailure 4 rfl) (by decide +kernel) ?_
    refine T_icmp_ne 28 (dk dtk_X5_ownFailure 5 rfl) (by decide) (fun c2 => ?_) (fun c2 => ?_)
    · have h := h.1 c2
      refine T_iload_n 3 (dk dtk_X5_ownFailure 18 rfl) rfl rfl ?_
      refine T_bipush (v := 20) (dk dtk_X5_ownFailure 19 rfl) (by decide +kernel) ?_
      refine T_icmp_ne 51 (dk dtk_X5_ownFailure 20 rfl) (by decide) (fun c3 => ?_) (fun c3 => ?_)
      · have h := h.1 c3
        refine T_aload_n 0 (dk dtk_X5_ownFailure 32 rfl) rfl rfl ?_
        refine T_getR o 0 60 (dk dtk_X5_ownFailure 33 rfl) kfl_X5_11 (kk_M0 ho) (kl_M0 hq ho) (by decide) rfl (kr_M_0 ho) ?_
        refine T_aload_n 0 (dk dtk_X5_ownFailure 34 rfl) rfl rfl ?_
        refine T_getR o 1 80 (dk dtk_X5_ownFailure 35 rfl) kfl_X5_21 (kk_M0 ho) (kl_M0 hq ho) (by decide) rfl (kr_M_1 ho) ?_
        refine T_getR 80 7 88 (dk dtk_X5_ownFailure 36 rfl) kfl_X5_160 kk_80 (kl_80 hq) (by decide) rfl kr_80_7 ?_
        refine T_iload_n 2 (dk dtk_X5_ownFailure 37 rfl) rfl rfl ?_
        obtain ⟨h4, h⟩ := h
        refine T_iald 88 400 (dk dtk_X5_ownFailure 38 rfl) kk_88 (kl_88 hq) h4 ?_
        refine T_aload_n 0 (dk dtk_X5_ownFailure 39 rfl) rfl rfl ?_
        refine T_getR o 4 (o + 5) (dk dtk_X5_ownFailure 40 rfl) kfl_X5_29 (kk_M0 ho) (kl_M0 hq ho) (by decide) rfl (kr_M_4 ho) ?_
        refine T_aload_n 0 (dk dtk_X5_ownFailure 41 rfl) rfl rfl ?_
        refine T_iload_n 1 (dk dtk_X5_ownFailure 42 rfl) rfl rfl ?_
        refine KC_Vi [vi l1] [vr (o + 5), vi (x.1 88 (l2 : Int32).toNatClampNeg), vr 60] rfl (dk dtk_X5_ownFailure 43 rfl) kcv_X5_142 rfl (kk_M0 ho) rfl (kl_M0 hq ho) (Nat.le_of_ble_eq_true rfl) (Nat.le_of_ble_eq_true rfl) (gok_i (av_c (gkr (kl_M0 hq ho)) (av_c rfl (av_c rfl (av_c rfl av_n)))) (as_c (gkr (kl_M5 hq ho)) (as_c rfl (as_c (gkr (kl_60 hq)) as_n)))) rfl h (fun r6 x5 h => ?_)
        refine T_iload_n 1 (dk dtk_X5_ownFailure 44 rfl) rfl rfl ?_
        refine KC_Vi [vi (x.1 88 (l2 : Int32).toNatClampNeg), vr (o + 5), vi r6, vi l1] [] rfl (dk dtk_X5_ownFailure 45 rfl) kcv_X5_145 rfl kk_60 rfl (kl_60 hq) (Nat.le_of_ble_eq_true rfl) (Nat.le_of_ble_eq_true rfl) (gok_i (av_c (gkr (kl_M0 hq ho)) (av_c rfl (av_c rfl (av_c rfl av_n)))) as_n) rfl h (fun r8 x7 h => ?_)
        refine T_istore (lv2 := [(4, vi r8), (0, vr o), (1, vi l1), (2, vi l2), (3, vi l3)]) (dk dtk_X5_ownFailure 46 rfl) (by decide) rfl ?_
        refine T_aload_n 1 (dk dtk_X5_ownFailure 47 rfl) rfl rfl ?_
        refine T_getR o 0 60 (dk dtk_X5_ownFailure 48 rfl) kfl_X5_11 (kk_M0 ho) (kl_M0 hq ho) (by decide) rfl (kr_M_0 ho) ?_
        refine T_getI 60 5 (dk dtk_X5_ownFailure 49 rfl) kfl_X5_149 kk_60 (kl_60 hq) (by decide) rfl ?_
        refine T_if_eq 91 (dk dtk_X5_ownFailure 50 rfl) (by decide) (fun c9 => ?_) (fun c9 => ?_)
        · have h := h.1 c9
          refine T_iload_n 4 (dk dtk_X5_ownFailure 53 rfl) rfl rfl ?_
          refine T_bipush (v := 18) (dk dtk_X5_ownFailure 54 rfl) (by decide +kernel) ?_
          refine T_icmp_ne 104 (dk dtk_X5_ownFailure 55 rfl) (by decide) (fun c10 => ?_) (fun c10 => ?_)
          · have h := h.1 c10
            exact T_sub [1, 2, 3, 4, 0] rfl h
          · have h := h.2 c10
            refine T_iload 0 (dk dtk_X5_ownFailure 56 rfl) rfl ?_
            refine T_if_ne 104 (dk dtk_X5_ownFailure 57 rfl) (by decide) (fun c11 => ?_) (fun c11 => ?_)
            · have h := h.1 c11
              exact T_sub [1, 2, 3, 4, 0] rfl h
            · have h := h.2 c11
              refine T_iconst (v := 5) (dk dtk_X5_ownFailure 58 rfl) (by decide +kernel) ?_
              exact KT_iret (dk dtk_X5_ownFailure 59 rfl) rfl rfl h
        · have h := h.2 c9
          refine T_iconst (v := 1) (dk dtk_X5_ownFailure 51 rfl) (by decide +kernel) ?_
          exact KT_iret (dk dtk_X5_ownFailure 52 rfl) rfl rfl h
      · have h := h.2 c3
        refine T_aload_n 0 (dk dtk_X5_ownFailure 21 rfl) rfl rfl ?_
        refine T_iload_n 1 (dk dtk_X5_ownFailure 22 rfl) rfl rfl ?_
        refine T_iconst (v := 2) (dk dtk_X5_ownFailure 23 rfl) (by decide +kernel) ?_
        refine T_aload_n 0 (dk dtk_X5_ownFailure 24 rfl) rfl rfl ?_
        refine T_getR o 1 80 (dk dtk_X5_ownFailure 25 rfl) kfl_X5_21 (kk_M0 ho) (kl_M0 hq ho) (by decide) rfl (kr_M_1 ho) ?_
        refine T_getR 80 3 84 (dk dtk_X5_ownFailure 26 rfl) kfl_X5_182 kk_80 (kl_80 hq) (by decide) rfl kr_80_3 ?_
        refine T_iload_n 2 (dk dtk_X5_ownFailure 27 rfl) rfl rfl ?_
        obtain ⟨h12, h⟩ := h
        refine T_iald 84 400 (dk dtk_X5_ownFailure 28 rfl) kk_84 (kl_84 hq) h12 ?_
        refine T_sub (lv2 := []) [] rfl ?_
        refine KC_Vv [vi l1, vi 2, vi (x.1 84 (l2 : Int32).toNatClampNeg)] [] rfl (dk dtk_X5_ownFailure 29 rfl) kcv_X5_117 rfl (kk_M0 ho) rfl (kl_M0 hq ho) (Nat.le_of_ble_eq_true rfl) (Nat.le_of_ble_eq_true rfl) (gok_i av_n as_n) rfl h (fun x13 h => ?_)
        refine T_iconst (v := 0) (dk dtk_X5_ownFailure 30 rfl) (by decide +kernel) ?_
        exact KT_iret (dk dtk_X5_ownFailure 31 rfl) rfl rfl h
    · have h := h.2 c2
      exact T_sub [0, 1] rfl h
set_option maxRecDepth 100000 in
set_option maxHeartbeats 4000000 in
theorem kg_X5_ownFailure_12 {G : kG} {q : kP} {d : Nat} {x : gd} {P : Option gv → gd → Prop} (hq : kV q) {o : Nat} (ho : kiM q o) (l1 : Int32)
    (h : KT G q d zk_X5_set 0 [(0, vr o), (1, vi l1), (2, vi 0), (3, vi 2)] [] x (rv (fun x1 => KT G q d zk_X5_set 0 [(0, vr o), (1, vi l1), (2, vi 2), (3, vi 0)] [] x1 (rv (fun x2 => P (some (vi 0)) x2))))) :
    KT G q (d + 1) zk_X5_ownFailure 12 [(0, vr o), (1, vi l1)] [] x P := by
  refine T_aload_n 0 (dk dtk_X5_ownFailure 6 rfl) rfl rfl ?_
  refine T_iload_n 1 (dk dtk_X5_ownFailure 7 rfl) rfl rfl ?_
  refine T_iconst (v := 0) (dk dtk_X5_ownFailure 8 rfl) (by decide +kernel) ?_
  refine T_iconst (v := 2) (dk dtk_X5_ownFailure 9 rfl) (by decide +kernel) ?_
  refine KC_Vv [vi l1, vi 0, vi 2] [] rfl (dk dtk_X5_ownFailure 10 rfl) kcv_X5_117 rfl (kk_M0 ho) rfl (kl_M0 hq ho) (Nat.le_of_ble_eq_true rfl) (Nat.le_of_ble_eq_true rfl) (gok_i (av_c (gkr (kl_M0 hq ho)) (av_c rfl av_n)) as_n) rfl h (fun x1 h => ?_)
  refine T_aload_n 0 (dk dtk_X5_ownFailure 11 rfl) rfl rfl ?_
  refine T_iload_n 1 (dk dtk_X5_ownFailure 12 rfl) rfl rfl ?_
  refine T_iconst (v := 2) (dk dtk_X5_ownFailure 13 rfl) (by decide +kernel) ?_
  refine T_iconst (v := 0) (dk dtk_X5_ownFailure 14 rfl) (by decide +kernel) ?_
  refine T_sub (lv2 := []) [] rfl ?_
  refine KC_Vv [vi l1, vi 2, vi 0] [] rfl (dk dtk_X5_ownFailure 15 rfl) kcv_X5_117 rfl (kk_M0 ho) rfl (kl_M0 hq ho) (Nat.le_of_ble_eq_true rfl) (Nat.le_of_ble_eq_true rfl) (gok_i av_n as_n) rfl h (fun x2 h => ?_)
  refine T_iconst (v := 0) (dk dtk_X5_ownFailure 16 rfl) (by decide +kernel) ?_
  exact KT_iret (dk dtk_X5_ownFailure 17 rfl) rfl rfl h
set_option maxRecDepth 100000 in
set_option maxHeartbeats 4000000 in
theorem kg_X5_ownFailure_104 {G : kG} {q : kP} {d : Nat} {x : gd} {P : Option gv → gd → Prop} (hq : kV q) {o : Nat} (ho : kiM q o) (l1 : Int32) (l2 : Int32) (l3 : Int32) (l4 : Int32)
    (h : ((¬ (l3 = (16 : Int32)) → KT G q (d + 1) zk_X5_ownFailure 129 [(0, vr o), (1, vi l1), (2, vi l2), (3, vi l3), (4, vi l4)] [] x P) ∧ (l3 = (16 : Int32) → vp_in l2 400 ∧ KT G q d zk_X5_set 0 [(0, vr o), (1, vi l1), (2, vi (8 + (x.1 84 (l2 : Int32).toNatClampNeg))), (3, vi l4)] [] x (rv (fun x3 => KT G q (d + 1) zk_X5_ownFailure 129 [(0, vr o), (1, vi l1), (2, vi l2), (3, vi l3), (4, vi l4)] [] x3 P))))) :
    KT G q (d + 1) zk_X5_ownFailure 104 [(0, vr o), (1, vi l1), (2, vi l2), (3, vi l3), (4, vi l4)] [] x P := by
  refine T_iload_n 3 (dk dtk_X5_ownFailure 60 rfl) rfl rfl ?_
  refine T_bipush (v := 16) (dk dtk_X5_ownFailure 61 rfl) (by decide +kernel) ?_
  refine T_icmp_ne 129 (dk dtk_X5_ownFailure 62 rfl) (by decide) (fun c1 => ?_) (fun c1 => ?_)
  · have h := h.1 c1
    exact h
  · have h := h.2 c1
    refine T_aload_n 0 (dk dtk_X5_ownFailure 63 rfl) rfl rfl ?_
    refine T_iload_n 1 (dk dtk_X5_ownFailure 64 rfl) rfl rfl ?_
    refine T_bipush (v := 8) (dk dtk_X5_ownFailure 65 rfl) (by decide +kernel) ?_
    refine T_aload_n 0 (dk dtk_X5_ownFailure 66 rfl) rfl rfl ?_
    refine T_getR o 1 80 (dk dtk_X5_ownFailure 67 rfl) kfl_X5_21 (kk_M0 ho) (kl_M0 hq ho) (by decide) rfl (kr_M_1 ho) ?_
    refine T_getR 80 3 84 (dk dtk_X5_ownFailure 68 rfl) kfl_X5_182 kk_80 (kl_80 hq) (by decide) rfl kr_80_3 ?_
    refine T_iload_n 2 (dk dtk_X5_ownFailure 69 rfl) rfl rfl ?_
    obtain ⟨h2, h⟩ := h
    refine T_iald 84 400 (dk dtk_X5_ownFailure 70 rfl) kk_84 (kl_84 hq) h2 ?_
    refine T_iadd (dk dtk_X5_ownFailure 71 rfl) ?_
    refine T_iload 4 (dk dtk_X5_ownFailure 72 rfl) rfl ?_
    refine KC_Vv [vi l1, vi (8 + (x.1 84 (l2 : Int32).toNatClampNeg)), vi l4] [] rfl (dk dtk_X5_ownFailure 73 rfl) kcv_X5_117 rfl (kk_M0 ho) rfl (kl_M0 hq ho) (Nat.le_of_ble_eq_true rfl) (Nat.le_of_ble_eq_true rfl) (gok_i (av_c (gkr (kl_M0 hq ho)) (av_c rfl (av_c rfl (av_c rfl (av_c rfl av_n))))) as_n) rfl h (fun x3 h => ?_)
    exact h
set_option maxRecDepth 100000 in
set_option maxHeartbeats 4000000 in
theorem kg_X5_ownFailure_129 {G : kG} {q : kP} {d : Nat} {x : gd} {P : Option gv → gd → Prop} (hq : kV q) {o : Nat} (ho : kiM q o) (l1 : Int32) (l2 : Int32) (l3 : Int32) (l4 : Int32)
    (h : ((¬ (l3 = (17 : Int32)) → KT G q (d + 1) zk_X5_ownFailure 158 [] [vi (l2 + 1), vi 2, vi l1, vr o] x P) ∧ (l3 = (17 : Int32) → ((¬ (l4 = (0 : Int32)) → KT G q (d + 1) zk_X5_ownFailure 158 [] [vi (l2 + 1), vi 2, vi l1, vr o] x P) ∧ (l4 = (0 : Int32) → vp_in l2 400 ∧ KT G q (d + 1) zk_X5_ownFailure 158 [] [vi (x.1 84 (l2 : Int32).toNatClampNeg), vi 2, vi l1, vr o] x P))))) :
    KT G q (d + 1) zk_X5_ownFailure 129 [(0, vr o), (1, vi l1), (2, vi l2), (3, vi l3), (4, vi l4)] [] x P := by
  refine T_aload_n 0 (dk dtk_X5_ownFailure 74 rfl) rfl rfl ?_
  refine T_iload_n 1 (dk dtk_X5_ownFailure 75 rfl) rfl rfl ?_
  refine T_iconst (v := 2) (dk dtk_X5_ownFailure 76 rfl) (by decide +kernel) ?_
  refine T_iload_n 3 (dk dtk_X5_ownFailure 77 rfl) rfl rfl ?_
  refine T_bipush (v := 17) (dk dtk_X5_ownFailure 78 rfl) (by decide +kernel) ?_
  refine T_icmp_ne 155 (dk dtk_X5_ownFailure 79 rfl) (by decide) (fun c1 => ?_) (fun c1 => ?_)
  · have h := h.1 c1
    refine T_iload_n 2 (dk dtk_X5_ownFailure 88 rfl) rfl rfl ?_
    refine T_iconst (v := 1) (dk dtk_X5_ownFailure 89 rfl) (by decide +kernel) ?_
    refine T_iadd (dk dtk_X5_ownFailure 90 rfl) ?_
    exact T_sub [] rfl h
  · have h := h.2 c1
    refine T_iload 4 (dk dtk_X5_ownFailure 80 rfl) rfl ?_
    refine T_if_ne 155 (dk dtk_X5_ownFailure 81 rfl) (by decide) (fun c2 => ?_) (fun c2 => ?_)
    · have h := h.1 c2
      refine T_iload_n 2 (dk dtk_X5_ownFailure 88 rfl) rfl rfl ?_
      refine T_iconst (v := 1) (dk dtk_X5_ownFailure 89 rfl) (by decide +kernel) ?_
      refine T_iadd (dk dtk_X5_ownFailure 90 rfl) ?_
      exact T_sub [] rfl h
    · have h := h.2 c2
      refine T_aload_n 0 (dk dtk_X5_ownFailure 82 rfl) rfl rfl ?_
      refine T_getR o 1 80 (dk dtk_X5_ownFailure 83 rfl) kfl_X5_21 (kk_M0 ho) (kl_M0 hq ho) (by decide) rfl (kr_M_1 ho) ?_
      refine T_getR 80 3 84 (dk dtk_X5_ownFailure 84 rfl) kfl_X5_182 kk_80 (kl_80 hq) (by decide) rfl kr_80_3 ?_
      refine T_iload_n 2 (dk dtk_X5_ownFailure 85 rfl) rfl rfl ?_
      obtain ⟨h3, h⟩ := h
      refine T_iald 84 400 (dk dtk_X5_ownFailure 86 rfl) kk_84 (kl_84 hq) h3 ?_
      refine T_goto 158 (dk dtk_X5_ownFailure 87 rfl) (by decide) ?_
      exact T_sub [] rfl h
set_option maxRecDepth 100000 in
set_option maxHeartbeats 4000000 in
theorem kg_X5_ownFailure_158 {G : kG} {q : kP} {d : Nat} {x : gd} {P : Option gv → gd → Prop} (hq : kV q) {o : Nat} (ho : kiM q o) (s0 : Int32) (s1 : Int32) (s2 : Int32)
    (h : KT G q d zk_X5_set 0 [(0, vr o), (1, vi s2), (2, vi s1), (3, vi s0)] [] x (rv (fun x1 => P (some (vi 0)) x1))) :
    KT G q (d + 1) zk_X5_ownFailure 158 [] [vi s0, vi s1, vi s2, vr o] x P := by
  refine KC_Vv [vi s2, vi s1, vi s0] [] rfl (dk dtk_X5_ownFailure 91 rfl) kcv_X5_117 rfl (kk_M0 ho) rfl (kl_M0 hq ho) (Nat.le_of_ble_eq_true rfl) (Nat.le_of_ble_eq_true rfl) (gok_i av_n as_n) rfl h (fun x1 h => ?_)
  refine T_iconst (v := 0) (dk dtk_X5_ownFailure 92 rfl) (by decide +kernel) ?_
  exact KT_iret (dk dtk_X5_ownFailure 93 rfl) rfl rfl h
set_option maxRecDepth 100000 in
theorem dtk_X5_fail : dck cX5_fail [(0, .aload_n 0, 1), (1, .iload_n 1, 1), (2, .iconst 0, 1), (3, .iconst 3, 1), (4, .invokevirtual 117, 3), (7, .aload_n 0, 1), (8, .iload_n 1, 1), (9, .iconst 1, 1), (10, .iload_n 2, 1), (11, .invokevirtual 117, 3), (14, .return_, 1)] = true := by decide +kernel
set_option maxRecDepth 100000 in
set_option maxHeartbeats 4000000 in
theorem kg_X5_fail_0 {G : kG} {q : kP} {d : Nat} {x : gd} {P : Option gv → gd → Prop} (hq : kV q) {o : Nat} (ho : kiM q o) (l1 : Int32) (l2 : Int32)
    (h : KT G q d zk_X5_set 0 [(0, vr o), (1, vi l1), (2, vi 0), (3, vi 3)] [] x (rv (fun x1 => KT G q d zk_X5_set 0 [(0, vr o), (1, vi l1), (2, vi 1), (3, vi l2)] [] x1 (rv (fun x2 => P none x2))))) :
    KT G q (d + 1) zk_X5_fail 0 [(0, vr o), (1, vi l1), (2, vi l2)] [] x P := by
  refine T_aload_n 0 (dk dtk_X5_fail 0 rfl) rfl rfl ?_
  refine T_iload_n 1 (dk dtk_X5_fail 1 rfl) rfl rfl ?_
  refine T_iconst (v := 0) (dk dtk_X5_fail 2 rfl) (by decide +kernel) ?_
  refine T_iconst (v := 3) (dk dtk_X5_fail 3 rfl) (by decide +kernel) ?_
  refine KC_Vv [vi l1, vi 0, vi 3] [] rfl (dk dtk_X5_fail 4 rfl) kcv_X5_117 rfl (kk_M0 ho) rfl (kl_M0 hq ho) (Nat.le_of_ble_eq_true rfl) (Nat.le_of_ble_eq_true rfl) (gok_i (av_c (gkr (kl_M0 hq ho)) (av_c rfl (av_c rfl av_n))) as_n) rfl h (fun x1 h => ?_)
  refine T_aload_n 0 (dk dtk_X5_fail 5 rfl) rfl rfl ?_
  refine T_iload_n 1 (dk dtk_X5_fail 6 rfl) rfl rfl ?_
  refine T_iconst (v := 1) (dk dtk_X5_fail 7 rfl) (by decide +kernel) ?_
  refine T_iload_n 2 (dk dtk_X5_fail 8 rfl) rfl rfl ?_
  refine T_sub (lv2 := []) [] rfl ?_
  refine KC_Vv [vi l1, vi 1, vi l2] [] rfl (dk dtk_X5_fail 9 rfl) kcv_X5_117 rfl (kk_M0 ho) rfl (kl_M0 hq ho) (Nat.le_of_ble_eq_true rfl) (Nat.le_of_ble_eq_true rfl) (gok_i av_n as_n) rfl h (fun x2 h => ?_)
  exact KT_vret (dk dtk_X5_fail 10 rfl) rfl h
set_option maxRecDepth 100000 in
theorem dtk_X5_mix : dck cX5_mix [(0, .aload_n 0, 1), (1, .iconst 0, 1), (2, .iconst 0, 1), (3, .aload_n 0, 1), (4, .getfield 55, 3), (7, .invokevirtual 268, 3), (10, .istore_n 1, 1), (11, .iconst 0, 1), (12, .istore_n 2, 1), (13, .iload_n 2, 1), (14, .aload_n 0, 1), (15, .getfield 11, 3), (18, .getfield 67, 3), (21, .if_icmp .ge 31, 3), (24, .aload_n 0, 1), (25, .iload_n 1, 1), (26, .aload_n 0, 1), (27, .getfield 55, 3), (30, .iload_n 2, 1), (31, .aload_n 0, 1), (32, .getfield 64, 3), (35, .imul, 1), (36, .iadd, 1), (37, .aload_n 0, 1), (38, .iload_n 2, 1), (39, .invokevirtual 271, 3), (42, .invokevirtual 268, 3), (45, .istore_n 1, 1), (46, .iinc 2 1, 3), (49, .goto (-36), 3), (52, .iload_n 1, 1), (53, .ireturn, 1)] = true := by decide +kernel
set_option maxRecDepth 100000 in
set_option maxHeartbeats 4000000 in
theorem kg_X5_mix_0 {G : kG} {q : kP} {d : Nat} {x : gd} {P : Option gv → gd → Prop} (hq : kV q) {o : Nat} (ho : kiM q o)
    (h : KT G q d zk_X5_mixPart 0 [(0, vr o), (1, vi 0), (2, vi 0), (3, vi (x.1 o 7))] [] x (ri (fun r2 x1 => KT G q (d + 1) zk_X5_mix 13 [(0, vr o), (1, vi r2), (2, vi 0)] [] x1 P))) :
    KT G q (d + 1) zk_X5_mix 0 [(0, vr o)] [] x P := by
  refine T_aload_n 0 (dk dtk_X5_mix 0 rfl) rfl rfl ?_
  refine T_iconst (v := 0) (dk dtk_X5_mix 1 rfl) (by decide +kernel) ?_
  refine T_iconst (v := 0) (dk dtk_X5_mix 2 rfl) (by decide +kernel) ?_
  refine T_aload_n 0 (dk dtk_X5_mix 3 rfl) rfl rfl ?_
  refine T_getI o 7 (dk dtk_X5_mix 4 rfl) kfl_X5_55 (kk_M0 ho) (kl_M0 hq ho) (by decide) rfl ?_
  refine KC_Vi [vi 0, vi 0, vi (x.1 o 7)] [] rfl (dk dtk_X5_mix 5 rfl) kcv_X5_268 rfl (kk_M0 ho) rfl (kl_M0 hq ho) (Nat.le_of_ble_eq_true rfl) (Nat.le_of_ble_eq_true rfl) (gok_i (av_c (gkr (kl_M0 hq ho)) av_n) as_n) rfl h (fun r2 x1 h => ?_)
  refine T_istore_n (lv2 := [(1, vi r2), (0, vr o)]) (dk dtk_X5_mix 6 rfl) rfl (by decide) rfl ?_
  refine T_iconst (v := 0) (dk dtk_X5_mix 7 rfl) (by decide +kernel) ?_
  refine T_istore_n (lv2 := [(2, vi 0), (1, vi r2), (0, vr o)]) (dk dtk_X5_mix 8 rfl) rfl (by decide) rfl ?_
  exact T_sub [2, 1, 0] rfl h
set_option maxRecDepth 100000 in
set_option maxHeartbeats 4000000 in
theorem kg_X5_mix_13 {G : kG} {q : kP} {d : Nat} {x : gd} {P : Option gv → gd → Prop} (hq : kV q) {o : Nat} (ho : kiM q o) (l1 : Int32) (l2 : Int32)
    (h : (((x.1 60 10) ≤ l2 → P (some (vi l1)) x) ∧ (¬ ((x.1 60 10) ≤ l2) → KT G q d zk_X5_usedOf 0 [(0, vr o), (1, vi l2)] [] x (ri (fun r3 x2 => KT G q d zk_X5_mixPart 0 [(0, vr o), (1, vi l1), (2, vi ((x.1 o 7) + (l2 * (x.1 o 8)))), (3, vi r3)] [] x2 (ri (fun r5 x4 => KT G q (d + 1) zk_X5_mix 13 [(0, vr o), (1, vi r5), (2, vi (l2 + 1))] [] x4 P))))))) :
    KT G q (d + 1) zk_X5_mix 13 [(0, vr o), (1, vi l1), (2, vi l2)] [] x P := by
  refine T_iload_n 2 (dk dtk_X5_mix 9 rfl) rfl rfl ?_
  refine T_aload_n 0 (dk dtk_X5_mix 10 rfl) rfl rfl ?_
  refine T_getR o 0 60 (dk dtk_X5_mix 11 rfl) kfl_X5_11 (kk_M0 ho) (kl_M0 hq ho) (by decide) rfl (kr_M_0 ho) ?_
  refine T_getI 60 10 (dk dtk_X5_mix 12 rfl) kfl_X5_67 kk_60 (kl_60 hq) (by decide) rfl ?_
  refine T_icmp_ge 52 (dk dtk_X5_mix 13 rfl) (by decide) (fun c1 => ?_) (fun c1 => ?_)
  · have h := h.1 c1
    refine T_iload_n 1 (dk dtk_X5_mix 30 rfl) rfl rfl ?_
    exact KT_iret (dk dtk_X5_mix 31 rfl) rfl rfl h
  · have h := h.2 c1
    refine T_aload_n 0 (dk dtk_X5_mix 14 rfl) rfl rfl ?_
    refine T_iload_n 1 (dk dtk_X5_mix 15 rfl) rfl rfl ?_
    refine T_aload_n 0 (dk dtk_X5_mix 16 rfl) rfl rfl ?_
    refine T_getI o 7 (dk dtk_X5_mix 17 rfl) kfl_X5_55 (kk_M0 ho) (kl_M0 hq ho) (by decide) rfl ?_
    refine T_iload_n 2 (dk dtk_X5_mix 18 rfl) rfl rfl ?_
    refine T_aload_n 0 (dk dtk_X5_mix 19 rfl) rfl rfl ?_
    refine T_getI o 8 (dk dtk_X5_mix 20 rfl) kfl_X5_64 (kk_M0 ho) (kl_M0 hq ho) (by decide) rfl ?_
    refine T_imul (dk dtk_X5_mix 21 rfl) ?_
    refine T_iadd (dk dtk_X5_mix 22 rfl) ?_
    refine T_aload_n 0 (dk dtk_X5_mix 23 rfl) rfl rfl ?_
    refine T_iload_n 2 (dk dtk_X5_mix 24 rfl) rfl rfl ?_
    refine T_sub (lv2 := [(0, vr o), (2, vi l2)]) [0, 2] rfl ?_
    refine KC_Vi [vi l2] [vi ((x.1 o 7) + (l2 * (x.1 o 8))), vi l1, vr o] rfl (dk dtk_X5_mix 25 rfl) kcv_X5_271 rfl (kk_M0 ho) rfl (kl_M0 hq ho) (Nat.le_of_ble_eq_true rfl) (Nat.le_of_ble_eq_true rfl) (gok_i (av_c (gkr (kl_M0 hq ho)) (av_c rfl av_n)) (as_c rfl (as_c rfl (as_c (gkr (kl_M0 hq ho)) as_n)))) rfl h (fun r3 x2 h => ?_)
    refine KC_Vi [vi l1, vi ((x.1 o 7) + (l2 * (x.1 o 8))), vi r3] [] rfl (dk dtk_X5_mix 26 rfl) kcv_X5_268 rfl (kk_M0 ho) rfl (kl_M0 hq ho) (Nat.le_of_ble_eq_true rfl) (Nat.le_of_ble_eq_true rfl) (gok_i (av_c (gkr (kl_M0 hq ho)) (av_c rfl av_n)) as_n) rfl h (fun r5 x4 h => ?_)
    refine T_istore_n (lv2 := [(1, vi r5), (0, vr o), (2, vi l2)]) (dk dtk_X5_mix 27 rfl) rfl (by decide) rfl ?_
    refine T_iinc (v := l2 + 1) (lv2 := [(2, vi (l2 + 1)), (1, vi r5), (0, vr o)]) 2 (dk dtk_X5_mix 28 rfl) rfl rfl (by decide) rfl ?_
    refine T_goto 13 (dk dtk_X5_mix 29 rfl) (by decide) ?_
    exact T_sub [2, 1, 0] rfl h
set_option maxRecDepth 100000 in
theorem dtk_X5_mixPart : dck cX5_mixPart [(0, .iload_n 1, 1), (1, .istore 4, 2), (3, .iload_n 2, 1), (4, .istore 5, 2), (6, .iload 5, 2), (8, .iload_n 2, 1), (9, .iload_n 3, 1), (10, .iadd, 1), (11, .if_icmp .ge 35, 3), (14, .iload 4, 2), (16, .aload_n 0, 1), (17, .getfield 29, 3), (20, .iload 5, 2), (22, .iaload, 1), (23, .ixor, 1), (24, .ldc_w 274, 3), (27, .imul, 1), (28, .istore 4, 2), (30, .iload 4, 2), (32, .iload 4, 2), (34, .bipush 15, 2), (36, .iushr, 1), (37, .ixor, 1), (38, .istore 4, 2), (40, .iinc 5 1, 3), (43, .goto (-37), 3), (46, .iload 4, 2), (48, .ireturn, 1)] = true := by decide +kernel
set_option maxRecDepth 100000 in
set_option maxHeartbeats 4000000 in
theorem kg_X5_mixPart_0 {G : kG} {q : kP} {d : Nat} {x : gd} {P : Option gv → gd → Prop} (hq : kV q) {o : Nat} (ho : kiM q o) (l1 : Int32) (l2 : Int32) (l3 : Int32)
    (h : KT G q d zk_X5_mixPart 6 [(0, vr o), (2, vi l2), (3, vi l3), (4, vi l1), (5, vi l2)] [] x P) :
    KT G q d zk_X5_mixPart 0 [(0, vr o), (1, vi l1), (2, vi l2), (3, vi l3)] [] x P := by
  refine T_iload_n 1 (dk dtk_X5_mixPart 0 rfl) rfl rfl ?_
  refine T_istore (lv2 := [(4, vi l1), (0, vr o), (1, vi l1), (2, vi l2), (3, vi l3)]) (dk dtk_X5_mixPart 1 rfl) (by decide) rfl ?_
  refine T_iload_n 3 (dk dtk_X5_mixPart 2 rfl) rfl rfl ?_
  refine T_istore (lv2 := [(5, vi l2), (4, vi l1), (0, vr o), (1, vi l1), (2, vi l2), (3, vi l3)]) (dk dtk_X5_mixPart 3 rfl) (by decide) rfl ?_
  exact T_sub [2, 4, 5, 1, 0] rfl h
set_option maxRecDepth 100000 in
set_option maxHeartbeats 4000000 in
theorem kg_X5_mixPart_6 {G : kG} {q : kP} {d : Nat} {x : gd} {P : Option gv → gd → Prop} (hq : kV q) {o : Nat} (ho : kiM q o) (l2 : Int32) (l3 : Int32) (l4 : Int32) (l5 : Int32)
    (h : (((l2 + l3) ≤ l5 → P (some (vi l4)) x) ∧ (¬ ((l2 + l3) ≤ l5) → vp_in l5 228 ∧ KT G q d zk_X5_mixPart 6 [(0, vr o), (2, vi l2), (3, vi l3), (4, vi (((l4 ^^^ (x.1 (o + 5) (l5 : Int32).toNatClampNeg)) * 16777619) ^^^ ((((l4 ^^^ (x.1 (o + 5) (l5 : Int32).toNatClampNeg)) * 16777619 : Int32).toUInt32 >>> ((15 : Int32).toUInt32 &&& Int32.toUInt32 31)).toInt32))), (5, vi (l5 + 1))] [] x P))) :
    KT G q d zk_X5_mixPart 6 [(0, vr o), (2, vi l2), (3, vi l3), (4, vi l4), (5, vi l5)] [] x P := by
  refine T_iload 4 (dk dtk_X5_mixPart 4 rfl) rfl ?_
  refine T_iload_n 1 (dk dtk_X5_mixPart 5 rfl) rfl rfl ?_
  refine T_iload_n 2 (dk dtk_X5_mixPart 6 rfl) rfl rfl ?_
  refine T_iadd (dk dtk_X5_mixPart 7 rfl) ?_
  refine T_icmp_ge 46 (dk dtk_X5_mixPart 8 rfl) (by decide) (fun c1 => ?_) (fun c1 => ?_)
  · have h := h.1 c1
    refine T_iload 3 (dk dtk_X5_mixPart 26 rfl) rfl ?_
    exact KT_iret (dk dtk_X5_mixPart 27 rfl) rfl rfl h
  · have h := h.2 c1
    refine T_iload 3 (dk dtk_X5_mixPart 9 rfl) rfl ?_
    refine T_aload_n 0 (dk dtk_X5_mixPart 10 rfl) rfl rfl ?_
    refine T_getR o 4 (o + 5) (dk dtk_X5_mixPart 11 rfl) kfl_X5_29 (kk_M0 ho) (kl_M0 hq ho) (by decide) rfl (kr_M_4 ho) ?_
    refine T_iload 4 (dk dtk_X5_mixPart 12 rfl) rfl ?_
    obtain ⟨h2, h⟩ := h
    refine T_iald (o + 5) 228 (dk dtk_X5_mixPart 13 rfl) (kk_M5 ho) (kl_M5 hq ho) h2 ?_
    refine T_ixor (dk dtk_X5_mixPart 14 rfl) ?_
    refine T_ldcw (v := 16777619) (dk dtk_X5_mixPart 15 rfl) kkc_X5_274 ?_
    refine T_imul (dk dtk_X5_mixPart 16 rfl) ?_
    refine T_istore (lv2 := [(4, vi ((l4 ^^^ (x.1 (o + 5) (l5 : Int32).toNatClampNeg)) * 16777619)), (0, vr o), (2, vi l2), (3, vi l3), (5, vi l5)]) (dk dtk_X5_mixPart 17 rfl) (by decide) rfl ?_
    refine T_iload 0 (dk dtk_X5_mixPart 18 rfl) rfl ?_
    refine T_iload 0 (dk dtk_X5_mixPart 19 rfl) rfl ?_
    refine T_bipush (v := 15) (dk dtk_X5_mixPart 20 rfl) (by decide +kernel) ?_
    refine T_iushr (dk dtk_X5_mixPart 21 rfl) ?_
    refine T_ixor (dk dtk_X5_mixPart 22 rfl) ?_
    refine T_istore (lv2 := [(4, vi (((l4 ^^^ (x.1 (o + 5) (l5 : Int32).toNatClampNeg)) * 16777619) ^^^ ((((l4 ^^^ (x.1 (o + 5) (l5 : Int32).toNatClampNeg)) * 16777619 : Int32).toUInt32 >>> ((15 : Int32).toUInt32 &&& Int32.toUInt32 31)).toInt32))), (0, vr o), (2, vi l2), (3, vi l3), (5, vi l5)]) (dk dtk_X5_mixPart 23 rfl) (by decide) rfl ?_
    refine T_iinc (v := l5 + 1) (lv2 := [(5, vi (l5 + 1)), (4, vi (((l4 ^^^ (x.1 (o + 5) (l5 : Int32).toNatClampNeg)) * 16777619) ^^^ ((((l4 ^^^ (x.1 (o + 5) (l5 : Int32).toNatClampNeg)) * 16777619 : Int32).toUInt32 >>> ((15 : Int32).toUInt32 &&& Int32.toUInt32 31)).toInt32))), (0, vr o), (2, vi l2), (3, vi l3)]) 4 (dk dtk_X5_mixPart 24 rfl) rfl rfl (by decide) rfl ?_
    refine T_goto 6 (dk dtk_X5_mixPart 25 rfl) (by decide) ?_
    exact T_sub [2, 3, 4, 1, 0] rfl h
set_option maxRecDepth 100000 in
theorem dtk_X5_usedOf : dck cX5_usedOf [(0, .aload_n 0, 1), (1, .getfield 61, 3), (4, .iconst 2, 1), (5, .aload_n 0, 1), (6, .iload_n 1, 1), (7, .bipush 7, 2), (9, .invokevirtual 90, 3), (12, .imul, 1), (13, .iadd, 1), (14, .ireturn, 1)] = true := by decide +kernel
set_option maxRecDepth 100000 in
set_option maxHeartbeats 4000000 in
theorem kg_X5_usedOf_0 {G : kG} {q : kP} {d : Nat} {x : gd} {P : Option gv → gd → Prop} (hq : kV q) {o : Nat} (ho : kiM q o) (l1 : Int32)
    (h : KT G q d zk_X5_get 0 [(0, vr o), (1, vi l1), (2, vi 7)] [] x (ri (fun r2 x1 => P (some (vi ((x.1 o 9) + (2 * r2)))) x1))) :
    KT G q (d + 1) zk_X5_usedOf 0 [(0, vr o), (1, vi l1)] [] x P := by
  refine T_aload_n 0 (dk dtk_X5_usedOf 0 rfl) rfl rfl ?_
  refine T_getI o 9 (dk dtk_X5_usedOf 1 rfl) kfl_X5_61 (kk_M0 ho) (kl_M0 hq ho) (by decide) rfl ?_
  refine T_iconst (v := 2) (dk dtk_X5_usedOf 2 rfl) (by decide +kernel) ?_
  refine T_aload_n 0 (dk dtk_X5_usedOf 3 rfl) rfl rfl ?_
  refine T_iload_n 1 (dk dtk_X5_usedOf 4 rfl) rfl rfl ?_
  refine T_bipush (v := 7) (dk dtk_X5_usedOf 5 rfl) (by decide +kernel) ?_
  refine T_sub (lv2 := []) [] rfl ?_
  refine KC_Vi [vi l1, vi 7] [vi 2, vi (x.1 o 9)] rfl (dk dtk_X5_usedOf 6 rfl) kcv_X5_90 rfl (kk_M0 ho) rfl (kl_M0 hq ho) (Nat.le_of_ble_eq_true rfl) (Nat.le_of_ble_eq_true rfl) (gok_i av_n (as_c rfl (as_c rfl as_n))) rfl h (fun r2 x1 h => ?_)
  refine T_imul (dk dtk_X5_usedOf 7 rfl) ?_
  refine T_iadd (dk dtk_X5_usedOf 8 rfl) ?_
  exact KT_iret (dk dtk_X5_usedOf 9 rfl) rfl rfl h
end
