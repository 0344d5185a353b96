section
set_option maxRecDepth 100000 in
theorem dtk_X7_sum : dck cX7_sum [(0, .aload_n 0, 1), (1, .getfield 19, 3), (4, .getfield 289, 3), (7, .istore_n 2, 1), (8, .iconst 0, 1), (9, .istore_n 3, 1), (10, .aload_n 0, 1), (11, .iconst 0, 1), (12, .putfield 292, 3), (15, .aload_n 0, 1), (16, .iconst 0, 1), (17, .iconst 0, 1), (18, .iload_n 1, 1), (19, .invokevirtual 295, 3), (22, .iconst 0, 1), (23, .istore 4, 2), (25, .iload 4, 2), (27, .sipush 700, 3), (30, .if_icmp .gt 123, 3), (33, .iload_n 3, 1), (34, .aload_n 0, 1), (35, .invokevirtual 298, 3), (38, .iadd, 1), (39, .istore_n 3, 1), (40, .aload_n 0, 1), (41, .invokevirtual 71, 3), (44, .iconst 2, 1), (45, .if_icmp .ne 17, 3), (48, .aload_n 0, 1), (49, .getfield 65, 3), (52, .ifCond .ne 10, 3), (55, .aload_n 0, 1), (56, .invokevirtual 301, 3), (59, .goto 7, 3), (62, .aload_n 0, 1), (63, .invokevirtual 304, 3), (66, .iload_n 3, 1), (67, .ifCond .le 37, 3), (70, .aload_n 0, 1), (71, .invokevirtual 71, 3), (74, .bipush 22, 2), (76, .if_icmp .ne 28, 3), (79, .aload_n 0, 1), (80, .invokevirtual 112, 3), (83, .aload_n 0, 1), (84, .iconst 1, 1), (85, .invokevirtual 307, 3), (88, .aload_n 0, 1), (89, .dup, 1), (90, .getfield 292, 3), (93, .iconst 1, 1), (94, .isub, 1), (95, .putfield 292, 3), (98, .iinc 3 (-1), 3), (101, .goto (-35), 3), (104, .aload_n 0, 1), (105, .invokevirtual 71, 3), (108, .invokestatic 310, 3), (111, .istore 5, 2), (113, .iload 5, 2), (115, .ifCond .ne 6, 3), (118, .goto 35, 3), (121, .aload_n 0, 1), (122, .iload 5, 2), (124, .invokevirtual 307, 3), (127, .aload_n 0, 1), (128, .aload_n 0, 1), (129, .invokevirtual 71, 3), (132, .iload 5, 2), (134, .aload_n 0, 1), (135, .invokevirtual 313, 3), (138, .iconst 1, 1), (139, .iadd, 1), (140, .invokevirtual 295, 3), (143, .aload_n 0, 1), (144, .invokevirtual 112, 3), (147, .iinc 4 1, 3), (150, .goto (-125), 3), (153, .iload_n 3, 1), (154, .ifCond .le 8, 3), (157, .aload_n 0, 1), (158, .iconst 2, 1), (159, .invokevirtual 96, 3), (162, .aload_n 0, 1), (163, .iconst 1, 1), (164, .invokevirtual 307, 3), (167, .aload_n 0, 1), (168, .getfield 19, 3), (171, .iconst 0, 1), (172, .iconst 0, 1), (173, .invokevirtual 316, 3), (176, .iload_n 2, 1), (177, .ireturn, 1)] = true := by decide +kernel
set_option maxRecDepth 100000 in
set_option maxHeartbeats 4000000 in
theorem kg_X7_sum_0 {G : kG} {q : kP} {d : Nat} {x : gd} {P : Option gv → gd → Prop} {X : String → gd → Prop} (hq : kV q) (l1 : Int32)
    (h : (∀ x1 : gd, x1 = si x 100 17 0 → KT G q (d + 6) zk_X7_hold 0 [(0, vr 100), (1, vi 0), (2, vi 0), (3, vi l1)] [] x1 (rv (fun x2 => KE G q (d + 7) zk_X7_sum 25 [(0, vr 100), (2, vi (x.1 60 3)), (3, vi 0), (4, vi 0)] [] x2 P X)))) :
    KE G q (d + 7) zk_X7_sum 0 [(0, vr 100), (1, vi l1)] [] x P X := by
  refine T_aload_n 0 (dk dtk_X7_sum 0 rfl) rfl rfl ?_
  refine T_getR 100 2 60 (dk dtk_X7_sum 1 rfl) kfl_X7_19 kk_100 (kl_100 hq) (by decide) rfl kr_100_2 ?_
  refine T_getI 60 3 (dk dtk_X7_sum 2 rfl) kfl_X7_289 kk_60 (kl_60 hq) (by decide) rfl ?_
  refine T_istore_n (lv2 := [(2, vi (x.1 60 3)), (0, vr 100), (1, vi l1)]) (dk dtk_X7_sum 3 rfl) rfl (by decide) rfl ?_
  refine T_iconst (v := 0) (dk dtk_X7_sum 4 rfl) (by decide +kernel) ?_
  refine T_istore_n (lv2 := [(3, vi 0), (2, vi (x.1 60 3)), (0, vr 100), (1, vi l1)]) (dk dtk_X7_sum 5 rfl) rfl (by decide) rfl ?_
  refine T_aload_n 2 (dk dtk_X7_sum 6 rfl) rfl rfl ?_
  refine T_iconst (v := 0) (dk dtk_X7_sum 7 rfl) (by decide +kernel) ?_
  obtain ⟨x1, ex1⟩ : ∃ z, z = si x 100 17 0 := ⟨_, rfl⟩
  have h := h x1 ex1
  refine T_putI 100 17 (dk dtk_X7_sum 8 rfl) kfl_X7_292 kk_100 (kl_100 hq) (by decide) rfl ⟨rfl, rfl⟩ ?_
  rw [← ex1]
  refine T_aload_n 2 (dk dtk_X7_sum 9 rfl) rfl rfl ?_
  refine T_iconst (v := 0) (dk dtk_X7_sum 10 rfl) (by decide +kernel) ?_
  refine T_iconst (v := 0) (dk dtk_X7_sum 11 rfl) (by decide +kernel) ?_
  refine T_iload_n 3 (dk dtk_X7_sum 12 rfl) rfl rfl ?_
  refine T_sub (lv2 := [(3, vi 0), (2, vi (x.1 60 3)), (0, vr 100)]) [0, 1, 2] rfl ?_
  refine KC_Vv [vi 0, vi 0, vi l1] [] rfl (dk dtk_X7_sum 13 rfl) kcv_X7_295 rfl kk_100 rfl (kl_100 hq) (Nat.le_of_ble_eq_true rfl) (Nat.le_of_ble_eq_true rfl) (gok_i (av_c rfl (av_c rfl (av_c (gkr (kl_100 hq)) av_n))) as_n) rfl h (fun x2 h => ?_)
  refine T_iconst (v := 0) (dk dtk_X7_sum 14 rfl) (by decide +kernel) ?_
  refine T_istore (lv2 := [(4, vi 0), (3, vi 0), (2, vi (x.1 60 3)), (0, vr 100)]) (dk dtk_X7_sum 15 rfl) (by decide) rfl ?_
  exact T_sub [3, 2, 1, 0] rfl h
set_option maxRecDepth 100000 in
set_option maxHeartbeats 4000000 in
theorem kg_X7_sum_25 {G : kG} {q : kP} {d : Nat} {x : gd} {P : Option gv → gd → Prop} {X : String → gd → Prop} (hq : kV q) (l2 : Int32) (l3 : Int32) (l4 : Int32)
    (h : (((700 : Int32) < l4 → KE G q (d + 7) zk_X7_sum 153 [(0, vr 100), (2, vi l2), (3, vi l3)] [] x P X) ∧ (¬ ((700 : Int32) < l4) → KE G q (d + 6) zk_X7_openOperand 0 [(0, vr 100)] [] x (ri (fun r3 x2 => KT G q (d + 6) zk_X7_sort 0 [(0, vr 100)] [] x2 (ri (fun r5 x4 => ((¬ (r5 = (2 : Int32)) → KE G q (d + 7) zk_X7_sum 62 [(0, vr 100), (2, vi l2), (3, vi (l3 + r3)), (4, vi l4)] [] x4 P X) ∧ (r5 = (2 : Int32) → ((¬ ((x4.1 100 5) = (0 : Int32)) → KE G q (d + 7) zk_X7_sum 62 [(0, vr 100), (2, vi l2), (3, vi (l3 + r3)), (4, vi l4)] [] x4 P X) ∧ ((x4.1 100 5) = (0 : Int32) → KE G q (d + 6) zk_X7_claimedCell 0 [(0, vr 100)] [] x4 (rv (fun x8 => KE G q (d + 7) zk_X7_sum 66 [(0, vr 100), (2, vi l2), (3, vi (l3 + r3)), (4, vi l4)] [] x8 P X)) X)))))))) X))) :
    KE G q (d + 7) zk_X7_sum 25 [(0, vr 100), (2, vi l2), (3, vi l3), (4, vi l4)] [] x P X := by
  refine T_iload 3 (dk dtk_X7_sum 16 rfl) rfl ?_
  refine T_sipush (v := 700) (dk dtk_X7_sum 17 rfl) (by decide +kernel) ?_
  refine T_icmp_gt 153 (dk dtk_X7_sum 18 rfl) (by decide) (fun c1 => ?_) (fun c1 => ?_)
  · have h := h.1 c1
    exact T_sub [0, 1, 2] rfl h
  · have h := h.2 c1
    refine T_iload_n 2 (dk dtk_X7_sum 19 rfl) rfl rfl ?_
    refine T_aload_n 0 (dk dtk_X7_sum 20 rfl) rfl rfl ?_
    refine T_sub (lv2 := [(0, vr 100), (2, vi l2), (4, vi l4)]) [0, 1, 3] rfl ?_
    refine KD_Vi [] [vi l3] rfl (dk dtk_X7_sum 21 rfl) kcv_X7_298 rfl kk_100 rfl (kl_100 hq) (Nat.le_of_ble_eq_true rfl) (Nat.le_of_ble_eq_true rfl) (gok_i (av_c (gkr (kl_100 hq)) (av_c rfl (av_c rfl av_n))) (as_c rfl as_n)) rfl h (fun r3 x2 h => ?_)
    refine T_iadd (dk dtk_X7_sum 22 rfl) ?_
    refine T_istore_n (lv2 := [(3, vi (l3 + r3)), (0, vr 100), (2, vi l2), (4, vi l4)]) (dk dtk_X7_sum 23 rfl) rfl (by decide) rfl ?_
    refine T_aload_n 1 (dk dtk_X7_sum 24 rfl) rfl rfl ?_
    refine KC_Vi [] [] rfl (dk dtk_X7_sum 25 rfl) kcv_X7_71 rfl kk_100 rfl (kl_100 hq) (Nat.le_of_ble_eq_true rfl) (Nat.le_of_ble_eq_true rfl) (gok_i (av_c rfl (av_c (gkr (kl_100 hq)) (av_c rfl (av_c rfl av_n)))) as_n) rfl h (fun r5 x4 h => ?_)
    refine T_iconst (v := 2) (dk dtk_X7_sum 26 rfl) (by decide +kernel) ?_
    refine T_icmp_ne 62 (dk dtk_X7_sum 27 rfl) (by decide) (fun c6 => ?_) (fun c6 => ?_)
    · have h := h.1 c6
      exact T_sub [1, 2, 0, 3] rfl h
    · have h := h.2 c6
      refine T_aload_n 1 (dk dtk_X7_sum 28 rfl) rfl rfl ?_
      refine T_getI 100 5 (dk dtk_X7_sum 29 rfl) kfl_X7_65 kk_100 (kl_100 hq) (by decide) rfl ?_
      refine T_if_ne 62 (dk dtk_X7_sum 30 rfl) (by decide) (fun c7 => ?_) (fun c7 => ?_)
      · have h := h.1 c7
        exact T_sub [1, 2, 0, 3] rfl h
      · have h := h.2 c7
        refine T_aload_n 1 (dk dtk_X7_sum 31 rfl) rfl rfl ?_
        refine KD_Vv [] [] rfl (dk dtk_X7_sum 32 rfl) kcv_X7_301 rfl kk_100 rfl (kl_100 hq) (Nat.le_of_ble_eq_true rfl) (Nat.le_of_ble_eq_true rfl) (gok_i (av_c rfl (av_c (gkr (kl_100 hq)) (av_c rfl (av_c rfl av_n)))) as_n) rfl h (fun x8 h => ?_)
        refine T_goto 66 (dk dtk_X7_sum 33 rfl) (by decide) ?_
        exact T_sub [1, 2, 0, 3] rfl h
set_option maxRecDepth 100000 in
set_option maxHeartbeats 4000000 in
theorem kg_X7_sum_62 {G : kG} {q : kP} {d : Nat} {x : gd} {P : Option gv → gd → Prop} {X : String → gd → Prop} (hq : kV q) (l2 : Int32) (l3 : Int32) (l4 : Int32)
    (h : KE G q (d + 6) zk_X7_readOperand 0 [(0, vr 100)] [] x (rv (fun x1 => KE G q (d + 7) zk_X7_sum 66 [(0, vr 100), (2, vi l2), (3, vi l3), (4, vi l4)] [] x1 P X)) X) :
    KE G q (d + 7) zk_X7_sum 62 [(0, vr 100), (2, vi l2), (3, vi l3), (4, vi l4)] [] x P X := by
  refine T_aload_n 0 (dk dtk_X7_sum 34 rfl) rfl rfl ?_
  refine KD_Vv [] [] rfl (dk dtk_X7_sum 35 rfl) kcv_X7_304 rfl kk_100 rfl (kl_100 hq) (Nat.le_of_ble_eq_true rfl) (Nat.le_of_ble_eq_true rfl) (gok_i (av_c (gkr (kl_100 hq)) (av_c rfl (av_c rfl (av_c rfl av_n)))) as_n) rfl h (fun x1 h => ?_)
  exact h
set_option maxRecDepth 100000 in
set_option maxHeartbeats 4000000 in
theorem kg_X7_sum_66 {G : kG} {q : kP} {d : Nat} {x : gd} {P : Option gv → gd → Prop} {X : String → gd → Prop} (hq : kV q) (l2 : Int32) (l3 : Int32) (l4 : Int32)
    (h : ((l3 ≤ (0 : Int32) → KE G q (d + 7) zk_X7_sum 104 [(0, vr 100), (2, vi l2), (3, vi l3), (4, vi l4)] [] x P X) ∧ (¬ (l3 ≤ (0 : Int32)) → KT G q (d + 6) zk_X7_sort 0 [(0, vr 100)] [] x (ri (fun r3 x2 => ((¬ (r3 = (22 : Int32)) → KE G q (d + 7) zk_X7_sum 104 [(0, vr 100), (2, vi l2), (3, vi l3), (4, vi l4)] [] x2 P X) ∧ (r3 = (22 : Int32) → KE G q (d + 6) zk_X7_pass 0 [(0, vr 100)] [] x2 (rv (fun x5 => KT G q (d + 6) zk_X7_release 0 [(0, vr 100), (1, vi 1)] [] x5 (rv (fun x6 => (∀ x7 : gd, x7 = si x6 100 17 ((x6.1 100 17) - 1) → KE G q (d + 7) zk_X7_sum 66 [(0, vr 100), (2, vi l2), (3, vi (l3 + (-1))), (4, vi l4)] [] x7 P X))))) X))))))) :
    KE G q (d + 7) zk_X7_sum 66 [(0, vr 100), (2, vi l2), (3, vi l3), (4, vi l4)] [] x P X := by
  refine T_iload_n 2 (dk dtk_X7_sum 36 rfl) rfl rfl ?_
  refine T_if_le 104 (dk dtk_X7_sum 37 rfl) (by decide) (fun c1 => ?_) (fun c1 => ?_)
  · have h := h.1 c1
    exact h
  · have h := h.2 c1
    refine T_aload_n 0 (dk dtk_X7_sum 38 rfl) rfl rfl ?_
    refine KC_Vi [] [] rfl (dk dtk_X7_sum 39 rfl) kcv_X7_71 rfl kk_100 rfl (kl_100 hq) (Nat.le_of_ble_eq_true rfl) (Nat.le_of_ble_eq_true rfl) (gok_i (av_c (gkr (kl_100 hq)) (av_c rfl (av_c rfl (av_c rfl av_n)))) as_n) rfl h (fun r3 x2 h => ?_)
    refine T_bipush (v := 22) (dk dtk_X7_sum 40 rfl) (by decide +kernel) ?_
    refine T_icmp_ne 104 (dk dtk_X7_sum 41 rfl) (by decide) (fun c4 => ?_) (fun c4 => ?_)
    · have h := h.1 c4
      exact h
    · have h := h.2 c4
      refine T_aload_n 0 (dk dtk_X7_sum 42 rfl) rfl rfl ?_
      refine KD_Vv [] [] rfl (dk dtk_X7_sum 43 rfl) kcv_X7_112 rfl kk_100 rfl (kl_100 hq) (Nat.le_of_ble_eq_true rfl) (Nat.le_of_ble_eq_true rfl) (gok_i (av_c (gkr (kl_100 hq)) (av_c rfl (av_c rfl (av_c rfl av_n)))) as_n) rfl h (fun x5 h => ?_)
      refine T_aload_n 0 (dk dtk_X7_sum 44 rfl) rfl rfl ?_
      refine T_iconst (v := 1) (dk dtk_X7_sum 45 rfl) (by decide +kernel) ?_
      refine KC_Vv [vi 1] [] rfl (dk dtk_X7_sum 46 rfl) kcv_X7_307 rfl kk_100 rfl (kl_100 hq) (Nat.le_of_ble_eq_true rfl) (Nat.le_of_ble_eq_true rfl) (gok_i (av_c (gkr (kl_100 hq)) (av_c rfl (av_c rfl (av_c rfl av_n)))) as_n) rfl h (fun x6 h => ?_)
      refine T_aload_n 0 (dk dtk_X7_sum 47 rfl) rfl rfl ?_
      refine T_dup (dk dtk_X7_sum 48 rfl) rfl ?_
      refine T_getI 100 17 (dk dtk_X7_sum 49 rfl) kfl_X7_292 kk_100 (kl_100 hq) (by decide) rfl ?_
      refine T_iconst (v := 1) (dk dtk_X7_sum 50 rfl) (by decide +kernel) ?_
      refine T_isub (dk dtk_X7_sum 51 rfl) ?_
      obtain ⟨x7, ex7⟩ : ∃ z, z = si x6 100 17 ((x6.1 100 17) - 1) := ⟨_, rfl⟩
      have h := h x7 ex7
      refine T_putI 100 17 (dk dtk_X7_sum 52 rfl) kfl_X7_292 kk_100 (kl_100 hq) (by decide) rfl ⟨rfl, rfl⟩ ?_
      rw [← ex7]
      refine T_iinc (v := l3 + (-1)) (lv2 := [(3, vi (l3 + (-1))), (0, vr 100), (2, vi l2), (4, vi l4)]) 2 (dk dtk_X7_sum 53 rfl) rfl rfl (by decide) rfl ?_
      refine T_goto 66 (dk dtk_X7_sum 54 rfl) (by decide) ?_
      exact T_sub [1, 2, 0, 3] rfl h
set_option maxRecDepth 100000 in
set_option maxHeartbeats 4000000 in
theorem kg_X7_sum_104 {G : kG} {q : kP} {d : Nat} {x : gd} {P : Option gv → gd → Prop} {X : String → gd → Prop} (hq : kV q) (l2 : Int32) (l3 : Int32) (l4 : Int32)
    (h : KT G q (d + 6) zk_X7_sort 0 [(0, vr 100)] [] x (ri (fun r2 x1 => KT G q (d + 6) zk_X7_strengthOf 0 [(0, vi r2)] [] x1 (ri (fun r4 x3 => ((¬ (r4 = (0 : Int32)) → KT G q (d + 6) zk_X7_release 0 [(0, vr 100), (1, vi r4)] [] x3 (rv (fun x6 => KT G q (d + 6) zk_X7_sort 0 [(0, vr 100)] [] x6 (ri (fun r8 x7 => KT G q (d + 6) zk_X7_depthHere 0 [(0, vr 100)] [] x7 (ri (fun r10 x9 => KT G q (d + 6) zk_X7_hold 0 [(0, vr 100), (1, vi r8), (2, vi r4), (3, vi (r10 + 1))] [] x9 (rv (fun x11 => KE G q (d + 6) zk_X7_pass 0 [(0, vr 100)] [] x11 (rv (fun x12 => KE G q (d + 7) zk_X7_sum 25 [(0, vr 100), (2, vi l2), (3, vi l3), (4, vi (l4 + 1))] [] x12 P X)) X))))))))) ∧ (r4 = (0 : Int32) → KE G q (d + 7) zk_X7_sum 153 [(0, vr 100), (2, vi l2), (3, vi l3)] [] x3 P X))))))) :
    KE G q (d + 7) zk_X7_sum 104 [(0, vr 100), (2, vi l2), (3, vi l3), (4, vi l4)] [] x P X := by
  refine T_aload_n 0 (dk dtk_X7_sum 55 rfl) rfl rfl ?_
  refine KC_Vi [] [] rfl (dk dtk_X7_sum 56 rfl) kcv_X7_71 rfl kk_100 rfl (kl_100 hq) (Nat.le_of_ble_eq_true rfl) (Nat.le_of_ble_eq_true rfl) (gok_i (av_c (gkr (kl_100 hq)) (av_c rfl (av_c rfl (av_c rfl av_n)))) as_n) rfl h (fun r2 x1 h => ?_)
  refine KC_Si [vi r2] [] rfl (dk dtk_X7_sum 57 rfl) kcs_X7_310 rfl (Nat.le_of_ble_eq_true rfl) (Nat.le_of_ble_eq_true rfl) (gok_i (av_c (gkr (kl_100 hq)) (av_c rfl (av_c rfl (av_c rfl av_n)))) as_n) rfl h (fun r4 x3 h => ?_)
  refine T_istore (lv2 := [(5, vi r4), (0, vr 100), (2, vi l2), (3, vi l3), (4, vi l4)]) (dk dtk_X7_sum 58 rfl) (by decide) rfl ?_
  refine T_iload 0 (dk dtk_X7_sum 59 rfl) rfl ?_
  refine T_if_ne 121 (dk dtk_X7_sum 60 rfl) (by decide) (fun c5 => ?_) (fun c5 => ?_)
  · have h := h.1 c5
    refine T_aload_n 1 (dk dtk_X7_sum 62 rfl) rfl rfl ?_
    refine T_iload 0 (dk dtk_X7_sum 63 rfl) rfl ?_
    refine KC_Vv [vi r4] [] rfl (dk dtk_X7_sum 64 rfl) kcv_X7_307 rfl kk_100 rfl (kl_100 hq) (Nat.le_of_ble_eq_true rfl) (Nat.le_of_ble_eq_true rfl) (gok_i (av_c rfl (av_c (gkr (kl_100 hq)) (av_c rfl (av_c rfl (av_c rfl av_n))))) as_n) rfl h (fun x6 h => ?_)
    refine T_aload_n 1 (dk dtk_X7_sum 65 rfl) rfl rfl ?_
    refine T_aload_n 1 (dk dtk_X7_sum 66 rfl) rfl rfl ?_
    refine KC_Vi [] [vr 100] rfl (dk dtk_X7_sum 67 rfl) kcv_X7_71 rfl kk_100 rfl (kl_100 hq) (Nat.le_of_ble_eq_true rfl) (Nat.le_of_ble_eq_true rfl) (gok_i (av_c rfl (av_c (gkr (kl_100 hq)) (av_c rfl (av_c rfl (av_c rfl av_n))))) (as_c (gkr (kl_100 hq)) as_n)) rfl h (fun r8 x7 h => ?_)
    refine T_iload 0 (dk dtk_X7_sum 68 rfl) rfl ?_
    refine T_aload_n 1 (dk dtk_X7_sum 69 rfl) rfl rfl ?_
    refine T_sub (lv2 := [(0, vr 100), (2, vi l2), (3, vi l3), (4, vi l4)]) [1, 2, 3, 4] rfl ?_
    refine KC_Vi [] [vi r4, vi r8, vr 100] rfl (dk dtk_X7_sum 70 rfl) kcv_X7_313 rfl kk_100 rfl (kl_100 hq) (Nat.le_of_ble_eq_true rfl) (Nat.le_of_ble_eq_true rfl) (gok_i (av_c (gkr (kl_100 hq)) (av_c rfl (av_c rfl (av_c rfl av_n)))) (as_c rfl (as_c rfl (as_c (gkr (kl_100 hq)) as_n)))) rfl h (fun r10 x9 h => ?_)
    refine T_iconst (v := 1) (dk dtk_X7_sum 71 rfl) (by decide +kernel) ?_
    refine T_iadd (dk dtk_X7_sum 72 rfl) ?_
    refine KC_Vv [vi r8, vi r4, vi (r10 + 1)] [] rfl (dk dtk_X7_sum 73 rfl) kcv_X7_295 rfl kk_100 rfl (kl_100 hq) (Nat.le_of_ble_eq_true rfl) (Nat.le_of_ble_eq_true rfl) (gok_i (av_c (gkr (kl_100 hq)) (av_c rfl (av_c rfl (av_c rfl av_n)))) as_n) rfl h (fun x11 h => ?_)
    refine T_aload_n 0 (dk dtk_X7_sum 74 rfl) rfl rfl ?_
    refine KD_Vv [] [] rfl (dk dtk_X7_sum 75 rfl) kcv_X7_112 rfl kk_100 rfl (kl_100 hq) (Nat.le_of_ble_eq_true rfl) (Nat.le_of_ble_eq_true rfl) (gok_i (av_c (gkr (kl_100 hq)) (av_c rfl (av_c rfl (av_c rfl av_n)))) as_n) rfl h (fun x12 h => ?_)
    refine T_iinc (v := l4 + 1) (lv2 := [(4, vi (l4 + 1)), (0, vr 100), (2, vi l2), (3, vi l3)]) 3 (dk dtk_X7_sum 76 rfl) rfl rfl (by decide) rfl ?_
    refine T_goto 25 (dk dtk_X7_sum 77 rfl) (by decide) ?_
    exact T_sub [1, 2, 3, 0] rfl h
  · have h := h.2 c5
    refine T_goto 153 (dk dtk_X7_sum 61 rfl) (by decide) ?_
    exact T_sub [1, 2, 3] rfl h
set_option maxRecDepth 100000 in
set_option maxHeartbeats 4000000 in
theorem kg_X7_sum_153 {G : kG} {q : kP} {d : Nat} {x : gd} {P : Option gv → gd → Prop} {X : String → gd → Prop} (hq : kV q) (l2 : Int32) (l3 : Int32)
    (h : ((l3 ≤ (0 : Int32) → KE G q (d + 7) zk_X7_sum 162 [(0, vr 100), (2, vi l2)] [] x P X) ∧ (¬ (l3 ≤ (0 : Int32)) → KE G q (d + 6) zk_X7_refuse 0 [(0, vr 100), (1, vi 2)] [] x (rv (fun x2 => KE G q (d + 7) zk_X7_sum 162 [(0, vr 100), (2, vi l2)] [] x2 P X)) X))) :
    KE G q (d + 7) zk_X7_sum 153 [(0, vr 100), (2, vi l2), (3, vi l3)] [] x P X := by
  refine T_iload_n 2 (dk dtk_X7_sum 78 rfl) rfl rfl ?_
  refine T_if_le 162 (dk dtk_X7_sum 79 rfl) (by decide) (fun c1 => ?_) (fun c1 => ?_)
  · have h := h.1 c1
    exact T_sub [0, 1] rfl h
  · have h := h.2 c1
    refine T_aload_n 0 (dk dtk_X7_sum 80 rfl) rfl rfl ?_
    refine T_iconst (v := 2) (dk dtk_X7_sum 81 rfl) (by decide +kernel) ?_
    refine T_sub (lv2 := [(0, vr 100), (2, vi l2)]) [0, 1] rfl ?_
    refine KD_Vv [vi 2] [] rfl (dk dtk_X7_sum 82 rfl) kcv_X7_96 rfl kk_100 rfl (kl_100 hq) (Nat.le_of_ble_eq_true rfl) (Nat.le_of_ble_eq_true rfl) (gok_i (av_c (gkr (kl_100 hq)) (av_c rfl av_n)) as_n) rfl h (fun x2 h => ?_)
    exact h
set_option maxRecDepth 100000 in
set_option maxHeartbeats 4000000 in
theorem kg_X7_sum_162 {G : kG} {q : kP} {d : Nat} {x : gd} {P : Option gv → gd → Prop} {X : String → gd → Prop} (hq : kV q) (l2 : Int32)
    (h : KT G q (d + 6) zk_X7_release 0 [(0, vr 100), (1, vi 1)] [] x (rv (fun x1 => KT G q (d + 6) zk_X0_addPart 0 [(0, vr 60), (1, vi 0), (2, vi 0)] [] x1 (rv (fun x2 => P (some (vi l2)) x2))))) :
    KE G q (d + 7) zk_X7_sum 162 [(0, vr 100), (2, vi l2)] [] x P X := by
  refine T_aload_n 0 (dk dtk_X7_sum 83 rfl) rfl rfl ?_
  refine T_iconst (v := 1) (dk dtk_X7_sum 84 rfl) (by decide +kernel) ?_
  refine KC_Vv [vi 1] [] rfl (dk dtk_X7_sum 85 rfl) kcv_X7_307 rfl kk_100 rfl (kl_100 hq) (Nat.le_of_ble_eq_true rfl) (Nat.le_of_ble_eq_true rfl) (gok_i (av_c (gkr (kl_100 hq)) (av_c rfl av_n)) as_n) rfl h (fun x1 h => ?_)
  refine T_aload_n 0 (dk dtk_X7_sum 86 rfl) rfl rfl ?_
  refine T_getR 100 2 60 (dk dtk_X7_sum 87 rfl) kfl_X7_19 kk_100 (kl_100 hq) (by decide) rfl kr_100_2 ?_
  refine T_iconst (v := 0) (dk dtk_X7_sum 88 rfl) (by decide +kernel) ?_
  refine T_iconst (v := 0) (dk dtk_X7_sum 89 rfl) (by decide +kernel) ?_
  refine T_sub (lv2 := [(2, vi l2)]) [1] rfl ?_
  refine KC_Vv [vi 0, vi 0] [] rfl (dk dtk_X7_sum 90 rfl) kcv_X7_316 rfl kk_60 rfl (kl_60 hq) (Nat.le_of_ble_eq_true rfl) (Nat.le_of_ble_eq_true rfl) (gok_i (av_c rfl av_n) as_n) rfl h (fun x2 h => ?_)
  refine T_iload_n 0 (dk dtk_X7_sum 91 rfl) rfl rfl ?_
  exact KE_iret (dk dtk_X7_sum 92 rfl) rfl rfl h
set_option maxRecDepth 100000 in
theorem dtk_X7_depthHere : dck cX7_depthHere [(0, .aload_n 0, 1), (1, .getfield 292, 3), (4, .ifCond .le 17, 3), (7, .aload_n 0, 1), (8, .getfield 49, 3), (11, .aload_n 0, 1), (12, .getfield 292, 3), (15, .iconst 1, 1), (16, .isub, 1), (17, .iaload, 1), (18, .goto 4, 3), (21, .iconst 0, 1), (22, .ireturn, 1)] = true := by decide +kernel
set_option maxRecDepth 100000 in
set_option maxHeartbeats 4000000 in
theorem kg_X7_depthHere_0 {G : kG} {q : kP} {d : Nat} {x : gd} {P : Option gv → gd → Prop} (hq : kV q) 
    (h : (((x.1 100 17) ≤ (0 : Int32) → P (some (vi 0)) x) ∧ (¬ ((x.1 100 17) ≤ (0 : Int32)) → vp_in ((x.1 100 17) - 1) 20 ∧ P (some (vi (x.1 117 ((x.1 100 17) - 1 : Int32).toNatClampNeg))) x))) :
    KT G q d zk_X7_depthHere 0 [(0, vr 100)] [] x P := by
  refine T_aload_n 0 (dk dtk_X7_depthHere 0 rfl) rfl rfl ?_
  refine T_getI 100 17 (dk dtk_X7_depthHere 1 rfl) kfl_X7_292 kk_100 (kl_100 hq) (by decide) rfl ?_
  refine T_if_le 21 (dk dtk_X7_depthHere 2 rfl) (by decide) (fun c1 => ?_) (fun c1 => ?_)
  · have h := h.1 c1
    refine T_iconst (v := 0) (dk dtk_X7_depthHere 11 rfl) (by decide +kernel) ?_
    exact KT_iret (dk dtk_X7_depthHere 12 rfl) rfl rfl h
  · have h := h.2 c1
    refine T_aload_n 0 (dk dtk_X7_depthHere 3 rfl) rfl rfl ?_
    refine T_getR 100 16 117 (dk dtk_X7_depthHere 4 rfl) kfl_X7_49 kk_100 (kl_100 hq) (by decide) rfl kr_100_16 ?_
    refine T_aload_n 0 (dk dtk_X7_depthHere 5 rfl) rfl rfl ?_
    refine T_getI 100 17 (dk dtk_X7_depthHere 6 rfl) kfl_X7_292 kk_100 (kl_100 hq) (by decide) rfl ?_
    refine T_iconst (v := 1) (dk dtk_X7_depthHere 7 rfl) (by decide +kernel) ?_
    refine T_isub (dk dtk_X7_depthHere 8 rfl) ?_
    obtain ⟨h2, h⟩ := h
    refine T_iald 117 20 (dk dtk_X7_depthHere 9 rfl) kk_117 (kl_117 hq) h2 ?_
    refine T_goto 22 (dk dtk_X7_depthHere 10 rfl) (by decide) ?_
    exact KT_iret (dk dtk_X7_depthHere 12 rfl) rfl rfl h
set_option maxRecDepth 100000 in
theorem dtk_X7_hold : dck cX7_hold [(0, .aload_n 0, 1), (1, .getfield 292, 3), (4, .bipush 20, 2), (6, .if_icmp .ge 43, 3), (9, .aload_n 0, 1), (10, .getfield 43, 3), (13, .aload_n 0, 1), (14, .getfield 292, 3), (17, .iload_n 1, 1), (18, .iastore, 1), (19, .aload_n 0, 1), (20, .getfield 46, 3), (23, .aload_n 0, 1), (24, .getfield 292, 3), (27, .iload_n 2, 1), (28, .iastore, 1), (29, .aload_n 0, 1), (30, .getfield 49, 3), (33, .aload_n 0, 1), (34, .getfield 292, 3), (37, .iload_n 3, 1), (38, .iastore, 1), (39, .aload_n 0, 1), (40, .dup, 1), (41, .getfield 292, 3), (44, .iconst 1, 1), (45, .iadd, 1), (46, .putfield 292, 3), (49, .return_, 1)] = true := by decide +kernel
set_option maxRecDepth 100000 in
set_option maxHeartbeats 4000000 in
theorem kg_X7_hold_0 {G : kG} {q : kP} {d : Nat} {x : gd} {P : Option gv → gd → Prop} (hq : kV q) (l1 : Int32) (l2 : Int32) (l3 : Int32)
    (h : (((20 : Int32) ≤ (x.1 100 17) → P none x) ∧ (¬ ((20 : Int32) ≤ (x.1 100 17)) → vp_in (x.1 100 17) 20 ∧ (∀ x3 : gd, x3 = si x 115 (x.1 100 17 : Int32).toNatClampNeg l1 → vp_in (x3.1 100 17) 20 ∧ (∀ x5 : gd, x5 = si x3 116 (x3.1 100 17 : Int32).toNatClampNeg l2 → vp_in (x5.1 100 17) 20 ∧ (∀ x7 : gd, x7 = si x5 117 (x5.1 100 17 : Int32).toNatClampNeg l3 → (∀ x8 : gd, x8 = si x7 100 17 ((x7.1 100 17) + 1) → P none x8))))))) :
    KT G q d zk_X7_hold 0 [(0, vr 100), (1, vi l1), (2, vi l2), (3, vi l3)] [] x P := by
  refine T_aload_n 0 (dk dtk_X7_hold 0 rfl) rfl rfl ?_
  refine T_getI 100 17 (dk dtk_X7_hold 1 rfl) kfl_X7_292 kk_100 (kl_100 hq) (by decide) rfl ?_
  refine T_bipush (v := 20) (dk dtk_X7_hold 2 rfl) (by decide +kernel) ?_
  refine T_icmp_ge 49 (dk dtk_X7_hold 3 rfl) (by decide) (fun c1 => ?_) (fun c1 => ?_)
  · have h := h.1 c1
    exact KT_vret (dk dtk_X7_hold 28 rfl) rfl h
  · have h := h.2 c1
    refine T_aload_n 0 (dk dtk_X7_hold 4 rfl) rfl rfl ?_
    refine T_getR 100 14 115 (dk dtk_X7_hold 5 rfl) kfl_X7_43 kk_100 (kl_100 hq) (by decide) rfl kr_100_14 ?_
    refine T_aload_n 0 (dk dtk_X7_hold 6 rfl) rfl rfl ?_
    refine T_getI 100 17 (dk dtk_X7_hold 7 rfl) kfl_X7_292 kk_100 (kl_100 hq) (by decide) rfl ?_
    refine T_iload_n 1 (dk dtk_X7_hold 8 rfl) rfl rfl ?_
    obtain ⟨h2, h⟩ := h
    obtain ⟨x3, ex3⟩ : ∃ z, z = si x 115 (x.1 100 17 : Int32).toNatClampNeg l1 := ⟨_, rfl⟩
    have h := h x3 ex3
    refine T_iast 115 20 (dk dtk_X7_hold 9 rfl) kk_115 (kl_115 hq) h2 ?_
    rw [← ex3]
    refine T_aload_n 0 (dk dtk_X7_hold 10 rfl) rfl rfl ?_
    refine T_getR 100 15 116 (dk dtk_X7_hold 11 rfl) kfl_X7_46 kk_100 (kl_100 hq) (by decide) rfl kr_100_15 ?_
    refine T_aload_n 0 (dk dtk_X7_hold 12 rfl) rfl rfl ?_
    refine T_getI 100 17 (dk dtk_X7_hold 13 rfl) kfl_X7_292 kk_100 (kl_100 hq) (by decide) rfl ?_
    refine T_iload_n 2 (dk dtk_X7_hold 14 rfl) rfl rfl ?_
    obtain ⟨h4, h⟩ := h
    obtain ⟨x5, ex5⟩ : ∃ z, z = si x3 116 (x3.1 100 17 : Int32).toNatClampNeg l2 := ⟨_, rfl⟩
    have h := h x5 ex5
    refine T_iast 116 20 (dk dtk_X7_hold 15 rfl) kk_116 (kl_116 hq) h4 ?_
    rw [← ex5]
    refine T_aload_n 0 (dk dtk_X7_hold 16 rfl) rfl rfl ?_
    refine T_getR 100 16 117 (dk dtk_X7_hold 17 rfl) kfl_X7_49 kk_100 (kl_100 hq) (by decide) rfl kr_100_16 ?_
    refine T_aload_n 0 (dk dtk_X7_hold 18 rfl) rfl rfl ?_
    refine T_getI 100 17 (dk dtk_X7_hold 19 rfl) kfl_X7_292 kk_100 (kl_100 hq) (by decide) rfl ?_
    refine T_iload_n 3 (dk dtk_X7_hold 20 rfl) rfl rfl ?_
    obtain ⟨h6, h⟩ := h
    obtain ⟨x7, ex7⟩ : ∃ z, z = si x5 117 (x5.1 100 17 : Int32).toNatClampNeg l3 := ⟨_, rfl⟩
    have h := h x7 ex7
    refine T_iast 117 20 (dk dtk_X7_hold 21 rfl) kk_117 (kl_117 hq) h6 ?_
    rw [← ex7]
    refine T_aload_n 0 (dk dtk_X7_hold 22 rfl) rfl rfl ?_
    refine T_dup (dk dtk_X7_hold 23 rfl) rfl ?_
    refine T_getI 100 17 (dk dtk_X7_hold 24 rfl) kfl_X7_292 kk_100 (kl_100 hq) (by decide) rfl ?_
    refine T_iconst (v := 1) (dk dtk_X7_hold 25 rfl) (by decide +kernel) ?_
    refine T_iadd (dk dtk_X7_hold 26 rfl) ?_
    obtain ⟨x8, ex8⟩ : ∃ z, z = si x7 100 17 ((x7.1 100 17) + 1) := ⟨_, rfl⟩
    have h := h x8 ex8
    refine T_putI 100 17 (dk dtk_X7_hold 27 rfl) kfl_X7_292 kk_100 (kl_100 hq) (by decide) rfl ⟨rfl, rfl⟩ ?_
    rw [← ex8]
    exact KT_vret (dk dtk_X7_hold 28 rfl) rfl h
set_option maxRecDepth 100000 in
theorem dtk_X7_release : dck cX7_release [(0, .iconst 0, 1), (1, .istore_n 2, 1), (2, .iload_n 2, 1), (3, .bipush 20, 2), (5, .if_icmp .ge 58, 3), (8, .aload_n 0, 1), (9, .getfield 292, 3), (12, .ifCond .le 51, 3), (15, .aload_n 0, 1), (16, .getfield 46, 3), (19, .aload_n 0, 1), (20, .getfield 292, 3), (23, .iconst 1, 1), (24, .isub, 1), (25, .iaload, 1), (26, .iload_n 1, 1), (27, .if_icmp .lt 36, 3), (30, .aload_n 0, 1), (31, .dup, 1), (32, .getfield 292, 3), (35, .iconst 1, 1), (36, .isub, 1), (37, .putfield 292, 3), (40, .aload_n 0, 1), (41, .getfield 19, 3), (44, .aload_n 0, 1), (45, .getfield 43, 3), (48, .aload_n 0, 1), (49, .getfield 292, 3), (52, .iaload, 1), (53, .iconst 0, 1), (54, .invokevirtual 316, 3), (57, .iinc 2 1, 3), (60, .goto (-58), 3), (63, .return_, 1)] = true := by decide +kernel
set_option maxRecDepth 100000 in
set_option maxHeartbeats 4000000 in
theorem kg_X7_release_0 {G : kG} {q : kP} {d : Nat} {x : gd} {P : Option gv → gd → Prop} (hq : kV q) (l1 : Int32)
    (h : KT G q (d + 1) zk_X7_release 2 [(0, vr 100), (1, vi l1), (2, vi 0)] [] x P) :
    KT G q (d + 1) zk_X7_release 0 [(0, vr 100), (1, vi l1)] [] x P := by
  refine T_iconst (v := 0) (dk dtk_X7_release 0 rfl) (by decide +kernel) ?_
  refine T_istore_n (lv2 := [(2, vi 0), (0, vr 100), (1, vi l1)]) (dk dtk_X7_release 1 rfl) rfl (by decide) rfl ?_
  exact T_sub [1, 2, 0] rfl h
set_option maxRecDepth 100000 in
set_option maxHeartbeats 4000000 in
theorem kg_X7_release_2 {G : kG} {q : kP} {d : Nat} {x : gd} {P : Option gv → gd → Prop} (hq : kV q) (l1 : Int32) (l2 : Int32)
    (h : (((20 : Int32) ≤ l2 → P none x) ∧ (¬ ((20 : Int32) ≤ l2) → (((x.1 100 17) ≤ (0 : Int32) → P none x) ∧ (¬ ((x.1 100 17) ≤ (0 : Int32)) → vp_in ((x.1 100 17) - 1) 20 ∧ (((x.1 116 ((x.1 100 17) - 1 : Int32).toNatClampNeg) < l1 → P none x) ∧ (¬ ((x.1 116 ((x.1 100 17) - 1 : Int32).toNatClampNeg) < l1) → (∀ x5 : gd, x5 = si x 100 17 ((x.1 100 17) - 1) → vp_in (x5.1 100 17) 20 ∧ KT G q d zk_X0_addPart 0 [(0, vr 60), (1, vi (x5.1 115 (x5.1 100 17 : Int32).toNatClampNeg)), (2, vi 0)] [] x5 (rv (fun x7 => KT G q (d + 1) zk_X7_release 2 [(0, vr 100), (1, vi l1), (2, vi (l2 + 1))] [] x7 P)))))))))) :
    KT G q (d + 1) zk_X7_release 2 [(0, vr 100), (1, vi l1), (2, vi l2)] [] x P := by
  refine T_iload_n 2 (dk dtk_X7_release 2 rfl) rfl rfl ?_
  refine T_bipush (v := 20) (dk dtk_X7_release 3 rfl) (by decide +kernel) ?_
  refine T_icmp_ge 63 (dk dtk_X7_release 4 rfl) (by decide) (fun c1 => ?_) (fun c1 => ?_)
  · have h := h.1 c1
    exact KT_vret (dk dtk_X7_release 34 rfl) rfl h
  · have h := h.2 c1
    refine T_aload_n 0 (dk dtk_X7_release 5 rfl) rfl rfl ?_
    refine T_getI 100 17 (dk dtk_X7_release 6 rfl) kfl_X7_292 kk_100 (kl_100 hq) (by decide) rfl ?_
    refine T_if_le 63 (dk dtk_X7_release 7 rfl) (by decide) (fun c2 => ?_) (fun c2 => ?_)
    · have h := h.1 c2
      exact KT_vret (dk dtk_X7_release 34 rfl) rfl h
    · have h := h.2 c2
      refine T_aload_n 0 (dk dtk_X7_release 8 rfl) rfl rfl ?_
      refine T_getR 100 15 116 (dk dtk_X7_release 9 rfl) kfl_X7_46 kk_100 (kl_100 hq) (by decide) rfl kr_100_15 ?_
      refine T_aload_n 0 (dk dtk_X7_release 10 rfl) rfl rfl ?_
      refine T_getI 100 17 (dk dtk_X7_release 11 rfl) kfl_X7_292 kk_100 (kl_100 hq) (by decide) rfl ?_
      refine T_iconst (v := 1) (dk dtk_X7_release 12 rfl) (by decide +kernel) ?_
      refine T_isub (dk dtk_X7_release 13 rfl) ?_
      obtain ⟨h3, h⟩ := h
      refine T_iald 116 20 (dk dtk_X7_release 14 rfl) kk_116 (kl_116 hq) h3 ?_
      refine T_iload_n 1 (dk dtk_X7_release 15 rfl) rfl rfl ?_
      refine T_icmp_lt 63 (dk dtk_X7_release 16 rfl) (by decide) (fun c4 => ?_) (fun c4 => ?_)
      · have h := h.1 c4
        exact KT_vret (dk dtk_X7_release 34 rfl) rfl h
      · have h := h.2 c4
        refine T_aload_n 0 (dk dtk_X7_release 17 rfl) rfl rfl ?_
        refine T_dup (dk dtk_X7_release 18 rfl) rfl ?_
        refine T_getI 100 17 (dk dtk_X7_release 19 rfl) kfl_X7_292 kk_100 (kl_100 hq) (by decide) rfl ?_
        refine T_iconst (v := 1) (dk dtk_X7_release 20 rfl) (by decide +kernel) ?_
        refine T_isub (dk dtk_X7_release 21 rfl) ?_
        obtain ⟨x5, ex5⟩ : ∃ z, z = si x 100 17 ((x.1 100 17) - 1) := ⟨_, rfl⟩
        have h := h x5 ex5
        refine T_putI 100 17 (dk dtk_X7_release 22 rfl) kfl_X7_292 kk_100 (kl_100 hq) (by decide) rfl ⟨rfl, rfl⟩ ?_
        rw [← ex5]
        refine T_aload_n 0 (dk dtk_X7_release 23 rfl) rfl rfl ?_
        refine T_getR 100 2 60 (dk dtk_X7_release 24 rfl) kfl_X7_19 kk_100 (kl_100 hq) (by decide) rfl kr_100_2 ?_
        refine T_aload_n 0 (dk dtk_X7_release 25 rfl) rfl rfl ?_
        refine T_getR 100 14 115 (dk dtk_X7_release 26 rfl) kfl_X7_43 kk_100 (kl_100 hq) (by decide) rfl kr_100_14 ?_
        refine T_aload_n 0 (dk dtk_X7_release 27 rfl) rfl rfl ?_
        refine T_getI 100 17 (dk dtk_X7_release 28 rfl) kfl_X7_292 kk_100 (kl_100 hq) (by decide) rfl ?_
        obtain ⟨h6, h⟩ := h
        refine T_iald 115 20 (dk dtk_X7_release 29 rfl) kk_115 (kl_115 hq) h6 ?_
        refine T_iconst (v := 0) (dk dtk_X7_release 30 rfl) (by decide +kernel) ?_
        refine KC_Vv [vi (x5.1 115 (x5.1 100 17 : Int32).toNatClampNeg), vi 0] [] rfl (dk dtk_X7_release 31 rfl) kcv_X7_316 rfl kk_60 rfl (kl_60 hq) (Nat.le_of_ble_eq_true rfl) (Nat.le_of_ble_eq_true rfl) (gok_i (av_c (gkr (kl_100 hq)) (av_c rfl (av_c rfl av_n))) as_n) rfl h (fun x7 h => ?_)
        refine T_iinc (v := l2 + 1) (lv2 := [(2, vi (l2 + 1)), (0, vr 100), (1, vi l1)]) 2 (dk dtk_X7_release 32 rfl) rfl rfl (by decide) rfl ?_
        refine T_goto 2 (dk dtk_X7_release 33 rfl) (by decide) ?_
        exact T_sub [1, 2, 0] rfl h
set_option maxRecDepth 100000 in
theorem dtk_X7_beginsSum : dck cX7_beginsSum [(0, .iload_n 1, 1), (1, .iconst 3, 1), (2, .if_icmp .eq 39, 3), (5, .iload_n 1, 1), (6, .iconst 2, 1), (7, .if_icmp .eq 34, 3), (10, .iload_n 1, 1), (11, .bipush 21, 2), (13, .if_icmp .eq 28, 3), (16, .iload_n 1, 1), (17, .bipush 59, 2), (19, .if_icmp .eq 22, 3), (22, .iload_n 1, 1), (23, .bipush 18, 2), (25, .if_icmp .eq 16, 3), (28, .iload_n 1, 1), (29, .bipush 62, 2), (31, .if_icmp .ne 14, 3), (34, .aload_n 0, 1), (35, .getfield 65, 3), (38, .ifCond .eq 7, 3), (41, .iconst 1, 1), (42, .goto 4, 3), (45, .iconst 0, 1), (46, .ireturn, 1)] = true := by decide +kernel
set_option maxRecDepth 100000 in
set_option maxHeartbeats 4000000 in
theorem kg_X7_beginsSum_0 {G : kG} {q : kP} {d : Nat} {x : gd} {P : Option gv → gd → Prop} (hq : kV q) (l1 : Int32)
    (h : ((l1 = (3 : Int32) → P (some (vi 1)) x) ∧ (¬ (l1 = (3 : Int32)) → ((l1 = (2 : Int32) → P (some (vi 1)) x) ∧ (¬ (l1 = (2 : Int32)) → ((l1 = (21 : Int32) → P (some (vi 1)) x) ∧ (¬ (l1 = (21 : Int32)) → ((l1 = (59 : Int32) → P (some (vi 1)) x) ∧ (¬ (l1 = (59 : Int32)) → ((l1 = (18 : Int32) → P (some (vi 1)) x) ∧ (¬ (l1 = (18 : Int32)) → ((¬ (l1 = (62 : Int32)) → P (some (vi 0)) x) ∧ (l1 = (62 : Int32) → (((x.1 100 5) = (0 : Int32) → P (some (vi 0)) x) ∧ (¬ ((x.1 100 5) = (0 : Int32)) → P (some (vi 1)) x))))))))))))))) :
    KT G q d zk_X7_beginsSum 0 [(0, vr 100), (1, vi l1)] [] x P := by
  refine T_iload_n 1 (dk dtk_X7_beginsSum 0 rfl) rfl rfl ?_
  refine T_iconst (v := 3) (dk dtk_X7_beginsSum 1 rfl) (by decide +kernel) ?_
  refine T_icmp_eq 41 (dk dtk_X7_beginsSum 2 rfl) (by decide) (fun c1 => ?_) (fun c1 => ?_)
  · have h := h.1 c1
    refine T_iconst (v := 1) (dk dtk_X7_beginsSum 21 rfl) (by decide +kernel) ?_
    refine T_goto 46 (dk dtk_X7_beginsSum 22 rfl) (by decide) ?_
    exact KT_iret (dk dtk_X7_beginsSum 24 rfl) rfl rfl h
  · have h := h.2 c1
    refine T_iload_n 1 (dk dtk_X7_beginsSum 3 rfl) rfl rfl ?_
    refine T_iconst (v := 2) (dk dtk_X7_beginsSum 4 rfl) (by decide +kernel) ?_
    refine T_icmp_eq 41 (dk dtk_X7_beginsSum 5 rfl) (by decide) (fun c2 => ?_) (fun c2 => ?_)
    · have h := h.1 c2
      refine T_iconst (v := 1) (dk dtk_X7_beginsSum 21 rfl) (by decide +kernel) ?_
      refine T_goto 46 (dk dtk_X7_beginsSum 22 rfl) (by decide) ?_
      exact KT_iret (dk dtk_X7_beginsSum 24 rfl) rfl rfl h
    · have h := h.2 c2
      refine T_iload_n 1 (dk dtk_X7_beginsSum 6 rfl) rfl rfl ?_
      refine T_bipush (v := 21) (dk dtk_X7_beginsSum 7 rfl) (by decide +kernel) ?_
      refine T_icmp_eq 41 (dk dtk_X7_beginsSum 8 rfl) (by decide) (fun c3 => ?_) (fun c3 => ?_)
      · have h := h.1 c3
        refine T_iconst (v := 1) (dk dtk_X7_beginsSum 21 rfl) (by decide +kernel) ?_
        refine T_goto 46 (dk dtk_X7_beginsSum 22 rfl) (by decide) ?_
        exact KT_iret (dk dtk_X7_beginsSum 24 rfl) rfl rfl h
      · have h := h.2 c3
        refine T_iload_n 1 (dk dtk_X7_beginsSum 9 rfl) rfl rfl ?_
        refine T_bipush (v := 59) (dk dtk_X7_beginsSum 10 rfl) (by decide +kernel) ?_
        refine T_icmp_eq 41 (dk dtk_X7_beginsSum 11 rfl) (by decide) (fun c4 => ?_) (fun c4 => ?_)
        · have h := h.1 c4
          refine T_iconst (v := 1) (dk dtk_X7_beginsSum 21 rfl) (by decide +kernel) ?_
          refine T_goto 46 (dk dtk_X7_beginsSum 22 rfl) (by decide) ?_
          exact KT_iret (dk dtk_X7_beginsSum 24 rfl) rfl rfl h
        · have h := h.2 c4
          refine T_iload_n 1 (dk dtk_X7_beginsSum 12 rfl) rfl rfl ?_
          refine T_bipush (v := 18) (dk dtk_X7_beginsSum 13 rfl) (by decide +kernel) ?_
          refine T_icmp_eq 41 (dk dtk_X7_beginsSum 14 rfl) (by decide) (fun c5 => ?_) (fun c5 => ?_)
          · have h := h.1 c5
            refine T_iconst (v := 1) (dk dtk_X7_beginsSum 21 rfl) (by decide +kernel) ?_
            refine T_goto 46 (dk dtk_X7_beginsSum 22 rfl) (by decide) ?_
            exact KT_iret (dk dtk_X7_beginsSum 24 rfl) rfl rfl h
          · have h := h.2 c5
            refine T_iload_n 1 (dk dtk_X7_beginsSum 15 rfl) rfl rfl ?_
            refine T_bipush (v := 62) (dk dtk_X7_beginsSum 16 rfl) (by decide +kernel) ?_
            refine T_icmp_ne 45 (dk dtk_X7_beginsSum 17 rfl) (by decide) (fun c6 => ?_) (fun c6 => ?_)
            · have h := h.1 c6
              refine T_iconst (v := 0) (dk dtk_X7_beginsSum 23 rfl) (by decide +kernel) ?_
              exact KT_iret (dk dtk_X7_beginsSum 24 rfl) rfl rfl h
            · have h := h.2 c6
              refine T_aload_n 0 (dk dtk_X7_beginsSum 18 rfl) rfl rfl ?_
              refine T_getI 100 5 (dk dtk_X7_beginsSum 19 rfl) kfl_X7_65 kk_100 (kl_100 hq) (by decide) rfl ?_
              refine T_if_eq 45 (dk dtk_X7_beginsSum 20 rfl) (by decide) (fun c7 => ?_) (fun c7 => ?_)
              · have h := h.1 c7
                refine T_iconst (v := 0) (dk dtk_X7_beginsSum 23 rfl) (by decide +kernel) ?_
                exact KT_iret (dk dtk_X7_beginsSum 24 rfl) rfl rfl h
              · have h := h.2 c7
                refine T_iconst (v := 1) (dk dtk_X7_beginsSum 21 rfl) (by decide +kernel) ?_
                refine T_goto 46 (dk dtk_X7_beginsSum 22 rfl) (by decide) ?_
                exact KT_iret (dk dtk_X7_beginsSum 24 rfl) rfl rfl h
set_option maxRecDepth 100000 in
theorem dtk_X7_openOperand : dck cX7_openOperand [(0, .iconst 0, 1), (1, .istore_n 1, 1), (2, .iconst 0, 1), (3, .istore_n 2, 1), (4, .iload_n 2, 1), (5, .sipush 700, 3), (8, .if_icmp .gt 135, 3), (11, .aload_n 0, 1), (12, .invokevirtual 71, 3), (15, .istore_n 3, 1), (16, .iload_n 3, 1), (17, .bipush 59, 2), (19, .if_icmp .eq 9, 3), (22, .iload_n 3, 1), (23, .bipush 18, 2), (25, .if_icmp .ne 7, 3), (28, .iconst 1, 1), (29, .goto 4, 3), (32, .iconst 0, 1), (33, .istore 4, 2), (35, .aload_n 0, 1), (36, .iload_n 3, 1), (37, .invokevirtual 319, 3), (40, .ifCond .ne 8, 3), (43, .aload_n 0, 1), (44, .iconst 2, 1), (45, .invokevirtual 96, 3), (48, .aload_n 0, 1), (49, .invokevirtual 313, 3), (52, .iload 4, 2), (54, .ifCond .eq 7, 3), (57, .iconst 1, 1), (58, .goto 4, 3), (61, .iconst 0, 1), (62, .iadd, 1), (63, .bipush 16, 2), (65, .if_icmp .le 8, 3), (68, .aload_n 0, 1), (69, .iconst 3, 1), (70, .invokevirtual 96, 3), (73, .iload 4, 2), (75, .ifCond .ne 12, 3), (78, .iload_n 3, 1), (79, .bipush 21, 2), (81, .if_icmp .eq 6, 3), (84, .goto 59, 3), (87, .iload 4, 2), (89, .ifCond .eq 29, 3), (92, .aload_n 0, 1), (93, .iload_n 3, 1), (94, .bipush 59, 2), (96, .if_icmp .ne 7, 3), (99, .iconst 5, 1), (100, .goto 4, 3), (103, .iconst 4, 1), (104, .bipush 6, 2), (106, .aload_n 0, 1), (107, .invokevirtual 313, 3), (110, .iconst 1, 1), (111, .iadd, 1), (112, .invokevirtual 295, 3), (115, .goto 18, 3), (118, .aload_n 0, 1), (119, .iconst 0, 1), (120, .iconst 0, 1), (121, .aload_n 0, 1), (122, .invokevirtual 313, 3), (125, .iconst 1, 1), (126, .iadd, 1), (127, .invokevirtual 295, 3), (130, .iinc 1 1, 3), (133, .aload_n 0, 1), (134, .invokevirtual 112, 3), (137, .iinc 2 1, 3), (140, .goto (-136), 3), (143, .iload_n 1, 1), (144, .ireturn, 1)] = true := by decide +kernel
set_option maxRecDepth 100000 in
set_option maxHeartbeats 4000000 in
theorem kg_X7_openOperand_0 {G : kG} {q : kP} {d : Nat} {x : gd} {P : Option gv → gd → Prop} {X : String → gd → Prop} (hq : kV q) 
    (h : KE G q (d + 7) zk_X7_openOperand 4 [(0, vr 100), (1, vi 0), (2, vi 0)] [] x P X) :
    KE G q (d + 7) zk_X7_openOperand 0 [(0, vr 100)] [] x P X := by
  refine T_iconst (v := 0) (dk dtk_X7_openOperand 0 rfl) (by decide +kernel) ?_
  refine T_istore_n (lv2 := [(1, vi 0), (0, vr 100)]) (dk dtk_X7_openOperand 1 rfl) rfl (by decide) rfl ?_
  refine T_iconst (v := 0) (dk dtk_X7_openOperand 2 rfl) (by decide +kernel) ?_
  refine T_istore_n (lv2 := [(2, vi 0), (1, vi 0), (0, vr 100)]) (dk dtk_X7_openOperand 3 rfl) rfl (by decide) rfl ?_
  exact T_sub [2, 1, 0] rfl h
set_option maxRecDepth 100000 in
set_option maxHeartbeats 4000000 in
theorem kg_X7_openOperand_4 {G : kG} {q : kP} {d : Nat} {x : gd} {P : Option gv → gd → Prop} {X : String → gd → Prop} (hq : kV q) (l1 : Int32) (l2 : Int32)
    (h : (((700 : Int32) < l2 → P (some (vi l1)) x) ∧ (¬ ((700 : Int32) < l2) → KT G q (d + 6) zk_X7_sort 0 [(0, vr 100)] [] x (ri (fun r3 x2 => ((r3 = (59 : Int32) → KE G q (d + 7) zk_X7_openOperand 33 [(0, vr 100), (1, vi l1), (2, vi l2), (3, vi r3)] [vi 1] x2 P X) ∧ (¬ (r3 = (59 : Int32)) → ((¬ (r3 = (18 : Int32)) → KE G q (d + 7) zk_X7_openOperand 33 [(0, vr 100), (1, vi l1), (2, vi l2), (3, vi r3)] [vi 0] x2 P X) ∧ (r3 = (18 : Int32) → KE G q (d + 7) zk_X7_openOperand 33 [(0, vr 100), (1, vi l1), (2, vi l2), (3, vi r3)] [vi 1] x2 P X))))))))) :
    KE G q (d + 7) zk_X7_openOperand 4 [(0, vr 100), (1, vi l1), (2, vi l2)] [] x P X := by
  refine T_iload_n 2 (dk dtk_X7_openOperand 4 rfl) rfl rfl ?_
  refine T_sipush (v := 700) (dk dtk_X7_openOperand 5 rfl) (by decide +kernel) ?_
  refine T_icmp_gt 143 (dk dtk_X7_openOperand 6 rfl) (by decide) (fun c1 => ?_) (fun c1 => ?_)
  · have h := h.1 c1
    refine T_iload_n 1 (dk dtk_X7_openOperand 75 rfl) rfl rfl ?_
    exact KE_iret (dk dtk_X7_openOperand 76 rfl) rfl rfl h
  · have h := h.2 c1
    refine T_aload_n 0 (dk dtk_X7_openOperand 7 rfl) rfl rfl ?_
    refine KC_Vi [] [] rfl (dk dtk_X7_openOperand 8 rfl) kcv_X7_71 rfl kk_100 rfl (kl_100 hq) (Nat.le_of_ble_eq_true rfl) (Nat.le_of_ble_eq_true rfl) (gok_i (av_c (gkr (kl_100 hq)) (av_c rfl (av_c rfl av_n))) as_n) rfl h (fun r3 x2 h => ?_)
    refine T_istore_n (lv2 := [(3, vi r3), (0, vr 100), (1, vi l1), (2, vi l2)]) (dk dtk_X7_openOperand 9 rfl) rfl (by decide) rfl ?_
    refine T_iload_n 0 (dk dtk_X7_openOperand 10 rfl) rfl rfl ?_
    refine T_bipush (v := 59) (dk dtk_X7_openOperand 11 rfl) (by decide +kernel) ?_
    refine T_icmp_eq 28 (dk dtk_X7_openOperand 12 rfl) (by decide) (fun c4 => ?_) (fun c4 => ?_)
    · have h := h.1 c4
      refine T_iconst (v := 1) (dk dtk_X7_openOperand 16 rfl) (by decide +kernel) ?_
      refine T_goto 33 (dk dtk_X7_openOperand 17 rfl) (by decide) ?_
      exact T_sub [1, 2, 3, 0] rfl h
    · have h := h.2 c4
      refine T_iload_n 0 (dk dtk_X7_openOperand 13 rfl) rfl rfl ?_
      refine T_bipush (v := 18) (dk dtk_X7_openOperand 14 rfl) (by decide +kernel) ?_
      refine T_icmp_ne 32 (dk dtk_X7_openOperand 15 rfl) (by decide) (fun c5 => ?_) (fun c5 => ?_)
      · have h := h.1 c5
        refine T_iconst (v := 0) (dk dtk_X7_openOperand 18 rfl) (by decide +kernel) ?_
        exact T_sub [1, 2, 3, 0] rfl h
      · have h := h.2 c5
        refine T_iconst (v := 1) (dk dtk_X7_openOperand 16 rfl) (by decide +kernel) ?_
        refine T_goto 33 (dk dtk_X7_openOperand 17 rfl) (by decide) ?_
        exact T_sub [1, 2, 3, 0] rfl h
set_option maxRecDepth 100000 in
set_option maxHeartbeats 4000000 in
theorem kg_X7_openOperand_33 {G : kG} {q : kP} {d : Nat} {x : gd} {P : Option gv → gd → Prop} {X : String → gd → Prop} (hq : kV q) (l1 : Int32) (l2 : Int32) (l3 : Int32) (s0 : Int32)
    (h : KT G q (d + 6) zk_X7_beginsSum 0 [(0, vr 100), (1, vi l3)] [] x (ri (fun r2 x1 => ((¬ (r2 = (0 : Int32)) → KE G q (d + 7) zk_X7_openOperand 48 [(0, vr 100), (1, vi l1), (2, vi l2), (3, vi l3), (4, vi s0)] [] x1 P X) ∧ (r2 = (0 : Int32) → KE G q (d + 6) zk_X7_refuse 0 [(0, vr 100), (1, vi 2)] [] x1 (rv (fun x4 => KE G q (d + 7) zk_X7_openOperand 48 [(0, vr 100), (1, vi l1), (2, vi l2), (3, vi l3), (4, vi s0)] [] x4 P X)) X))))) :
    KE G q (d + 7) zk_X7_openOperand 33 [(0, vr 100), (1, vi l1), (2, vi l2), (3, vi l3)] [vi s0] x P X := by
  refine T_istore (lv2 := [(4, vi s0), (0, vr 100), (1, vi l1), (2, vi l2), (3, vi l3)]) (dk dtk_X7_openOperand 19 rfl) (by decide) rfl ?_
  refine T_aload_n 1 (dk dtk_X7_openOperand 20 rfl) rfl rfl ?_
  refine T_iload_n 4 (dk dtk_X7_openOperand 21 rfl) rfl rfl ?_
  refine KC_Vi [vi l3] [] rfl (dk dtk_X7_openOperand 22 rfl) kcv_X7_319 rfl kk_100 rfl (kl_100 hq) (Nat.le_of_ble_eq_true rfl) (Nat.le_of_ble_eq_true rfl) (gok_i (av_c rfl (av_c (gkr (kl_100 hq)) (av_c rfl (av_c rfl (av_c rfl av_n))))) as_n) rfl h (fun r2 x1 h => ?_)
  refine T_if_ne 48 (dk dtk_X7_openOperand 23 rfl) (by decide) (fun c3 => ?_) (fun c3 => ?_)
  · have h := h.1 c3
    exact T_sub [1, 2, 3, 4, 0] rfl h
  · have h := h.2 c3
    refine T_aload_n 1 (dk dtk_X7_openOperand 24 rfl) rfl rfl ?_
    refine T_iconst (v := 2) (dk dtk_X7_openOperand 25 rfl) (by decide +kernel) ?_
    refine KD_Vv [vi 2] [] rfl (dk dtk_X7_openOperand 26 rfl) kcv_X7_96 rfl kk_100 rfl (kl_100 hq) (Nat.le_of_ble_eq_true rfl) (Nat.le_of_ble_eq_true rfl) (gok_i (av_c rfl (av_c (gkr (kl_100 hq)) (av_c rfl (av_c rfl (av_c rfl av_n))))) as_n) rfl h (fun x4 h => ?_)
    exact T_sub [1, 2, 3, 4, 0] rfl h
set_option maxRecDepth 100000 in
set_option maxHeartbeats 4000000 in
theorem kg_X7_openOperand_48 {G : kG} {q : kP} {d : Nat} {x : gd} {P : Option gv → gd → Prop} {X : String → gd → Prop} (hq : kV q) (l1 : Int32) (l2 : Int32) (l3 : Int32) (l4 : Int32)
    (h : KT G q (d + 6) zk_X7_depthHere 0 [(0, vr 100)] [] x (ri (fun r2 x1 => ((l4 = (0 : Int32) → KE G q (d + 7) zk_X7_openOperand 62 [(0, vr 100), (1, vi l1), (2, vi l2), (3, vi l3), (4, vi l4)] [vi 0, vi r2] x1 P X) ∧ (¬ (l4 = (0 : Int32)) → KE G q (d + 7) zk_X7_openOperand 62 [(0, vr 100), (1, vi l1), (2, vi l2), (3, vi l3), (4, vi l4)] [vi 1, vi r2] x1 P X))))) :
    KE G q (d + 7) zk_X7_openOperand 48 [(0, vr 100), (1, vi l1), (2, vi l2), (3, vi l3), (4, vi l4)] [] x P X := by
  refine T_aload_n 0 (dk dtk_X7_openOperand 27 rfl) rfl rfl ?_
  refine KC_Vi [] [] rfl (dk dtk_X7_openOperand 28 rfl) kcv_X7_313 rfl kk_100 rfl (kl_100 hq) (Nat.le_of_ble_eq_true rfl) (Nat.le_of_ble_eq_true rfl) (gok_i (av_c (gkr (kl_100 hq)) (av_c rfl (av_c rfl (av_c rfl (av_c rfl av_n))))) as_n) rfl h (fun r2 x1 h => ?_)
  refine T_iload 4 (dk dtk_X7_openOperand 29 rfl) rfl ?_
  refine T_if_eq 61 (dk dtk_X7_openOperand 30 rfl) (by decide) (fun c3 => ?_) (fun c3 => ?_)
  · have h := h.1 c3
    refine T_iconst (v := 0) (dk dtk_X7_openOperand 33 rfl) (by decide +kernel) ?_
    exact h
  · have h := h.2 c3
    refine T_iconst (v := 1) (dk dtk_X7_openOperand 31 rfl) (by decide +kernel) ?_
    refine T_goto 62 (dk dtk_X7_openOperand 32 rfl) (by decide) ?_
    exact h
set_option maxRecDepth 100000 in
set_option maxHeartbeats 4000000 in
theorem kg_X7_openOperand_62 {G : kG} {q : kP} {d : Nat} {x : gd} {P : Option gv → gd → Prop} {X : String → gd → Prop} (hq : kV q) (l1 : Int32) (l2 : Int32) (l3 : Int32) (l4 : Int32) (s0 : Int32) (s1 : Int32)
    (h : (((s1 + s0) ≤ (16 : Int32) → KE G q (d + 7) zk_X7_openOperand 73 [(0, vr 100), (1, vi l1), (2, vi l2), (3, vi l3), (4, vi l4)] [] x P X) ∧ (¬ ((s1 + s0) ≤ (16 : Int32)) → KE G q (d + 6) zk_X7_refuse 0 [(0, vr 100), (1, vi 3)] [] x (rv (fun x2 => KE G q (d + 7) zk_X7_openOperand 73 [(0, vr 100), (1, vi l1), (2, vi l2), (3, vi l3), (4, vi l4)] [] x2 P X)) X))) :
    KE G q (d + 7) zk_X7_openOperand 62 [(0, vr 100), (1, vi l1), (2, vi l2), (3, vi l3), (4, vi l4)] [vi s0, vi s1] x P X := by
  refine T_iadd (dk dtk_X7_openOperand 34 rfl) ?_
  refine T_bipush (v := 16) (dk dtk_X7_openOperand 35 rfl) (by decide +kernel) ?_
  refine T_icmp_le 73 (dk dtk_X7_openOperand 36 rfl) (by decide) (fun c1 => ?_) (fun c1 => ?_)
  · have h := h.1 c1
    exact h
  · have h := h.2 c1
    refine T_aload_n 0 (dk dtk_X7_openOperand 37 rfl) rfl rfl ?_
    refine T_iconst (v := 3) (dk dtk_X7_openOperand 38 rfl) (by decide +kernel) ?_
    refine KD_Vv [vi 3] [] rfl (dk dtk_X7_openOperand 39 rfl) kcv_X7_96 rfl kk_100 rfl (kl_100 hq) (Nat.le_of_ble_eq_true rfl) (Nat.le_of_ble_eq_true rfl) (gok_i (av_c (gkr (kl_100 hq)) (av_c rfl (av_c rfl (av_c rfl (av_c rfl av_n))))) as_n) rfl h (fun x2 h => ?_)
    exact h
set_option maxRecDepth 100000 in
set_option maxHeartbeats 4000000 in
theorem kg_X7_openOperand_73 {G : kG} {q : kP} {d : Nat} {x : gd} {P : Option gv → gd → Prop} {X : String → gd → Prop} (hq : kV q) (l1 : Int32) (l2 : Int32) (l3 : Int32) (l4 : Int32)
    (h : ((¬ (l4 = (0 : Int32)) → KE G q (d + 7) zk_X7_openOperand 87 [(0, vr 100), (1, vi l1), (2, vi l2), (3, vi l3), (4, vi l4)] [] x P X) ∧ (l4 = (0 : Int32) → ((l3 = (21 : Int32) → KE G q (d + 7) zk_X7_openOperand 87 [(0, vr 100), (1, vi l1), (2, vi l2), (3, vi l3), (4, vi l4)] [] x P X) ∧ (¬ (l3 = (21 : Int32)) → P (some (vi l1)) x))))) :
    KE G q (d + 7) zk_X7_openOperand 73 [(0, vr 100), (1, vi l1), (2, vi l2), (3, vi l3), (4, vi l4)] [] x P X := by
  refine T_iload 4 (dk dtk_X7_openOperand 40 rfl) rfl ?_
  refine T_if_ne 87 (dk dtk_X7_openOperand 41 rfl) (by decide) (fun c1 => ?_) (fun c1 => ?_)
  · have h := h.1 c1
    exact h
  · have h := h.2 c1
    refine T_iload_n 3 (dk dtk_X7_openOperand 42 rfl) rfl rfl ?_
    refine T_bipush (v := 21) (dk dtk_X7_openOperand 43 rfl) (by decide +kernel) ?_
    refine T_icmp_eq 87 (dk dtk_X7_openOperand 44 rfl) (by decide) (fun c2 => ?_) (fun c2 => ?_)
    · have h := h.1 c2
      exact h
    · have h := h.2 c2
      refine T_goto 143 (dk dtk_X7_openOperand 45 rfl) (by decide) ?_
      refine T_iload_n 1 (dk dtk_X7_openOperand 75 rfl) rfl rfl ?_
      exact KE_iret (dk dtk_X7_openOperand 76 rfl) rfl rfl h
set_option maxRecDepth 100000 in
set_option maxHeartbeats 4000000 in
theorem kg_X7_openOperand_87 {G : kG} {q : kP} {d : Nat} {x : gd} {P : Option gv → gd → Prop} {X : String → gd → Prop} (hq : kV q) (l1 : Int32) (l2 : Int32) (l3 : Int32) (l4 : Int32)
    (h : ((l4 = (0 : Int32) → KT G q (d + 6) zk_X7_depthHere 0 [(0, vr 100)] [] x (ri (fun r3 x2 => KT G q (d + 6) zk_X7_hold 0 [(0, vr 100), (1, vi 0), (2, vi 0), (3, vi (r3 + 1))] [] x2 (rv (fun x4 => KE G q (d + 7) zk_X7_openOperand 133 [(0, vr 100), (1, vi (l1 + 1)), (2, vi l2)] [] x4 P X))))) ∧ (¬ (l4 = (0 : Int32)) → ((¬ (l3 = (59 : Int32)) → KE G q (d + 7) zk_X7_openOperand 104 [(0, vr 100), (1, vi l1), (2, vi l2)] [vi 4, vr 100] x P X) ∧ (l3 = (59 : Int32) → KE G q (d + 7) zk_X7_openOperand 104 [(0, vr 100), (1, vi l1), (2, vi l2)] [vi 5, vr 100] x P X))))) :
    KE G q (d + 7) zk_X7_openOperand 87 [(0, vr 100), (1, vi l1), (2, vi l2), (3, vi l3), (4, vi l4)] [] x P X := by
  refine T_iload 4 (dk dtk_X7_openOperand 46 rfl) rfl ?_
  refine T_if_eq 118 (dk dtk_X7_openOperand 47 rfl) (by decide) (fun c1 => ?_) (fun c1 => ?_)
  · have h := h.1 c1
    refine T_aload_n 0 (dk dtk_X7_openOperand 62 rfl) rfl rfl ?_
    refine T_iconst (v := 0) (dk dtk_X7_openOperand 63 rfl) (by decide +kernel) ?_
    refine T_iconst (v := 0) (dk dtk_X7_openOperand 64 rfl) (by decide +kernel) ?_
    refine T_aload_n 0 (dk dtk_X7_openOperand 65 rfl) rfl rfl ?_
    refine T_sub (lv2 := [(0, vr 100), (1, vi l1), (2, vi l2)]) [0, 1, 2] rfl ?_
    refine KC_Vi [] [vi 0, vi 0, vr 100] rfl (dk dtk_X7_openOperand 66 rfl) kcv_X7_313 rfl kk_100 rfl (kl_100 hq) (Nat.le_of_ble_eq_true rfl) (Nat.le_of_ble_eq_true rfl) (gok_i (av_c (gkr (kl_100 hq)) (av_c rfl (av_c rfl av_n))) (as_c rfl (as_c rfl (as_c (gkr (kl_100 hq)) as_n)))) rfl h (fun r3 x2 h => ?_)
    refine T_iconst (v := 1) (dk dtk_X7_openOperand 67 rfl) (by decide +kernel) ?_
    refine T_iadd (dk dtk_X7_openOperand 68 rfl) ?_
    refine KC_Vv [vi 0, vi 0, vi (r3 + 1)] [] rfl (dk dtk_X7_openOperand 69 rfl) kcv_X7_295 rfl kk_100 rfl (kl_100 hq) (Nat.le_of_ble_eq_true rfl) (Nat.le_of_ble_eq_true rfl) (gok_i (av_c (gkr (kl_100 hq)) (av_c rfl (av_c rfl av_n))) as_n) rfl h (fun x4 h => ?_)
    refine T_iinc (v := l1 + 1) (lv2 := [(1, vi (l1 + 1)), (0, vr 100), (2, vi l2)]) 1 (dk dtk_X7_openOperand 70 rfl) rfl rfl (by decide) rfl ?_
    exact T_sub [1, 0, 2] rfl h
  · have h := h.2 c1
    refine T_aload_n 0 (dk dtk_X7_openOperand 48 rfl) rfl rfl ?_
    refine T_iload_n 3 (dk dtk_X7_openOperand 49 rfl) rfl rfl ?_
    refine T_bipush (v := 59) (dk dtk_X7_openOperand 50 rfl) (by decide +kernel) ?_
    refine T_icmp_ne 103 (dk dtk_X7_openOperand 51 rfl) (by decide) (fun c5 => ?_) (fun c5 => ?_)
    · have h := h.1 c5
      refine T_iconst (v := 4) (dk dtk_X7_openOperand 54 rfl) (by decide +kernel) ?_
      exact T_sub [0, 1, 2] rfl h
    · have h := h.2 c5
      refine T_iconst (v := 5) (dk dtk_X7_openOperand 52 rfl) (by decide +kernel) ?_
      refine T_goto 104 (dk dtk_X7_openOperand 53 rfl) (by decide) ?_
      exact T_sub [0, 1, 2] rfl h
set_option maxRecDepth 100000 in
set_option maxHeartbeats 4000000 in
theorem kg_X7_openOperand_104 {G : kG} {q : kP} {d : Nat} {x : gd} {P : Option gv → gd → Prop} {X : String → gd → Prop} (hq : kV q) (l1 : Int32) (l2 : Int32) (s0 : Int32)
    (h : KT G q (d + 6) zk_X7_depthHere 0 [(0, vr 100)] [] x (ri (fun r2 x1 => KT G q (d + 6) zk_X7_hold 0 [(0, vr 100), (1, vi s0), (2, vi 6), (3, vi (r2 + 1))] [] x1 (rv (fun x3 => KE G q (d + 7) zk_X7_openOperand 133 [(0, vr 100), (1, vi l1), (2, vi l2)] [] x3 P X))))) :
    KE G q (d + 7) zk_X7_openOperand 104 [(0, vr 100), (1, vi l1), (2, vi l2)] [vi s0, vr 100] x P X := by
  refine T_bipush (v := 6) (dk dtk_X7_openOperand 55 rfl) (by decide +kernel) ?_
  refine T_aload_n 0 (dk dtk_X7_openOperand 56 rfl) rfl rfl ?_
  refine KC_Vi [] [vi 6, vi s0, vr 100] rfl (dk dtk_X7_openOperand 57 rfl) kcv_X7_313 rfl kk_100 rfl (kl_100 hq) (Nat.le_of_ble_eq_true rfl) (Nat.le_of_ble_eq_true rfl) (gok_i (av_c (gkr (kl_100 hq)) (av_c rfl (av_c rfl av_n))) (as_c rfl (as_c rfl (as_c (gkr (kl_100 hq)) as_n)))) rfl h (fun r2 x1 h => ?_)
  refine T_iconst (v := 1) (dk dtk_X7_openOperand 58 rfl) (by decide +kernel) ?_
  refine T_iadd (dk dtk_X7_openOperand 59 rfl) ?_
  refine KC_Vv [vi s0, vi 6, vi (r2 + 1)] [] rfl (dk dtk_X7_openOperand 60 rfl) kcv_X7_295 rfl kk_100 rfl (kl_100 hq) (Nat.le_of_ble_eq_true rfl) (Nat.le_of_ble_eq_true rfl) (gok_i (av_c (gkr (kl_100 hq)) (av_c rfl (av_c rfl av_n))) as_n) rfl h (fun x3 h => ?_)
  refine T_goto 133 (dk dtk_X7_openOperand 61 rfl) (by decide) ?_
  exact h
set_option maxRecDepth 100000 in
set_option maxHeartbeats 4000000 in
theorem kg_X7_openOperand_133 {G : kG} {q : kP} {d : Nat} {x : gd} {P : Option gv → gd → Prop} {X : String → gd → Prop} (hq : kV q) (l1 : Int32) (l2 : Int32)
    (h : KE G q (d + 6) zk_X7_pass 0 [(0, vr 100)] [] x (rv (fun x1 => KE G q (d + 7) zk_X7_openOperand 4 [(0, vr 100), (1, vi l1), (2, vi (l2 + 1))] [] x1 P X)) X) :
    KE G q (d + 7) zk_X7_openOperand 133 [(0, vr 100), (1, vi l1), (2, vi l2)] [] x P X := by
  refine T_aload_n 0 (dk dtk_X7_openOperand 71 rfl) rfl rfl ?_
  refine KD_Vv [] [] rfl (dk dtk_X7_openOperand 72 rfl) kcv_X7_112 rfl kk_100 rfl (kl_100 hq) (Nat.le_of_ble_eq_true rfl) (Nat.le_of_ble_eq_true rfl) (gok_i (av_c (gkr (kl_100 hq)) (av_c rfl (av_c rfl av_n))) as_n) rfl h (fun x1 h => ?_)
  refine T_iinc (v := l2 + 1) (lv2 := [(2, vi (l2 + 1)), (0, vr 100), (1, vi l1)]) 2 (dk dtk_X7_openOperand 73 rfl) rfl rfl (by decide) rfl ?_
  refine T_goto 4 (dk dtk_X7_openOperand 74 rfl) (by decide) ?_
  exact T_sub [1, 2, 0] rfl h
set_option maxRecDepth 100000 in
theorem dtk_X7_strengthOf : dck cX7_strengthOf [(0, .iload_n 0, 1), (1, .tableswitch 225 11 60 #[219, 219, 219, 219, 219, 219, 221, 221, 223, 223, 225, 225, 225, 225, 225, 225, 225, 225, 225, 225, 225, 225, 225, 225, 225, 225, 225, 225, 225, 225, 225, 217, 225, 225, 225, 225, 225, 225, 225, 225, 225, 225, 225, 225, 225, 225, 225, 223, 225, 215], 215), (216, .iconst 1, 1), (217, .ireturn, 1), (218, .iconst 2, 1), (219, .ireturn, 1), (220, .iconst 3, 1), (221, .ireturn, 1), (222, .iconst 4, 1), (223, .ireturn, 1), (224, .iconst 5, 1), (225, .ireturn, 1), (226, .iconst 0, 1), (227, .ireturn, 1)] = true := by decide +kernel
set_option maxRecDepth 100000 in
set_option maxHeartbeats 4000000 in
theorem kg_X7_strengthOf_0 {G : kG} {q : kP} {d : Nat} {x : gd} {P : Option gv → gd → Prop} (hq : kV q) (l0 : Int32)
    (h : (((l0 = 60) → P (some (vi 1)) x) ∧ ((l0 = 42) → P (some (vi 2)) x) ∧ ((l0 = 11 ∨ l0 = 12 ∨ l0 = 13 ∨ l0 = 14 ∨ l0 = 15 ∨ l0 = 16) → P (some (vi 3)) x) ∧ ((l0 = 17 ∨ l0 = 18) → P (some (vi 4)) x) ∧ ((l0 = 19 ∨ l0 = 20 ∨ l0 = 58) → P (some (vi 5)) x) ∧ ((∀ k ∈ [(60 : Int32), (42 : Int32), (11 : Int32), (12 : Int32), (13 : Int32), (14 : Int32), (15 : Int32), (16 : Int32), (17 : Int32), (18 : Int32), (19 : Int32), (20 : Int32), (58 : Int32)], ¬ l0 = k) → P (some (vi 0)) x))) :
    KT G q d zk_X7_strengthOf 0 [(0, vi l0)] [] x P := by
  refine T_iload_n 0 (dk dtk_X7_strengthOf 0 rfl) rfl rfl ?_
  by_cases c1 : l0 = 60
  · have h := h.1 c1
    refine T_table 215 216 (dk dtk_X7_strengthOf 1 rfl) (by decide) (by rw [c1]; decide +kernel) (by decide) ?_
    refine T_iconst (v := 1) (dk dtk_X7_strengthOf 2 rfl) (by decide +kernel) ?_
    exact KT_iret (dk dtk_X7_strengthOf 3 rfl) rfl rfl h
  · have h := h.2
    by_cases c2 : l0 = 42
    · have h := h.1 c2
      refine T_table 217 218 (dk dtk_X7_strengthOf 1 rfl) (by decide) (by rw [c2]; decide +kernel) (by decide) ?_
      refine T_iconst (v := 2) (dk dtk_X7_strengthOf 4 rfl) (by decide +kernel) ?_
      exact KT_iret (dk dtk_X7_strengthOf 5 rfl) rfl rfl h
    · have h := h.2
      by_cases c3 : l0 = 11 ∨ l0 = 12 ∨ l0 = 13 ∨ l0 = 14 ∨ l0 = 15 ∨ l0 = 16
      · have h := h.1 c3
        refine T_table 219 220 (dk dtk_X7_strengthOf 1 rfl) (by decide) (by rcases c3 with q9 | q9 | q9 | q9 | q9 | q9 <;> rw [q9] <;> decide +kernel) (by decide) ?_
        refine T_iconst (v := 3) (dk dtk_X7_strengthOf 6 rfl) (by decide +kernel) ?_
        exact KT_iret (dk dtk_X7_strengthOf 7 rfl) rfl rfl h
      · have h := h.2
        by_cases c4 : l0 = 17 ∨ l0 = 18
        · have h := h.1 c4
          refine T_table 221 222 (dk dtk_X7_strengthOf 1 rfl) (by decide) (by rcases c4 with q9 | q9 <;> rw [q9] <;> decide +kernel) (by decide) ?_
          refine T_iconst (v := 4) (dk dtk_X7_strengthOf 8 rfl) (by decide +kernel) ?_
          exact KT_iret (dk dtk_X7_strengthOf 9 rfl) rfl rfl h
        · have h := h.2
          by_cases c5 : l0 = 19 ∨ l0 = 20 ∨ l0 = 58
          · have h := h.1 c5
            refine T_table 223 224 (dk dtk_X7_strengthOf 1 rfl) (by decide) (by rcases c5 with q9 | q9 | q9 <;> rw [q9] <;> decide +kernel) (by decide) ?_
            refine T_iconst (v := 5) (dk dtk_X7_strengthOf 10 rfl) (by decide +kernel) ?_
            exact KT_iret (dk dtk_X7_strengthOf 11 rfl) rfl rfl h
          · have h := h.2
            have n6 : ∀ k ∈ [(60 : Int32), (42 : Int32), (11 : Int32), (12 : Int32), (13 : Int32), (14 : Int32), (15 : Int32), (16 : Int32), (17 : Int32), (18 : Int32), (19 : Int32), (20 : Int32), (58 : Int32)], ¬ l0 = k := (gno c1 (gno c2 (gno (fun q9 => c3 (Or.inl q9)) (gno (fun q9 => c3 (Or.inr (Or.inl q9))) (gno (fun q9 => c3 (Or.inr (Or.inr (Or.inl q9)))) (gno (fun q9 => c3 (Or.inr (Or.inr (Or.inr (Or.inl q9))))) (gno (fun q9 => c3 (Or.inr (Or.inr (Or.inr (Or.inr (Or.inl q9)))))) (gno (fun q9 => c3 (Or.inr (Or.inr (Or.inr (Or.inr (Or.inr (q9))))))) (gno (fun q9 => c4 (Or.inl q9)) (gno (fun q9 => c4 (Or.inr (q9))) (gno (fun q9 => c5 (Or.inl q9)) (gno (fun q9 => c5 (Or.inr (Or.inl q9))) (gno (fun q9 => c5 (Or.inr (Or.inr (q9)))) gno0)))))))))))))
            have h := h n6
            refine T_table 225 226 (dk dtk_X7_strengthOf 1 rfl) (by decide) (gtab_d [(60 : Int32), (42 : Int32), (11 : Int32), (12 : Int32), (13 : Int32), (14 : Int32), (15 : Int32), (16 : Int32), (17 : Int32), (18 : Int32), (19 : Int32), (20 : Int32), (58 : Int32)] (by decide +kernel) n6) (by decide) ?_
            refine T_iconst (v := 0) (dk dtk_X7_strengthOf 12 rfl) (by decide +kernel) ?_
            exact KT_iret (dk dtk_X7_strengthOf 13 rfl) rfl rfl h
set_option maxRecDepth 100000 in
theorem dtk_X7_readOperand : dck cX7_readOperand [(0, .aload_n 0, 1), (1, .invokevirtual 71, 3), (4, .iconst 3, 1), (5, .if_icmp .ne 26, 3), (8, .aload_n 0, 1), (9, .getfield 19, 3), (12, .iconst 1, 1), (13, .aload_n 0, 1), (14, .getfield 11, 3), (17, .getfield 147, 3), (20, .aload_n 0, 1), (21, .getfield 52, 3), (24, .iaload, 1), (25, .invokevirtual 316, 3), (28, .goto 65, 3), (31, .aload_n 0, 1), (32, .invokevirtual 71, 3), (35, .bipush 62, 2), (37, .if_icmp .ne 15, 3), (40, .aload_n 0, 1), (41, .getfield 19, 3), (44, .iconst 3, 1), (45, .iconst 0, 1), (46, .invokevirtual 316, 3), (49, .goto 44, 3), (52, .aload_n 0, 1), (53, .iconst 0, 1), (54, .aload_n 0, 1), (55, .getfield 52, 3), (58, .invokevirtual 266, 3), (61, .istore_n 1, 1), (62, .aload_n 0, 1), (63, .getfield 15, 3), (66, .getfield 109, 3), (69, .aload_n 0, 1), (70, .getfield 52, 3), (73, .iload_n 1, 1), (74, .iconst (-1), 1), (75, .if_icmp .ne 7, 3), (78, .iconst 3, 1), (79, .goto 4, 3), (82, .iconst 0, 1), (83, .iastore, 1), (84, .aload_n 0, 1), (85, .getfield 19, 3), (88, .iconst 2, 1), (89, .iload_n 1, 1), (90, .invokevirtual 316, 3), (93, .aload_n 0, 1), (94, .invokevirtual 112, 3), (97, .return_, 1)] = true := by decide +kernel
set_option maxRecDepth 100000 in
set_option maxHeartbeats 4000000 in
theorem kg_X7_readOperand_0 {G : kG} {q : kP} {d : Nat} {x : gd} {P : Option gv → gd → Prop} {X : String → gd → Prop} (hq : kV q) 
    (h : KT G q (d + 6) zk_X7_sort 0 [(0, vr 100)] [] x (ri (fun r2 x1 => ((¬ (r2 = (3 : Int32)) → KT G q (d + 6) zk_X7_sort 0 [(0, vr 100)] [] x1 (ri (fun r5 x4 => ((¬ (r5 = (62 : Int32)) → KT G q (d + 6) zk_X7_knownFrom 0 [(0, vr 100), (1, vi 0), (2, vi (x4.1 100 4))] [] x4 (ri (fun r8 x7 => ((¬ (r8 = (-1 : Int32)) → KE G q (d + 7) zk_X7_readOperand 83 [(0, vr 100), (1, vi r8)] [vi 0, vi (x7.1 100 4), vr 42] x7 P X) ∧ (r8 = (-1 : Int32) → KE G q (d + 7) zk_X7_readOperand 83 [(0, vr 100), (1, vi r8)] [vi 3, vi (x7.1 100 4), vr 42] x7 P X))))) ∧ (r5 = (62 : Int32) → KT G q (d + 6) zk_X0_addPart 0 [(0, vr 60), (1, vi 3), (2, vi 0)] [] x4 (rv (fun x10 => KE G q (d + 7) zk_X7_readOperand 93 [(0, vr 100)] [] x10 P X))))))) ∧ (r2 = (3 : Int32) → vp_in (x1.1 100 4) 702 ∧ KT G q (d + 6) zk_X0_addPart 0 [(0, vr 60), (1, vi 1), (2, vi (x1.1 27 (x1.1 100 4 : Int32).toNatClampNeg))] [] x1 (rv (fun x12 => KE G q (d + 7) zk_X7_readOperand 93 [(0, vr 100)] [] x12 P X))))))) :
    KE G q (d + 7) zk_X7_readOperand 0 [(0, vr 100)] [] x P X := by
  refine T_aload_n 0 (dk dtk_X7_readOperand 0 rfl) rfl rfl ?_
  refine KC_Vi [] [] rfl (dk dtk_X7_readOperand 1 rfl) kcv_X7_71 rfl kk_100 rfl (kl_100 hq) (Nat.le_of_ble_eq_true rfl) (Nat.le_of_ble_eq_true rfl) (gok_i (av_c (gkr (kl_100 hq)) av_n) as_n) rfl h (fun r2 x1 h => ?_)
  refine T_iconst (v := 3) (dk dtk_X7_readOperand 2 rfl) (by decide +kernel) ?_
  refine T_icmp_ne 31 (dk dtk_X7_readOperand 3 rfl) (by decide) (fun c3 => ?_) (fun c3 => ?_)
  · have h := h.1 c3
    refine T_aload_n 0 (dk dtk_X7_readOperand 15 rfl) rfl rfl ?_
    refine KC_Vi [] [] rfl (dk dtk_X7_readOperand 16 rfl) kcv_X7_71 rfl kk_100 rfl (kl_100 hq) (Nat.le_of_ble_eq_true rfl) (Nat.le_of_ble_eq_true rfl) (gok_i (av_c (gkr (kl_100 hq)) av_n) as_n) rfl h (fun r5 x4 h => ?_)
    refine T_bipush (v := 62) (dk dtk_X7_readOperand 17 rfl) (by decide +kernel) ?_
    refine T_icmp_ne 52 (dk dtk_X7_readOperand 18 rfl) (by decide) (fun c6 => ?_) (fun c6 => ?_)
    · have h := h.1 c6
      refine T_aload_n 0 (dk dtk_X7_readOperand 25 rfl) rfl rfl ?_
      refine T_iconst (v := 0) (dk dtk_X7_readOperand 26 rfl) (by decide +kernel) ?_
      refine T_aload_n 0 (dk dtk_X7_readOperand 27 rfl) rfl rfl ?_
      refine T_getI 100 4 (dk dtk_X7_readOperand 28 rfl) kfl_X7_52 kk_100 (kl_100 hq) (by decide) rfl ?_
      refine KC_Vi [vi 0, vi (x4.1 100 4)] [] rfl (dk dtk_X7_readOperand 29 rfl) kcv_X7_266 rfl kk_100 rfl (kl_100 hq) (Nat.le_of_ble_eq_true rfl) (Nat.le_of_ble_eq_true rfl) (gok_i (av_c (gkr (kl_100 hq)) av_n) as_n) rfl h (fun r8 x7 h => ?_)
      refine T_istore_n (lv2 := [(1, vi r8), (0, vr 100)]) (dk dtk_X7_readOperand 30 rfl) rfl (by decide) rfl ?_
      refine T_aload_n 1 (dk dtk_X7_readOperand 31 rfl) rfl rfl ?_
      refine T_getR 100 1 40 (dk dtk_X7_readOperand 32 rfl) kfl_X7_15 kk_100 (kl_100 hq) (by decide) rfl kr_100_1 ?_
      refine T_getR 40 1 42 (dk dtk_X7_readOperand 33 rfl) kfl_X7_109 kk_40 (kl_40 hq) (by decide) rfl kr_40_1 ?_
      refine T_aload_n 1 (dk dtk_X7_readOperand 34 rfl) rfl rfl ?_
      refine T_getI 100 4 (dk dtk_X7_readOperand 35 rfl) kfl_X7_52 kk_100 (kl_100 hq) (by decide) rfl ?_
      refine T_iload_n 0 (dk dtk_X7_readOperand 36 rfl) rfl rfl ?_
      refine T_iconst (v := (-1)) (dk dtk_X7_readOperand 37 rfl) (by decide +kernel) ?_
      refine T_icmp_ne 82 (dk dtk_X7_readOperand 38 rfl) (by decide) (fun c9 => ?_) (fun c9 => ?_)
      · have h := h.1 c9
        refine T_iconst (v := 0) (dk dtk_X7_readOperand 41 rfl) (by decide +kernel) ?_
        exact T_sub [1, 0] rfl h
      · have h := h.2 c9
        refine T_iconst (v := 3) (dk dtk_X7_readOperand 39 rfl) (by decide +kernel) ?_
        refine T_goto 83 (dk dtk_X7_readOperand 40 rfl) (by decide) ?_
        exact T_sub [1, 0] rfl h
    · have h := h.2 c6
      refine T_aload_n 0 (dk dtk_X7_readOperand 19 rfl) rfl rfl ?_
      refine T_getR 100 2 60 (dk dtk_X7_readOperand 20 rfl) kfl_X7_19 kk_100 (kl_100 hq) (by decide) rfl kr_100_2 ?_
      refine T_iconst (v := 3) (dk dtk_X7_readOperand 21 rfl) (by decide +kernel) ?_
      refine T_iconst (v := 0) (dk dtk_X7_readOperand 22 rfl) (by decide +kernel) ?_
      refine KC_Vv [vi 3, vi 0] [] rfl (dk dtk_X7_readOperand 23 rfl) kcv_X7_316 rfl kk_60 rfl (kl_60 hq) (Nat.le_of_ble_eq_true rfl) (Nat.le_of_ble_eq_true rfl) (gok_i (av_c (gkr (kl_100 hq)) av_n) as_n) rfl h (fun x10 h => ?_)
      refine T_goto 93 (dk dtk_X7_readOperand 24 rfl) (by decide) ?_
      exact h
  · have h := h.2 c3
    refine T_aload_n 0 (dk dtk_X7_readOperand 4 rfl) rfl rfl ?_
    refine T_getR 100 2 60 (dk dtk_X7_readOperand 5 rfl) kfl_X7_19 kk_100 (kl_100 hq) (by decide) rfl kr_100_2 ?_
    refine T_iconst (v := 1) (dk dtk_X7_readOperand 6 rfl) (by decide +kernel) ?_
    refine T_aload_n 0 (dk dtk_X7_readOperand 7 rfl) rfl rfl ?_
    refine T_getR 100 0 20 (dk dtk_X7_readOperand 8 rfl) kfl_X7_11 kk_100 (kl_100 hq) (by decide) rfl kr_100_0 ?_
    refine T_getR 20 6 27 (dk dtk_X7_readOperand 9 rfl) kfl_X7_147 kk_20 (kl_20 hq) (by decide) rfl kr_20_6 ?_
    refine T_aload_n 0 (dk dtk_X7_readOperand 10 rfl) rfl rfl ?_
    refine T_getI 100 4 (dk dtk_X7_readOperand 11 rfl) kfl_X7_52 kk_100 (kl_100 hq) (by decide) rfl ?_
    obtain ⟨h11, h⟩ := h
    refine T_iald 27 702 (dk dtk_X7_readOperand 12 rfl) kk_27 (kl_27 hq) h11 ?_
    refine KC_Vv [vi 1, vi (x1.1 27 (x1.1 100 4 : Int32).toNatClampNeg)] [] rfl (dk dtk_X7_readOperand 13 rfl) kcv_X7_316 rfl kk_60 rfl (kl_60 hq) (Nat.le_of_ble_eq_true rfl) (Nat.le_of_ble_eq_true rfl) (gok_i (av_c (gkr (kl_100 hq)) av_n) as_n) rfl h (fun x12 h => ?_)
    refine T_goto 93 (dk dtk_X7_readOperand 14 rfl) (by decide) ?_
    exact h
set_option maxRecDepth 100000 in
set_option maxHeartbeats 4000000 in
theorem kg_X7_readOperand_83 {G : kG} {q : kP} {d : Nat} {x : gd} {P : Option gv → gd → Prop} {X : String → gd → Prop} (hq : kV q) (l1 : Int32) (s0 : Int32) (s1 : Int32)
    (h : vp_in s1 702 ∧ (∀ x2 : gd, x2 = si x 42 (s1 : Int32).toNatClampNeg s0 → KT G q (d + 6) zk_X0_addPart 0 [(0, vr 60), (1, vi 2), (2, vi l1)] [] x2 (rv (fun x3 => KE G q (d + 7) zk_X7_readOperand 93 [(0, vr 100)] [] x3 P X)))) :
    KE G q (d + 7) zk_X7_readOperand 83 [(0, vr 100), (1, vi l1)] [vi s0, vi s1, vr 42] x P X := by
  obtain ⟨h1, h⟩ := h
  obtain ⟨x2, ex2⟩ : ∃ z, z = si x 42 (s1 : Int32).toNatClampNeg s0 := ⟨_, rfl⟩
  have h := h x2 ex2
  refine T_iast 42 702 (dk dtk_X7_readOperand 42 rfl) kk_42 (kl_42 hq) h1 ?_
  rw [← ex2]
  refine T_aload_n 0 (dk dtk_X7_readOperand 43 rfl) rfl rfl ?_
  refine T_getR 100 2 60 (dk dtk_X7_readOperand 44 rfl) kfl_X7_19 kk_100 (kl_100 hq) (by decide) rfl kr_100_2 ?_
  refine T_iconst (v := 2) (dk dtk_X7_readOperand 45 rfl) (by decide +kernel) ?_
  refine T_iload_n 1 (dk dtk_X7_readOperand 46 rfl) rfl rfl ?_
  refine T_sub (lv2 := [(0, vr 100)]) [0] rfl ?_
  refine KC_Vv [vi 2, vi l1] [] rfl (dk dtk_X7_readOperand 47 rfl) kcv_X7_316 rfl kk_60 rfl (kl_60 hq) (Nat.le_of_ble_eq_true rfl) (Nat.le_of_ble_eq_true rfl) (gok_i (av_c (gkr (kl_100 hq)) av_n) as_n) rfl h (fun x3 h => ?_)
  exact h
set_option maxRecDepth 100000 in
set_option maxHeartbeats 4000000 in
theorem kg_X7_readOperand_93 {G : kG} {q : kP} {d : Nat} {x : gd} {P : Option gv → gd → Prop} {X : String → gd → Prop} (hq : kV q) 
    (h : KE G q (d + 6) zk_X7_pass 0 [(0, vr 100)] [] x (rv (fun x1 => P none x1)) X) :
    KE G q (d + 7) zk_X7_readOperand 93 [(0, vr 100)] [] x P X := by
  refine T_aload_n 0 (dk dtk_X7_readOperand 48 rfl) rfl rfl ?_
  refine T_sub (lv2 := []) [] rfl ?_
  refine KD_Vv [] [] rfl (dk dtk_X7_readOperand 49 rfl) kcv_X7_112 rfl kk_100 rfl (kl_100 hq) (Nat.le_of_ble_eq_true rfl) (Nat.le_of_ble_eq_true rfl) (gok_i av_n as_n) rfl h (fun x1 h => ?_)
  exact KE_vret (dk dtk_X7_readOperand 50 rfl) rfl h
end
section
set_option maxRecDepth 100000 in
theorem dtk_X7_claimedCell : dck cX7_claimedCell [(0, .aload_n 0, 1), (1, .invokevirtual 144, 3), (4, .bipush 25, 2), (6, .if_icmp .ne 7, 3), (9, .iconst 1, 1), (10, .goto 4, 3), (13, .iconst 0, 1), (14, .istore_n 1, 1), (15, .aload_n 0, 1), (16, .getfield 19, 3), (19, .bipush 6, 2), (21, .aload_n 0, 1), (22, .getfield 52, 3), (25, .invokevirtual 316, 3), (28, .aload_n 0, 1), (29, .getfield 15, 3), (32, .getfield 109, 3), (35, .aload_n 0, 1), (36, .getfield 52, 3), (39, .iload_n 1, 1), (40, .ifCond .eq 8, 3), (43, .bipush 7, 2), (45, .goto 5, 3), (48, .bipush 6, 2), (50, .iastore, 1), (51, .aload_n 0, 1), (52, .invokevirtual 112, 3), (55, .iload_n 1, 1), (56, .ifCond .eq 21, 3), (59, .aload_n 0, 1), (60, .invokevirtual 112, 3), (63, .aload_n 0, 1), (64, .iconst 3, 1), (65, .bipush 12, 2), (67, .invokevirtual 130, 3), (70, .pop, 1), (71, .aload_n 0, 1), (72, .bipush 26, 2), (74, .invokevirtual 115, 3), (77, .return_, 1)] = true := by decide +kernel
set_option maxRecDepth 100000 in
set_option maxHeartbeats 4000000 in
theorem kg_X7_claimedCell_0 {G : kG} {q : kP} {d : Nat} {x : gd} {P : Option gv → gd → Prop} {X : String → gd → Prop} (hq : kV q) 
    (h : KT G q (d + 6) zk_X7_sortBehind 0 [(0, vr 100)] [] x (ri (fun r2 x1 => ((¬ (r2 = (25 : Int32)) → KE G q (d + 7) zk_X7_claimedCell 14 [(0, vr 100)] [vi 0] x1 P X) ∧ (r2 = (25 : Int32) → KE G q (d + 7) zk_X7_claimedCell 14 [(0, vr 100)] [vi 1] x1 P X))))) :
    KE G q (d + 7) zk_X7_claimedCell 0 [(0, vr 100)] [] x P X := by
  refine T_aload_n 0 (dk dtk_X7_claimedCell 0 rfl) rfl rfl ?_
  refine KC_Vi [] [] rfl (dk dtk_X7_claimedCell 1 rfl) kcv_X7_144 rfl kk_100 rfl (kl_100 hq) (Nat.le_of_ble_eq_true rfl) (Nat.le_of_ble_eq_true rfl) (gok_i (av_c (gkr (kl_100 hq)) av_n) as_n) rfl h (fun r2 x1 h => ?_)
  refine T_bipush (v := 25) (dk dtk_X7_claimedCell 2 rfl) (by decide +kernel) ?_
  refine T_icmp_ne 13 (dk dtk_X7_claimedCell 3 rfl) (by decide) (fun c3 => ?_) (fun c3 => ?_)
  · have h := h.1 c3
    refine T_iconst (v := 0) (dk dtk_X7_claimedCell 6 rfl) (by decide +kernel) ?_
    exact h
  · have h := h.2 c3
    refine T_iconst (v := 1) (dk dtk_X7_claimedCell 4 rfl) (by decide +kernel) ?_
    refine T_goto 14 (dk dtk_X7_claimedCell 5 rfl) (by decide) ?_
    exact h
set_option maxRecDepth 100000 in
set_option maxHeartbeats 4000000 in
theorem kg_X7_claimedCell_14 {G : kG} {q : kP} {d : Nat} {x : gd} {P : Option gv → gd → Prop} {X : String → gd → Prop} (hq : kV q) (s0 : Int32)
    (h : KT G q (d + 6) zk_X0_addPart 0 [(0, vr 60), (1, vi 6), (2, vi (x.1 100 4))] [] x (rv (fun x1 => ((s0 = (0 : Int32) → KE G q (d + 7) zk_X7_claimedCell 50 [(0, vr 100), (1, vi s0)] [vi 6, vi (x1.1 100 4), vr 42] x1 P X) ∧ (¬ (s0 = (0 : Int32)) → KE G q (d + 7) zk_X7_claimedCell 50 [(0, vr 100), (1, vi s0)] [vi 7, vi (x1.1 100 4), vr 42] x1 P X))))) :
    KE G q (d + 7) zk_X7_claimedCell 14 [(0, vr 100)] [vi s0] x P X := by
  refine T_istore_n (lv2 := [(1, vi s0), (0, vr 100)]) (dk dtk_X7_claimedCell 7 rfl) rfl (by decide) rfl ?_
  refine T_aload_n 1 (dk dtk_X7_claimedCell 8 rfl) rfl rfl ?_
  refine T_getR 100 2 60 (dk dtk_X7_claimedCell 9 rfl) kfl_X7_19 kk_100 (kl_100 hq) (by decide) rfl kr_100_2 ?_
  refine T_bipush (v := 6) (dk dtk_X7_claimedCell 10 rfl) (by decide +kernel) ?_
  refine T_aload_n 1 (dk dtk_X7_claimedCell 11 rfl) rfl rfl ?_
  refine T_getI 100 4 (dk dtk_X7_claimedCell 12 rfl) kfl_X7_52 kk_100 (kl_100 hq) (by decide) rfl ?_
  refine KC_Vv [vi 6, vi (x.1 100 4)] [] rfl (dk dtk_X7_claimedCell 13 rfl) kcv_X7_316 rfl kk_60 rfl (kl_60 hq) (Nat.le_of_ble_eq_true rfl) (Nat.le_of_ble_eq_true rfl) (gok_i (av_c rfl (av_c (gkr (kl_100 hq)) av_n)) as_n) rfl h (fun x1 h => ?_)
  refine T_aload_n 1 (dk dtk_X7_claimedCell 14 rfl) rfl rfl ?_
  refine T_getR 100 1 40 (dk dtk_X7_claimedCell 15 rfl) kfl_X7_15 kk_100 (kl_100 hq) (by decide) rfl kr_100_1 ?_
  refine T_getR 40 1 42 (dk dtk_X7_claimedCell 16 rfl) kfl_X7_109 kk_40 (kl_40 hq) (by decide) rfl kr_40_1 ?_
  refine T_aload_n 1 (dk dtk_X7_claimedCell 17 rfl) rfl rfl ?_
  refine T_getI 100 4 (dk dtk_X7_claimedCell 18 rfl) kfl_X7_52 kk_100 (kl_100 hq) (by decide) rfl ?_
  refine T_iload_n 0 (dk dtk_X7_claimedCell 19 rfl) rfl rfl ?_
  refine T_if_eq 48 (dk dtk_X7_claimedCell 20 rfl) (by decide) (fun c2 => ?_) (fun c2 => ?_)
  · have h := h.1 c2
    refine T_bipush (v := 6) (dk dtk_X7_claimedCell 23 rfl) (by decide +kernel) ?_
    exact T_sub [1, 0] rfl h
  · have h := h.2 c2
    refine T_bipush (v := 7) (dk dtk_X7_claimedCell 21 rfl) (by decide +kernel) ?_
    refine T_goto 50 (dk dtk_X7_claimedCell 22 rfl) (by decide) ?_
    exact T_sub [1, 0] rfl h
set_option maxRecDepth 100000 in
set_option maxHeartbeats 4000000 in
theorem kg_X7_claimedCell_50 {G : kG} {q : kP} {d : Nat} {x : gd} {P : Option gv → gd → Prop} {X : String → gd → Prop} (hq : kV q) (l1 : Int32) (s0 : Int32) (s1 : Int32)
    (h : vp_in s1 702 ∧ (∀ x2 : gd, x2 = si x 42 (s1 : Int32).toNatClampNeg s0 → KE G q (d + 6) zk_X7_pass 0 [(0, vr 100)] [] x2 (rv (fun x3 => ((l1 = (0 : Int32) → P none x3) ∧ (¬ (l1 = (0 : Int32)) → KE G q (d + 6) zk_X7_pass 0 [(0, vr 100)] [] x3 (rv (fun x5 => KE G q (d + 6) zk_X7_needFor 0 [(0, vr 100), (1, vi 3), (2, vi 12)] [] x5 (ri (fun r7 x6 => KE G q (d + 6) zk_X7_need 0 [(0, vr 100), (1, vi 26)] [] x6 (rv (fun x8 => P none x8)) X)) X)) X)))) X)) :
    KE G q (d + 7) zk_X7_claimedCell 50 [(0, vr 100), (1, vi l1)] [vi s0, vi s1, vr 42] x P X := by
  obtain ⟨h1, h⟩ := h
  obtain ⟨x2, ex2⟩ : ∃ z, z = si x 42 (s1 : Int32).toNatClampNeg s0 := ⟨_, rfl⟩
  have h := h x2 ex2
  refine T_iast 42 702 (dk dtk_X7_claimedCell 24 rfl) kk_42 (kl_42 hq) h1 ?_
  rw [← ex2]
  refine T_aload_n 0 (dk dtk_X7_claimedCell 25 rfl) rfl rfl ?_
  refine KD_Vv [] [] rfl (dk dtk_X7_claimedCell 26 rfl) kcv_X7_112 rfl kk_100 rfl (kl_100 hq) (Nat.le_of_ble_eq_true rfl) (Nat.le_of_ble_eq_true rfl) (gok_i (av_c (gkr (kl_100 hq)) (av_c rfl av_n)) as_n) rfl h (fun x3 h => ?_)
  refine T_iload_n 1 (dk dtk_X7_claimedCell 27 rfl) rfl rfl ?_
  refine T_if_eq 77 (dk dtk_X7_claimedCell 28 rfl) (by decide) (fun c4 => ?_) (fun c4 => ?_)
  · have h := h.1 c4
    exact KE_vret (dk dtk_X7_claimedCell 39 rfl) rfl h
  · have h := h.2 c4
    refine T_aload_n 0 (dk dtk_X7_claimedCell 29 rfl) rfl rfl ?_
    refine T_sub (lv2 := [(0, vr 100)]) [0] rfl ?_
    refine KD_Vv [] [] rfl (dk dtk_X7_claimedCell 30 rfl) kcv_X7_112 rfl kk_100 rfl (kl_100 hq) (Nat.le_of_ble_eq_true rfl) (Nat.le_of_ble_eq_true rfl) (gok_i (av_c (gkr (kl_100 hq)) av_n) as_n) rfl h (fun x5 h => ?_)
    refine T_aload_n 0 (dk dtk_X7_claimedCell 31 rfl) rfl rfl ?_
    refine T_iconst (v := 3) (dk dtk_X7_claimedCell 32 rfl) (by decide +kernel) ?_
    refine T_bipush (v := 12) (dk dtk_X7_claimedCell 33 rfl) (by decide +kernel) ?_
    refine KD_Vi [vi 3, vi 12] [] rfl (dk dtk_X7_claimedCell 34 rfl) kcv_X7_130 rfl kk_100 rfl (kl_100 hq) (Nat.le_of_ble_eq_true rfl) (Nat.le_of_ble_eq_true rfl) (gok_i (av_c (gkr (kl_100 hq)) av_n) as_n) rfl h (fun r7 x6 h => ?_)
    refine T_pop (dk dtk_X7_claimedCell 35 rfl) rfl ?_
    refine T_aload_n 0 (dk dtk_X7_claimedCell 36 rfl) rfl rfl ?_
    refine T_bipush (v := 26) (dk dtk_X7_claimedCell 37 rfl) (by decide +kernel) ?_
    refine T_sub (lv2 := []) [] rfl ?_
    refine KD_Vv [vi 26] [] rfl (dk dtk_X7_claimedCell 38 rfl) kcv_X7_115 rfl kk_100 rfl (kl_100 hq) (Nat.le_of_ble_eq_true rfl) (Nat.le_of_ble_eq_true rfl) (gok_i av_n as_n) rfl h (fun x8 h => ?_)
    exact KE_vret (dk dtk_X7_claimedCell 39 rfl) rfl h
set_option maxRecDepth 100000 in
theorem dtk_X7_link : dck cX7_link [(0, .iconst 0, 1), (1, .istore_n 1, 1), (2, .iload_n 1, 1), (3, .aload_n 0, 1), (4, .getfield 29, 3), (7, .getfield 173, 3), (10, .if_icmp .ge 122, 3), (13, .aload_n 0, 1), (14, .getfield 29, 3), (17, .getfield 220, 3), (20, .iload_n 1, 1), (21, .iaload, 1), (22, .istore_n 2, 1), (23, .iload_n 2, 1), (24, .iconst (-1), 1), (25, .if_icmp .eq 101, 3), (28, .aload_n 0, 1), (29, .getfield 29, 3), (32, .getfield 322, 3), (35, .iload_n 1, 1), (36, .iaload, 1), (37, .bipush 10, 2), (39, .if_icmp .gt 87, 3), (42, .aload_n 0, 1), (43, .getfield 15, 3), (46, .getfield 254, 3), (49, .iload_n 2, 1), (50, .iaload, 1), (51, .istore_n 3, 1), (52, .aload_n 0, 1), (53, .getfield 29, 3), (56, .getfield 322, 3), (59, .iload_n 1, 1), (60, .iaload, 1), (61, .iconst 4, 1), (62, .if_icmp .gt 7, 3), (65, .iconst 1, 1), (66, .goto 4, 3), (69, .iconst 0, 1), (70, .istore 4, 2), (72, .aload_n 0, 1), (73, .getfield 29, 3), (76, .getfield 220, 3), (79, .iload_n 1, 1), (80, .iload 4, 2), (82, .ifCond .eq 15, 3), (85, .aload_n 0, 1), (86, .getfield 15, 3), (89, .getfield 325, 3), (92, .iload_n 3, 1), (93, .iaload, 1), (94, .goto 4, 3), (97, .iload_n 3, 1), (98, .iastore, 1), (99, .aload_n 0, 1), (100, .getfield 29, 3), (103, .getfield 328, 3), (106, .iload_n 1, 1), (107, .iload 4, 2), (109, .ifCond .eq 15, 3), (112, .aload_n 0, 1), (113, .getfield 15, 3), (116, .getfield 331, 3), (119, .iload_n 3, 1), (120, .iaload, 1), (121, .goto 4, 3), (124, .iconst 0, 1), (125, .iastore, 1), (126, .iinc 1 1, 3), (129, .goto (-127), 3), (132, .iconst 0, 1), (133, .istore_n 1, 1), (134, .iload_n 1, 1), (135, .aload_n 0, 1), (136, .getfield 19, 3), (139, .getfield 289, 3), (142, .if_icmp .ge 101, 3), (145, .aload_n 0, 1), (146, .getfield 19, 3), (149, .getfield 334, 3), (152, .iload_n 1, 1), (153, .iaload, 1), (154, .istore_n 2, 1), (155, .aload_n 0, 1), (156, .getfield 19, 3), (159, .getfield 337, 3), (162, .iload_n 1, 1), (163, .iaload, 1), (164, .bipush 6, 2), (166, .if_icmp .ne 71, 3), (169, .aload_n 0, 1), (170, .getfield 15, 3), (173, .getfield 109, 3), (176, .iload_n 2, 1), (177, .iaload, 1), (178, .bipush 7, 2), (180, .if_icmp .ne 17, 3), (183, .aload_n 0, 1), (184, .getfield 11, 3), (187, .getfield 147, 3), (190, .iload_n 2, 1), (191, .iconst 2, 1), (192, .iadd, 1), (193, .iaload, 1), (194, .goto 4, 3), (197, .iconst 0, 1), (198, .istore_n 3, 1), (199, .aload_n 0, 1), (200, .getfield 19, 3), (203, .getfield 337, 3), (206, .iload_n 1, 1), (207, .iconst 2, 1), (208, .iastore, 1), (209, .aload_n 0, 1), (210, .getfield 19, 3), (213, .getfield 334, 3), (216, .iload_n 1, 1), (217, .aload_n 0, 1), (218, .getfield 15, 3), (221, .getfield 325, 3), (224, .aload_n 0, 1), (225, .getfield 15, 3), (228, .getfield 254, 3), (231, .iload_n 2, 1), (232, .iaload, 1), (233, .iaload, 1), (234, .iload_n 3, 1), (235, .iadd, 1), (236, .iastore, 1), (237, .iinc 1 1, 3), (240, .goto (-106), 3), (243, .return_, 1)] = true := by decide +kernel
set_option maxRecDepth 100000 in
set_option maxHeartbeats 4000000 in
theorem kg_X7_link_0 {G : kG} {q : kP} {d : Nat} {x : gd} {P : Option gv → gd → Prop} (hq : kV q) 
    (h : KT G q d zk_X7_link 2 [(0, vr 100), (1, vi 0)] [] x P) :
    KT G q d zk_X7_link 0 [(0, vr 100)] [] x P := by
  refine T_iconst (v := 0) (dk dtk_X7_link 0 rfl) (by decide +kernel) ?_
  refine T_istore_n (lv2 := [(1, vi 0), (0, vr 100)]) (dk dtk_X7_link 1 rfl) rfl (by decide) rfl ?_
  exact T_sub [1, 0] rfl h
set_option maxRecDepth 100000 in
set_option maxHeartbeats 4000000 in
theorem kg_X7_link_2 {G : kG} {q : kP} {d : Nat} {x : gd} {P : Option gv → gd → Prop} (hq : kV q) (l1 : Int32)
    (h : (((x.1 80 9) ≤ l1 → KT G q d zk_X7_link 134 [(0, vr 100), (1, vi 0)] [] x P) ∧ (¬ ((x.1 80 9) ≤ l1) → vp_in l1 400 ∧ (((x.1 85 (l1 : Int32).toNatClampNeg) = (-1 : Int32) → KT G q d zk_X7_link 2 [(0, vr 100), (1, vi (l1 + 1))] [] x P) ∧ (¬ ((x.1 85 (l1 : Int32).toNatClampNeg) = (-1 : Int32)) → vp_in l1 400 ∧ (((10 : Int32) < (x.1 81 (l1 : Int32).toNatClampNeg) → KT G q d zk_X7_link 2 [(0, vr 100), (1, vi (l1 + 1))] [] x P) ∧ (¬ ((10 : Int32) < (x.1 81 (l1 : Int32).toNatClampNeg)) → vp_in (x.1 85 (l1 : Int32).toNatClampNeg) 702 ∧ vp_in l1 400 ∧ (((4 : Int32) < (x.1 81 (l1 : Int32).toNatClampNeg) → KT G q d zk_X7_link 70 [(0, vr 100), (1, vi l1), (3, vi (x.1 43 (x.1 85 (l1 : Int32).toNatClampNeg : Int32).toNatClampNeg))] [vi 0] x P) ∧ (¬ ((4 : Int32) < (x.1 81 (l1 : Int32).toNatClampNeg)) → KT G q d zk_X7_link 70 [(0, vr 100), (1, vi l1), (3, vi (x.1 43 (x.1 85 (l1 : Int32).toNatClampNeg : Int32).toNatClampNeg))] [vi 1] x P))))))))) :
    KT G q d zk_X7_link 2 [(0, vr 100), (1, vi l1)] [] x P := by
  refine T_iload_n 1 (dk dtk_X7_link 2 rfl) rfl rfl ?_
  refine T_aload_n 0 (dk dtk_X7_link 3 rfl) rfl rfl ?_
  refine T_getR 100 3 80 (dk dtk_X7_link 4 rfl) kfl_X7_29 kk_100 (kl_100 hq) (by decide) rfl kr_100_3 ?_
  refine T_getI 80 9 (dk dtk_X7_link 5 rfl) kfl_X7_173 kk_80 (kl_80 hq) (by decide) rfl ?_
  refine T_icmp_ge 132 (dk dtk_X7_link 6 rfl) (by decide) (fun c1 => ?_) (fun c1 => ?_)
  · have h := h.1 c1
    refine T_iconst (v := 0) (dk dtk_X7_link 70 rfl) (by decide +kernel) ?_
    refine T_istore_n (lv2 := [(1, vi 0), (0, vr 100)]) (dk dtk_X7_link 71 rfl) rfl (by decide) rfl ?_
    exact T_sub [1, 0] rfl h
  · have h := h.2 c1
    refine T_aload_n 0 (dk dtk_X7_link 7 rfl) rfl rfl ?_
    refine T_getR 100 3 80 (dk dtk_X7_link 8 rfl) kfl_X7_29 kk_100 (kl_100 hq) (by decide) rfl kr_100_3 ?_
    refine T_getR 80 4 85 (dk dtk_X7_link 9 rfl) kfl_X7_220 kk_80 (kl_80 hq) (by decide) rfl kr_80_4 ?_
    refine T_iload_n 1 (dk dtk_X7_link 10 rfl) rfl rfl ?_
    obtain ⟨h2, h⟩ := h
    refine T_iald 85 400 (dk dtk_X7_link 11 rfl) kk_85 (kl_85 hq) h2 ?_
    refine T_istore_n (lv2 := [(2, vi (x.1 85 (l1 : Int32).toNatClampNeg)), (0, vr 100), (1, vi l1)]) (dk dtk_X7_link 12 rfl) rfl (by decide) rfl ?_
    refine T_iload_n 0 (dk dtk_X7_link 13 rfl) rfl rfl ?_
    refine T_iconst (v := (-1)) (dk dtk_X7_link 14 rfl) (by decide +kernel) ?_
    refine T_icmp_eq 126 (dk dtk_X7_link 15 rfl) (by decide) (fun c3 => ?_) (fun c3 => ?_)
    · have h := h.1 c3
      refine T_iinc (v := l1 + 1) (lv2 := [(1, vi (l1 + 1)), (2, vi (x.1 85 (l1 : Int32).toNatClampNeg)), (0, vr 100)]) 2 (dk dtk_X7_link 68 rfl) rfl rfl (by decide) rfl ?_
      refine T_goto 2 (dk dtk_X7_link 69 rfl) (by decide) ?_
      exact T_sub [2, 0] rfl h
    · have h := h.2 c3
      refine T_aload_n 1 (dk dtk_X7_link 16 rfl) rfl rfl ?_
      refine T_getR 100 3 80 (dk dtk_X7_link 17 rfl) kfl_X7_29 kk_100 (kl_100 hq) (by decide) rfl kr_100_3 ?_
      refine T_getR 80 0 81 (dk dtk_X7_link 18 rfl) kfl_X7_322 kk_80 (kl_80 hq) (by decide) rfl kr_80_0 ?_
      refine T_iload_n 2 (dk dtk_X7_link 19 rfl) rfl rfl ?_
      obtain ⟨h4, h⟩ := h
      refine T_iald 81 400 (dk dtk_X7_link 20 rfl) kk_81 (kl_81 hq) h4 ?_
      refine T_bipush (v := 10) (dk dtk_X7_link 21 rfl) (by decide +kernel) ?_
      refine T_icmp_gt 126 (dk dtk_X7_link 22 rfl) (by decide) (fun c5 => ?_) (fun c5 => ?_)
      · have h := h.1 c5
        refine T_iinc (v := l1 + 1) (lv2 := [(1, vi (l1 + 1)), (2, vi (x.1 85 (l1 : Int32).toNatClampNeg)), (0, vr 100)]) 2 (dk dtk_X7_link 68 rfl) rfl rfl (by decide) rfl ?_
        refine T_goto 2 (dk dtk_X7_link 69 rfl) (by decide) ?_
        exact T_sub [2, 0] rfl h
      · have h := h.2 c5
        refine T_aload_n 1 (dk dtk_X7_link 23 rfl) rfl rfl ?_
        refine T_getR 100 1 40 (dk dtk_X7_link 24 rfl) kfl_X7_15 kk_100 (kl_100 hq) (by decide) rfl kr_100_1 ?_
        refine T_getR 40 2 43 (dk dtk_X7_link 25 rfl) kfl_X7_254 kk_40 (kl_40 hq) (by decide) rfl kr_40_2 ?_
        refine T_iload_n 0 (dk dtk_X7_link 26 rfl) rfl rfl ?_
        obtain ⟨h6, h⟩ := h
        refine T_iald 43 702 (dk dtk_X7_link 27 rfl) kk_43 (kl_43 hq) h6 ?_
        refine T_istore_n (lv2 := [(3, vi (x.1 43 (x.1 85 (l1 : Int32).toNatClampNeg : Int32).toNatClampNeg)), (2, vi (x.1 85 (l1 : Int32).toNatClampNeg)), (0, vr 100), (1, vi l1)]) (dk dtk_X7_link 28 rfl) rfl (by decide) rfl ?_
        refine T_aload_n 2 (dk dtk_X7_link 29 rfl) rfl rfl ?_
        refine T_getR 100 3 80 (dk dtk_X7_link 30 rfl) kfl_X7_29 kk_100 (kl_100 hq) (by decide) rfl kr_100_3 ?_
        refine T_getR 80 0 81 (dk dtk_X7_link 31 rfl) kfl_X7_322 kk_80 (kl_80 hq) (by decide) rfl kr_80_0 ?_
        refine T_iload_n 3 (dk dtk_X7_link 32 rfl) rfl rfl ?_
        obtain ⟨h7, h⟩ := h
        refine T_iald 81 400 (dk dtk_X7_link 33 rfl) kk_81 (kl_81 hq) h7 ?_
        refine T_iconst (v := 4) (dk dtk_X7_link 34 rfl) (by decide +kernel) ?_
        refine T_icmp_gt 69 (dk dtk_X7_link 35 rfl) (by decide) (fun c8 => ?_) (fun c8 => ?_)
        · have h := h.1 c8
          refine T_iconst (v := 0) (dk dtk_X7_link 38 rfl) (by decide +kernel) ?_
          exact T_sub [2, 3, 0] rfl h
        · have h := h.2 c8
          refine T_iconst (v := 1) (dk dtk_X7_link 36 rfl) (by decide +kernel) ?_
          refine T_goto 70 (dk dtk_X7_link 37 rfl) (by decide) ?_
          exact T_sub [2, 3, 0] rfl h
set_option maxRecDepth 100000 in
set_option maxHeartbeats 4000000 in
theorem kg_X7_link_70 {G : kG} {q : kP} {d : Nat} {x : gd} {P : Option gv → gd → Prop} (hq : kV q) (l1 : Int32) (l3 : Int32) (s0 : Int32)
    (h : ((s0 = (0 : Int32) → KT G q d zk_X7_link 98 [(0, vr 100), (1, vi l1), (3, vi l3), (4, vi s0)] [vi l3, vi l1, vr 85] x P) ∧ (¬ (s0 = (0 : Int32)) → vp_in l3 24 ∧ KT G q d zk_X7_link 98 [(0, vr 100), (1, vi l1), (3, vi l3), (4, vi s0)] [vi (x.1 45 (l3 : Int32).toNatClampNeg), vi l1, vr 85] x P))) :
    KT G q d zk_X7_link 70 [(0, vr 100), (1, vi l1), (3, vi l3)] [vi s0] x P := by
  refine T_istore (lv2 := [(4, vi s0), (0, vr 100), (1, vi l1), (3, vi l3)]) (dk dtk_X7_link 39 rfl) (by decide) rfl ?_
  refine T_aload_n 1 (dk dtk_X7_link 40 rfl) rfl rfl ?_
  refine T_getR 100 3 80 (dk dtk_X7_link 41 rfl) kfl_X7_29 kk_100 (kl_100 hq) (by decide) rfl kr_100_3 ?_
  refine T_getR 80 4 85 (dk dtk_X7_link 42 rfl) kfl_X7_220 kk_80 (kl_80 hq) (by decide) rfl kr_80_4 ?_
  refine T_iload_n 2 (dk dtk_X7_link 43 rfl) rfl rfl ?_
  refine T_iload 0 (dk dtk_X7_link 44 rfl) rfl ?_
  refine T_if_eq 97 (dk dtk_X7_link 45 rfl) (by decide) (fun c1 => ?_) (fun c1 => ?_)
  · have h := h.1 c1
    refine T_iload_n 3 (dk dtk_X7_link 52 rfl) rfl rfl ?_
    exact T_sub [1, 2, 3, 0] rfl h
  · have h := h.2 c1
    refine T_aload_n 1 (dk dtk_X7_link 46 rfl) rfl rfl ?_
    refine T_getR 100 1 40 (dk dtk_X7_link 47 rfl) kfl_X7_15 kk_100 (kl_100 hq) (by decide) rfl kr_100_1 ?_
    refine T_getR 40 4 45 (dk dtk_X7_link 48 rfl) kfl_X7_325 kk_40 (kl_40 hq) (by decide) rfl kr_40_4 ?_
    refine T_iload_n 3 (dk dtk_X7_link 49 rfl) rfl rfl ?_
    obtain ⟨h2, h⟩ := h
    refine T_iald 45 24 (dk dtk_X7_link 50 rfl) kk_45 (kl_45 hq) h2 ?_
    refine T_goto 98 (dk dtk_X7_link 51 rfl) (by decide) ?_
    exact T_sub [1, 2, 3, 0] rfl h
set_option maxRecDepth 100000 in
set_option maxHeartbeats 4000000 in
theorem kg_X7_link_98 {G : kG} {q : kP} {d : Nat} {x : gd} {P : Option gv → gd → Prop} (hq : kV q) (l1 : Int32) (l3 : Int32) (l4 : Int32) (s0 : Int32) (s1 : Int32)
    (h : vp_in s1 400 ∧ (∀ x2 : gd, x2 = si x 85 (s1 : Int32).toNatClampNeg s0 → ((l4 = (0 : Int32) → vp_in l1 400 ∧ (∀ x5 : gd, x5 = si x2 86 (l1 : Int32).toNatClampNeg 0 → KT G q d zk_X7_link 2 [(0, vr 100), (1, vi (l1 + 1))] [] x5 P)) ∧ (¬ (l4 = (0 : Int32)) → vp_in l3 24 ∧ vp_in l1 400 ∧ (∀ x8 : gd, x8 = si x2 86 (l1 : Int32).toNatClampNeg (x2.1 46 (l3 : Int32).toNatClampNeg) → KT G q d zk_X7_link 2 [(0, vr 100), (1, vi (l1 + 1))] [] x8 P))))) :
    KT G q d zk_X7_link 98 [(0, vr 100), (1, vi l1), (3, vi l3), (4, vi l4)] [vi s0, vi s1, vr 85] x P := by
  obtain ⟨h1, h⟩ := h
  obtain ⟨x2, ex2⟩ : ∃ z, z = si x 85 (s1 : Int32).toNatClampNeg s0 := ⟨_, rfl⟩
  have h := h x2 ex2
  refine T_iast 85 400 (dk dtk_X7_link 53 rfl) kk_85 (kl_85 hq) h1 ?_
  rw [← ex2]
  refine T_aload_n 0 (dk dtk_X7_link 54 rfl) rfl rfl ?_
  refine T_getR 100 3 80 (dk dtk_X7_link 55 rfl) kfl_X7_29 kk_100 (kl_100 hq) (by decide) rfl kr_100_3 ?_
  refine T_getR 80 5 86 (dk dtk_X7_link 56 rfl) kfl_X7_328 kk_80 (kl_80 hq) (by decide) rfl kr_80_5 ?_
  refine T_iload_n 1 (dk dtk_X7_link 57 rfl) rfl rfl ?_
  refine T_iload 3 (dk dtk_X7_link 58 rfl) rfl ?_
  refine T_if_eq 124 (dk dtk_X7_link 59 rfl) (by decide) (fun c3 => ?_) (fun c3 => ?_)
  · have h := h.1 c3
    refine T_iconst (v := 0) (dk dtk_X7_link 66 rfl) (by decide +kernel) ?_
    obtain ⟨h4, h⟩ := h
    obtain ⟨x5, ex5⟩ : ∃ z, z = si x2 86 (l1 : Int32).toNatClampNeg 0 := ⟨_, rfl⟩
    have h := h x5 ex5
    refine T_iast 86 400 (dk dtk_X7_link 67 rfl) kk_86 (kl_86 hq) h4 ?_
    rw [← ex5]
    refine T_iinc (v := l1 + 1) (lv2 := [(1, vi (l1 + 1)), (0, vr 100), (3, vi l3), (4, vi l4)]) 1 (dk dtk_X7_link 68 rfl) rfl rfl (by decide) rfl ?_
    refine T_goto 2 (dk dtk_X7_link 69 rfl) (by decide) ?_
    exact T_sub [1, 0] rfl h
  · have h := h.2 c3
    refine T_aload_n 0 (dk dtk_X7_link 60 rfl) rfl rfl ?_
    refine T_getR 100 1 40 (dk dtk_X7_link 61 rfl) kfl_X7_15 kk_100 (kl_100 hq) (by decide) rfl kr_100_1 ?_
    refine T_getR 40 5 46 (dk dtk_X7_link 62 rfl) kfl_X7_331 kk_40 (kl_40 hq) (by decide) rfl kr_40_5 ?_
    refine T_iload_n 2 (dk dtk_X7_link 63 rfl) rfl rfl ?_
    obtain ⟨h6, h⟩ := h
    refine T_iald 46 24 (dk dtk_X7_link 64 rfl) kk_46 (kl_46 hq) h6 ?_
    refine T_goto 125 (dk dtk_X7_link 65 rfl) (by decide) ?_
    obtain ⟨h7, h⟩ := h
    obtain ⟨x8, ex8⟩ : ∃ z, z = si x2 86 (l1 : Int32).toNatClampNeg (x2.1 46 (l3 : Int32).toNatClampNeg) := ⟨_, rfl⟩
    have h := h x8 ex8
    refine T_iast 86 400 (dk dtk_X7_link 67 rfl) kk_86 (kl_86 hq) h7 ?_
    rw [← ex8]
    refine T_iinc (v := l1 + 1) (lv2 := [(1, vi (l1 + 1)), (0, vr 100), (3, vi l3), (4, vi l4)]) 1 (dk dtk_X7_link 68 rfl) rfl rfl (by decide) rfl ?_
    refine T_goto 2 (dk dtk_X7_link 69 rfl) (by decide) ?_
    exact T_sub [1, 0] rfl h
set_option maxRecDepth 100000 in
set_option maxHeartbeats 4000000 in
theorem kg_X7_link_134 {G : kG} {q : kP} {d : Nat} {x : gd} {P : Option gv → gd → Prop} (hq : kV q) (l1 : Int32)
    (h : (((x.1 60 3) ≤ l1 → P none x) ∧ (¬ ((x.1 60 3) ≤ l1) → vp_in l1 800 ∧ vp_in l1 800 ∧ ((¬ ((x.1 62 (l1 : Int32).toNatClampNeg) = (6 : Int32)) → KT G q d zk_X7_link 134 [(0, vr 100), (1, vi (l1 + 1))] [] x P) ∧ ((x.1 62 (l1 : Int32).toNatClampNeg) = (6 : Int32) → vp_in (x.1 63 (l1 : Int32).toNatClampNeg) 702 ∧ ((¬ ((x.1 42 (x.1 63 (l1 : Int32).toNatClampNeg : Int32).toNatClampNeg) = (7 : Int32)) → KT G q d zk_X7_link 198 [(0, vr 100), (1, vi l1), (2, vi (x.1 63 (l1 : Int32).toNatClampNeg))] [vi 0] x P) ∧ ((x.1 42 (x.1 63 (l1 : Int32).toNatClampNeg : Int32).toNatClampNeg) = (7 : Int32) → vp_in ((x.1 63 (l1 : Int32).toNatClampNeg) + 2) 702 ∧ KT G q d zk_X7_link 198 [(0, vr 100), (1, vi l1), (2, vi (x.1 63 (l1 : Int32).toNatClampNeg))] [vi (x.1 27 ((x.1 63 (l1 : Int32).toNatClampNeg) + 2 : Int32).toNatClampNeg)] x P))))))) :
    KT G q d zk_X7_link 134 [(0, vr 100), (1, vi l1)] [] x P := by
  refine T_iload_n 1 (dk dtk_X7_link 72 rfl) rfl rfl ?_
  refine T_aload_n 0 (dk dtk_X7_link 73 rfl) rfl rfl ?_
  refine T_getR 100 2 60 (dk dtk_X7_link 74 rfl) kfl_X7_19 kk_100 (kl_100 hq) (by decide) rfl kr_100_2 ?_
  refine T_getI 60 3 (dk dtk_X7_link 75 rfl) kfl_X7_289 kk_60 (kl_60 hq) (by decide) rfl ?_
  refine T_icmp_ge 243 (dk dtk_X7_link 76 rfl) (by decide) (fun c1 => ?_) (fun c1 => ?_)
  · have h := h.1 c1
    exact KT_vret (dk dtk_X7_link 131 rfl) rfl h
  · have h := h.2 c1
    refine T_aload_n 0 (dk dtk_X7_link 77 rfl) rfl rfl ?_
    refine T_getR 100 2 60 (dk dtk_X7_link 78 rfl) kfl_X7_19 kk_100 (kl_100 hq) (by decide) rfl kr_100_2 ?_
    refine T_getR 60 2 63 (dk dtk_X7_link 79 rfl) kfl_X7_334 kk_60 (kl_60 hq) (by decide) rfl kr_60_2 ?_
    refine T_iload_n 1 (dk dtk_X7_link 80 rfl) rfl rfl ?_
    obtain ⟨h2, h⟩ := h
    refine T_iald 63 800 (dk dtk_X7_link 81 rfl) kk_63 (kl_63 hq) h2 ?_
    refine T_istore_n (lv2 := [(2, vi (x.1 63 (l1 : Int32).toNatClampNeg)), (0, vr 100), (1, vi l1)]) (dk dtk_X7_link 82 rfl) rfl (by decide) rfl ?_
    refine T_aload_n 1 (dk dtk_X7_link 83 rfl) rfl rfl ?_
    refine T_getR 100 2 60 (dk dtk_X7_link 84 rfl) kfl_X7_19 kk_100 (kl_100 hq) (by decide) rfl kr_100_2 ?_
    refine T_getR 60 1 62 (dk dtk_X7_link 85 rfl) kfl_X7_337 kk_60 (kl_60 hq) (by decide) rfl kr_60_1 ?_
    refine T_iload_n 2 (dk dtk_X7_link 86 rfl) rfl rfl ?_
    obtain ⟨h3, h⟩ := h
    refine T_iald 62 800 (dk dtk_X7_link 87 rfl) kk_62 (kl_62 hq) h3 ?_
    refine T_bipush (v := 6) (dk dtk_X7_link 88 rfl) (by decide +kernel) ?_
    refine T_icmp_ne 237 (dk dtk_X7_link 89 rfl) (by decide) (fun c4 => ?_) (fun c4 => ?_)
    · have h := h.1 c4
      refine T_iinc (v := l1 + 1) (lv2 := [(1, vi (l1 + 1)), (2, vi (x.1 63 (l1 : Int32).toNatClampNeg)), (0, vr 100)]) 2 (dk dtk_X7_link 129 rfl) rfl rfl (by decide) rfl ?_
      refine T_goto 134 (dk dtk_X7_link 130 rfl) (by decide) ?_
      exact T_sub [2, 0] rfl h
    · have h := h.2 c4
      refine T_aload_n 1 (dk dtk_X7_link 90 rfl) rfl rfl ?_
      refine T_getR 100 1 40 (dk dtk_X7_link 91 rfl) kfl_X7_15 kk_100 (kl_100 hq) (by decide) rfl kr_100_1 ?_
      refine T_getR 40 1 42 (dk dtk_X7_link 92 rfl) kfl_X7_109 kk_40 (kl_40 hq) (by decide) rfl kr_40_1 ?_
      refine T_iload_n 0 (dk dtk_X7_link 93 rfl) rfl rfl ?_
      obtain ⟨h5, h⟩ := h
      refine T_iald 42 702 (dk dtk_X7_link 94 rfl) kk_42 (kl_42 hq) h5 ?_
      refine T_bipush (v := 7) (dk dtk_X7_link 95 rfl) (by decide +kernel) ?_
      refine T_icmp_ne 197 (dk dtk_X7_link 96 rfl) (by decide) (fun c6 => ?_) (fun c6 => ?_)
      · have h := h.1 c6
        refine T_iconst (v := 0) (dk dtk_X7_link 105 rfl) (by decide +kernel) ?_
        exact T_sub [1, 2, 0] rfl h
      · have h := h.2 c6
        refine T_aload_n 1 (dk dtk_X7_link 97 rfl) rfl rfl ?_
        refine T_getR 100 0 20 (dk dtk_X7_link 98 rfl) kfl_X7_11 kk_100 (kl_100 hq) (by decide) rfl kr_100_0 ?_
        refine T_getR 20 6 27 (dk dtk_X7_link 99 rfl) kfl_X7_147 kk_20 (kl_20 hq) (by decide) rfl kr_20_6 ?_
        refine T_iload_n 0 (dk dtk_X7_link 100 rfl) rfl rfl ?_
        refine T_iconst (v := 2) (dk dtk_X7_link 101 rfl) (by decide +kernel) ?_
        refine T_iadd (dk dtk_X7_link 102 rfl) ?_
        obtain ⟨h7, h⟩ := h
        refine T_iald 27 702 (dk dtk_X7_link 103 rfl) kk_27 (kl_27 hq) h7 ?_
        refine T_goto 198 (dk dtk_X7_link 104 rfl) (by decide) ?_
        exact T_sub [1, 2, 0] rfl h
set_option maxRecDepth 100000 in
set_option maxHeartbeats 4000000 in
theorem kg_X7_link_198 {G : kG} {q : kP} {d : Nat} {x : gd} {P : Option gv → gd → Prop} (hq : kV q) (l1 : Int32) (l2 : Int32) (s0 : Int32)
    (h : vp_in l1 800 ∧ (∀ x2 : gd, x2 = si x 62 (l1 : Int32).toNatClampNeg 2 → vp_in l2 702 ∧ vp_in (x2.1 43 (l2 : Int32).toNatClampNeg) 24 ∧ vp_in l1 800 ∧ (∀ x6 : gd, x6 = si x2 63 (l1 : Int32).toNatClampNeg ((x2.1 45 (x2.1 43 (l2 : Int32).toNatClampNeg : Int32).toNatClampNeg) + s0) → KT G q d zk_X7_link 134 [(0, vr 100), (1, vi (l1 + 1))] [] x6 P))) :
    KT G q d zk_X7_link 198 [(0, vr 100), (1, vi l1), (2, vi l2)] [vi s0] x P := by
  refine T_istore_n (lv2 := [(3, vi s0), (0, vr 100), (1, vi l1), (2, vi l2)]) (dk dtk_X7_link 106 rfl) rfl (by decide) rfl ?_
  refine T_aload_n 1 (dk dtk_X7_link 107 rfl) rfl rfl ?_
  refine T_getR 100 2 60 (dk dtk_X7_link 108 rfl) kfl_X7_19 kk_100 (kl_100 hq) (by decide) rfl kr_100_2 ?_
  refine T_getR 60 1 62 (dk dtk_X7_link 109 rfl) kfl_X7_337 kk_60 (kl_60 hq) (by decide) rfl kr_60_1 ?_
  refine T_iload_n 2 (dk dtk_X7_link 110 rfl) rfl rfl ?_
  refine T_iconst (v := 2) (dk dtk_X7_link 111 rfl) (by decide +kernel) ?_
  obtain ⟨h1, h⟩ := h
  obtain ⟨x2, ex2⟩ : ∃ z, z = si x 62 (l1 : Int32).toNatClampNeg 2 := ⟨_, rfl⟩
  have h := h x2 ex2
  refine T_iast 62 800 (dk dtk_X7_link 112 rfl) kk_62 (kl_62 hq) h1 ?_
  rw [← ex2]
  refine T_aload_n 1 (dk dtk_X7_link 113 rfl) rfl rfl ?_
  refine T_getR 100 2 60 (dk dtk_X7_link 114 rfl) kfl_X7_19 kk_100 (kl_100 hq) (by decide) rfl kr_100_2 ?_
  refine T_getR 60 2 63 (dk dtk_X7_link 115 rfl) kfl_X7_334 kk_60 (kl_60 hq) (by decide) rfl kr_60_2 ?_
  refine T_iload_n 2 (dk dtk_X7_link 116 rfl) rfl rfl ?_
  refine T_aload_n 1 (dk dtk_X7_link 117 rfl) rfl rfl ?_
  refine T_getR 100 1 40 (dk dtk_X7_link 118 rfl) kfl_X7_15 kk_100 (kl_100 hq) (by decide) rfl kr_100_1 ?_
  refine T_getR 40 4 45 (dk dtk_X7_link 119 rfl) kfl_X7_325 kk_40 (kl_40 hq) (by decide) rfl kr_40_4 ?_
  refine T_aload_n 1 (dk dtk_X7_link 120 rfl) rfl rfl ?_
  refine T_getR 100 1 40 (dk dtk_X7_link 121 rfl) kfl_X7_15 kk_100 (kl_100 hq) (by decide) rfl kr_100_1 ?_
  refine T_getR 40 2 43 (dk dtk_X7_link 122 rfl) kfl_X7_254 kk_40 (kl_40 hq) (by decide) rfl kr_40_2 ?_
  refine T_iload_n 3 (dk dtk_X7_link 123 rfl) rfl rfl ?_
  obtain ⟨h3, h⟩ := h
  refine T_iald 43 702 (dk dtk_X7_link 124 rfl) kk_43 (kl_43 hq) h3 ?_
  obtain ⟨h4, h⟩ := h
  refine T_iald 45 24 (dk dtk_X7_link 125 rfl) kk_45 (kl_45 hq) h4 ?_
  refine T_iload_n 0 (dk dtk_X7_link 126 rfl) rfl rfl ?_
  refine T_iadd (dk dtk_X7_link 127 rfl) ?_
  obtain ⟨h5, h⟩ := h
  obtain ⟨x6, ex6⟩ : ∃ z, z = si x2 63 (l1 : Int32).toNatClampNeg ((x2.1 45 (x2.1 43 (l2 : Int32).toNatClampNeg : Int32).toNatClampNeg) + s0) := ⟨_, rfl⟩
  have h := h x6 ex6
  refine T_iast 63 800 (dk dtk_X7_link 128 rfl) kk_63 (kl_63 hq) h5 ?_
  rw [← ex6]
  refine T_iinc (v := l1 + 1) (lv2 := [(1, vi (l1 + 1)), (3, vi s0), (0, vr 100), (2, vi l2)]) 2 (dk dtk_X7_link 129 rfl) rfl rfl (by decide) rfl ?_
  refine T_goto 134 (dk dtk_X7_link 130 rfl) (by decide) ?_
  exact T_sub [2, 0] rfl h
set_option maxRecDepth 100000 in
theorem dtk_X5_reset : dck cX5_reset [(0, .aload_n 0, 1), (1, .iload_n 1, 1), (2, .putfield 42, 3), (5, .aload_n 0, 1), (6, .aload_n 0, 1), (7, .getfield 11, 3), (10, .getfield 46, 3), (13, .putfield 49, 3), (16, .aload_n 0, 1), (17, .aload_n 0, 1), (18, .getfield 49, 3), (21, .iconst 2, 1), (22, .aload_n 0, 1), (23, .getfield 11, 3), (26, .getfield 52, 3), (29, .imul, 1), (30, .iadd, 1), (31, .putfield 55, 3), (34, .aload_n 0, 1), (35, .bipush 8, 2), (37, .aload_n 0, 1), (38, .getfield 11, 3), (41, .getfield 58, 3), (44, .iadd, 1), (45, .putfield 61, 3), (48, .aload_n 0, 1), (49, .aload_n 0, 1), (50, .getfield 61, 3), (53, .aload_n 0, 1), (54, .getfield 42, 3), (57, .iconst 1, 1), (58, .if_icmp .ne 8, 3), (61, .bipush 16, 2), (63, .goto 4, 3), (66, .iconst 0, 1), (67, .iadd, 1), (68, .putfield 64, 3), (71, .aload_n 0, 1), (72, .aload_n 0, 1), (73, .getfield 55, 3), (76, .aload_n 0, 1), (77, .getfield 64, 3), (80, .aload_n 0, 1), (81, .getfield 11, 3), (84, .getfield 67, 3), (87, .imul, 1), (88, .iadd, 1), (89, .putfield 70, 3), (92, .aload_n 0, 1), (93, .getfield 29, 3), (96, .iconst 0, 1), (97, .invokestatic 73, 3), (100, .iconst 0, 1), (101, .istore_n 2, 1), (102, .iload_n 2, 1), (103, .aload_n 0, 1), (104, .getfield 11, 3), (107, .getfield 46, 3), (110, .if_icmp .ge 24, 3), (113, .aload_n 0, 1), (114, .getfield 29, 3), (117, .iload_n 2, 1), (118, .aload_n 0, 1), (119, .getfield 11, 3), (122, .getfield 79, 3), (125, .iload_n 2, 1), (126, .iaload, 1), (127, .iastore, 1), (128, .iinc 2 1, 3), (131, .goto (-29), 3), (134, .iconst 0, 1), (135, .istore_n 2, 1), (136, .iload_n 2, 1), (137, .aload_n 0, 1), (138, .getfield 11, 3), (141, .getfield 67, 3), (144, .if_icmp .ge 26, 3), (147, .aload_n 0, 1), (148, .getfield 11, 3), (151, .getfield 82, 3), (154, .iload_n 2, 1), (155, .baload, 1), (156, .ifCond .ne 8, 3), (159, .aload_n 0, 1), (160, .iload_n 2, 1), (161, .invokevirtual 86, 3), (164, .iinc 2 1, 3), (167, .goto (-31), 3), (170, .return_, 1)] = true := by decide +kernel
set_option maxRecDepth 100000 in
set_option maxHeartbeats 4000000 in
theorem kg_X5_reset_0 {G : kG} {q : kP} {d : Nat} {x : gd} {P : Option gv → gd → Prop} (hq : kV q) {o : Nat} (ho : kiM q o) (l1 : Int32)
    (h : (∀ x1 : gd, x1 = si x o 3 l1 → (∀ x2 : gd, x2 = si x1 o 6 (x1.1 60 6) → (∀ x3 : gd, x3 = si x2 o 7 ((x2.1 o 6) + (2 * (x2.1 60 9))) → (∀ x4 : gd, x4 = si x3 o 9 (8 + (x3.1 60 13)) → ((¬ ((x4.1 o 3) = (1 : Int32)) → KT G q (d + 1) zk_X5_reset 67 [(0, vr o)] [vi 0, vi (x4.1 o 9), vr o] x4 P) ∧ ((x4.1 o 3) = (1 : Int32) → KT G q (d + 1) zk_X5_reset 67 [(0, vr o)] [vi 16, vi (x4.1 o 9), vr o] x4 P))))))) :
    KT G q (d + 1) zk_X5_reset 0 [(0, vr o), (1, vi l1)] [] x P := by
  refine T_aload_n 0 (dk dtk_X5_reset 0 rfl) rfl rfl ?_
  refine T_iload_n 1 (dk dtk_X5_reset 1 rfl) rfl rfl ?_
  obtain ⟨x1, ex1⟩ : ∃ z, z = si x o 3 l1 := ⟨_, rfl⟩
  have h := h x1 ex1
  refine T_putI o 3 (dk dtk_X5_reset 2 rfl) kfl_X5_42 (kk_M0 ho) (kl_M0 hq ho) (by decide) rfl ⟨rfl, rfl⟩ ?_
  rw [← ex1]
  refine T_aload_n 0 (dk dtk_X5_reset 3 rfl) rfl rfl ?_
  refine T_aload_n 0 (dk dtk_X5_reset 4 rfl) rfl rfl ?_
  refine T_getR o 0 60 (dk dtk_X5_reset 5 rfl) kfl_X5_11 (kk_M0 ho) (kl_M0 hq ho) (by decide) rfl (kr_M_0 ho) ?_
  refine T_getI 60 6 (dk dtk_X5_reset 6 rfl) kfl_X5_46 kk_60 (kl_60 hq) (by decide) rfl ?_
  obtain ⟨x2, ex2⟩ : ∃ z, z = si x1 o 6 (x1.1 60 6) := ⟨_, rfl⟩
  have h := h x2 ex2
  refine T_putI o 6 (dk dtk_X5_reset 7 rfl) kfl_X5_49 (kk_M0 ho) (kl_M0 hq ho) (by decide) rfl ⟨rfl, rfl⟩ ?_
  rw [← ex2]
  refine T_aload_n 0 (dk dtk_X5_reset 8 rfl) rfl rfl ?_
  refine T_aload_n 0 (dk dtk_X5_reset 9 rfl) rfl rfl ?_
  refine T_getI o 6 (dk dtk_X5_reset 10 rfl) kfl_X5_49 (kk_M0 ho) (kl_M0 hq ho) (by decide) rfl ?_
  refine T_iconst (v := 2) (dk dtk_X5_reset 11 rfl) (by decide +kernel) ?_
  refine T_aload_n 0 (dk dtk_X5_reset 12 rfl) rfl rfl ?_
  refine T_getR o 0 60 (dk dtk_X5_reset 13 rfl) kfl_X5_11 (kk_M0 ho) (kl_M0 hq ho) (by decide) rfl (kr_M_0 ho) ?_
  refine T_getI 60 9 (dk dtk_X5_reset 14 rfl) kfl_X5_52 kk_60 (kl_60 hq) (by decide) rfl ?_
  refine T_imul (dk dtk_X5_reset 15 rfl) ?_
  refine T_iadd (dk dtk_X5_reset 16 rfl) ?_
  obtain ⟨x3, ex3⟩ : ∃ z, z = si x2 o 7 ((x2.1 o 6) + (2 * (x2.1 60 9))) := ⟨_, rfl⟩
  have h := h x3 ex3
  refine T_putI o 7 (dk dtk_X5_reset 17 rfl) kfl_X5_55 (kk_M0 ho) (kl_M0 hq ho) (by decide) rfl ⟨rfl, rfl⟩ ?_
  rw [← ex3]
  refine T_aload_n 0 (dk dtk_X5_reset 18 rfl) rfl rfl ?_
  refine T_bipush (v := 8) (dk dtk_X5_reset 19 rfl) (by decide +kernel) ?_
  refine T_aload_n 0 (dk dtk_X5_reset 20 rfl) rfl rfl ?_
  refine T_getR o 0 60 (dk dtk_X5_reset 21 rfl) kfl_X5_11 (kk_M0 ho) (kl_M0 hq ho) (by decide) rfl (kr_M_0 ho) ?_
  refine T_getI 60 13 (dk dtk_X5_reset 22 rfl) kfl_X5_58 kk_60 (kl_60 hq) (by decide) rfl ?_
  refine T_iadd (dk dtk_X5_reset 23 rfl) ?_
  obtain ⟨x4, ex4⟩ : ∃ z, z = si x3 o 9 (8 + (x3.1 60 13)) := ⟨_, rfl⟩
  have h := h x4 ex4
  refine T_putI o 9 (dk dtk_X5_reset 24 rfl) kfl_X5_61 (kk_M0 ho) (kl_M0 hq ho) (by decide) rfl ⟨rfl, rfl⟩ ?_
  rw [← ex4]
  refine T_aload_n 0 (dk dtk_X5_reset 25 rfl) rfl rfl ?_
  refine T_aload_n 0 (dk dtk_X5_reset 26 rfl) rfl rfl ?_
  refine T_getI o 9 (dk dtk_X5_reset 27 rfl) kfl_X5_61 (kk_M0 ho) (kl_M0 hq ho) (by decide) rfl ?_
  refine T_aload_n 0 (dk dtk_X5_reset 28 rfl) rfl rfl ?_
  refine T_getI o 3 (dk dtk_X5_reset 29 rfl) kfl_X5_42 (kk_M0 ho) (kl_M0 hq ho) (by decide) rfl ?_
  refine T_iconst (v := 1) (dk dtk_X5_reset 30 rfl) (by decide +kernel) ?_
  refine T_icmp_ne 66 (dk dtk_X5_reset 31 rfl) (by decide) (fun c5 => ?_) (fun c5 => ?_)
  · have h := h.1 c5
    refine T_iconst (v := 0) (dk dtk_X5_reset 34 rfl) (by decide +kernel) ?_
    exact T_sub [0] rfl h
  · have h := h.2 c5
    refine T_bipush (v := 16) (dk dtk_X5_reset 32 rfl) (by decide +kernel) ?_
    refine T_goto 67 (dk dtk_X5_reset 33 rfl) (by decide) ?_
    exact T_sub [0] rfl h
set_option maxRecDepth 100000 in
set_option maxHeartbeats 4000000 in
theorem kg_X5_reset_67 {G : kG} {q : kP} {d : Nat} {x : gd} {P : Option gv → gd → Prop} (hq : kV q) {o : Nat} (ho : kiM q o) (s0 : Int32) (s1 : Int32)
    (h : (∀ x1 : gd, x1 = si x o 8 (s1 + s0) → (∀ x2 : gd, x2 = si x1 o 5 ((x1.1 o 7) + ((x1.1 o 8) * (x1.1 60 10))) → (∀ x3 : gd, x3 = sfl x2 (o + 5) 0 228 → KT G q (d + 1) zk_X5_reset 102 [(0, vr o), (2, vi 0)] [] x3 P)))) :
    KT G q (d + 1) zk_X5_reset 67 [(0, vr o)] [vi s0, vi s1, vr o] x P := by
  refine T_iadd (dk dtk_X5_reset 35 rfl) ?_
  obtain ⟨x1, ex1⟩ : ∃ z, z = si x o 8 (s1 + s0) := ⟨_, rfl⟩
  have h := h x1 ex1
  refine T_putI o 8 (dk dtk_X5_reset 36 rfl) kfl_X5_64 (kk_M0 ho) (kl_M0 hq ho) (by decide) rfl ⟨rfl, rfl⟩ ?_
  rw [← ex1]
  refine T_aload_n 0 (dk dtk_X5_reset 37 rfl) rfl rfl ?_
  refine T_aload_n 0 (dk dtk_X5_reset 38 rfl) rfl rfl ?_
  refine T_getI o 7 (dk dtk_X5_reset 39 rfl) kfl_X5_55 (kk_M0 ho) (kl_M0 hq ho) (by decide) rfl ?_
  refine T_aload_n 0 (dk dtk_X5_reset 40 rfl) rfl rfl ?_
  refine T_getI o 8 (dk dtk_X5_reset 41 rfl) kfl_X5_64 (kk_M0 ho) (kl_M0 hq ho) (by decide) rfl ?_
  refine T_aload_n 0 (dk dtk_X5_reset 42 rfl) rfl rfl ?_
  refine T_getR o 0 60 (dk dtk_X5_reset 43 rfl) kfl_X5_11 (kk_M0 ho) (kl_M0 hq ho) (by decide) rfl (kr_M_0 ho) ?_
  refine T_getI 60 10 (dk dtk_X5_reset 44 rfl) kfl_X5_67 kk_60 (kl_60 hq) (by decide) rfl ?_
  refine T_imul (dk dtk_X5_reset 45 rfl) ?_
  refine T_iadd (dk dtk_X5_reset 46 rfl) ?_
  obtain ⟨x2, ex2⟩ : ∃ z, z = si x1 o 5 ((x1.1 o 7) + ((x1.1 o 8) * (x1.1 60 10))) := ⟨_, rfl⟩
  have h := h x2 ex2
  refine T_putI o 5 (dk dtk_X5_reset 47 rfl) kfl_X5_70 (kk_M0 ho) (kl_M0 hq ho) (by decide) rfl ⟨rfl, rfl⟩ ?_
  rw [← ex2]
  refine T_aload_n 0 (dk dtk_X5_reset 48 rfl) rfl rfl ?_
  refine T_getR o 4 (o + 5) (dk dtk_X5_reset 49 rfl) kfl_X5_29 (kk_M0 ho) (kl_M0 hq ho) (by decide) rfl (kr_M_4 ho) ?_
  refine T_iconst (v := 0) (dk dtk_X5_reset 50 rfl) (by decide +kernel) ?_
  refine KC_Sv (F := fun z => z = sfl x2 (o + 5) 0 228) [vr (o + 5), vi 0] [] rfl (dk dtk_X5_reset 51 rfl) kcs_X5_73 rfl (Nat.le_of_ble_eq_true rfl) (Nat.le_of_ble_eq_true rfl) (gok_i (av_c (gkr (kl_M0 hq ho)) av_n) as_n) rfl (tj_fill (o + 5) 228 0 (kk_M5 ho) (kl_M5 hq ho) (by decide) ⟨rfl, none, rfl, rfl, rfl⟩) (fun x3 ex3 => ?_)
  have h := h x3 ex3
  refine T_iconst (v := 0) (dk dtk_X5_reset 52 rfl) (by decide +kernel) ?_
  refine T_istore_n (lv2 := [(2, vi 0), (0, vr o)]) (dk dtk_X5_reset 53 rfl) rfl (by decide) rfl ?_
  exact T_sub [1, 0] rfl h
set_option maxRecDepth 100000 in
set_option maxHeartbeats 4000000 in
theorem kg_X5_reset_102 {G : kG} {q : kP} {d : Nat} {x : gd} {P : Option gv → gd → Prop} (hq : kV q) {o : Nat} (ho : kiM q o) (l2 : Int32)
    (h : (((x.1 60 6) ≤ l2 → KT G q (d + 1) zk_X5_reset 136 [(0, vr o), (2, vi 0)] [] x P) ∧ (¬ ((x.1 60 6) ≤ l2) → vp_in l2 24 ∧ vp_in l2 228 ∧ (∀ x4 : gd, x4 = si x (o + 5) (l2 : Int32).toNatClampNeg (x.1 68 (l2 : Int32).toNatClampNeg) → KT G q (d + 1) zk_X5_reset 102 [(0, vr o), (2, vi (l2 + 1))] [] x4 P)))) :
    KT G q (d + 1) zk_X5_reset 102 [(0, vr o), (2, vi l2)] [] x P := by
  refine T_iload_n 1 (dk dtk_X5_reset 54 rfl) rfl rfl ?_
  refine T_aload_n 0 (dk dtk_X5_reset 55 rfl) rfl rfl ?_
  refine T_getR o 0 60 (dk dtk_X5_reset 56 rfl) kfl_X5_11 (kk_M0 ho) (kl_M0 hq ho) (by decide) rfl (kr_M_0 ho) ?_
  refine T_getI 60 6 (dk dtk_X5_reset 57 rfl) kfl_X5_46 kk_60 (kl_60 hq) (by decide) rfl ?_
  refine T_icmp_ge 134 (dk dtk_X5_reset 58 rfl) (by decide) (fun c1 => ?_) (fun c1 => ?_)
  · have h := h.1 c1
    refine T_iconst (v := 0) (dk dtk_X5_reset 70 rfl) (by decide +kernel) ?_
    refine T_istore_n (lv2 := [(2, vi 0), (0, vr o)]) (dk dtk_X5_reset 71 rfl) rfl (by decide) rfl ?_
    exact T_sub [1, 0] rfl h
  · have h := h.2 c1
    refine T_aload_n 0 (dk dtk_X5_reset 59 rfl) rfl rfl ?_
    refine T_getR o 4 (o + 5) (dk dtk_X5_reset 60 rfl) kfl_X5_29 (kk_M0 ho) (kl_M0 hq ho) (by decide) rfl (kr_M_4 ho) ?_
    refine T_iload_n 1 (dk dtk_X5_reset 61 rfl) rfl rfl ?_
    refine T_aload_n 0 (dk dtk_X5_reset 62 rfl) rfl rfl ?_
    refine T_getR o 0 60 (dk dtk_X5_reset 63 rfl) kfl_X5_11 (kk_M0 ho) (kl_M0 hq ho) (by decide) rfl (kr_M_0 ho) ?_
    refine T_getR 60 7 68 (dk dtk_X5_reset 64 rfl) kfl_X5_79 kk_60 (kl_60 hq) (by decide) rfl kr_60_7 ?_
    refine T_iload_n 1 (dk dtk_X5_reset 65 rfl) rfl rfl ?_
    obtain ⟨h2, h⟩ := h
    refine T_iald 68 24 (dk dtk_X5_reset 66 rfl) kk_68 (kl_68 hq) h2 ?_
    obtain ⟨h3, h⟩ := h
    obtain ⟨x4, ex4⟩ : ∃ z, z = si x (o + 5) (l2 : Int32).toNatClampNeg (x.1 68 (l2 : Int32).toNatClampNeg) := ⟨_, rfl⟩
    have h := h x4 ex4
    refine T_iast (o + 5) 228 (dk dtk_X5_reset 67 rfl) (kk_M5 ho) (kl_M5 hq ho) h3 ?_
    rw [← ex4]
    refine T_iinc (v := l2 + 1) (lv2 := [(2, vi (l2 + 1)), (0, vr o)]) 1 (dk dtk_X5_reset 68 rfl) rfl rfl (by decide) rfl ?_
    refine T_goto 102 (dk dtk_X5_reset 69 rfl) (by decide) ?_
    exact T_sub [1, 0] rfl h
set_option maxRecDepth 100000 in
set_option maxHeartbeats 4000000 in
theorem kg_X5_reset_136 {G : kG} {q : kP} {d : Nat} {x : gd} {P : Option gv → gd → Prop} (hq : kV q) {o : Nat} (ho : kiM q o) (l2 : Int32)
    (h : (((x.1 60 10) ≤ l2 → P none x) ∧ (¬ ((x.1 60 10) ≤ l2) → vp_in l2 6 ∧ ((¬ ((x.1 73 (l2 : Int32).toNatClampNeg) = (0 : Int32)) → KT G q (d + 1) zk_X5_reset 136 [(0, vr o), (2, vi (l2 + 1))] [] x P) ∧ ((x.1 73 (l2 : Int32).toNatClampNeg) = (0 : Int32) → KT G q d zk_X5_rouse 0 [(0, vr o), (1, vi l2)] [] x (rv (fun x4 => KT G q (d + 1) zk_X5_reset 136 [(0, vr o), (2, vi (l2 + 1))] [] x4 P))))))) :
    KT G q (d + 1) zk_X5_reset 136 [(0, vr o), (2, vi l2)] [] x P := by
  refine T_iload_n 1 (dk dtk_X5_reset 72 rfl) rfl rfl ?_
  refine T_aload_n 0 (dk dtk_X5_reset 73 rfl) rfl rfl ?_
  refine T_getR o 0 60 (dk dtk_X5_reset 74 rfl) kfl_X5_11 (kk_M0 ho) (kl_M0 hq ho) (by decide) rfl (kr_M_0 ho) ?_
  refine T_getI 60 10 (dk dtk_X5_reset 75 rfl) kfl_X5_67 kk_60 (kl_60 hq) (by decide) rfl ?_
  refine T_icmp_ge 170 (dk dtk_X5_reset 76 rfl) (by decide) (fun c1 => ?_) (fun c1 => ?_)
  · have h := h.1 c1
    exact KT_vret (dk dtk_X5_reset 88 rfl) rfl h
  · have h := h.2 c1
    refine T_aload_n 0 (dk dtk_X5_reset 77 rfl) rfl rfl ?_
    refine T_getR o 0 60 (dk dtk_X5_reset 78 rfl) kfl_X5_11 (kk_M0 ho) (kl_M0 hq ho) (by decide) rfl (kr_M_0 ho) ?_
    refine T_getR 60 12 73 (dk dtk_X5_reset 79 rfl) kfl_X5_82 kk_60 (kl_60 hq) (by decide) rfl kr_60_12 ?_
    refine T_iload_n 1 (dk dtk_X5_reset 80 rfl) rfl rfl ?_
    obtain ⟨h2, h⟩ := h
    refine T_zald 73 6 (dk dtk_X5_reset 81 rfl) kk_73 (kl_73 hq) h2 ?_
    refine T_if_ne 164 (dk dtk_X5_reset 82 rfl) (by decide) (fun c3 => ?_) (fun c3 => ?_)
    · have h := h.1 c3
      refine T_iinc (v := l2 + 1) (lv2 := [(2, vi (l2 + 1)), (0, vr o)]) 1 (dk dtk_X5_reset 86 rfl) rfl rfl (by decide) rfl ?_
      refine T_goto 136 (dk dtk_X5_reset 87 rfl) (by decide) ?_
      exact T_sub [1, 0] rfl h
    · have h := h.2 c3
      refine T_aload_n 0 (dk dtk_X5_reset 83 rfl) rfl rfl ?_
      refine T_iload_n 1 (dk dtk_X5_reset 84 rfl) rfl rfl ?_
      refine KC_Vv [vi l2] [] rfl (dk dtk_X5_reset 85 rfl) kcv_X5_86 rfl (kk_M0 ho) rfl (kl_M0 hq ho) (Nat.le_of_ble_eq_true rfl) (Nat.le_of_ble_eq_true rfl) (gok_i (av_c (gkr (kl_M0 hq ho)) (av_c rfl av_n)) as_n) rfl h (fun x4 h => ?_)
      refine T_iinc (v := l2 + 1) (lv2 := [(2, vi (l2 + 1)), (0, vr o)]) 1 (dk dtk_X5_reset 86 rfl) rfl rfl (by decide) rfl ?_
      refine T_goto 136 (dk dtk_X5_reset 87 rfl) (by decide) ?_
      exact T_sub [1, 0] rfl h
set_option maxRecDepth 100000 in
theorem dtk_X5_get : dck cX5_get [(0, .aload_n 0, 1), (1, .getfield 29, 3), (4, .aload_n 0, 1), (5, .getfield 55, 3), (8, .iload_n 1, 1), (9, .aload_n 0, 1), (10, .getfield 64, 3), (13, .imul, 1), (14, .iadd, 1), (15, .iload_n 2, 1), (16, .iadd, 1), (17, .iaload, 1), (18, .ireturn, 1)] = true := by decide +kernel
set_option maxRecDepth 100000 in
set_option maxHeartbeats 4000000 in
theorem kg_X5_get_0 {G : kG} {q : kP} {d : Nat} {x : gd} {P : Option gv → gd → Prop} (hq : kV q) {o : Nat} (ho : kiM q o) (l1 : Int32) (l2 : Int32)
    (h : vp_in (((x.1 o 7) + (l1 * (x.1 o 8))) + l2) 228 ∧ P (some (vi (x.1 (o + 5) (((x.1 o 7) + (l1 * (x.1 o 8))) + l2 : Int32).toNatClampNeg))) x) :
    KT G q d zk_X5_get 0 [(0, vr o), (1, vi l1), (2, vi l2)] [] x P := by
  refine T_aload_n 0 (dk dtk_X5_get 0 rfl) rfl rfl ?_
  refine T_getR o 4 (o + 5) (dk dtk_X5_get 1 rfl) kfl_X5_29 (kk_M0 ho) (kl_M0 hq ho) (by decide) rfl (kr_M_4 ho) ?_
  refine T_aload_n 0 (dk dtk_X5_get 2 rfl) rfl rfl ?_
  refine T_getI o 7 (dk dtk_X5_get 3 rfl) kfl_X5_55 (kk_M0 ho) (kl_M0 hq ho) (by decide) rfl ?_
  refine T_iload_n 1 (dk dtk_X5_get 4 rfl) rfl rfl ?_
  refine T_aload_n 0 (dk dtk_X5_get 5 rfl) rfl rfl ?_
  refine T_getI o 8 (dk dtk_X5_get 6 rfl) kfl_X5_64 (kk_M0 ho) (kl_M0 hq ho) (by decide) rfl ?_
  refine T_imul (dk dtk_X5_get 7 rfl) ?_
  refine T_iadd (dk dtk_X5_get 8 rfl) ?_
  refine T_iload_n 2 (dk dtk_X5_get 9 rfl) rfl rfl ?_
  refine T_iadd (dk dtk_X5_get 10 rfl) ?_
  obtain ⟨h1, h⟩ := h
  refine T_iald (o + 5) 228 (dk dtk_X5_get 11 rfl) (kk_M5 ho) (kl_M5 hq ho) h1 ?_
  exact KT_iret (dk dtk_X5_get 12 rfl) rfl rfl h
set_option maxRecDepth 100000 in
theorem dtk_X5_set : dck cX5_set [(0, .aload_n 0, 1), (1, .getfield 29, 3), (4, .aload_n 0, 1), (5, .getfield 55, 3), (8, .iload_n 1, 1), (9, .aload_n 0, 1), (10, .getfield 64, 3), (13, .imul, 1), (14, .iadd, 1), (15, .iload_n 2, 1), (16, .iadd, 1), (17, .iload_n 3, 1), (18, .iastore, 1), (19, .return_, 1)] = true := by decide +kernel
set_option maxRecDepth 100000 in
set_option maxHeartbeats 4000000 in
theorem kg_X5_set_0 {G : kG} {q : kP} {d : Nat} {x : gd} {P : Option gv → gd → Prop} (hq : kV q) {o : Nat} (ho : kiM q o) (l1 : Int32) (l2 : Int32) (l3 : Int32)
    (h : vp_in (((x.1 o 7) + (l1 * (x.1 o 8))) + l2) 228 ∧ (∀ x2 : gd, x2 = si x (o + 5) (((x.1 o 7) + (l1 * (x.1 o 8))) + l2 : Int32).toNatClampNeg l3 → P none x2)) :
    KT G q d zk_X5_set 0 [(0, vr o), (1, vi l1), (2, vi l2), (3, vi l3)] [] x P := by
  refine T_aload_n 0 (dk dtk_X5_set 0 rfl) rfl rfl ?_
  refine T_getR o 4 (o + 5) (dk dtk_X5_set 1 rfl) kfl_X5_29 (kk_M0 ho) (kl_M0 hq ho) (by decide) rfl (kr_M_4 ho) ?_
  refine T_aload_n 0 (dk dtk_X5_set 2 rfl) rfl rfl ?_
  refine T_getI o 7 (dk dtk_X5_set 3 rfl) kfl_X5_55 (kk_M0 ho) (kl_M0 hq ho) (by decide) rfl ?_
  refine T_iload_n 1 (dk dtk_X5_set 4 rfl) rfl rfl ?_
  refine T_aload_n 0 (dk dtk_X5_set 5 rfl) rfl rfl ?_
  refine T_getI o 8 (dk dtk_X5_set 6 rfl) kfl_X5_64 (kk_M0 ho) (kl_M0 hq ho) (by decide) rfl ?_
  refine T_imul (dk dtk_X5_set 7 rfl) ?_
  refine T_iadd (dk dtk_X5_set 8 rfl) ?_
  refine T_iload_n 2 (dk dtk_X5_set 9 rfl) rfl rfl ?_
  refine T_iadd (dk dtk_X5_set 10 rfl) ?_
  refine T_iload_n 3 (dk dtk_X5_set 11 rfl) rfl rfl ?_
  obtain ⟨h1, h⟩ := h
  obtain ⟨x2, ex2⟩ : ∃ z, z = si x (o + 5) (((x.1 o 7) + (l1 * (x.1 o 8))) + l2 : Int32).toNatClampNeg l3 := ⟨_, rfl⟩
  have h := h x2 ex2
  refine T_iast (o + 5) 228 (dk dtk_X5_set 12 rfl) (kk_M5 ho) (kl_M5 hq ho) h1 ?_
  rw [← ex2]
  exact KT_vret (dk dtk_X5_set 13 rfl) rfl h
set_option maxRecDepth 100000 in
theorem dtk_X5_isGoing : dck cX5_isGoing [(0, .aload_n 0, 1), (1, .iload_n 1, 1), (2, .iconst 0, 1), (3, .invokevirtual 90, 3), (6, .iconst 1, 1), (7, .if_icmp .ne 7, 3), (10, .iconst 1, 1), (11, .goto 4, 3), (14, .iconst 0, 1), (15, .ireturn, 1)] = true := by decide +kernel
set_option maxRecDepth 100000 in
set_option maxHeartbeats 4000000 in
theorem kg_X5_isGoing_0 {G : kG} {q : kP} {d : Nat} {x : gd} {P : Option gv → gd → Prop} (hq : kV q) {o : Nat} (ho : kiM q o) (l1 : Int32)
    (h : KT G q d zk_X5_get 0 [(0, vr o), (1, vi l1), (2, vi 0)] [] x (ri (fun r2 x1 => ((¬ (r2 = (1 : Int32)) → P (some (vi 0)) x1) ∧ (r2 = (1 : Int32) → P (some (vi 1)) x1))))) :
    KT G q (d + 1) zk_X5_isGoing 0 [(0, vr o), (1, vi l1)] [] x P := by
  refine T_aload_n 0 (dk dtk_X5_isGoing 0 rfl) rfl rfl ?_
  refine T_iload_n 1 (dk dtk_X5_isGoing 1 rfl) rfl rfl ?_
  refine T_iconst (v := 0) (dk dtk_X5_isGoing 2 rfl) (by decide +kernel) ?_
  refine T_sub (lv2 := []) [] rfl ?_
  refine KC_Vi [vi l1, vi 0] [] rfl (dk dtk_X5_isGoing 3 rfl) kcv_X5_90 rfl (kk_M0 ho) rfl (kl_M0 hq ho) (Nat.le_of_ble_eq_true rfl) (Nat.le_of_ble_eq_true rfl) (gok_i av_n as_n) rfl h (fun r2 x1 h => ?_)
  refine T_iconst (v := 1) (dk dtk_X5_isGoing 4 rfl) (by decide +kernel) ?_
  refine T_icmp_ne 14 (dk dtk_X5_isGoing 5 rfl) (by decide) (fun c3 => ?_) (fun c3 => ?_)
  · have h := h.1 c3
    refine T_iconst (v := 0) (dk dtk_X5_isGoing 8 rfl) (by decide +kernel) ?_
    exact KT_iret (dk dtk_X5_isGoing 9 rfl) rfl rfl h
  · have h := h.2 c3
    refine T_iconst (v := 1) (dk dtk_X5_isGoing 6 rfl) (by decide +kernel) ?_
    refine T_goto 15 (dk dtk_X5_isGoing 7 rfl) (by decide) ?_
    exact KT_iret (dk dtk_X5_isGoing 9 rfl) rfl rfl h
set_option maxRecDepth 100000 in
theorem dtk_X5_anyGoing : dck cX5_anyGoing [(0, .iconst 0, 1), (1, .istore_n 1, 1), (2, .iload_n 1, 1), (3, .aload_n 0, 1), (4, .getfield 11, 3), (7, .getfield 67, 3), (10, .if_icmp .ge 19, 3), (13, .aload_n 0, 1), (14, .iload_n 1, 1), (15, .invokevirtual 94, 3), (18, .ifCond .eq 5, 3), (21, .iconst 1, 1), (22, .ireturn, 1), (23, .iinc 1 1, 3), (26, .goto (-24), 3), (29, .iconst 0, 1), (30, .ireturn, 1)] = true := by decide +kernel
set_option maxRecDepth 100000 in
set_option maxHeartbeats 4000000 in
theorem kg_X5_anyGoing_0 {G : kG} {q : kP} {d : Nat} {x : gd} {P : Option gv → gd → Prop} (hq : kV q) {o : Nat} (ho : kiM q o)
    (h : KT G q (d + 1) zk_X5_anyGoing 2 [(0, vr o), (1, vi 0)] [] x P) :
    KT G q (d + 1) zk_X5_anyGoing 0 [(0, vr o)] [] x P := by
  refine T_iconst (v := 0) (dk dtk_X5_anyGoing 0 rfl) (by decide +kernel) ?_
  refine T_istore_n (lv2 := [(1, vi 0), (0, vr o)]) (dk dtk_X5_anyGoing 1 rfl) rfl (by decide) rfl ?_
  exact T_sub [1, 0] rfl h
set_option maxRecDepth 100000 in
set_option maxHeartbeats 4000000 in
theorem kg_X5_anyGoing_2 {G : kG} {q : kP} {d : Nat} {x : gd} {P : Option gv → gd → Prop} (hq : kV q) {o : Nat} (ho : kiM q o) (l1 : Int32)
    (h : (((x.1 60 10) ≤ l1 → P (some (vi 0)) x) ∧ (¬ ((x.1 60 10) ≤ l1) → KT G q d zk_X5_isGoing 0 [(0, vr o), (1, vi l1)] [] x (ri (fun r3 x2 => ((r3 = (0 : Int32) → KT G q (d + 1) zk_X5_anyGoing 2 [(0, vr o), (1, vi (l1 + 1))] [] x2 P) ∧ (¬ (r3 = (0 : Int32)) → P (some (vi 1)) x2))))))) :
    KT G q (d + 1) zk_X5_anyGoing 2 [(0, vr o), (1, vi l1)] [] x P := by
  refine T_iload_n 1 (dk dtk_X5_anyGoing 2 rfl) rfl rfl ?_
  refine T_aload_n 0 (dk dtk_X5_anyGoing 3 rfl) rfl rfl ?_
  refine T_getR o 0 60 (dk dtk_X5_anyGoing 4 rfl) kfl_X5_11 (kk_M0 ho) (kl_M0 hq ho) (by decide) rfl (kr_M_0 ho) ?_
  refine T_getI 60 10 (dk dtk_X5_anyGoing 5 rfl) kfl_X5_67 kk_60 (kl_60 hq) (by decide) rfl ?_
  refine T_icmp_ge 29 (dk dtk_X5_anyGoing 6 rfl) (by decide) (fun c1 => ?_) (fun c1 => ?_)
  · have h := h.1 c1
    refine T_iconst (v := 0) (dk dtk_X5_anyGoing 15 rfl) (by decide +kernel) ?_
    exact KT_iret (dk dtk_X5_anyGoing 16 rfl) rfl rfl h
  · have h := h.2 c1
    refine T_aload_n 0 (dk dtk_X5_anyGoing 7 rfl) rfl rfl ?_
    refine T_iload_n 1 (dk dtk_X5_anyGoing 8 rfl) rfl rfl ?_
    refine KC_Vi [vi l1] [] rfl (dk dtk_X5_anyGoing 9 rfl) kcv_X5_94 rfl (kk_M0 ho) rfl (kl_M0 hq ho) (Nat.le_of_ble_eq_true rfl) (Nat.le_of_ble_eq_true rfl) (gok_i (av_c (gkr (kl_M0 hq ho)) (av_c rfl av_n)) as_n) rfl h (fun r3 x2 h => ?_)
    refine T_if_eq 23 (dk dtk_X5_anyGoing 10 rfl) (by decide) (fun c4 => ?_) (fun c4 => ?_)
    · have h := h.1 c4
      refine T_iinc (v := l1 + 1) (lv2 := [(1, vi (l1 + 1)), (0, vr o)]) 1 (dk dtk_X5_anyGoing 13 rfl) rfl rfl (by decide) rfl ?_
      refine T_goto 2 (dk dtk_X5_anyGoing 14 rfl) (by decide) ?_
      exact T_sub [1, 0] rfl h
    · have h := h.2 c4
      refine T_iconst (v := 1) (dk dtk_X5_anyGoing 11 rfl) (by decide +kernel) ?_
      exact KT_iret (dk dtk_X5_anyGoing 12 rfl) rfl rfl h
set_option maxRecDepth 100000 in
theorem dtk_X5_anyFailed : dck cX5_anyFailed [(0, .iconst 0, 1), (1, .istore_n 1, 1), (2, .iload_n 1, 1), (3, .aload_n 0, 1), (4, .getfield 11, 3), (7, .getfield 67, 3), (10, .if_icmp .ge 21, 3), (13, .aload_n 0, 1), (14, .iload_n 1, 1), (15, .iconst 0, 1), (16, .invokevirtual 90, 3), (19, .iconst 3, 1), (20, .if_icmp .ne 5, 3), (23, .iconst 1, 1), (24, .ireturn, 1), (25, .iinc 1 1, 3), (28, .goto (-26), 3), (31, .iconst 0, 1), (32, .ireturn, 1)] = true := by decide +kernel
set_option maxRecDepth 100000 in
set_option maxHeartbeats 4000000 in
theorem kg_X5_anyFailed_0 {G : kG} {q : kP} {d : Nat} {x : gd} {P : Option gv → gd → Prop} (hq : kV q) {o : Nat} (ho : kiM q o)
    (h : KT G q (d + 1) zk_X5_anyFailed 2 [(0, vr o), (1, vi 0)] [] x P) :
    KT G q (d + 1) zk_X5_anyFailed 0 [(0, vr o)] [] x P := by
  refine T_iconst (v := 0) (dk dtk_X5_anyFailed 0 rfl) (by decide +kernel) ?_
  refine T_istore_n (lv2 := [(1, vi 0), (0, vr o)]) (dk dtk_X5_anyFailed 1 rfl) rfl (by decide) rfl ?_
  exact T_sub [1, 0] rfl h
set_option maxRecDepth 100000 in
set_option maxHeartbeats 4000000 in
theorem kg_X5_anyFailed_2 {G : kG} {q : kP} {d : Nat} {x : gd} {P : Option gv → gd → Prop} (hq : kV q) {o : Nat} (ho : kiM q o) (l1 : Int32)
    (h : (((x.1 60 10) ≤ l1 → P (some (vi 0)) x) ∧ (¬ ((x.1 60 10) ≤ l1) → KT G q d zk_X5_get 0 [(0, vr o), (1, vi l1), (2, vi 0)] [] x (ri (fun r3 x2 => ((¬ (r3 = (3 : Int32)) → KT G q (d + 1) zk_X5_anyFailed 2 [(0, vr o), (1, vi (l1 + 1))] [] x2 P) ∧ (r3 = (3 : Int32) → P (some (vi 1)) x2))))))) :
    KT G q (d + 1) zk_X5_anyFailed 2 [(0, vr o), (1, vi l1)] [] x P := by
  refine T_iload_n 1 (dk dtk_X5_anyFailed 2 rfl) rfl rfl ?_
  refine T_aload_n 0 (dk dtk_X5_anyFailed 3 rfl) rfl rfl ?_
  refine T_getR o 0 60 (dk dtk_X5_anyFailed 4 rfl) kfl_X5_11 (kk_M0 ho) (kl_M0 hq ho) (by decide) rfl (kr_M_0 ho) ?_
  refine T_getI 60 10 (dk dtk_X5_anyFailed 5 rfl) kfl_X5_67 kk_60 (kl_60 hq) (by decide) rfl ?_
  refine T_icmp_ge 31 (dk dtk_X5_anyFailed 6 rfl) (by decide) (fun c1 => ?_) (fun c1 => ?_)
  · have h := h.1 c1
    refine T_iconst (v := 0) (dk dtk_X5_anyFailed 17 rfl) (by decide +kernel) ?_
    exact KT_iret (dk dtk_X5_anyFailed 18 rfl) rfl rfl h
  · have h := h.2 c1
    refine T_aload_n 0 (dk dtk_X5_anyFailed 7 rfl) rfl rfl ?_
    refine T_iload_n 1 (dk dtk_X5_anyFailed 8 rfl) rfl rfl ?_
    refine T_iconst (v := 0) (dk dtk_X5_anyFailed 9 rfl) (by decide +kernel) ?_
    refine KC_Vi [vi l1, vi 0] [] rfl (dk dtk_X5_anyFailed 10 rfl) kcv_X5_90 rfl (kk_M0 ho) rfl (kl_M0 hq ho) (Nat.le_of_ble_eq_true rfl) (Nat.le_of_ble_eq_true rfl) (gok_i (av_c (gkr (kl_M0 hq ho)) (av_c rfl av_n)) as_n) rfl h (fun r3 x2 h => ?_)
    refine T_iconst (v := 3) (dk dtk_X5_anyFailed 11 rfl) (by decide +kernel) ?_
    refine T_icmp_ne 25 (dk dtk_X5_anyFailed 12 rfl) (by decide) (fun c4 => ?_) (fun c4 => ?_)
    · have h := h.1 c4
      refine T_iinc (v := l1 + 1) (lv2 := [(1, vi (l1 + 1)), (0, vr o)]) 1 (dk dtk_X5_anyFailed 15 rfl) rfl rfl (by decide) rfl ?_
      refine T_goto 2 (dk dtk_X5_anyFailed 16 rfl) (by decide) ?_
      exact T_sub [1, 0] rfl h
    · have h := h.2 c4
      refine T_iconst (v := 1) (dk dtk_X5_anyFailed 13 rfl) (by decide +kernel) ?_
      exact KT_iret (dk dtk_X5_anyFailed 14 rfl) rfl rfl h
set_option maxRecDepth 100000 in
theorem dtk_X5_isStuck : dck cX5_isStuck [(0, .aload_n 0, 1), (1, .getfield 98, 3), (4, .ifCond .ne 14, 3), (7, .aload_n 0, 1), (8, .invokevirtual 101, 3), (11, .ifCond .eq 7, 3), (14, .iconst 1, 1), (15, .goto 4, 3), (18, .iconst 0, 1), (19, .ireturn, 1)] = true := by decide +kernel
set_option maxRecDepth 100000 in
set_option maxHeartbeats 4000000 in
theorem kg_X5_isStuck_0 {G : kG} {q : kP} {d : Nat} {x : gd} {P : Option gv → gd → Prop} (hq : kV q) {o : Nat} (ho : kiM q o)
    (h : ((¬ ((x.1 o 13) = (0 : Int32)) → P (some (vi 0)) x) ∧ ((x.1 o 13) = (0 : Int32) → KT G q d zk_X5_anyGoing 0 [(0, vr o)] [] x (ri (fun r3 x2 => ((r3 = (0 : Int32) → P (some (vi 0)) x2) ∧ (¬ (r3 = (0 : Int32)) → P (some (vi 1)) x2))))))) :
    KT G q (d + 1) zk_X5_isStuck 0 [(0, vr o)] [] x P := by
  refine T_aload_n 0 (dk dtk_X5_isStuck 0 rfl) rfl rfl ?_
  refine T_getI o 13 (dk dtk_X5_isStuck 1 rfl) kfl_X5_98 (kk_M0 ho) (kl_M0 hq ho) (by decide) rfl ?_
  refine T_if_ne 18 (dk dtk_X5_isStuck 2 rfl) (by decide) (fun c1 => ?_) (fun c1 => ?_)
  · have h := h.1 c1
    refine T_iconst (v := 0) (dk dtk_X5_isStuck 8 rfl) (by decide +kernel) ?_
    exact KT_iret (dk dtk_X5_isStuck 9 rfl) rfl rfl h
  · have h := h.2 c1
    refine T_aload_n 0 (dk dtk_X5_isStuck 3 rfl) rfl rfl ?_
    refine T_sub (lv2 := []) [] rfl ?_
    refine KC_Vi [] [] rfl (dk dtk_X5_isStuck 4 rfl) kcv_X5_101 rfl (kk_M0 ho) rfl (kl_M0 hq ho) (Nat.le_of_ble_eq_true rfl) (Nat.le_of_ble_eq_true rfl) (gok_i av_n as_n) rfl h (fun r3 x2 h => ?_)
    refine T_if_eq 18 (dk dtk_X5_isStuck 5 rfl) (by decide) (fun c4 => ?_) (fun c4 => ?_)
    · have h := h.1 c4
      refine T_iconst (v := 0) (dk dtk_X5_isStuck 8 rfl) (by decide +kernel) ?_
      exact KT_iret (dk dtk_X5_isStuck 9 rfl) rfl rfl h
    · have h := h.2 c4
      refine T_iconst (v := 1) (dk dtk_X5_isStuck 6 rfl) (by decide +kernel) ?_
      refine T_goto 19 (dk dtk_X5_isStuck 7 rfl) (by decide) ?_
      exact KT_iret (dk dtk_X5_isStuck 9 rfl) rfl rfl h
set_option maxRecDepth 100000 in
theorem dtk_X5_allLate : dck cX5_allLate [(0, .iconst 0, 1), (1, .istore_n 1, 1), (2, .iconst 0, 1), (3, .istore_n 2, 1), (4, .iload_n 2, 1), (5, .aload_n 0, 1), (6, .getfield 11, 3), (9, .getfield 67, 3), (12, .if_icmp .ge 19, 3), (15, .iload_n 1, 1), (16, .aload_n 0, 1), (17, .iload_n 2, 1), (18, .bipush 7, 2), (20, .invokevirtual 90, 3), (23, .iadd, 1), (24, .istore_n 1, 1), (25, .iinc 2 1, 3), (28, .goto (-24), 3), (31, .iload_n 1, 1), (32, .ireturn, 1)] = true := by decide +kernel
set_option maxRecDepth 100000 in
set_option maxHeartbeats 4000000 in
theorem kg_X5_allLate_0 {G : kG} {q : kP} {d : Nat} {x : gd} {P : Option gv → gd → Prop} (hq : kV q) {o : Nat} (ho : kiM q o)
    (h : KT G q (d + 1) zk_X5_allLate 4 [(0, vr o), (1, vi 0), (2, vi 0)] [] x P) :
    KT G q (d + 1) zk_X5_allLate 0 [(0, vr o)] [] x P := by
  refine T_iconst (v := 0) (dk dtk_X5_allLate 0 rfl) (by decide +kernel) ?_
  refine T_istore_n (lv2 := [(1, vi 0), (0, vr o)]) (dk dtk_X5_allLate 1 rfl) rfl (by decide) rfl ?_
  refine T_iconst (v := 0) (dk dtk_X5_allLate 2 rfl) (by decide +kernel) ?_
  refine T_istore_n (lv2 := [(2, vi 0), (1, vi 0), (0, vr o)]) (dk dtk_X5_allLate 3 rfl) rfl (by decide) rfl ?_
  exact T_sub [2, 1, 0] rfl h
set_option maxRecDepth 100000 in
set_option maxHeartbeats 4000000 in
theorem kg_X5_allLate_4 {G : kG} {q : kP} {d : Nat} {x : gd} {P : Option gv → gd → Prop} (hq : kV q) {o : Nat} (ho : kiM q o) (l1 : Int32) (l2 : Int32)
    (h : (((x.1 60 10) ≤ l2 → P (some (vi l1)) x) ∧ (¬ ((x.1 60 10) ≤ l2) → KT G q d zk_X5_get 0 [(0, vr o), (1, vi l2), (2, vi 7)] [] x (ri (fun r3 x2 => KT G q (d + 1) zk_X5_allLate 4 [(0, vr o), (1, vi (l1 + r3)), (2, vi (l2 + 1))] [] x2 P))))) :
    KT G q (d + 1) zk_X5_allLate 4 [(0, vr o), (1, vi l1), (2, vi l2)] [] x P := by
  refine T_iload_n 2 (dk dtk_X5_allLate 4 rfl) rfl rfl ?_
  refine T_aload_n 0 (dk dtk_X5_allLate 5 rfl) rfl rfl ?_
  refine T_getR o 0 60 (dk dtk_X5_allLate 6 rfl) kfl_X5_11 (kk_M0 ho) (kl_M0 hq ho) (by decide) rfl (kr_M_0 ho) ?_
  refine T_getI 60 10 (dk dtk_X5_allLate 7 rfl) kfl_X5_67 kk_60 (kl_60 hq) (by decide) rfl ?_
  refine T_icmp_ge 31 (dk dtk_X5_allLate 8 rfl) (by decide) (fun c1 => ?_) (fun c1 => ?_)
  · have h := h.1 c1
    refine T_iload_n 1 (dk dtk_X5_allLate 18 rfl) rfl rfl ?_
    exact KT_iret (dk dtk_X5_allLate 19 rfl) rfl rfl h
  · have h := h.2 c1
    refine T_iload_n 1 (dk dtk_X5_allLate 9 rfl) rfl rfl ?_
    refine T_aload_n 0 (dk dtk_X5_allLate 10 rfl) rfl rfl ?_
    refine T_iload_n 2 (dk dtk_X5_allLate 11 rfl) rfl rfl ?_
    refine T_bipush (v := 7) (dk dtk_X5_allLate 12 rfl) (by decide +kernel) ?_
    refine T_sub (lv2 := [(0, vr o), (2, vi l2)]) [0, 2] rfl ?_
    refine KC_Vi [vi l2, vi 7] [vi l1] rfl (dk dtk_X5_allLate 13 rfl) kcv_X5_90 rfl (kk_M0 ho) rfl (kl_M0 hq ho) (Nat.le_of_ble_eq_true rfl) (Nat.le_of_ble_eq_true rfl) (gok_i (av_c (gkr (kl_M0 hq ho)) (av_c rfl av_n)) (as_c rfl as_n)) rfl h (fun r3 x2 h => ?_)
    refine T_iadd (dk dtk_X5_allLate 14 rfl) ?_
    refine T_istore_n (lv2 := [(1, vi (l1 + r3)), (0, vr o), (2, vi l2)]) (dk dtk_X5_allLate 15 rfl) rfl (by decide) rfl ?_
    refine T_iinc (v := l2 + 1) (lv2 := [(2, vi (l2 + 1)), (1, vi (l1 + r3)), (0, vr o)]) 2 (dk dtk_X5_allLate 16 rfl) rfl rfl (by decide) rfl ?_
    refine T_goto 4 (dk dtk_X5_allLate 17 rfl) (by decide) ?_
    exact T_sub [2, 1, 0] rfl h
set_option maxRecDepth 100000 in
theorem dtk_X5_known : dck cX5_known [(0, .aload_n 0, 1), (1, .iload_n 1, 1), (2, .iconst 0, 1), (3, .invokevirtual 90, 3), (6, .istore_n 2, 1), (7, .iload_n 2, 1), (8, .iconst 1, 1), (9, .if_icmp .eq 8, 3), (12, .iload_n 2, 1), (13, .iconst 3, 1), (14, .if_icmp .ne 20, 3), (17, .aload_n 0, 1), (18, .getfield 21, 3), (21, .getfield 105, 3), (24, .aload_n 0, 1), (25, .iload_n 1, 1), (26, .iconst 2, 1), (27, .invokevirtual 90, 3), (30, .iaload, 1), (31, .goto 4, 3), (34, .iconst 0, 1), (35, .ireturn, 1)] = true := by decide +kernel
set_option maxRecDepth 100000 in
set_option maxHeartbeats 4000000 in
theorem kg_X5_known_0 {G : kG} {q : kP} {d : Nat} {x : gd} {P : Option gv → gd → Prop} (hq : kV q) {o : Nat} (ho : kiM q o) (l1 : Int32)
    (h : KT G q d zk_X5_get 0 [(0, vr o), (1, vi l1), (2, vi 0)] [] x (ri (fun r2 x1 => ((r2 = (1 : Int32) → KT G q (d + 1) zk_X5_known 17 [(0, vr o), (1, vi l1)] [] x1 P) ∧ (¬ (r2 = (1 : Int32)) → ((¬ (r2 = (3 : Int32)) → P (some (vi 0)) x1) ∧ (r2 = (3 : Int32) → KT G q (d + 1) zk_X5_known 17 [(0, vr o), (1, vi l1)] [] x1 P))))))) :
    KT G q (d + 1) zk_X5_known 0 [(0, vr o), (1, vi l1)] [] x P := by
  refine T_aload_n 0 (dk dtk_X5_known 0 rfl) rfl rfl ?_
  refine T_iload_n 1 (dk dtk_X5_known 1 rfl) rfl rfl ?_
  refine T_iconst (v := 0) (dk dtk_X5_known 2 rfl) (by decide +kernel) ?_
  refine KC_Vi [vi l1, vi 0] [] rfl (dk dtk_X5_known 3 rfl) kcv_X5_90 rfl (kk_M0 ho) rfl (kl_M0 hq ho) (Nat.le_of_ble_eq_true rfl) (Nat.le_of_ble_eq_true rfl) (gok_i (av_c (gkr (kl_M0 hq ho)) (av_c rfl av_n)) as_n) rfl h (fun r2 x1 h => ?_)
  refine T_istore_n (lv2 := [(2, vi r2), (0, vr o), (1, vi l1)]) (dk dtk_X5_known 4 rfl) rfl (by decide) rfl ?_
  refine T_iload_n 0 (dk dtk_X5_known 5 rfl) rfl rfl ?_
  refine T_iconst (v := 1) (dk dtk_X5_known 6 rfl) (by decide +kernel) ?_
  refine T_icmp_eq 17 (dk dtk_X5_known 7 rfl) (by decide) (fun c3 => ?_) (fun c3 => ?_)
  · have h := h.1 c3
    exact T_sub [1, 2] rfl h
  · have h := h.2 c3
    refine T_iload_n 0 (dk dtk_X5_known 8 rfl) rfl rfl ?_
    refine T_iconst (v := 3) (dk dtk_X5_known 9 rfl) (by decide +kernel) ?_
    refine T_icmp_ne 34 (dk dtk_X5_known 10 rfl) (by decide) (fun c4 => ?_) (fun c4 => ?_)
    · have h := h.1 c4
      refine T_iconst (v := 0) (dk dtk_X5_known 20 rfl) (by decide +kernel) ?_
      exact KT_iret (dk dtk_X5_known 21 rfl) rfl rfl h
    · have h := h.2 c4
      exact T_sub [1, 2] rfl h
set_option maxRecDepth 100000 in
set_option maxHeartbeats 4000000 in
theorem kg_X5_known_17 {G : kG} {q : kP} {d : Nat} {x : gd} {P : Option gv → gd → Prop} (hq : kV q) {o : Nat} (ho : kiM q o) (l1 : Int32)
    (h : KT G q d zk_X5_get 0 [(0, vr o), (1, vi l1), (2, vi 2)] [] x (ri (fun r2 x1 => vp_in r2 400 ∧ P (some (vi (x1.1 83 (r2 : Int32).toNatClampNeg))) x1))) :
    KT G q (d + 1) zk_X5_known 17 [(0, vr o), (1, vi l1)] [] x P := by
  refine T_aload_n 0 (dk dtk_X5_known 11 rfl) rfl rfl ?_
  refine T_getR o 1 80 (dk dtk_X5_known 12 rfl) kfl_X5_21 (kk_M0 ho) (kl_M0 hq ho) (by decide) rfl (kr_M_1 ho) ?_
  refine T_getR 80 2 83 (dk dtk_X5_known 13 rfl) kfl_X5_105 kk_80 (kl_80 hq) (by decide) rfl kr_80_2 ?_
  refine T_aload_n 0 (dk dtk_X5_known 14 rfl) rfl rfl ?_
  refine T_iload_n 1 (dk dtk_X5_known 15 rfl) rfl rfl ?_
  refine T_iconst (v := 2) (dk dtk_X5_known 16 rfl) (by decide +kernel) ?_
  refine T_sub (lv2 := []) [] rfl ?_
  refine KC_Vi [vi l1, vi 2] [vr 83] rfl (dk dtk_X5_known 17 rfl) kcv_X5_90 rfl (kk_M0 ho) rfl (kl_M0 hq ho) (Nat.le_of_ble_eq_true rfl) (Nat.le_of_ble_eq_true rfl) (gok_i av_n (as_c (gkr (kl_83 hq)) as_n)) rfl h (fun r2 x1 h => ?_)
  obtain ⟨h3, h⟩ := h
  refine T_iald 83 400 (dk dtk_X5_known 18 rfl) kk_83 (kl_83 hq) h3 ?_
  refine T_goto 35 (dk dtk_X5_known 19 rfl) (by decide) ?_
  exact KT_iret (dk dtk_X5_known 21 rfl) rfl rfl h
set_option maxRecDepth 100000 in
theorem dtk_X5_lineOf : dck cX5_lineOf [(0, .aload_n 0, 1), (1, .iload_n 1, 1), (2, .invokevirtual 94, 3), (5, .ifCond .eq 20, 3), (8, .aload_n 0, 1), (9, .getfield 21, 3), (12, .getfield 110, 3), (15, .aload_n 0, 1), (16, .iload_n 1, 1), (17, .iconst 2, 1), (18, .invokevirtual 90, 3), (21, .iaload, 1), (22, .goto 4, 3), (25, .iconst 0, 1), (26, .ireturn, 1)] = true := by decide +kernel
set_option maxRecDepth 100000 in
set_option maxHeartbeats 4000000 in
theorem kg_X5_lineOf_0 {G : kG} {q : kP} {d : Nat} {x : gd} {P : Option gv → gd → Prop} (hq : kV q) {o : Nat} (ho : kiM q o) (l1 : Int32)
    (h : KT G q d zk_X5_isGoing 0 [(0, vr o), (1, vi l1)] [] x (ri (fun r2 x1 => ((r2 = (0 : Int32) → P (some (vi 0)) x1) ∧ (¬ (r2 = (0 : Int32)) → KT G q d zk_X5_get 0 [(0, vr o), (1, vi l1), (2, vi 2)] [] x1 (ri (fun r5 x4 => vp_in r5 400 ∧ P (some (vi (x4.1 82 (r5 : Int32).toNatClampNeg))) x4))))))) :
    KT G q (d + 1) zk_X5_lineOf 0 [(0, vr o), (1, vi l1)] [] x P := by
  refine T_aload_n 0 (dk dtk_X5_lineOf 0 rfl) rfl rfl ?_
  refine T_iload_n 1 (dk dtk_X5_lineOf 1 rfl) rfl rfl ?_
  refine KC_Vi [vi l1] [] rfl (dk dtk_X5_lineOf 2 rfl) kcv_X5_94 rfl (kk_M0 ho) rfl (kl_M0 hq ho) (Nat.le_of_ble_eq_true rfl) (Nat.le_of_ble_eq_true rfl) (gok_i (av_c (gkr (kl_M0 hq ho)) (av_c rfl av_n)) as_n) rfl h (fun r2 x1 h => ?_)
  refine T_if_eq 25 (dk dtk_X5_lineOf 3 rfl) (by decide) (fun c3 => ?_) (fun c3 => ?_)
  · have h := h.1 c3
    refine T_iconst (v := 0) (dk dtk_X5_lineOf 13 rfl) (by decide +kernel) ?_
    exact KT_iret (dk dtk_X5_lineOf 14 rfl) rfl rfl h
  · have h := h.2 c3
    refine T_aload_n 0 (dk dtk_X5_lineOf 4 rfl) rfl rfl ?_
    refine T_getR o 1 80 (dk dtk_X5_lineOf 5 rfl) kfl_X5_21 (kk_M0 ho) (kl_M0 hq ho) (by decide) rfl (kr_M_1 ho) ?_
    refine T_getR 80 1 82 (dk dtk_X5_lineOf 6 rfl) kfl_X5_110 kk_80 (kl_80 hq) (by decide) rfl kr_80_1 ?_
    refine T_aload_n 0 (dk dtk_X5_lineOf 7 rfl) rfl rfl ?_
    refine T_iload_n 1 (dk dtk_X5_lineOf 8 rfl) rfl rfl ?_
    refine T_iconst (v := 2) (dk dtk_X5_lineOf 9 rfl) (by decide +kernel) ?_
    refine T_sub (lv2 := []) [] rfl ?_
    refine KC_Vi [vi l1, vi 2] [vr 82] rfl (dk dtk_X5_lineOf 10 rfl) kcv_X5_90 rfl (kk_M0 ho) rfl (kl_M0 hq ho) (Nat.le_of_ble_eq_true rfl) (Nat.le_of_ble_eq_true rfl) (gok_i av_n (as_c (gkr (kl_82 hq)) as_n)) rfl h (fun r5 x4 h => ?_)
    obtain ⟨h6, h⟩ := h
    refine T_iald 82 400 (dk dtk_X5_lineOf 11 rfl) kk_82 (kl_82 hq) h6 ?_
    refine T_goto 26 (dk dtk_X5_lineOf 12 rfl) (by decide) ?_
    exact KT_iret (dk dtk_X5_lineOf 14 rfl) rfl rfl h
set_option maxRecDepth 100000 in
theorem dtk_X5_holder : dck cX5_holder [(0, .aload_n 0, 1), (1, .getfield 29, 3), (4, .aload_n 0, 1), (5, .getfield 49, 3), (8, .iconst 2, 1), (9, .iload_n 1, 1), (10, .imul, 1), (11, .iadd, 1), (12, .iaload, 1), (13, .iconst 1, 1), (14, .isub, 1), (15, .ireturn, 1)] = true := by decide +kernel
set_option maxRecDepth 100000 in
set_option maxHeartbeats 4000000 in
theorem kg_X5_holder_0 {G : kG} {q : kP} {d : Nat} {x : gd} {P : Option gv → gd → Prop} (hq : kV q) {o : Nat} (ho : kiM q o) (l1 : Int32)
    (h : vp_in ((x.1 o 6) + (2 * l1)) 228 ∧ P (some (vi ((x.1 (o + 5) ((x.1 o 6) + (2 * l1) : Int32).toNatClampNeg) - 1))) x) :
    KT G q d zk_X5_holder 0 [(0, vr o), (1, vi l1)] [] x P := by
  refine T_aload_n 0 (dk dtk_X5_holder 0 rfl) rfl rfl ?_
  refine T_getR o 4 (o + 5) (dk dtk_X5_holder 1 rfl) kfl_X5_29 (kk_M0 ho) (kl_M0 hq ho) (by decide) rfl (kr_M_4 ho) ?_
  refine T_aload_n 0 (dk dtk_X5_holder 2 rfl) rfl rfl ?_
  refine T_getI o 6 (dk dtk_X5_holder 3 rfl) kfl_X5_49 (kk_M0 ho) (kl_M0 hq ho) (by decide) rfl ?_
  refine T_iconst (v := 2) (dk dtk_X5_holder 4 rfl) (by decide +kernel) ?_
  refine T_iload_n 1 (dk dtk_X5_holder 5 rfl) rfl rfl ?_
  refine T_imul (dk dtk_X5_holder 6 rfl) ?_
  refine T_iadd (dk dtk_X5_holder 7 rfl) ?_
  obtain ⟨h1, h⟩ := h
  refine T_iald (o + 5) 228 (dk dtk_X5_holder 8 rfl) (kk_M5 ho) (kl_M5 hq ho) h1 ?_
  refine T_iconst (v := 1) (dk dtk_X5_holder 9 rfl) (by decide +kernel) ?_
  refine T_isub (dk dtk_X5_holder 10 rfl) ?_
  exact KT_iret (dk dtk_X5_holder 11 rfl) rfl rfl h
set_option maxRecDepth 100000 in
theorem dtk_X5_often : dck cX5_often [(0, .aload_n 0, 1), (1, .getfield 29, 3), (4, .aload_n 0, 1), (5, .getfield 49, 3), (8, .iconst 2, 1), (9, .iload_n 1, 1), (10, .imul, 1), (11, .iadd, 1), (12, .iconst 1, 1), (13, .iadd, 1), (14, .iaload, 1), (15, .ireturn, 1)] = true := by decide +kernel
set_option maxRecDepth 100000 in
set_option maxHeartbeats 4000000 in
theorem kg_X5_often_0 {G : kG} {q : kP} {d : Nat} {x : gd} {P : Option gv → gd → Prop} (hq : kV q) {o : Nat} (ho : kiM q o) (l1 : Int32)
    (h : vp_in (((x.1 o 6) + (2 * l1)) + 1) 228 ∧ P (some (vi (x.1 (o + 5) (((x.1 o 6) + (2 * l1)) + 1 : Int32).toNatClampNeg))) x) :
    KT G q d zk_X5_often 0 [(0, vr o), (1, vi l1)] [] x P := by
  refine T_aload_n 0 (dk dtk_X5_often 0 rfl) rfl rfl ?_
  refine T_getR o 4 (o + 5) (dk dtk_X5_often 1 rfl) kfl_X5_29 (kk_M0 ho) (kl_M0 hq ho) (by decide) rfl (kr_M_4 ho) ?_
  refine T_aload_n 0 (dk dtk_X5_often 2 rfl) rfl rfl ?_
  refine T_getI o 6 (dk dtk_X5_often 3 rfl) kfl_X5_49 (kk_M0 ho) (kl_M0 hq ho) (by decide) rfl ?_
  refine T_iconst (v := 2) (dk dtk_X5_often 4 rfl) (by decide +kernel) ?_
  refine T_iload_n 1 (dk dtk_X5_often 5 rfl) rfl rfl ?_
  refine T_imul (dk dtk_X5_often 6 rfl) ?_
  refine T_iadd (dk dtk_X5_often 7 rfl) ?_
  refine T_iconst (v := 1) (dk dtk_X5_often 8 rfl) (by decide +kernel) ?_
  refine T_iadd (dk dtk_X5_often 9 rfl) ?_
  obtain ⟨h1, h⟩ := h
  refine T_iald (o + 5) 228 (dk dtk_X5_often 10 rfl) (kk_M5 ho) (kl_M5 hq ho) h1 ?_
  exact KT_iret (dk dtk_X5_often 11 rfl) rfl rfl h
end
