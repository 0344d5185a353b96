section
set_option maxRecDepth 100000 in
theorem dtk_X7_statement : dck cX7_statement [(0, .aload_n 0, 1), (1, .getfield 11, 3), (4, .getfield 232, 3), (7, .aload_n 0, 1), (8, .getfield 52, 3), (11, .iaload, 1), (12, .istore_n 1, 1), (13, .aload_n 0, 1), (14, .invokevirtual 71, 3), (17, .invokestatic 236, 3), (20, .istore_n 2, 1), (21, .iload_n 2, 1), (22, .iconst (-1), 1), (23, .if_icmp .eq 12, 3), (26, .aload_n 0, 1), (27, .getfield 184, 3), (30, .bipush 16, 2), (32, .if_icmp .le 17, 3), (35, .aload_n 0, 1), (36, .iload_n 2, 1), (37, .iconst (-1), 1), (38, .if_icmp .ne 7, 3), (41, .iconst 2, 1), (42, .goto 4, 3), (45, .iconst 3, 1), (46, .invokevirtual 96, 3), (49, .aload_n 0, 1), (50, .invokevirtual 71, 3), (53, .lookupswitch 168 #[(2, 80), (54, 129), (56, 51), (57, 150), (71, 129)], 51), (104, .aload_n 0, 1), (105, .invokevirtual 239, 3), (108, .istore_n 3, 1), (109, .aload_n 0, 1), (110, .iload_n 1, 1), (111, .aload_n 0, 1), (112, .getfield 181, 3), (115, .iconst (-1), 1), (116, .invokevirtual 242, 3), (119, .aload_n 0, 1), (120, .bipush 27, 2), (122, .invokevirtual 115, 3), (125, .aload_n 0, 1), (126, .iload_n 3, 1), (127, .invokevirtual 245, 3), (130, .goto 97, 3), (133, .aload_n 0, 1), (134, .invokevirtual 144, 3), (137, .bipush 25, 2), (139, .if_icmp .ne 11, 3), (142, .aload_n 0, 1), (143, .iload_n 1, 1), (144, .invokevirtual 248, 3), (147, .goto 26, 3), (150, .aload_n 0, 1), (151, .invokevirtual 251, 3), (154, .istore 4, 2), (156, .aload_n 0, 1), (157, .iload_n 1, 1), (158, .aload_n 0, 1), (159, .getfield 15, 3), (162, .getfield 254, 3), (165, .iload 4, 2), (167, .iaload, 1), (168, .iload 4, 2), (170, .invokevirtual 242, 3), (173, .aload_n 0, 1), (174, .bipush 27, 2), (176, .invokevirtual 115, 3), (179, .goto 48, 3), (182, .aload_n 0, 1), (183, .aload_n 0, 1), (184, .invokevirtual 71, 3), (187, .bipush 54, 2), (189, .if_icmp .ne 7, 3), (192, .iconst 3, 1), (193, .goto 4, 3), (196, .iconst 1, 1), (197, .invokevirtual 257, 3), (200, .goto 27, 3), (203, .aload_n 0, 1), (204, .invokevirtual 112, 3), (207, .aload_n 0, 1), (208, .iconst 2, 1), (209, .aload_n 0, 1), (210, .iload_n 2, 1), (211, .iload_n 1, 1), (212, .invokevirtual 260, 3), (215, .invokevirtual 187, 3), (218, .goto 9, 3), (221, .aload_n 0, 1), (222, .iload_n 2, 1), (223, .iload_n 1, 1), (224, .invokevirtual 263, 3), (227, .return_, 1)] = true := by decide +kernel
set_option maxRecDepth 100000 in
set_option maxHeartbeats 4000000 in
theorem kg_X7_statement_0 {G : kG} {q : kP} {d : Nat} {x : gd} {P : Option gv → gd → Prop} {X : String → gd → Prop} (hq : kV q) 
    (h : vp_in (x.1 100 4) 702 ∧ KT G q (d + 6) zk_X7_sort 0 [(0, vr 100)] [] x (ri (fun r3 x2 => KT G q (d + 6) zk_X7_opOf 0 [(0, vi r3)] [] x2 (ri (fun r5 x4 => ((r5 = (-1 : Int32) → KE G q (d + 7) zk_X7_statement 35 [(0, vr 100), (1, vi (x.1 25 (x.1 100 4 : Int32).toNatClampNeg)), (2, vi r5)] [] x4 P X) ∧ (¬ (r5 = (-1 : Int32)) → (((x4.1 100 13) ≤ (16 : Int32) → KE G q (d + 7) zk_X7_statement 49 [(0, vr 100), (1, vi (x.1 25 (x.1 100 4 : Int32).toNatClampNeg)), (2, vi r5)] [] x4 P X) ∧ (¬ ((x4.1 100 13) ≤ (16 : Int32)) → KE G q (d + 7) zk_X7_statement 35 [(0, vr 100), (1, vi (x.1 25 (x.1 100 4 : Int32).toNatClampNeg)), (2, vi r5)] [] x4 P X))))))))) :
    KE G q (d + 7) zk_X7_statement 0 [(0, vr 100)] [] x P X := by
  refine T_aload_n 0 (dk dtk_X7_statement 0 rfl) rfl rfl ?_
  refine T_getR 100 0 20 (dk dtk_X7_statement 1 rfl) kfl_X7_11 kk_100 (kl_100 hq) (by decide) rfl kr_100_0 ?_
  refine T_getR 20 4 25 (dk dtk_X7_statement 2 rfl) kfl_X7_232 kk_20 (kl_20 hq) (by decide) rfl kr_20_4 ?_
  refine T_aload_n 0 (dk dtk_X7_statement 3 rfl) rfl rfl ?_
  refine T_getI 100 4 (dk dtk_X7_statement 4 rfl) kfl_X7_52 kk_100 (kl_100 hq) (by decide) rfl ?_
  obtain ⟨h1, h⟩ := h
  refine T_iald 25 702 (dk dtk_X7_statement 5 rfl) kk_25 (kl_25 hq) h1 ?_
  refine T_istore_n (lv2 := [(1, vi (x.1 25 (x.1 100 4 : Int32).toNatClampNeg)), (0, vr 100)]) (dk dtk_X7_statement 6 rfl) rfl (by decide) rfl ?_
  refine T_aload_n 1 (dk dtk_X7_statement 7 rfl) rfl rfl ?_
  refine KC_Vi [] [] rfl (dk dtk_X7_statement 8 rfl) kcv_X7_71 rfl kk_100 rfl (kl_100 hq) (Nat.le_of_ble_eq_true rfl) (Nat.le_of_ble_eq_true rfl) (gok_i (av_c rfl (av_c (gkr (kl_100 hq)) av_n)) as_n) rfl h (fun r3 x2 h => ?_)
  refine KC_Si [vi r3] [] rfl (dk dtk_X7_statement 9 rfl) kcs_X7_236 rfl (Nat.le_of_ble_eq_true rfl) (Nat.le_of_ble_eq_true rfl) (gok_i (av_c rfl (av_c (gkr (kl_100 hq)) av_n)) as_n) rfl h (fun r5 x4 h => ?_)
  refine T_istore_n (lv2 := [(2, vi r5), (1, vi (x.1 25 (x.1 100 4 : Int32).toNatClampNeg)), (0, vr 100)]) (dk dtk_X7_statement 10 rfl) rfl (by decide) rfl ?_
  refine T_iload_n 0 (dk dtk_X7_statement 11 rfl) rfl rfl ?_
  refine T_iconst (v := (-1)) (dk dtk_X7_statement 12 rfl) (by decide +kernel) ?_
  refine T_icmp_eq 35 (dk dtk_X7_statement 13 rfl) (by decide) (fun c6 => ?_) (fun c6 => ?_)
  · have h := h.1 c6
    exact T_sub [2, 1, 0] rfl h
  · have h := h.2 c6
    refine T_aload_n 2 (dk dtk_X7_statement 14 rfl) rfl rfl ?_
    refine T_getI 100 13 (dk dtk_X7_statement 15 rfl) kfl_X7_184 kk_100 (kl_100 hq) (by decide) rfl ?_
    refine T_bipush (v := 16) (dk dtk_X7_statement 16 rfl) (by decide +kernel) ?_
    refine T_icmp_le 49 (dk dtk_X7_statement 17 rfl) (by decide) (fun c7 => ?_) (fun c7 => ?_)
    · have h := h.1 c7
      exact T_sub [2, 1, 0] rfl h
    · have h := h.2 c7
      exact T_sub [2, 1, 0] rfl h
set_option maxRecDepth 100000 in
set_option maxHeartbeats 4000000 in
theorem kg_X7_statement_35 {G : kG} {q : kP} {d : Nat} {x : gd} {P : Option gv → gd → Prop} {X : String → gd → Prop} (hq : kV q) (l1 : Int32) (l2 : Int32)
    (h : ((¬ (l2 = (-1 : Int32)) → KE G q (d + 7) zk_X7_statement 46 [(0, vr 100), (1, vi l1), (2, vi l2)] [vi 3, vr 100] x P X) ∧ (l2 = (-1 : Int32) → KE G q (d + 7) zk_X7_statement 46 [(0, vr 100), (1, vi l1), (2, vi l2)] [vi 2, vr 100] x P X))) :
    KE G q (d + 7) zk_X7_statement 35 [(0, vr 100), (1, vi l1), (2, vi l2)] [] x P X := by
  refine T_aload_n 0 (dk dtk_X7_statement 18 rfl) rfl rfl ?_
  refine T_iload_n 2 (dk dtk_X7_statement 19 rfl) rfl rfl ?_
  refine T_iconst (v := (-1)) (dk dtk_X7_statement 20 rfl) (by decide +kernel) ?_
  refine T_icmp_ne 45 (dk dtk_X7_statement 21 rfl) (by decide) (fun c1 => ?_) (fun c1 => ?_)
  · have h := h.1 c1
    refine T_iconst (v := 3) (dk dtk_X7_statement 24 rfl) (by decide +kernel) ?_
    exact h
  · have h := h.2 c1
    refine T_iconst (v := 2) (dk dtk_X7_statement 22 rfl) (by decide +kernel) ?_
    refine T_goto 46 (dk dtk_X7_statement 23 rfl) (by decide) ?_
    exact h
set_option maxRecDepth 100000 in
set_option maxHeartbeats 4000000 in
theorem kg_X7_statement_46 {G : kG} {q : kP} {d : Nat} {x : gd} {P : Option gv → gd → Prop} {X : String → gd → Prop} (hq : kV q) (l1 : Int32) (l2 : Int32) (s0 : Int32)
    (h : KE G q (d + 6) zk_X7_refuse 0 [(0, vr 100), (1, vi s0)] [] x (rv (fun x1 => KE G q (d + 7) zk_X7_statement 49 [(0, vr 100), (1, vi l1), (2, vi l2)] [] x1 P X)) X) :
    KE G q (d + 7) zk_X7_statement 46 [(0, vr 100), (1, vi l1), (2, vi l2)] [vi s0, vr 100] x P X := by
  refine KD_Vv [vi s0] [] rfl (dk dtk_X7_statement 25 rfl) kcv_X7_96 rfl kk_100 rfl (kl_100 hq) (Nat.le_of_ble_eq_true rfl) (Nat.le_of_ble_eq_true rfl) (gok_i (av_c (gkr (kl_100 hq)) (av_c rfl (av_c rfl av_n))) as_n) rfl h (fun x1 h => ?_)
  exact h
set_option maxRecDepth 100000 in
set_option maxHeartbeats 4000000 in
theorem kg_X7_statement_49 {G : kG} {q : kP} {d : Nat} {x : gd} {P : Option gv → gd → Prop} {X : String → gd → Prop} (hq : kV q) (l1 : Int32) (l2 : Int32)
    (h : KT G q (d + 6) zk_X7_sort 0 [(0, vr 100)] [] x (ri (fun r2 x1 => (((r2 = 56) → KE G q (d + 6) zk_X7_newLocal 0 [(0, vr 100)] [] x1 (ri (fun r5 x4 => KE G q (d + 6) zk_X7_source 0 [(0, vr 100), (1, vi l1), (2, vi (x4.1 100 9)), (3, vi (-1))] [] x4 (rv (fun x6 => KE G q (d + 6) zk_X7_need 0 [(0, vr 100), (1, vi 27)] [] x6 (rv (fun x7 => KT G q (d + 6) zk_X7_makeKnown 0 [(0, vr 100), (1, vi r5)] [] x7 (rv (fun x8 => P none x8)))) X)) X)) X) ∧ ((r2 = 2) → KT G q (d + 6) zk_X7_sortBehind 0 [(0, vr 100)] [] x1 (ri (fun r11 x10 => ((¬ (r11 = (25 : Int32)) → KE G q (d + 6) zk_X7_setTarget 0 [(0, vr 100)] [] x10 (ri (fun r14 x13 => vp_in r14 702 ∧ KE G q (d + 6) zk_X7_source 0 [(0, vr 100), (1, vi l1), (2, vi (x13.1 43 (r14 : Int32).toNatClampNeg)), (3, vi r14)] [] x13 (rv (fun x16 => KE G q (d + 7) zk_X7_statement 173 [(0, vr 100)] [] x16 P X)) X)) X) ∧ (r11 = (25 : Int32) → KE G q (d + 6) zk_X7_rowStatement 0 [(0, vr 100), (1, vi l1)] [] x10 (rv (fun x17 => KE G q (d + 7) zk_X7_statement 173 [(0, vr 100)] [] x17 P X)) X))))) ∧ ((r2 = 54 ∨ r2 = 71) → KT G q (d + 6) zk_X7_sort 0 [(0, vr 100)] [] x1 (ri (fun r20 x19 => ((¬ (r20 = (54 : Int32)) → KE G q (d + 7) zk_X7_statement 197 [] [vi 1, vr 100] x19 P X) ∧ (r20 = (54 : Int32) → KE G q (d + 7) zk_X7_statement 197 [] [vi 3, vr 100] x19 P X))))) ∧ ((r2 = 57) → KE G q (d + 6) zk_X7_pass 0 [(0, vr 100)] [] x1 (rv (fun x23 => KE G q (d + 6) zk_X7_nameStep 0 [(0, vr 100), (1, vi l2), (2, vi l1)] [] x23 (ri (fun r25 x24 => KE G q (d + 6) zk_X7_openBlock 0 [(0, vr 100), (1, vi 2), (2, vi r25)] [] x24 (rv (fun x26 => P none x26)) X)) X)) X) ∧ ((∀ k ∈ [(56 : Int32), (2 : Int32), (54 : Int32), (71 : Int32), (57 : Int32)], ¬ r2 = k) → KE G q (d + 6) zk_X7_plainStatement 0 [(0, vr 100), (1, vi l2), (2, vi l1)] [] x1 (rv (fun x28 => P none x28)) X))))) :
    KE G q (d + 7) zk_X7_statement 49 [(0, vr 100), (1, vi l1), (2, vi l2)] [] x P X := by
  refine T_aload_n 0 (dk dtk_X7_statement 26 rfl) rfl rfl ?_
  refine KC_Vi [] [] rfl (dk dtk_X7_statement 27 rfl) kcv_X7_71 rfl kk_100 rfl (kl_100 hq) (Nat.le_of_ble_eq_true rfl) (Nat.le_of_ble_eq_true rfl) (gok_i (av_c (gkr (kl_100 hq)) (av_c rfl (av_c rfl av_n))) as_n) rfl h (fun r2 x1 h => ?_)
  by_cases c3 : r2 = 56
  · have h := h.1 c3
    refine T_lookup 51 104 (dk dtk_X7_statement 28 rfl) (by decide +kernel) (by rw [c3]; decide +kernel) (by decide) ?_
    refine T_aload_n 0 (dk dtk_X7_statement 29 rfl) rfl rfl ?_
    refine T_sub (lv2 := [(0, vr 100), (1, vi l1)]) [0, 1] rfl ?_
    refine KD_Vi [] [] rfl (dk dtk_X7_statement 30 rfl) kcv_X7_239 rfl kk_100 rfl (kl_100 hq) (Nat.le_of_ble_eq_true rfl) (Nat.le_of_ble_eq_true rfl) (gok_i (av_c (gkr (kl_100 hq)) (av_c rfl av_n)) as_n) rfl h (fun r5 x4 h => ?_)
    refine T_istore_n (lv2 := [(3, vi r5), (0, vr 100), (1, vi l1)]) (dk dtk_X7_statement 31 rfl) rfl (by decide) rfl ?_
    refine T_aload_n 1 (dk dtk_X7_statement 32 rfl) rfl rfl ?_
    refine T_iload_n 2 (dk dtk_X7_statement 33 rfl) rfl rfl ?_
    refine T_aload_n 1 (dk dtk_X7_statement 34 rfl) rfl rfl ?_
    refine T_getI 100 9 (dk dtk_X7_statement 35 rfl) kfl_X7_181 kk_100 (kl_100 hq) (by decide) rfl ?_
    refine T_iconst (v := (-1)) (dk dtk_X7_statement 36 rfl) (by decide +kernel) ?_
    refine T_sub (lv2 := [(3, vi r5), (0, vr 100)]) [0, 1] rfl ?_
    refine KD_Vv [vi l1, vi (x4.1 100 9), vi (-1)] [] rfl (dk dtk_X7_statement 37 rfl) kcv_X7_242 rfl kk_100 rfl (kl_100 hq) (Nat.le_of_ble_eq_true rfl) (Nat.le_of_ble_eq_true rfl) (gok_i (av_c rfl (av_c (gkr (kl_100 hq)) av_n)) as_n) rfl h (fun x6 h => ?_)
    refine T_aload_n 1 (dk dtk_X7_statement 38 rfl) rfl rfl ?_
    refine T_bipush (v := 27) (dk dtk_X7_statement 39 rfl) (by decide +kernel) ?_
    refine KD_Vv [vi 27] [] rfl (dk dtk_X7_statement 40 rfl) kcv_X7_115 rfl kk_100 rfl (kl_100 hq) (Nat.le_of_ble_eq_true rfl) (Nat.le_of_ble_eq_true rfl) (gok_i (av_c rfl (av_c (gkr (kl_100 hq)) av_n)) as_n) rfl h (fun x7 h => ?_)
    refine T_aload_n 1 (dk dtk_X7_statement 41 rfl) rfl rfl ?_
    refine T_iload_n 0 (dk dtk_X7_statement 42 rfl) rfl rfl ?_
    refine T_sub (lv2 := []) [] rfl ?_
    refine KC_Vv [vi r5] [] rfl (dk dtk_X7_statement 43 rfl) kcv_X7_245 rfl kk_100 rfl (kl_100 hq) (Nat.le_of_ble_eq_true rfl) (Nat.le_of_ble_eq_true rfl) (gok_i av_n as_n) rfl h (fun x8 h => ?_)
    refine T_goto 227 (dk dtk_X7_statement 44 rfl) (by decide) ?_
    exact KE_vret (dk dtk_X7_statement 93 rfl) rfl h
  · have h := h.2
    by_cases c9 : r2 = 2
    · have h := h.1 c9
      refine T_lookup 80 133 (dk dtk_X7_statement 28 rfl) (by decide +kernel) (by rw [c9]; decide +kernel) (by decide) ?_
      refine T_aload_n 0 (dk dtk_X7_statement 45 rfl) rfl rfl ?_
      refine T_sub (lv2 := [(0, vr 100), (1, vi l1)]) [0, 1] rfl ?_
      refine KC_Vi [] [] rfl (dk dtk_X7_statement 46 rfl) kcv_X7_144 rfl kk_100 rfl (kl_100 hq) (Nat.le_of_ble_eq_true rfl) (Nat.le_of_ble_eq_true rfl) (gok_i (av_c (gkr (kl_100 hq)) (av_c rfl av_n)) as_n) rfl h (fun r11 x10 h => ?_)
      refine T_bipush (v := 25) (dk dtk_X7_statement 47 rfl) (by decide +kernel) ?_
      refine T_icmp_ne 150 (dk dtk_X7_statement 48 rfl) (by decide) (fun c12 => ?_) (fun c12 => ?_)
      · have h := h.1 c12
        refine T_aload_n 0 (dk dtk_X7_statement 53 rfl) rfl rfl ?_
        refine KD_Vi [] [] rfl (dk dtk_X7_statement 54 rfl) kcv_X7_251 rfl kk_100 rfl (kl_100 hq) (Nat.le_of_ble_eq_true rfl) (Nat.le_of_ble_eq_true rfl) (gok_i (av_c (gkr (kl_100 hq)) (av_c rfl av_n)) as_n) rfl h (fun r14 x13 h => ?_)
        refine T_istore (lv2 := [(4, vi r14), (0, vr 100), (1, vi l1)]) (dk dtk_X7_statement 55 rfl) (by decide) rfl ?_
        refine T_aload_n 1 (dk dtk_X7_statement 56 rfl) rfl rfl ?_
        refine T_iload_n 2 (dk dtk_X7_statement 57 rfl) rfl rfl ?_
        refine T_aload_n 1 (dk dtk_X7_statement 58 rfl) rfl rfl ?_
        refine T_getR 100 1 40 (dk dtk_X7_statement 59 rfl) kfl_X7_15 kk_100 (kl_100 hq) (by decide) rfl kr_100_1 ?_
        refine T_getR 40 2 43 (dk dtk_X7_statement 60 rfl) kfl_X7_254 kk_40 (kl_40 hq) (by decide) rfl kr_40_2 ?_
        refine T_iload 0 (dk dtk_X7_statement 61 rfl) rfl ?_
        obtain ⟨h15, h⟩ := h
        refine T_iald 43 702 (dk dtk_X7_statement 62 rfl) kk_43 (kl_43 hq) h15 ?_
        refine T_iload 0 (dk dtk_X7_statement 63 rfl) rfl ?_
        refine T_sub (lv2 := [(0, vr 100)]) [1] rfl ?_
        refine KD_Vv [vi l1, vi (x13.1 43 (r14 : Int32).toNatClampNeg), vi r14] [] rfl (dk dtk_X7_statement 64 rfl) kcv_X7_242 rfl kk_100 rfl (kl_100 hq) (Nat.le_of_ble_eq_true rfl) (Nat.le_of_ble_eq_true rfl) (gok_i (av_c (gkr (kl_100 hq)) av_n) as_n) rfl h (fun x16 h => ?_)
        exact h
      · have h := h.2 c12
        refine T_aload_n 0 (dk dtk_X7_statement 49 rfl) rfl rfl ?_
        refine T_iload_n 1 (dk dtk_X7_statement 50 rfl) rfl rfl ?_
        refine T_sub (lv2 := [(0, vr 100)]) [0] rfl ?_
        refine KD_Vv [vi l1] [] rfl (dk dtk_X7_statement 51 rfl) kcv_X7_248 rfl kk_100 rfl (kl_100 hq) (Nat.le_of_ble_eq_true rfl) (Nat.le_of_ble_eq_true rfl) (gok_i (av_c (gkr (kl_100 hq)) av_n) as_n) rfl h (fun x17 h => ?_)
        refine T_goto 173 (dk dtk_X7_statement 52 rfl) (by decide) ?_
        exact h
    · have h := h.2
      by_cases c18 : r2 = 54 ∨ r2 = 71
      · have h := h.1 c18
        refine T_lookup 129 182 (dk dtk_X7_statement 28 rfl) (by decide +kernel) (by rcases c18 with q9 | q9 <;> rw [q9] <;> decide +kernel) (by decide) ?_
        refine T_aload_n 0 (dk dtk_X7_statement 69 rfl) rfl rfl ?_
        refine T_aload_n 0 (dk dtk_X7_statement 70 rfl) rfl rfl ?_
        refine T_sub (lv2 := []) [] rfl ?_
        refine KC_Vi [] [vr 100] rfl (dk dtk_X7_statement 71 rfl) kcv_X7_71 rfl kk_100 rfl (kl_100 hq) (Nat.le_of_ble_eq_true rfl) (Nat.le_of_ble_eq_true rfl) (gok_i av_n (as_c (gkr (kl_100 hq)) as_n)) rfl h (fun r20 x19 h => ?_)
        refine T_bipush (v := 54) (dk dtk_X7_statement 72 rfl) (by decide +kernel) ?_
        refine T_icmp_ne 196 (dk dtk_X7_statement 73 rfl) (by decide) (fun c21 => ?_) (fun c21 => ?_)
        · have h := h.1 c21
          refine T_iconst (v := 1) (dk dtk_X7_statement 76 rfl) (by decide +kernel) ?_
          exact h
        · have h := h.2 c21
          refine T_iconst (v := 3) (dk dtk_X7_statement 74 rfl) (by decide +kernel) ?_
          refine T_goto 197 (dk dtk_X7_statement 75 rfl) (by decide) ?_
          exact h
      · have h := h.2
        by_cases c22 : r2 = 57
        · have h := h.1 c22
          refine T_lookup 150 203 (dk dtk_X7_statement 28 rfl) (by decide +kernel) (by rw [c22]; decide +kernel) (by decide) ?_
          refine T_aload_n 0 (dk dtk_X7_statement 79 rfl) rfl rfl ?_
          refine KD_Vv [] [] rfl (dk dtk_X7_statement 80 rfl) kcv_X7_112 rfl kk_100 rfl (kl_100 hq) (Nat.le_of_ble_eq_true rfl) (Nat.le_of_ble_eq_true rfl) (gok_i (av_c (gkr (kl_100 hq)) (av_c rfl (av_c rfl av_n))) as_n) rfl h (fun x23 h => ?_)
          refine T_aload_n 0 (dk dtk_X7_statement 81 rfl) rfl rfl ?_
          refine T_iconst (v := 2) (dk dtk_X7_statement 82 rfl) (by decide +kernel) ?_
          refine T_aload_n 0 (dk dtk_X7_statement 83 rfl) rfl rfl ?_
          refine T_iload_n 2 (dk dtk_X7_statement 84 rfl) rfl rfl ?_
          refine T_iload_n 1 (dk dtk_X7_statement 85 rfl) rfl rfl ?_
          refine T_sub (lv2 := []) [] rfl ?_
          refine KD_Vi [vi l2, vi l1] [vi 2, vr 100] rfl (dk dtk_X7_statement 86 rfl) kcv_X7_260 rfl kk_100 rfl (kl_100 hq) (Nat.le_of_ble_eq_true rfl) (Nat.le_of_ble_eq_true rfl) (gok_i av_n (as_c rfl (as_c (gkr (kl_100 hq)) as_n))) rfl h (fun r25 x24 h => ?_)
          refine KD_Vv [vi 2, vi r25] [] rfl (dk dtk_X7_statement 87 rfl) kcv_X7_187 rfl kk_100 rfl (kl_100 hq) (Nat.le_of_ble_eq_true rfl) (Nat.le_of_ble_eq_true rfl) (gok_i av_n as_n) rfl h (fun x26 h => ?_)
          refine T_goto 227 (dk dtk_X7_statement 88 rfl) (by decide) ?_
          exact KE_vret (dk dtk_X7_statement 93 rfl) rfl h
        · have h := h.2
          have n27 : ∀ k ∈ [(56 : Int32), (2 : Int32), (54 : Int32), (71 : Int32), (57 : Int32)], ¬ r2 = k := (gno c3 (gno c9 (gno (fun q9 => c18 (Or.inl q9)) (gno (fun q9 => c18 (Or.inr (q9))) (gno c22 gno0)))))
          have h := h n27
          refine T_lookup 168 221 (dk dtk_X7_statement 28 rfl) (by decide +kernel) (glk_d [(56 : Int32), (2 : Int32), (54 : Int32), (71 : Int32), (57 : Int32)] (by decide +kernel) n27) (by decide) ?_
          refine T_aload_n 0 (dk dtk_X7_statement 89 rfl) rfl rfl ?_
          refine T_iload_n 2 (dk dtk_X7_statement 90 rfl) rfl rfl ?_
          refine T_iload_n 1 (dk dtk_X7_statement 91 rfl) rfl rfl ?_
          refine T_sub (lv2 := []) [] rfl ?_
          refine KD_Vv [vi l2, vi l1] [] rfl (dk dtk_X7_statement 92 rfl) kcv_X7_263 rfl kk_100 rfl (kl_100 hq) (Nat.le_of_ble_eq_true rfl) (Nat.le_of_ble_eq_true rfl) (gok_i av_n as_n) rfl h (fun x28 h => ?_)
          exact KE_vret (dk dtk_X7_statement 93 rfl) rfl h
set_option maxRecDepth 100000 in
set_option maxHeartbeats 4000000 in
theorem kg_X7_statement_173 {G : kG} {q : kP} {d : Nat} {x : gd} {P : Option gv → gd → Prop} {X : String → gd → Prop} (hq : kV q) 
    (h : KE G q (d + 6) zk_X7_need 0 [(0, vr 100), (1, vi 27)] [] x (rv (fun x1 => P none x1)) X) :
    KE G q (d + 7) zk_X7_statement 173 [(0, vr 100)] [] x P X := by
  refine T_aload_n 0 (dk dtk_X7_statement 65 rfl) rfl rfl ?_
  refine T_bipush (v := 27) (dk dtk_X7_statement 66 rfl) (by decide +kernel) ?_
  refine T_sub (lv2 := []) [] rfl ?_
  refine KD_Vv [vi 27] [] rfl (dk dtk_X7_statement 67 rfl) kcv_X7_115 rfl kk_100 rfl (kl_100 hq) (Nat.le_of_ble_eq_true rfl) (Nat.le_of_ble_eq_true rfl) (gok_i av_n as_n) rfl h (fun x1 h => ?_)
  refine T_goto 227 (dk dtk_X7_statement 68 rfl) (by decide) ?_
  exact KE_vret (dk dtk_X7_statement 93 rfl) rfl h
set_option maxRecDepth 100000 in
set_option maxHeartbeats 4000000 in
theorem kg_X7_statement_197 {G : kG} {q : kP} {d : Nat} {x : gd} {P : Option gv → gd → Prop} {X : String → gd → Prop} (hq : kV q) (s0 : Int32)
    (h : KE G q (d + 6) zk_X7_testStatement 0 [(0, vr 100), (1, vi s0)] [] x (rv (fun x1 => P none x1)) X) :
    KE G q (d + 7) zk_X7_statement 197 [] [vi s0, vr 100] x P X := by
  refine KD_Vv [vi s0] [] rfl (dk dtk_X7_statement 77 rfl) kcv_X7_257 rfl kk_100 rfl (kl_100 hq) (Nat.le_of_ble_eq_true rfl) (Nat.le_of_ble_eq_true rfl) (gok_i av_n as_n) rfl h (fun x1 h => ?_)
  refine T_goto 227 (dk dtk_X7_statement 78 rfl) (by decide) ?_
  exact KE_vret (dk dtk_X7_statement 93 rfl) rfl h
set_option maxRecDepth 100000 in
theorem dtk_X7_opOf : dck cX7_opOf [(0, .iload_n 0, 1), (1, .tableswitch 336 2 71 #[295, 336, 336, 336, 336, 336, 336, 336, 336, 336, 336, 336, 336, 336, 336, 336, 336, 336, 336, 336, 336, 336, 336, 336, 336, 336, 336, 336, 336, 336, 336, 336, 336, 336, 336, 336, 336, 336, 336, 336, 336, 330, 327, 324, 336, 336, 336, 333, 318, 336, 303, 336, 298, 315, 295, 301, 336, 336, 336, 321, 336, 312, 336, 336, 301, 336, 306, 309, 309, 298], 295), (296, .bipush 16, 2), (298, .ireturn, 1), (299, .bipush 17, 2), (301, .ireturn, 1), (302, .iconst 5, 1), (303, .ireturn, 1), (304, .bipush 6, 2), (306, .ireturn, 1), (307, .bipush 7, 2), (309, .ireturn, 1), (310, .bipush 8, 2), (312, .ireturn, 1), (313, .bipush 9, 2), (315, .ireturn, 1), (316, .bipush 10, 2), (318, .ireturn, 1), (319, .bipush 11, 2), (321, .ireturn, 1), (322, .bipush 12, 2), (324, .ireturn, 1), (325, .bipush 13, 2), (327, .ireturn, 1), (328, .bipush 14, 2), (330, .ireturn, 1), (331, .bipush 18, 2), (333, .ireturn, 1), (334, .bipush 19, 2), (336, .ireturn, 1), (337, .iconst (-1), 1), (338, .ireturn, 1)] = true := by decide +kernel
set_option maxRecDepth 100000 in
set_option maxHeartbeats 4000000 in
theorem kg_X7_opOf_0 {G : kG} {q : kP} {d : Nat} {x : gd} {P : Option gv → gd → Prop} (hq : kV q) (l0 : Int32)
    (h : (((l0 = 2 ∨ l0 = 56) → P (some (vi 16)) x) ∧ ((l0 = 54 ∨ l0 = 71) → P (some (vi 17)) x) ∧ ((l0 = 57 ∨ l0 = 66) → P (some (vi 5)) x) ∧ ((l0 = 52) → P (some (vi 6)) x) ∧ ((l0 = 68) → P (some (vi 7)) x) ∧ ((l0 = 69 ∨ l0 = 70) → P (some (vi 8)) x) ∧ ((l0 = 63) → P (some (vi 9)) x) ∧ ((l0 = 55) → P (some (vi 10)) x) ∧ ((l0 = 50) → P (some (vi 11)) x) ∧ ((l0 = 61) → P (some (vi 12)) x) ∧ ((l0 = 45) → P (some (vi 13)) x) ∧ ((l0 = 44) → P (some (vi 14)) x) ∧ ((l0 = 43) → P (some (vi 18)) x) ∧ ((l0 = 49) → P (some (vi 19)) x) ∧ ((∀ k ∈ [(2 : Int32), (56 : Int32), (54 : Int32), (71 : Int32), (57 : Int32), (66 : Int32), (52 : Int32), (68 : Int32), (69 : Int32), (70 : Int32), (63 : Int32), (55 : Int32), (50 : Int32), (61 : Int32), (45 : Int32), (44 : Int32), (43 : Int32), (49 : Int32)], ¬ l0 = k) → P (some (vi (-1))) x))) :
    KT G q d zk_X7_opOf 0 [(0, vi l0)] [] x P := by
  refine T_iload_n 0 (dk dtk_X7_opOf 0 rfl) rfl rfl ?_
  by_cases c1 : l0 = 2 ∨ l0 = 56
  · have h := h.1 c1
    refine T_table 295 296 (dk dtk_X7_opOf 1 rfl) (by decide) (by rcases c1 with q9 | q9 <;> rw [q9] <;> decide +kernel) (by decide) ?_
    refine T_bipush (v := 16) (dk dtk_X7_opOf 2 rfl) (by decide +kernel) ?_
    exact KT_iret (dk dtk_X7_opOf 3 rfl) rfl rfl h
  · have h := h.2
    by_cases c2 : l0 = 54 ∨ l0 = 71
    · have h := h.1 c2
      refine T_table 298 299 (dk dtk_X7_opOf 1 rfl) (by decide) (by rcases c2 with q9 | q9 <;> rw [q9] <;> decide +kernel) (by decide) ?_
      refine T_bipush (v := 17) (dk dtk_X7_opOf 4 rfl) (by decide +kernel) ?_
      exact KT_iret (dk dtk_X7_opOf 5 rfl) rfl rfl h
    · have h := h.2
      by_cases c3 : l0 = 57 ∨ l0 = 66
      · have h := h.1 c3
        refine T_table 301 302 (dk dtk_X7_opOf 1 rfl) (by decide) (by rcases c3 with q9 | q9 <;> rw [q9] <;> decide +kernel) (by decide) ?_
        refine T_iconst (v := 5) (dk dtk_X7_opOf 6 rfl) (by decide +kernel) ?_
        exact KT_iret (dk dtk_X7_opOf 7 rfl) rfl rfl h
      · have h := h.2
        by_cases c4 : l0 = 52
        · have h := h.1 c4
          refine T_table 303 304 (dk dtk_X7_opOf 1 rfl) (by decide) (by rw [c4]; decide +kernel) (by decide) ?_
          refine T_bipush (v := 6) (dk dtk_X7_opOf 8 rfl) (by decide +kernel) ?_
          exact KT_iret (dk dtk_X7_opOf 9 rfl) rfl rfl h
        · have h := h.2
          by_cases c5 : l0 = 68
          · have h := h.1 c5
            refine T_table 306 307 (dk dtk_X7_opOf 1 rfl) (by decide) (by rw [c5]; decide +kernel) (by decide) ?_
            refine T_bipush (v := 7) (dk dtk_X7_opOf 10 rfl) (by decide +kernel) ?_
            exact KT_iret (dk dtk_X7_opOf 11 rfl) rfl rfl h
          · have h := h.2
            by_cases c6 : l0 = 69 ∨ l0 = 70
            · have h := h.1 c6
              refine T_table 309 310 (dk dtk_X7_opOf 1 rfl) (by decide) (by rcases c6 with q9 | q9 <;> rw [q9] <;> decide +kernel) (by decide) ?_
              refine T_bipush (v := 8) (dk dtk_X7_opOf 12 rfl) (by decide +kernel) ?_
              exact KT_iret (dk dtk_X7_opOf 13 rfl) rfl rfl h
            · have h := h.2
              by_cases c7 : l0 = 63
              · have h := h.1 c7
                refine T_table 312 313 (dk dtk_X7_opOf 1 rfl) (by decide) (by rw [c7]; decide +kernel) (by decide) ?_
                refine T_bipush (v := 9) (dk dtk_X7_opOf 14 rfl) (by decide +kernel) ?_
                exact KT_iret (dk dtk_X7_opOf 15 rfl) rfl rfl h
              · have h := h.2
                by_cases c8 : l0 = 55
                · have h := h.1 c8
                  refine T_table 315 316 (dk dtk_X7_opOf 1 rfl) (by decide) (by rw [c8]; decide +kernel) (by decide) ?_
                  refine T_bipush (v := 10) (dk dtk_X7_opOf 16 rfl) (by decide +kernel) ?_
                  exact KT_iret (dk dtk_X7_opOf 17 rfl) rfl rfl h
                · have h := h.2
                  by_cases c9 : l0 = 50
                  · have h := h.1 c9
                    refine T_table 318 319 (dk dtk_X7_opOf 1 rfl) (by decide) (by rw [c9]; decide +kernel) (by decide) ?_
                    refine T_bipush (v := 11) (dk dtk_X7_opOf 18 rfl) (by decide +kernel) ?_
                    exact KT_iret (dk dtk_X7_opOf 19 rfl) rfl rfl h
                  · have h := h.2
                    by_cases c10 : l0 = 61
                    · have h := h.1 c10
                      refine T_table 321 322 (dk dtk_X7_opOf 1 rfl) (by decide) (by rw [c10]; decide +kernel) (by decide) ?_
                      refine T_bipush (v := 12) (dk dtk_X7_opOf 20 rfl) (by decide +kernel) ?_
                      exact KT_iret (dk dtk_X7_opOf 21 rfl) rfl rfl h
                    · have h := h.2
                      by_cases c11 : l0 = 45
                      · have h := h.1 c11
                        refine T_table 324 325 (dk dtk_X7_opOf 1 rfl) (by decide) (by rw [c11]; decide +kernel) (by decide) ?_
                        refine T_bipush (v := 13) (dk dtk_X7_opOf 22 rfl) (by decide +kernel) ?_
                        exact KT_iret (dk dtk_X7_opOf 23 rfl) rfl rfl h
                      · have h := h.2
                        by_cases c12 : l0 = 44
                        · have h := h.1 c12
                          refine T_table 327 328 (dk dtk_X7_opOf 1 rfl) (by decide) (by rw [c12]; decide +kernel) (by decide) ?_
                          refine T_bipush (v := 14) (dk dtk_X7_opOf 24 rfl) (by decide +kernel) ?_
                          exact KT_iret (dk dtk_X7_opOf 25 rfl) rfl rfl h
                        · have h := h.2
                          by_cases c13 : l0 = 43
                          · have h := h.1 c13
                            refine T_table 330 331 (dk dtk_X7_opOf 1 rfl) (by decide) (by rw [c13]; decide +kernel) (by decide) ?_
                            refine T_bipush (v := 18) (dk dtk_X7_opOf 26 rfl) (by decide +kernel) ?_
                            exact KT_iret (dk dtk_X7_opOf 27 rfl) rfl rfl h
                          · have h := h.2
                            by_cases c14 : l0 = 49
                            · have h := h.1 c14
                              refine T_table 333 334 (dk dtk_X7_opOf 1 rfl) (by decide) (by rw [c14]; decide +kernel) (by decide) ?_
                              refine T_bipush (v := 19) (dk dtk_X7_opOf 28 rfl) (by decide +kernel) ?_
                              exact KT_iret (dk dtk_X7_opOf 29 rfl) rfl rfl h
                            · have h := h.2
                              have n15 : ∀ k ∈ [(2 : Int32), (56 : Int32), (54 : Int32), (71 : Int32), (57 : Int32), (66 : Int32), (52 : Int32), (68 : Int32), (69 : Int32), (70 : Int32), (63 : Int32), (55 : Int32), (50 : Int32), (61 : Int32), (45 : Int32), (44 : Int32), (43 : Int32), (49 : Int32)], ¬ l0 = k := (gno (fun q9 => c1 (Or.inl q9)) (gno (fun q9 => c1 (Or.inr (q9))) (gno (fun q9 => c2 (Or.inl q9)) (gno (fun q9 => c2 (Or.inr (q9))) (gno (fun q9 => c3 (Or.inl q9)) (gno (fun q9 => c3 (Or.inr (q9))) (gno c4 (gno c5 (gno (fun q9 => c6 (Or.inl q9)) (gno (fun q9 => c6 (Or.inr (q9))) (gno c7 (gno c8 (gno c9 (gno c10 (gno c11 (gno c12 (gno c13 (gno c14 gno0))))))))))))))))))
                              have h := h n15
                              refine T_table 336 337 (dk dtk_X7_opOf 1 rfl) (by decide) (gtab_d [(2 : Int32), (56 : Int32), (54 : Int32), (71 : Int32), (57 : Int32), (66 : Int32), (52 : Int32), (68 : Int32), (69 : Int32), (70 : Int32), (63 : Int32), (55 : Int32), (50 : Int32), (61 : Int32), (45 : Int32), (44 : Int32), (43 : Int32), (49 : Int32)] (by decide +kernel) n15) (by decide) ?_
                              refine T_iconst (v := (-1)) (dk dtk_X7_opOf 30 rfl) (by decide +kernel) ?_
                              exact KT_iret (dk dtk_X7_opOf 31 rfl) rfl rfl h
set_option maxRecDepth 100000 in
theorem dtk_X7_newLocal : dck cX7_newLocal [(0, .aload_n 0, 1), (1, .invokevirtual 112, 3), (4, .aload_n 0, 1), (5, .invokevirtual 71, 3), (8, .iconst 2, 1), (9, .if_icmp .ne 17, 3), (12, .aload_n 0, 1), (13, .getfield 178, 3), (16, .bipush 8, 2), (18, .if_icmp .lt 8, 3), (21, .aload_n 0, 1), (22, .iconst 3, 1), (23, .invokevirtual 96, 3), (26, .aload_n 0, 1), (27, .iconst 2, 1), (28, .iconst 0, 1), (29, .invokevirtual 130, 3), (32, .istore_n 1, 1), (33, .aload_n 0, 1), (34, .dup, 1), (35, .getfield 178, 3), (38, .iconst 1, 1), (39, .iadd, 1), (40, .putfield 178, 3), (43, .aload_n 0, 1), (44, .aload_n 0, 1), (45, .getfield 40, 3), (48, .aload_n 0, 1), (49, .getfield 184, 3), (52, .iconst 1, 1), (53, .isub, 1), (54, .iaload, 1), (55, .iload_n 1, 1), (56, .invokevirtual 266, 3), (59, .iconst (-1), 1), (60, .if_icmp .eq 13, 3), (63, .aload_n 0, 1), (64, .getfield 15, 3), (67, .getfield 109, 3), (70, .iload_n 1, 1), (71, .iconst 2, 1), (72, .iastore, 1), (73, .aload_n 0, 1), (74, .bipush 10, 2), (76, .invokevirtual 115, 3), (79, .iload_n 1, 1), (80, .ireturn, 1)] = true := by decide +kernel
set_option maxRecDepth 100000 in
set_option maxHeartbeats 4000000 in
theorem kg_X7_newLocal_0 {G : kG} {q : kP} {d : Nat} {x : gd} {P : Option gv → gd → Prop} {X : String → gd → Prop} (hq : kV q) 
    (h : KE G q (d + 6) zk_X7_pass 0 [(0, vr 100)] [] x (rv (fun x1 => KT G q (d + 6) zk_X7_sort 0 [(0, vr 100)] [] x1 (ri (fun r3 x2 => ((¬ (r3 = (2 : Int32)) → KE G q (d + 7) zk_X7_newLocal 26 [(0, vr 100)] [] x2 P X) ∧ (r3 = (2 : Int32) → (((x2.1 100 7) < (8 : Int32) → KE G q (d + 7) zk_X7_newLocal 26 [(0, vr 100)] [] x2 P X) ∧ (¬ ((x2.1 100 7) < (8 : Int32)) → KE G q (d + 6) zk_X7_refuse 0 [(0, vr 100), (1, vi 3)] [] x2 (rv (fun x6 => KE G q (d + 7) zk_X7_newLocal 26 [(0, vr 100)] [] x6 P X)) X)))))))) X) :
    KE G q (d + 7) zk_X7_newLocal 0 [(0, vr 100)] [] x P X := by
  refine T_aload_n 0 (dk dtk_X7_newLocal 0 rfl) rfl rfl ?_
  refine KD_Vv [] [] rfl (dk dtk_X7_newLocal 1 rfl) kcv_X7_112 rfl kk_100 rfl (kl_100 hq) (Nat.le_of_ble_eq_true rfl) (Nat.le_of_ble_eq_true rfl) (gok_i (av_c (gkr (kl_100 hq)) av_n) as_n) rfl h (fun x1 h => ?_)
  refine T_aload_n 0 (dk dtk_X7_newLocal 2 rfl) rfl rfl ?_
  refine KC_Vi [] [] rfl (dk dtk_X7_newLocal 3 rfl) kcv_X7_71 rfl kk_100 rfl (kl_100 hq) (Nat.le_of_ble_eq_true rfl) (Nat.le_of_ble_eq_true rfl) (gok_i (av_c (gkr (kl_100 hq)) av_n) as_n) rfl h (fun r3 x2 h => ?_)
  refine T_iconst (v := 2) (dk dtk_X7_newLocal 4 rfl) (by decide +kernel) ?_
  refine T_icmp_ne 26 (dk dtk_X7_newLocal 5 rfl) (by decide) (fun c4 => ?_) (fun c4 => ?_)
  · have h := h.1 c4
    exact h
  · have h := h.2 c4
    refine T_aload_n 0 (dk dtk_X7_newLocal 6 rfl) rfl rfl ?_
    refine T_getI 100 7 (dk dtk_X7_newLocal 7 rfl) kfl_X7_178 kk_100 (kl_100 hq) (by decide) rfl ?_
    refine T_bipush (v := 8) (dk dtk_X7_newLocal 8 rfl) (by decide +kernel) ?_
    refine T_icmp_lt 26 (dk dtk_X7_newLocal 9 rfl) (by decide) (fun c5 => ?_) (fun c5 => ?_)
    · have h := h.1 c5
      exact h
    · have h := h.2 c5
      refine T_aload_n 0 (dk dtk_X7_newLocal 10 rfl) rfl rfl ?_
      refine T_iconst (v := 3) (dk dtk_X7_newLocal 11 rfl) (by decide +kernel) ?_
      refine KD_Vv [vi 3] [] rfl (dk dtk_X7_newLocal 12 rfl) kcv_X7_96 rfl kk_100 rfl (kl_100 hq) (Nat.le_of_ble_eq_true rfl) (Nat.le_of_ble_eq_true rfl) (gok_i (av_c (gkr (kl_100 hq)) av_n) as_n) rfl h (fun x6 h => ?_)
      exact h
set_option maxRecDepth 100000 in
set_option maxHeartbeats 4000000 in
theorem kg_X7_newLocal_26 {G : kG} {q : kP} {d : Nat} {x : gd} {P : Option gv → gd → Prop} {X : String → gd → Prop} (hq : kV q) 
    (h : KE G q (d + 6) zk_X7_needFor 0 [(0, vr 100), (1, vi 2), (2, vi 0)] [] x (ri (fun r2 x1 => (∀ x3 : gd, x3 = si x1 100 7 ((x1.1 100 7) + 1) → vp_in ((x3.1 100 13) - 1) 20 ∧ KT G q (d + 6) zk_X7_knownFrom 0 [(0, vr 100), (1, vi (x3.1 113 ((x3.1 100 13) - 1 : Int32).toNatClampNeg)), (2, vi r2)] [] x3 (ri (fun r6 x5 => ((r6 = (-1 : Int32) → KE G q (d + 7) zk_X7_newLocal 73 [(0, vr 100), (1, vi r2)] [] x5 P X) ∧ (¬ (r6 = (-1 : Int32)) → vp_in r2 702 ∧ (∀ x9 : gd, x9 = si x5 42 (r2 : Int32).toNatClampNeg 2 → KE G q (d + 7) zk_X7_newLocal 73 [(0, vr 100), (1, vi r2)] [] x9 P X)))))))) X) :
    KE G q (d + 7) zk_X7_newLocal 26 [(0, vr 100)] [] x P X := by
  refine T_aload_n 0 (dk dtk_X7_newLocal 13 rfl) rfl rfl ?_
  refine T_iconst (v := 2) (dk dtk_X7_newLocal 14 rfl) (by decide +kernel) ?_
  refine T_iconst (v := 0) (dk dtk_X7_newLocal 15 rfl) (by decide +kernel) ?_
  refine KD_Vi [vi 2, vi 0] [] rfl (dk dtk_X7_newLocal 16 rfl) kcv_X7_130 rfl kk_100 rfl (kl_100 hq) (Nat.le_of_ble_eq_true rfl) (Nat.le_of_ble_eq_true rfl) (gok_i (av_c (gkr (kl_100 hq)) av_n) as_n) rfl h (fun r2 x1 h => ?_)
  refine T_istore_n (lv2 := [(1, vi r2), (0, vr 100)]) (dk dtk_X7_newLocal 17 rfl) rfl (by decide) rfl ?_
  refine T_aload_n 1 (dk dtk_X7_newLocal 18 rfl) rfl rfl ?_
  refine T_dup (dk dtk_X7_newLocal 19 rfl) rfl ?_
  refine T_getI 100 7 (dk dtk_X7_newLocal 20 rfl) kfl_X7_178 kk_100 (kl_100 hq) (by decide) rfl ?_
  refine T_iconst (v := 1) (dk dtk_X7_newLocal 21 rfl) (by decide +kernel) ?_
  refine T_iadd (dk dtk_X7_newLocal 22 rfl) ?_
  obtain ⟨x3, ex3⟩ : ∃ z, z = si x1 100 7 ((x1.1 100 7) + 1) := ⟨_, rfl⟩
  have h := h x3 ex3
  refine T_putI 100 7 (dk dtk_X7_newLocal 23 rfl) kfl_X7_178 kk_100 (kl_100 hq) (by decide) rfl ⟨rfl, rfl⟩ ?_
  rw [← ex3]
  refine T_aload_n 1 (dk dtk_X7_newLocal 24 rfl) rfl rfl ?_
  refine T_aload_n 1 (dk dtk_X7_newLocal 25 rfl) rfl rfl ?_
  refine T_getR 100 12 113 (dk dtk_X7_newLocal 26 rfl) kfl_X7_40 kk_100 (kl_100 hq) (by decide) rfl kr_100_12 ?_
  refine T_aload_n 1 (dk dtk_X7_newLocal 27 rfl) rfl rfl ?_
  refine T_getI 100 13 (dk dtk_X7_newLocal 28 rfl) kfl_X7_184 kk_100 (kl_100 hq) (by decide) rfl ?_
  refine T_iconst (v := 1) (dk dtk_X7_newLocal 29 rfl) (by decide +kernel) ?_
  refine T_isub (dk dtk_X7_newLocal 30 rfl) ?_
  obtain ⟨h4, h⟩ := h
  refine T_iald 113 20 (dk dtk_X7_newLocal 31 rfl) kk_113 (kl_113 hq) h4 ?_
  refine T_iload_n 0 (dk dtk_X7_newLocal 32 rfl) rfl rfl ?_
  refine KC_Vi [vi (x3.1 113 ((x3.1 100 13) - 1 : Int32).toNatClampNeg), vi r2] [] rfl (dk dtk_X7_newLocal 33 rfl) kcv_X7_266 rfl kk_100 rfl (kl_100 hq) (Nat.le_of_ble_eq_true rfl) (Nat.le_of_ble_eq_true rfl) (gok_i (av_c rfl (av_c (gkr (kl_100 hq)) av_n)) as_n) rfl h (fun r6 x5 h => ?_)
  refine T_iconst (v := (-1)) (dk dtk_X7_newLocal 34 rfl) (by decide +kernel) ?_
  refine T_icmp_eq 73 (dk dtk_X7_newLocal 35 rfl) (by decide) (fun c7 => ?_) (fun c7 => ?_)
  · have h := h.1 c7
    exact T_sub [1, 0] rfl h
  · have h := h.2 c7
    refine T_aload_n 1 (dk dtk_X7_newLocal 36 rfl) rfl rfl ?_
    refine T_getR 100 1 40 (dk dtk_X7_newLocal 37 rfl) kfl_X7_15 kk_100 (kl_100 hq) (by decide) rfl kr_100_1 ?_
    refine T_getR 40 1 42 (dk dtk_X7_newLocal 38 rfl) kfl_X7_109 kk_40 (kl_40 hq) (by decide) rfl kr_40_1 ?_
    refine T_iload_n 0 (dk dtk_X7_newLocal 39 rfl) rfl rfl ?_
    refine T_iconst (v := 2) (dk dtk_X7_newLocal 40 rfl) (by decide +kernel) ?_
    obtain ⟨h8, h⟩ := h
    obtain ⟨x9, ex9⟩ : ∃ z, z = si x5 42 (r2 : Int32).toNatClampNeg 2 := ⟨_, rfl⟩
    have h := h x9 ex9
    refine T_iast 42 702 (dk dtk_X7_newLocal 41 rfl) kk_42 (kl_42 hq) h8 ?_
    rw [← ex9]
    exact T_sub [1, 0] rfl h
set_option maxRecDepth 100000 in
set_option maxHeartbeats 4000000 in
theorem kg_X7_newLocal_73 {G : kG} {q : kP} {d : Nat} {x : gd} {P : Option gv → gd → Prop} {X : String → gd → Prop} (hq : kV q) (l1 : Int32)
    (h : KE G q (d + 6) zk_X7_need 0 [(0, vr 100), (1, vi 10)] [] x (rv (fun x1 => P (some (vi l1)) x1)) X) :
    KE G q (d + 7) zk_X7_newLocal 73 [(0, vr 100), (1, vi l1)] [] x P X := by
  refine T_aload_n 0 (dk dtk_X7_newLocal 42 rfl) rfl rfl ?_
  refine T_bipush (v := 10) (dk dtk_X7_newLocal 43 rfl) (by decide +kernel) ?_
  refine T_sub (lv2 := [(1, vi l1)]) [1] rfl ?_
  refine KD_Vv [vi 10] [] rfl (dk dtk_X7_newLocal 44 rfl) kcv_X7_115 rfl kk_100 rfl (kl_100 hq) (Nat.le_of_ble_eq_true rfl) (Nat.le_of_ble_eq_true rfl) (gok_i (av_c rfl av_n) as_n) rfl h (fun x1 h => ?_)
  refine T_iload_n 0 (dk dtk_X7_newLocal 45 rfl) rfl rfl ?_
  exact KE_iret (dk dtk_X7_newLocal 46 rfl) rfl rfl h
set_option maxRecDepth 100000 in
theorem dtk_X7_makeKnown : dck cX7_makeKnown [(0, .aload_n 0, 1), (1, .getfield 181, 3), (4, .bipush 8, 2), (6, .if_icmp .ge 23, 3), (9, .aload_n 0, 1), (10, .getfield 30, 3), (13, .aload_n 0, 1), (14, .getfield 181, 3), (17, .iload_n 1, 1), (18, .iastore, 1), (19, .aload_n 0, 1), (20, .dup, 1), (21, .getfield 181, 3), (24, .iconst 1, 1), (25, .iadd, 1), (26, .putfield 181, 3), (29, .aload_n 0, 1), (30, .getfield 19, 3), (33, .aload_n 0, 1), (34, .getfield 19, 3), (37, .getfield 269, 3), (40, .aload_n 0, 1), (41, .getfield 181, 3), (44, .invokestatic 121, 3), (47, .putfield 269, 3), (50, .return_, 1)] = true := by decide +kernel
set_option maxRecDepth 100000 in
set_option maxHeartbeats 4000000 in
theorem kg_X7_makeKnown_0 {G : kG} {q : kP} {d : Nat} {x : gd} {P : Option gv → gd → Prop} (hq : kV q) (l1 : Int32)
    (h : (((8 : Int32) ≤ (x.1 100 9) → KT G q (d + 1) zk_X7_makeKnown 29 [(0, vr 100)] [] x P) ∧ (¬ ((8 : Int32) ≤ (x.1 100 9)) → vp_in (x.1 100 9) 8 ∧ (∀ x3 : gd, x3 = si x 109 (x.1 100 9 : Int32).toNatClampNeg l1 → (∀ x4 : gd, x4 = si x3 100 9 ((x3.1 100 9) + 1) → KT G q (d + 1) zk_X7_makeKnown 29 [(0, vr 100)] [] x4 P))))) :
    KT G q (d + 1) zk_X7_makeKnown 0 [(0, vr 100), (1, vi l1)] [] x P := by
  refine T_aload_n 0 (dk dtk_X7_makeKnown 0 rfl) rfl rfl ?_
  refine T_getI 100 9 (dk dtk_X7_makeKnown 1 rfl) kfl_X7_181 kk_100 (kl_100 hq) (by decide) rfl ?_
  refine T_bipush (v := 8) (dk dtk_X7_makeKnown 2 rfl) (by decide +kernel) ?_
  refine T_icmp_ge 29 (dk dtk_X7_makeKnown 3 rfl) (by decide) (fun c1 => ?_) (fun c1 => ?_)
  · have h := h.1 c1
    exact T_sub [0] rfl h
  · have h := h.2 c1
    refine T_aload_n 0 (dk dtk_X7_makeKnown 4 rfl) rfl rfl ?_
    refine T_getR 100 8 109 (dk dtk_X7_makeKnown 5 rfl) kfl_X7_30 kk_100 (kl_100 hq) (by decide) rfl kr_100_8 ?_
    refine T_aload_n 0 (dk dtk_X7_makeKnown 6 rfl) rfl rfl ?_
    refine T_getI 100 9 (dk dtk_X7_makeKnown 7 rfl) kfl_X7_181 kk_100 (kl_100 hq) (by decide) rfl ?_
    refine T_iload_n 1 (dk dtk_X7_makeKnown 8 rfl) rfl rfl ?_
    obtain ⟨h2, h⟩ := h
    obtain ⟨x3, ex3⟩ : ∃ z, z = si x 109 (x.1 100 9 : Int32).toNatClampNeg l1 := ⟨_, rfl⟩
    have h := h x3 ex3
    refine T_iast 109 8 (dk dtk_X7_makeKnown 9 rfl) kk_109 (kl_109 hq) h2 ?_
    rw [← ex3]
    refine T_aload_n 0 (dk dtk_X7_makeKnown 10 rfl) rfl rfl ?_
    refine T_dup (dk dtk_X7_makeKnown 11 rfl) rfl ?_
    refine T_getI 100 9 (dk dtk_X7_makeKnown 12 rfl) kfl_X7_181 kk_100 (kl_100 hq) (by decide) rfl ?_
    refine T_iconst (v := 1) (dk dtk_X7_makeKnown 13 rfl) (by decide +kernel) ?_
    refine T_iadd (dk dtk_X7_makeKnown 14 rfl) ?_
    obtain ⟨x4, ex4⟩ : ∃ z, z = si x3 100 9 ((x3.1 100 9) + 1) := ⟨_, rfl⟩
    have h := h x4 ex4
    refine T_putI 100 9 (dk dtk_X7_makeKnown 15 rfl) kfl_X7_181 kk_100 (kl_100 hq) (by decide) rfl ⟨rfl, rfl⟩ ?_
    rw [← ex4]
    exact T_sub [0] rfl h
set_option maxRecDepth 100000 in
set_option maxHeartbeats 4000000 in
theorem kg_X7_makeKnown_29 {G : kG} {q : kP} {d : Nat} {x : gd} {P : Option gv → gd → Prop} (hq : kV q) 
    (h : (∀ r2 : Int32, (r2.toInt = Int32.toInt (x.1 60 13) ∨ r2.toInt = Int32.toInt (x.1 100 9)) → Int32.toInt (x.1 60 13) ≤ r2.toInt → Int32.toInt (x.1 100 9) ≤ r2.toInt → (∀ x6 : gd, x6 = si x 60 13 r2 → P none x6))) :
    KT G q (d + 1) zk_X7_makeKnown 29 [(0, vr 100)] [] x P := by
  refine T_aload_n 0 (dk dtk_X7_makeKnown 16 rfl) rfl rfl ?_
  refine T_getR 100 2 60 (dk dtk_X7_makeKnown 17 rfl) kfl_X7_19 kk_100 (kl_100 hq) (by decide) rfl kr_100_2 ?_
  refine T_aload_n 0 (dk dtk_X7_makeKnown 18 rfl) rfl rfl ?_
  refine T_getR 100 2 60 (dk dtk_X7_makeKnown 19 rfl) kfl_X7_19 kk_100 (kl_100 hq) (by decide) rfl kr_100_2 ?_
  refine T_getI 60 13 (dk dtk_X7_makeKnown 20 rfl) kfl_X7_269 kk_60 (kl_60 hq) (by decide) rfl ?_
  refine T_aload_n 0 (dk dtk_X7_makeKnown 21 rfl) rfl rfl ?_
  refine T_getI 100 9 (dk dtk_X7_makeKnown 22 rfl) kfl_X7_181 kk_100 (kl_100 hq) (by decide) rfl ?_
  refine T_sub (lv2 := []) [] rfl ?_
  refine T_max (dk dtk_X7_makeKnown 23 rfl) kmx_X7_121 (by omega) (Nat.le_of_ble_eq_true rfl) (fun r2 h3 h4 h5 => ?_)
  have h := h r2 h3 h4 h5
  obtain ⟨x6, ex6⟩ : ∃ z, z = si x 60 13 r2 := ⟨_, rfl⟩
  have h := h x6 ex6
  refine T_putI 60 13 (dk dtk_X7_makeKnown 24 rfl) kfl_X7_269 kk_60 (kl_60 hq) (by decide) rfl ⟨rfl, rfl⟩ ?_
  rw [← ex6]
  exact KT_vret (dk dtk_X7_makeKnown 25 rfl) rfl h
set_option maxRecDepth 100000 in
theorem dtk_X7_knownFrom : dck cX7_knownFrom [(0, .aload_n 0, 1), (1, .getfield 181, 3), (4, .iconst 1, 1), (5, .isub, 1), (6, .istore_n 3, 1), (7, .iload_n 3, 1), (8, .iload_n 1, 1), (9, .if_icmp .lt 28, 3), (12, .aload_n 0, 1), (13, .getfield 11, 3), (16, .aload_n 0, 1), (17, .getfield 30, 3), (20, .iload_n 3, 1), (21, .iaload, 1), (22, .iload_n 2, 1), (23, .invokevirtual 272, 3), (26, .ifCond .eq 5, 3), (29, .iload_n 3, 1), (30, .ireturn, 1), (31, .iinc 3 (-1), 3), (34, .goto (-27), 3), (37, .iconst (-1), 1), (38, .ireturn, 1)] = true := by decide +kernel
set_option maxRecDepth 100000 in
set_option maxHeartbeats 4000000 in
theorem kg_X7_knownFrom_0 {G : kG} {q : kP} {d : Nat} {x : gd} {P : Option gv → gd → Prop} (hq : kV q) (l1 : Int32) (l2 : Int32)
    (h : KT G q (d + 1) zk_X7_knownFrom 7 [(0, vr 100), (1, vi l1), (2, vi l2), (3, vi ((x.1 100 9) - 1))] [] x P) :
    KT G q (d + 1) zk_X7_knownFrom 0 [(0, vr 100), (1, vi l1), (2, vi l2)] [] x P := by
  refine T_aload_n 0 (dk dtk_X7_knownFrom 0 rfl) rfl rfl ?_
  refine T_getI 100 9 (dk dtk_X7_knownFrom 1 rfl) kfl_X7_181 kk_100 (kl_100 hq) (by decide) rfl ?_
  refine T_iconst (v := 1) (dk dtk_X7_knownFrom 2 rfl) (by decide +kernel) ?_
  refine T_isub (dk dtk_X7_knownFrom 3 rfl) ?_
  refine T_istore_n (lv2 := [(3, vi ((x.1 100 9) - 1)), (0, vr 100), (1, vi l1), (2, vi l2)]) (dk dtk_X7_knownFrom 4 rfl) rfl (by decide) rfl ?_
  exact T_sub [1, 2, 3, 0] rfl h
set_option maxRecDepth 100000 in
set_option maxHeartbeats 4000000 in
theorem kg_X7_knownFrom_7 {G : kG} {q : kP} {d : Nat} {x : gd} {P : Option gv → gd → Prop} (hq : kV q) (l1 : Int32) (l2 : Int32) (l3 : Int32)
    (h : ((l3 < l1 → P (some (vi (-1))) x) ∧ (¬ (l3 < l1) → vp_in l3 8 ∧ KT G q d zk_X9_sameName 0 [(0, vr 20), (1, vi (x.1 109 (l3 : Int32).toNatClampNeg)), (2, vi l2)] [] x (ri (fun r4 x3 => ((r4 = (0 : Int32) → KT G q (d + 1) zk_X7_knownFrom 7 [(0, vr 100), (1, vi l1), (2, vi l2), (3, vi (l3 + (-1)))] [] x3 P) ∧ (¬ (r4 = (0 : Int32)) → P (some (vi l3)) x3))))))) :
    KT G q (d + 1) zk_X7_knownFrom 7 [(0, vr 100), (1, vi l1), (2, vi l2), (3, vi l3)] [] x P := by
  refine T_iload_n 3 (dk dtk_X7_knownFrom 5 rfl) rfl rfl ?_
  refine T_iload_n 1 (dk dtk_X7_knownFrom 6 rfl) rfl rfl ?_
  refine T_icmp_lt 37 (dk dtk_X7_knownFrom 7 rfl) (by decide) (fun c1 => ?_) (fun c1 => ?_)
  · have h := h.1 c1
    refine T_iconst (v := (-1)) (dk dtk_X7_knownFrom 21 rfl) (by decide +kernel) ?_
    exact KT_iret (dk dtk_X7_knownFrom 22 rfl) rfl rfl h
  · have h := h.2 c1
    refine T_aload_n 0 (dk dtk_X7_knownFrom 8 rfl) rfl rfl ?_
    refine T_getR 100 0 20 (dk dtk_X7_knownFrom 9 rfl) kfl_X7_11 kk_100 (kl_100 hq) (by decide) rfl kr_100_0 ?_
    refine T_aload_n 0 (dk dtk_X7_knownFrom 10 rfl) rfl rfl ?_
    refine T_getR 100 8 109 (dk dtk_X7_knownFrom 11 rfl) kfl_X7_30 kk_100 (kl_100 hq) (by decide) rfl kr_100_8 ?_
    refine T_iload_n 3 (dk dtk_X7_knownFrom 12 rfl) rfl rfl ?_
    obtain ⟨h2, h⟩ := h
    refine T_iald 109 8 (dk dtk_X7_knownFrom 13 rfl) kk_109 (kl_109 hq) h2 ?_
    refine T_iload_n 2 (dk dtk_X7_knownFrom 14 rfl) rfl rfl ?_
    refine KC_Vi [vi (x.1 109 (l3 : Int32).toNatClampNeg), vi l2] [] rfl (dk dtk_X7_knownFrom 15 rfl) kcv_X7_272 rfl kk_20 rfl (kl_20 hq) (Nat.le_of_ble_eq_true rfl) (Nat.le_of_ble_eq_true rfl) (gok_i (av_c (gkr (kl_100 hq)) (av_c rfl (av_c rfl (av_c rfl av_n)))) as_n) rfl h (fun r4 x3 h => ?_)
    refine T_if_eq 31 (dk dtk_X7_knownFrom 16 rfl) (by decide) (fun c5 => ?_) (fun c5 => ?_)
    · have h := h.1 c5
      refine T_iinc (v := l3 + (-1)) (lv2 := [(3, vi (l3 + (-1))), (0, vr 100), (1, vi l1), (2, vi l2)]) 3 (dk dtk_X7_knownFrom 19 rfl) rfl rfl (by decide) rfl ?_
      refine T_goto 7 (dk dtk_X7_knownFrom 20 rfl) (by decide) ?_
      exact T_sub [1, 2, 3, 0] rfl h
    · have h := h.2 c5
      refine T_iload_n 3 (dk dtk_X7_knownFrom 17 rfl) rfl rfl ?_
      exact KT_iret (dk dtk_X7_knownFrom 18 rfl) rfl rfl h
set_option maxRecDepth 100000 in
theorem dtk_X7_setTarget : dck cX7_setTarget [(0, .aload_n 0, 1), (1, .iconst 2, 1), (2, .iconst 0, 1), (3, .invokevirtual 130, 3), (6, .istore_n 1, 1), (7, .aload_n 0, 1), (8, .getfield 15, 3), (11, .getfield 254, 3), (14, .iload_n 1, 1), (15, .aload_n 0, 1), (16, .iconst 0, 1), (17, .iload_n 1, 1), (18, .invokevirtual 266, 3), (21, .iastore, 1), (22, .aload_n 0, 1), (23, .getfield 15, 3), (26, .getfield 254, 3), (29, .iload_n 1, 1), (30, .iaload, 1), (31, .iconst (-1), 1), (32, .if_icmp .ne 14, 3), (35, .aload_n 0, 1), (36, .getfield 15, 3), (39, .getfield 109, 3), (42, .iload_n 1, 1), (43, .bipush 6, 2), (45, .iastore, 1), (46, .aload_n 0, 1), (47, .bipush 10, 2), (49, .invokevirtual 115, 3), (52, .iload_n 1, 1), (53, .ireturn, 1)] = true := by decide +kernel
set_option maxRecDepth 100000 in
set_option maxHeartbeats 4000000 in
theorem kg_X7_setTarget_0 {G : kG} {q : kP} {d : Nat} {x : gd} {P : Option gv → gd → Prop} {X : String → gd → Prop} (hq : kV q) 
    (h : KE G q (d + 6) zk_X7_needFor 0 [(0, vr 100), (1, vi 2), (2, vi 0)] [] x (ri (fun r2 x1 => KT G q (d + 6) zk_X7_knownFrom 0 [(0, vr 100), (1, vi 0), (2, vi r2)] [] x1 (ri (fun r4 x3 => vp_in r2 702 ∧ (∀ x6 : gd, x6 = si x3 43 (r2 : Int32).toNatClampNeg r4 → vp_in r2 702 ∧ ((¬ ((x6.1 43 (r2 : Int32).toNatClampNeg) = (-1 : Int32)) → KE G q (d + 7) zk_X7_setTarget 46 [(0, vr 100), (1, vi r2)] [] x6 P X) ∧ ((x6.1 43 (r2 : Int32).toNatClampNeg) = (-1 : Int32) → vp_in r2 702 ∧ (∀ x10 : gd, x10 = si x6 42 (r2 : Int32).toNatClampNeg 6 → KE G q (d + 7) zk_X7_setTarget 46 [(0, vr 100), (1, vi r2)] [] x10 P X)))))))) X) :
    KE G q (d + 7) zk_X7_setTarget 0 [(0, vr 100)] [] x P X := by
  refine T_aload_n 0 (dk dtk_X7_setTarget 0 rfl) rfl rfl ?_
  refine T_iconst (v := 2) (dk dtk_X7_setTarget 1 rfl) (by decide +kernel) ?_
  refine T_iconst (v := 0) (dk dtk_X7_setTarget 2 rfl) (by decide +kernel) ?_
  refine KD_Vi [vi 2, vi 0] [] rfl (dk dtk_X7_setTarget 3 rfl) kcv_X7_130 rfl kk_100 rfl (kl_100 hq) (Nat.le_of_ble_eq_true rfl) (Nat.le_of_ble_eq_true rfl) (gok_i (av_c (gkr (kl_100 hq)) av_n) as_n) rfl h (fun r2 x1 h => ?_)
  refine T_istore_n (lv2 := [(1, vi r2), (0, vr 100)]) (dk dtk_X7_setTarget 4 rfl) rfl (by decide) rfl ?_
  refine T_aload_n 1 (dk dtk_X7_setTarget 5 rfl) rfl rfl ?_
  refine T_getR 100 1 40 (dk dtk_X7_setTarget 6 rfl) kfl_X7_15 kk_100 (kl_100 hq) (by decide) rfl kr_100_1 ?_
  refine T_getR 40 2 43 (dk dtk_X7_setTarget 7 rfl) kfl_X7_254 kk_40 (kl_40 hq) (by decide) rfl kr_40_2 ?_
  refine T_iload_n 0 (dk dtk_X7_setTarget 8 rfl) rfl rfl ?_
  refine T_aload_n 1 (dk dtk_X7_setTarget 9 rfl) rfl rfl ?_
  refine T_iconst (v := 0) (dk dtk_X7_setTarget 10 rfl) (by decide +kernel) ?_
  refine T_iload_n 0 (dk dtk_X7_setTarget 11 rfl) rfl rfl ?_
  refine KC_Vi [vi 0, vi r2] [vi r2, vr 43] rfl (dk dtk_X7_setTarget 12 rfl) kcv_X7_266 rfl kk_100 rfl (kl_100 hq) (Nat.le_of_ble_eq_true rfl) (Nat.le_of_ble_eq_true rfl) (gok_i (av_c rfl (av_c (gkr (kl_100 hq)) av_n)) (as_c rfl (as_c (gkr (kl_43 hq)) as_n))) rfl h (fun r4 x3 h => ?_)
  obtain ⟨h5, h⟩ := h
  obtain ⟨x6, ex6⟩ : ∃ z, z = si x3 43 (r2 : Int32).toNatClampNeg r4 := ⟨_, rfl⟩
  have h := h x6 ex6
  refine T_iast 43 702 (dk dtk_X7_setTarget 13 rfl) kk_43 (kl_43 hq) h5 ?_
  rw [← ex6]
  refine T_aload_n 1 (dk dtk_X7_setTarget 14 rfl) rfl rfl ?_
  refine T_getR 100 1 40 (dk dtk_X7_setTarget 15 rfl) kfl_X7_15 kk_100 (kl_100 hq) (by decide) rfl kr_100_1 ?_
  refine T_getR 40 2 43 (dk dtk_X7_setTarget 16 rfl) kfl_X7_254 kk_40 (kl_40 hq) (by decide) rfl kr_40_2 ?_
  refine T_iload_n 0 (dk dtk_X7_setTarget 17 rfl) rfl rfl ?_
  obtain ⟨h7, h⟩ := h
  refine T_iald 43 702 (dk dtk_X7_setTarget 18 rfl) kk_43 (kl_43 hq) h7 ?_
  refine T_iconst (v := (-1)) (dk dtk_X7_setTarget 19 rfl) (by decide +kernel) ?_
  refine T_icmp_ne 46 (dk dtk_X7_setTarget 20 rfl) (by decide) (fun c8 => ?_) (fun c8 => ?_)
  · have h := h.1 c8
    exact T_sub [1, 0] rfl h
  · have h := h.2 c8
    refine T_aload_n 1 (dk dtk_X7_setTarget 21 rfl) rfl rfl ?_
    refine T_getR 100 1 40 (dk dtk_X7_setTarget 22 rfl) kfl_X7_15 kk_100 (kl_100 hq) (by decide) rfl kr_100_1 ?_
    refine T_getR 40 1 42 (dk dtk_X7_setTarget 23 rfl) kfl_X7_109 kk_40 (kl_40 hq) (by decide) rfl kr_40_1 ?_
    refine T_iload_n 0 (dk dtk_X7_setTarget 24 rfl) rfl rfl ?_
    refine T_bipush (v := 6) (dk dtk_X7_setTarget 25 rfl) (by decide +kernel) ?_
    obtain ⟨h9, h⟩ := h
    obtain ⟨x10, ex10⟩ : ∃ z, z = si x6 42 (r2 : Int32).toNatClampNeg 6 := ⟨_, rfl⟩
    have h := h x10 ex10
    refine T_iast 42 702 (dk dtk_X7_setTarget 26 rfl) kk_42 (kl_42 hq) h9 ?_
    rw [← ex10]
    exact T_sub [1, 0] rfl h
set_option maxRecDepth 100000 in
set_option maxHeartbeats 4000000 in
theorem kg_X7_setTarget_46 {G : kG} {q : kP} {d : Nat} {x : gd} {P : Option gv → gd → Prop} {X : String → gd → Prop} (hq : kV q) (l1 : Int32)
    (h : KE G q (d + 6) zk_X7_need 0 [(0, vr 100), (1, vi 10)] [] x (rv (fun x1 => P (some (vi l1)) x1)) X) :
    KE G q (d + 7) zk_X7_setTarget 46 [(0, vr 100), (1, vi l1)] [] x P X := by
  refine T_aload_n 0 (dk dtk_X7_setTarget 27 rfl) rfl rfl ?_
  refine T_bipush (v := 10) (dk dtk_X7_setTarget 28 rfl) (by decide +kernel) ?_
  refine T_sub (lv2 := [(1, vi l1)]) [1] rfl ?_
  refine KD_Vv [vi 10] [] rfl (dk dtk_X7_setTarget 29 rfl) kcv_X7_115 rfl kk_100 rfl (kl_100 hq) (Nat.le_of_ble_eq_true rfl) (Nat.le_of_ble_eq_true rfl) (gok_i (av_c rfl av_n) as_n) rfl h (fun x1 h => ?_)
  refine T_iload_n 0 (dk dtk_X7_setTarget 30 rfl) rfl rfl ?_
  exact KE_iret (dk dtk_X7_setTarget 31 rfl) rfl rfl h
set_option maxRecDepth 100000 in
theorem dtk_X7_rowStatement : dck cX7_rowStatement [(0, .aload_n 0, 1), (1, .iconst 2, 1), (2, .bipush 7, 2), (4, .invokevirtual 130, 3), (7, .istore_n 2, 1), (8, .aload_n 0, 1), (9, .bipush 25, 2), (11, .invokevirtual 115, 3), (14, .aload_n 0, 1), (15, .aload_n 0, 1), (16, .getfield 184, 3), (19, .iconst 1, 1), (20, .iadd, 1), (21, .invokevirtual 201, 3), (24, .istore_n 3, 1), (25, .aload_n 0, 1), (26, .bipush 26, 2), (28, .invokevirtual 115, 3), (31, .aload_n 0, 1), (32, .bipush 10, 2), (34, .invokevirtual 115, 3), (37, .aload_n 0, 1), (38, .aload_n 0, 1), (39, .getfield 184, 3), (42, .iconst 1, 1), (43, .iadd, 1), (44, .invokevirtual 201, 3), (47, .istore 4, 2), (49, .aload_n 0, 1), (50, .getfield 29, 3), (53, .iconst 1, 1), (54, .iload_n 1, 1), (55, .aload_n 0, 1), (56, .getfield 181, 3), (59, .invokevirtual 191, 3), (62, .istore 5, 2), (64, .aload_n 0, 1), (65, .getfield 29, 3), (68, .getfield 220, 3), (71, .iload 5, 2), (73, .iload_n 2, 1), (74, .iastore, 1), (75, .aload_n 0, 1), (76, .getfield 29, 3), (79, .getfield 276, 3), (82, .iload 5, 2), (84, .iload_n 3, 1), (85, .iastore, 1), (86, .aload_n 0, 1), (87, .getfield 29, 3), (90, .getfield 233, 3), (93, .iload 5, 2), (95, .iload 4, 2), (97, .iastore, 1), (98, .return_, 1)] = true := by decide +kernel
set_option maxRecDepth 100000 in
set_option maxHeartbeats 4000000 in
theorem kg_X7_rowStatement_0 {G : kG} {q : kP} {d : Nat} {x : gd} {P : Option gv → gd → Prop} {X : String → gd → Prop} (hq : kV q) (l1 : Int32)
    (h : KE G q (d + 6) zk_X7_needFor 0 [(0, vr 100), (1, vi 2), (2, vi 7)] [] x (ri (fun r2 x1 => KE G q (d + 6) zk_X7_need 0 [(0, vr 100), (1, vi 25)] [] x1 (rv (fun x3 => KE G q (d + 6) zk_X7_sum 0 [(0, vr 100), (1, vi ((x3.1 100 13) + 1))] [] x3 (ri (fun r5 x4 => KE G q (d + 6) zk_X7_need 0 [(0, vr 100), (1, vi 26)] [] x4 (rv (fun x6 => KE G q (d + 6) zk_X7_need 0 [(0, vr 100), (1, vi 10)] [] x6 (rv (fun x7 => KE G q (d + 6) zk_X7_sum 0 [(0, vr 100), (1, vi ((x7.1 100 13) + 1))] [] x7 (ri (fun r9 x8 => KT G q (d + 6) zk_X8_add 0 [(0, vr 80), (1, vi 1), (2, vi l1), (3, vi (x8.1 100 9))] [] x8 (ri (fun r11 x10 => vp_in r11 400 ∧ (∀ x13 : gd, x13 = si x10 85 (r11 : Int32).toNatClampNeg r2 → vp_in r11 400 ∧ (∀ x15 : gd, x15 = si x13 87 (r11 : Int32).toNatClampNeg r5 → vp_in r11 400 ∧ (∀ x17 : gd, x17 = si x15 88 (r11 : Int32).toNatClampNeg r9 → P none x17))))))) X)) X)) X)) X)) X)) X) :
    KE G q (d + 7) zk_X7_rowStatement 0 [(0, vr 100), (1, vi l1)] [] x P X := by
  refine T_aload_n 0 (dk dtk_X7_rowStatement 0 rfl) rfl rfl ?_
  refine T_iconst (v := 2) (dk dtk_X7_rowStatement 1 rfl) (by decide +kernel) ?_
  refine T_bipush (v := 7) (dk dtk_X7_rowStatement 2 rfl) (by decide +kernel) ?_
  refine KD_Vi [vi 2, vi 7] [] rfl (dk dtk_X7_rowStatement 3 rfl) kcv_X7_130 rfl kk_100 rfl (kl_100 hq) (Nat.le_of_ble_eq_true rfl) (Nat.le_of_ble_eq_true rfl) (gok_i (av_c (gkr (kl_100 hq)) (av_c rfl av_n)) as_n) rfl h (fun r2 x1 h => ?_)
  refine T_istore_n (lv2 := [(2, vi r2), (0, vr 100), (1, vi l1)]) (dk dtk_X7_rowStatement 4 rfl) rfl (by decide) rfl ?_
  refine T_aload_n 1 (dk dtk_X7_rowStatement 5 rfl) rfl rfl ?_
  refine T_bipush (v := 25) (dk dtk_X7_rowStatement 6 rfl) (by decide +kernel) ?_
  refine KD_Vv [vi 25] [] rfl (dk dtk_X7_rowStatement 7 rfl) kcv_X7_115 rfl kk_100 rfl (kl_100 hq) (Nat.le_of_ble_eq_true rfl) (Nat.le_of_ble_eq_true rfl) (gok_i (av_c rfl (av_c (gkr (kl_100 hq)) (av_c rfl av_n))) as_n) rfl h (fun x3 h => ?_)
  refine T_aload_n 1 (dk dtk_X7_rowStatement 8 rfl) rfl rfl ?_
  refine T_aload_n 1 (dk dtk_X7_rowStatement 9 rfl) rfl rfl ?_
  refine T_getI 100 13 (dk dtk_X7_rowStatement 10 rfl) kfl_X7_184 kk_100 (kl_100 hq) (by decide) rfl ?_
  refine T_iconst (v := 1) (dk dtk_X7_rowStatement 11 rfl) (by decide +kernel) ?_
  refine T_iadd (dk dtk_X7_rowStatement 12 rfl) ?_
  refine KD_Vi [vi ((x3.1 100 13) + 1)] [] rfl (dk dtk_X7_rowStatement 13 rfl) kcv_X7_201 rfl kk_100 rfl (kl_100 hq) (Nat.le_of_ble_eq_true rfl) (Nat.le_of_ble_eq_true rfl) (gok_i (av_c rfl (av_c (gkr (kl_100 hq)) (av_c rfl av_n))) as_n) rfl h (fun r5 x4 h => ?_)
  refine T_istore_n (lv2 := [(3, vi r5), (2, vi r2), (0, vr 100), (1, vi l1)]) (dk dtk_X7_rowStatement 14 rfl) rfl (by decide) rfl ?_
  refine T_aload_n 2 (dk dtk_X7_rowStatement 15 rfl) rfl rfl ?_
  refine T_bipush (v := 26) (dk dtk_X7_rowStatement 16 rfl) (by decide +kernel) ?_
  refine KD_Vv [vi 26] [] rfl (dk dtk_X7_rowStatement 17 rfl) kcv_X7_115 rfl kk_100 rfl (kl_100 hq) (Nat.le_of_ble_eq_true rfl) (Nat.le_of_ble_eq_true rfl) (gok_i (av_c rfl (av_c rfl (av_c (gkr (kl_100 hq)) (av_c rfl av_n)))) as_n) rfl h (fun x6 h => ?_)
  refine T_aload_n 2 (dk dtk_X7_rowStatement 18 rfl) rfl rfl ?_
  refine T_bipush (v := 10) (dk dtk_X7_rowStatement 19 rfl) (by decide +kernel) ?_
  refine KD_Vv [vi 10] [] rfl (dk dtk_X7_rowStatement 20 rfl) kcv_X7_115 rfl kk_100 rfl (kl_100 hq) (Nat.le_of_ble_eq_true rfl) (Nat.le_of_ble_eq_true rfl) (gok_i (av_c rfl (av_c rfl (av_c (gkr (kl_100 hq)) (av_c rfl av_n)))) as_n) rfl h (fun x7 h => ?_)
  refine T_aload_n 2 (dk dtk_X7_rowStatement 21 rfl) rfl rfl ?_
  refine T_aload_n 2 (dk dtk_X7_rowStatement 22 rfl) rfl rfl ?_
  refine T_getI 100 13 (dk dtk_X7_rowStatement 23 rfl) kfl_X7_184 kk_100 (kl_100 hq) (by decide) rfl ?_
  refine T_iconst (v := 1) (dk dtk_X7_rowStatement 24 rfl) (by decide +kernel) ?_
  refine T_iadd (dk dtk_X7_rowStatement 25 rfl) ?_
  refine KD_Vi [vi ((x7.1 100 13) + 1)] [] rfl (dk dtk_X7_rowStatement 26 rfl) kcv_X7_201 rfl kk_100 rfl (kl_100 hq) (Nat.le_of_ble_eq_true rfl) (Nat.le_of_ble_eq_true rfl) (gok_i (av_c rfl (av_c rfl (av_c (gkr (kl_100 hq)) (av_c rfl av_n)))) as_n) rfl h (fun r9 x8 h => ?_)
  refine T_istore (lv2 := [(4, vi r9), (3, vi r5), (2, vi r2), (0, vr 100), (1, vi l1)]) (dk dtk_X7_rowStatement 27 rfl) (by decide) rfl ?_
  refine T_aload_n 3 (dk dtk_X7_rowStatement 28 rfl) rfl rfl ?_
  refine T_getR 100 3 80 (dk dtk_X7_rowStatement 29 rfl) kfl_X7_29 kk_100 (kl_100 hq) (by decide) rfl kr_100_3 ?_
  refine T_iconst (v := 1) (dk dtk_X7_rowStatement 30 rfl) (by decide +kernel) ?_
  refine T_iload_n 4 (dk dtk_X7_rowStatement 31 rfl) rfl rfl ?_
  refine T_aload_n 3 (dk dtk_X7_rowStatement 32 rfl) rfl rfl ?_
  refine T_getI 100 9 (dk dtk_X7_rowStatement 33 rfl) kfl_X7_181 kk_100 (kl_100 hq) (by decide) rfl ?_
  refine T_sub (lv2 := [(4, vi r9), (3, vi r5), (2, vi r2), (0, vr 100)]) [0, 1, 2, 3] rfl ?_
  refine KC_Vi [vi 1, vi l1, vi (x8.1 100 9)] [] rfl (dk dtk_X7_rowStatement 34 rfl) kcv_X7_191 rfl kk_80 rfl (kl_80 hq) (Nat.le_of_ble_eq_true rfl) (Nat.le_of_ble_eq_true rfl) (gok_i (av_c rfl (av_c rfl (av_c rfl (av_c (gkr (kl_100 hq)) av_n)))) as_n) rfl h (fun r11 x10 h => ?_)
  refine T_istore (lv2 := [(5, vi r11), (4, vi r9), (3, vi r5), (2, vi r2), (0, vr 100)]) (dk dtk_X7_rowStatement 35 rfl) (by decide) rfl ?_
  refine T_aload_n 4 (dk dtk_X7_rowStatement 36 rfl) rfl rfl ?_
  refine T_getR 100 3 80 (dk dtk_X7_rowStatement 37 rfl) kfl_X7_29 kk_100 (kl_100 hq) (by decide) rfl kr_100_3 ?_
  refine T_getR 80 4 85 (dk dtk_X7_rowStatement 38 rfl) kfl_X7_220 kk_80 (kl_80 hq) (by decide) rfl kr_80_4 ?_
  refine T_iload 0 (dk dtk_X7_rowStatement 39 rfl) rfl ?_
  refine T_iload_n 3 (dk dtk_X7_rowStatement 40 rfl) rfl rfl ?_
  obtain ⟨h12, h⟩ := h
  obtain ⟨x13, ex13⟩ : ∃ z, z = si x10 85 (r11 : Int32).toNatClampNeg r2 := ⟨_, rfl⟩
  have h := h x13 ex13
  refine T_iast 85 400 (dk dtk_X7_rowStatement 41 rfl) kk_85 (kl_85 hq) h12 ?_
  rw [← ex13]
  refine T_aload_n 4 (dk dtk_X7_rowStatement 42 rfl) rfl rfl ?_
  refine T_getR 100 3 80 (dk dtk_X7_rowStatement 43 rfl) kfl_X7_29 kk_100 (kl_100 hq) (by decide) rfl kr_100_3 ?_
  refine T_getR 80 6 87 (dk dtk_X7_rowStatement 44 rfl) kfl_X7_276 kk_80 (kl_80 hq) (by decide) rfl kr_80_6 ?_
  refine T_iload 0 (dk dtk_X7_rowStatement 45 rfl) rfl ?_
  refine T_iload_n 2 (dk dtk_X7_rowStatement 46 rfl) rfl rfl ?_
  obtain ⟨h14, h⟩ := h
  obtain ⟨x15, ex15⟩ : ∃ z, z = si x13 87 (r11 : Int32).toNatClampNeg r5 := ⟨_, rfl⟩
  have h := h x15 ex15
  refine T_iast 87 400 (dk dtk_X7_rowStatement 47 rfl) kk_87 (kl_87 hq) h14 ?_
  rw [← ex15]
  refine T_aload_n 4 (dk dtk_X7_rowStatement 48 rfl) rfl rfl ?_
  refine T_getR 100 3 80 (dk dtk_X7_rowStatement 49 rfl) kfl_X7_29 kk_100 (kl_100 hq) (by decide) rfl kr_100_3 ?_
  refine T_getR 80 7 88 (dk dtk_X7_rowStatement 50 rfl) kfl_X7_233 kk_80 (kl_80 hq) (by decide) rfl kr_80_7 ?_
  refine T_iload 0 (dk dtk_X7_rowStatement 51 rfl) rfl ?_
  refine T_iload 1 (dk dtk_X7_rowStatement 52 rfl) rfl ?_
  obtain ⟨h16, h⟩ := h
  obtain ⟨x17, ex17⟩ : ∃ z, z = si x15 88 (r11 : Int32).toNatClampNeg r9 := ⟨_, rfl⟩
  have h := h x17 ex17
  refine T_iast 88 400 (dk dtk_X7_rowStatement 53 rfl) kk_88 (kl_88 hq) h16 ?_
  rw [← ex17]
  exact KE_vret (dk dtk_X7_rowStatement 54 rfl) rfl h
end
section
set_option maxRecDepth 100000 in
theorem dtk_X7_source : dck cX7_source [(0, .aload_n 0, 1), (1, .getfield 184, 3), (4, .iconst 1, 1), (5, .iadd, 1), (6, .istore 4, 2), (8, .aload_n 0, 1), (9, .invokevirtual 279, 3), (12, .istore 5, 2), (14, .iload_n 3, 1), (15, .istore 6, 2), (17, .iconst (-1), 1), (18, .istore 7, 2), (20, .iconst (-1), 1), (21, .istore 8, 2), (23, .iload 5, 2), (25, .iconst 2, 1), (26, .if_icmp .eq 15, 3), (29, .iload 5, 2), (31, .iconst 3, 1), (32, .if_icmp .eq 9, 3), (35, .iload 5, 2), (37, .iconst 4, 1), (38, .if_icmp .ne 30, 3), (41, .aload_n 0, 1), (42, .getfield 15, 3), (45, .getfield 109, 3), (48, .aload_n 0, 1), (49, .getfield 52, 3), (52, .iload_n 2, 1), (53, .iconst (-1), 1), (54, .if_icmp .ne 8, 3), (57, .bipush 10, 2), (59, .goto 4, 3), (62, .iconst 0, 1), (63, .iastore, 1), (64, .aload_n 0, 1), (65, .invokevirtual 112, 3), (68, .iload 5, 2), (70, .bipush 16, 2), (72, .if_icmp .eq 102, 3), (75, .aload_n 0, 1), (76, .invokevirtual 144, 3), (79, .bipush 25, 2), (81, .if_icmp .ne 7, 3), (84, .iconst 1, 1), (85, .goto 4, 3), (88, .iconst 0, 1), (89, .istore 9, 2), (91, .iload 5, 2), (93, .ifCond .ne 20, 3), (96, .iload 9, 2), (98, .ifCond .ne 15, 3), (101, .iload 4, 2), (103, .bipush 16, 2), (105, .if_icmp .le 8, 3), (108, .aload_n 0, 1), (109, .iconst 3, 1), (110, .invokevirtual 96, 3), (113, .aload_n 0, 1), (114, .iconst 2, 1), (115, .iload 9, 2), (117, .iload 5, 2), (119, .ifCond .ne 12, 3), (122, .iload_n 2, 1), (123, .iconst (-1), 1), (124, .if_icmp .ne 7, 3), (127, .iconst 1, 1), (128, .goto 4, 3), (131, .iconst 0, 1), (132, .invokestatic 282, 3), (135, .invokevirtual 130, 3), (138, .istore 6, 2), (140, .iload 9, 2), (142, .ifCond .eq 21, 3), (145, .aload_n 0, 1), (146, .invokevirtual 112, 3), (149, .aload_n 0, 1), (150, .iload 4, 2), (152, .invokevirtual 201, 3), (155, .istore 7, 2), (157, .aload_n 0, 1), (158, .bipush 26, 2), (160, .invokevirtual 115, 3), (163, .iload 5, 2), (165, .ifCond .eq 9, 3), (168, .aload_n 0, 1), (169, .bipush 28, 2), (171, .invokevirtual 115, 3), (174, .iload 5, 2), (176, .ifCond .ne 7, 3), (179, .iconst (-1), 1), (180, .goto 9, 3), (183, .aload_n 0, 1), (184, .iload 4, 2), (186, .invokevirtual 201, 3), (189, .istore 9, 2), (191, .iload 5, 2), (193, .iconst 4, 1), (194, .if_icmp .ne 17, 3), (197, .aload_n 0, 1), (198, .bipush 28, 2), (200, .invokevirtual 115, 3), (203, .aload_n 0, 1), (204, .iload 4, 2), (206, .invokevirtual 201, 3), (209, .istore 8, 2), (211, .aload_n 0, 1), (212, .getfield 29, 3), (215, .iload 5, 2), (217, .bipush 16, 2), (219, .if_icmp .ne 12, 3), (222, .iload_n 2, 1), (223, .iconst (-1), 1), (224, .if_icmp .ne 7, 3), (227, .iconst 1, 1), (228, .goto 5, 3), (231, .iload 5, 2), (233, .iload_n 1, 1), (234, .aload_n 0, 1), (235, .getfield 181, 3), (238, .invokevirtual 191, 3), (241, .istore 10, 2), (243, .aload_n 0, 1), (244, .getfield 29, 3), (247, .getfield 214, 3), (250, .iload 10, 2), (252, .iload_n 2, 1), (253, .iastore, 1), (254, .aload_n 0, 1), (255, .getfield 29, 3), (258, .getfield 220, 3), (261, .iload 10, 2), (263, .iload 6, 2), (265, .iastore, 1), (266, .aload_n 0, 1), (267, .getfield 29, 3), (270, .getfield 276, 3), (273, .iload 10, 2), (275, .iload 7, 2), (277, .iastore, 1), (278, .aload_n 0, 1), (279, .getfield 29, 3), (282, .getfield 233, 3), (285, .iload 10, 2), (287, .iload 9, 2), (289, .iastore, 1), (290, .aload_n 0, 1), (291, .getfield 29, 3), (294, .getfield 286, 3), (297, .iload 10, 2), (299, .iload 8, 2), (301, .iastore, 1), (302, .return_, 1)] = true := by decide +kernel
set_option maxRecDepth 100000 in
set_option maxHeartbeats 4000000 in
theorem kg_X7_source_0 {G : kG} {q : kP} {d : Nat} {x : gd} {P : Option gv → gd → Prop} {X : String → gd → Prop} (hq : kV q) (l1 : Int32) (l2 : Int32) (l3 : Int32)
    (h : KT G q (d + 6) zk_X7_sourceOp 0 [(0, vr 100)] [] x (ri (fun r2 x1 => ((r2 = (2 : Int32) → KE G q (d + 7) zk_X7_source 41 [(0, vr 100), (1, vi l1), (2, vi l2), (4, vi ((x.1 100 13) + 1)), (5, vi r2), (6, vi l3), (7, vi (-1)), (8, vi (-1))] [] x1 P X) ∧ (¬ (r2 = (2 : Int32)) → ((r2 = (3 : Int32) → KE G q (d + 7) zk_X7_source 41 [(0, vr 100), (1, vi l1), (2, vi l2), (4, vi ((x.1 100 13) + 1)), (5, vi r2), (6, vi l3), (7, vi (-1)), (8, vi (-1))] [] x1 P X) ∧ (¬ (r2 = (3 : Int32)) → ((¬ (r2 = (4 : Int32)) → KE G q (d + 7) zk_X7_source 68 [(0, vr 100), (1, vi l1), (2, vi l2), (4, vi ((x.1 100 13) + 1)), (5, vi r2), (6, vi l3), (7, vi (-1)), (8, vi (-1))] [] x1 P X) ∧ (r2 = (4 : Int32) → KE G q (d + 7) zk_X7_source 41 [(0, vr 100), (1, vi l1), (2, vi l2), (4, vi ((x.1 100 13) + 1)), (5, vi r2), (6, vi l3), (7, vi (-1)), (8, vi (-1))] [] x1 P X))))))))) :
    KE G q (d + 7) zk_X7_source 0 [(0, vr 100), (1, vi l1), (2, vi l2), (3, vi l3)] [] x P X := by
  refine T_aload_n 0 (dk dtk_X7_source 0 rfl) rfl rfl ?_
  refine T_getI 100 13 (dk dtk_X7_source 1 rfl) kfl_X7_184 kk_100 (kl_100 hq) (by decide) rfl ?_
  refine T_iconst (v := 1) (dk dtk_X7_source 2 rfl) (by decide +kernel) ?_
  refine T_iadd (dk dtk_X7_source 3 rfl) ?_
  refine T_istore (lv2 := [(4, vi ((x.1 100 13) + 1)), (0, vr 100), (1, vi l1), (2, vi l2), (3, vi l3)]) (dk dtk_X7_source 4 rfl) (by decide) rfl ?_
  refine T_aload_n 1 (dk dtk_X7_source 5 rfl) rfl rfl ?_
  refine KC_Vi [] [] rfl (dk dtk_X7_source 6 rfl) kcv_X7_279 rfl kk_100 rfl (kl_100 hq) (Nat.le_of_ble_eq_true rfl) (Nat.le_of_ble_eq_true rfl) (gok_i (av_c rfl (av_c (gkr (kl_100 hq)) (av_c rfl (av_c rfl (av_c rfl av_n))))) as_n) rfl h (fun r2 x1 h => ?_)
  refine T_istore (lv2 := [(5, vi r2), (4, vi ((x.1 100 13) + 1)), (0, vr 100), (1, vi l1), (2, vi l2), (3, vi l3)]) (dk dtk_X7_source 7 rfl) (by decide) rfl ?_
  refine T_iload_n 5 (dk dtk_X7_source 8 rfl) rfl rfl ?_
  refine T_istore (lv2 := [(6, vi l3), (5, vi r2), (4, vi ((x.1 100 13) + 1)), (0, vr 100), (1, vi l1), (2, vi l2), (3, vi l3)]) (dk dtk_X7_source 9 rfl) (by decide) rfl ?_
  refine T_iconst (v := (-1)) (dk dtk_X7_source 10 rfl) (by decide +kernel) ?_
  refine T_istore (lv2 := [(7, vi (-1)), (6, vi l3), (5, vi r2), (4, vi ((x.1 100 13) + 1)), (0, vr 100), (1, vi l1), (2, vi l2), (3, vi l3)]) (dk dtk_X7_source 11 rfl) (by decide) rfl ?_
  refine T_iconst (v := (-1)) (dk dtk_X7_source 12 rfl) (by decide +kernel) ?_
  refine T_istore (lv2 := [(8, vi (-1)), (7, vi (-1)), (6, vi l3), (5, vi r2), (4, vi ((x.1 100 13) + 1)), (0, vr 100), (1, vi l1), (2, vi l2), (3, vi l3)]) (dk dtk_X7_source 13 rfl) (by decide) rfl ?_
  refine T_iload 3 (dk dtk_X7_source 14 rfl) rfl ?_
  refine T_iconst (v := 2) (dk dtk_X7_source 15 rfl) (by decide +kernel) ?_
  refine T_icmp_eq 41 (dk dtk_X7_source 16 rfl) (by decide) (fun c3 => ?_) (fun c3 => ?_)
  · have h := h.1 c3
    exact T_sub [5, 6, 7, 4, 3, 2, 1, 0] rfl h
  · have h := h.2 c3
    refine T_iload 3 (dk dtk_X7_source 17 rfl) rfl ?_
    refine T_iconst (v := 3) (dk dtk_X7_source 18 rfl) (by decide +kernel) ?_
    refine T_icmp_eq 41 (dk dtk_X7_source 19 rfl) (by decide) (fun c4 => ?_) (fun c4 => ?_)
    · have h := h.1 c4
      exact T_sub [5, 6, 7, 4, 3, 2, 1, 0] rfl h
    · have h := h.2 c4
      refine T_iload 3 (dk dtk_X7_source 20 rfl) rfl ?_
      refine T_iconst (v := 4) (dk dtk_X7_source 21 rfl) (by decide +kernel) ?_
      refine T_icmp_ne 68 (dk dtk_X7_source 22 rfl) (by decide) (fun c5 => ?_) (fun c5 => ?_)
      · have h := h.1 c5
        exact T_sub [5, 6, 7, 4, 3, 2, 1, 0] rfl h
      · have h := h.2 c5
        exact T_sub [5, 6, 7, 4, 3, 2, 1, 0] rfl h
set_option maxRecDepth 100000 in
set_option maxHeartbeats 4000000 in
theorem kg_X7_source_41 {G : kG} {q : kP} {d : Nat} {x : gd} {P : Option gv → gd → Prop} {X : String → gd → Prop} (hq : kV q) (l1 : Int32) (l2 : Int32) (l4 : Int32) (l5 : Int32) (l6 : Int32) (l7 : Int32) (l8 : Int32)
    (h : ((¬ (l2 = (-1 : Int32)) → KE G q (d + 7) zk_X7_source 63 [(0, vr 100), (1, vi l1), (2, vi l2), (4, vi l4), (5, vi l5), (6, vi l6), (7, vi l7), (8, vi l8)] [vi 0, vi (x.1 100 4), vr 42] x P X) ∧ (l2 = (-1 : Int32) → KE G q (d + 7) zk_X7_source 63 [(0, vr 100), (1, vi l1), (2, vi l2), (4, vi l4), (5, vi l5), (6, vi l6), (7, vi l7), (8, vi l8)] [vi 10, vi (x.1 100 4), vr 42] x P X))) :
    KE G q (d + 7) zk_X7_source 41 [(0, vr 100), (1, vi l1), (2, vi l2), (4, vi l4), (5, vi l5), (6, vi l6), (7, vi l7), (8, vi l8)] [] x P X := by
  refine T_aload_n 0 (dk dtk_X7_source 23 rfl) rfl rfl ?_
  refine T_getR 100 1 40 (dk dtk_X7_source 24 rfl) kfl_X7_15 kk_100 (kl_100 hq) (by decide) rfl kr_100_1 ?_
  refine T_getR 40 1 42 (dk dtk_X7_source 25 rfl) kfl_X7_109 kk_40 (kl_40 hq) (by decide) rfl kr_40_1 ?_
  refine T_aload_n 0 (dk dtk_X7_source 26 rfl) rfl rfl ?_
  refine T_getI 100 4 (dk dtk_X7_source 27 rfl) kfl_X7_52 kk_100 (kl_100 hq) (by decide) rfl ?_
  refine T_iload_n 2 (dk dtk_X7_source 28 rfl) rfl rfl ?_
  refine T_iconst (v := (-1)) (dk dtk_X7_source 29 rfl) (by decide +kernel) ?_
  refine T_icmp_ne 62 (dk dtk_X7_source 30 rfl) (by decide) (fun c1 => ?_) (fun c1 => ?_)
  · have h := h.1 c1
    refine T_iconst (v := 0) (dk dtk_X7_source 33 rfl) (by decide +kernel) ?_
    exact h
  · have h := h.2 c1
    refine T_bipush (v := 10) (dk dtk_X7_source 31 rfl) (by decide +kernel) ?_
    refine T_goto 63 (dk dtk_X7_source 32 rfl) (by decide) ?_
    exact h
set_option maxRecDepth 100000 in
set_option maxHeartbeats 4000000 in
theorem kg_X7_source_63 {G : kG} {q : kP} {d : Nat} {x : gd} {P : Option gv → gd → Prop} {X : String → gd → Prop} (hq : kV q) (l1 : Int32) (l2 : Int32) (l4 : Int32) (l5 : Int32) (l6 : Int32) (l7 : Int32) (l8 : Int32) (s0 : Int32) (s1 : Int32)
    (h : vp_in s1 702 ∧ (∀ x2 : gd, x2 = si x 42 (s1 : Int32).toNatClampNeg s0 → KE G q (d + 6) zk_X7_pass 0 [(0, vr 100)] [] x2 (rv (fun x3 => KE G q (d + 7) zk_X7_source 68 [(0, vr 100), (1, vi l1), (2, vi l2), (4, vi l4), (5, vi l5), (6, vi l6), (7, vi l7), (8, vi l8)] [] x3 P X)) X)) :
    KE G q (d + 7) zk_X7_source 63 [(0, vr 100), (1, vi l1), (2, vi l2), (4, vi l4), (5, vi l5), (6, vi l6), (7, vi l7), (8, vi l8)] [vi s0, vi s1, vr 42] x P X := by
  obtain ⟨h1, h⟩ := h
  obtain ⟨x2, ex2⟩ : ∃ z, z = si x 42 (s1 : Int32).toNatClampNeg s0 := ⟨_, rfl⟩
  have h := h x2 ex2
  refine T_iast 42 702 (dk dtk_X7_source 34 rfl) kk_42 (kl_42 hq) h1 ?_
  rw [← ex2]
  refine T_aload_n 0 (dk dtk_X7_source 35 rfl) rfl rfl ?_
  refine KD_Vv [] [] rfl (dk dtk_X7_source 36 rfl) kcv_X7_112 rfl kk_100 rfl (kl_100 hq) (Nat.le_of_ble_eq_true rfl) (Nat.le_of_ble_eq_true rfl) (gok_i (av_c (gkr (kl_100 hq)) (av_c rfl (av_c rfl (av_c rfl (av_c rfl (av_c rfl (av_c rfl (av_c rfl av_n)))))))) as_n) rfl h (fun x3 h => ?_)
  exact h
set_option maxRecDepth 100000 in
set_option maxHeartbeats 4000000 in
theorem kg_X7_source_68 {G : kG} {q : kP} {d : Nat} {x : gd} {P : Option gv → gd → Prop} {X : String → gd → Prop} (hq : kV q) (l1 : Int32) (l2 : Int32) (l4 : Int32) (l5 : Int32) (l6 : Int32) (l7 : Int32) (l8 : Int32)
    (h : ((l5 = (16 : Int32) → KE G q (d + 7) zk_X7_source 174 [(0, vr 100), (1, vi l1), (2, vi l2), (4, vi l4), (5, vi l5), (6, vi l6), (7, vi l7), (8, vi l8)] [] x P X) ∧ (¬ (l5 = (16 : Int32)) → KT G q (d + 6) zk_X7_sortBehind 0 [(0, vr 100)] [] x (ri (fun r3 x2 => ((¬ (r3 = (25 : Int32)) → KE G q (d + 7) zk_X7_source 89 [(0, vr 100), (1, vi l1), (2, vi l2), (4, vi l4), (5, vi l5), (7, vi l7), (8, vi l8)] [vi 0] x2 P X) ∧ (r3 = (25 : Int32) → KE G q (d + 7) zk_X7_source 89 [(0, vr 100), (1, vi l1), (2, vi l2), (4, vi l4), (5, vi l5), (7, vi l7), (8, vi l8)] [vi 1] x2 P X))))))) :
    KE G q (d + 7) zk_X7_source 68 [(0, vr 100), (1, vi l1), (2, vi l2), (4, vi l4), (5, vi l5), (6, vi l6), (7, vi l7), (8, vi l8)] [] x P X := by
  refine T_iload 4 (dk dtk_X7_source 37 rfl) rfl ?_
  refine T_bipush (v := 16) (dk dtk_X7_source 38 rfl) (by decide +kernel) ?_
  refine T_icmp_eq 174 (dk dtk_X7_source 39 rfl) (by decide) (fun c1 => ?_) (fun c1 => ?_)
  · have h := h.1 c1
    exact h
  · have h := h.2 c1
    refine T_aload_n 0 (dk dtk_X7_source 40 rfl) rfl rfl ?_
    refine T_sub (lv2 := [(0, vr 100), (1, vi l1), (2, vi l2), (4, vi l4), (5, vi l5), (7, vi l7), (8, vi l8)]) [0, 1, 2, 3, 4, 6, 7] rfl ?_
    refine KC_Vi [] [] rfl (dk dtk_X7_source 41 rfl) kcv_X7_144 rfl kk_100 rfl (kl_100 hq) (Nat.le_of_ble_eq_true rfl) (Nat.le_of_ble_eq_true rfl) (gok_i (av_c (gkr (kl_100 hq)) (av_c rfl (av_c rfl (av_c rfl (av_c rfl (av_c rfl (av_c rfl av_n))))))) as_n) rfl h (fun r3 x2 h => ?_)
    refine T_bipush (v := 25) (dk dtk_X7_source 42 rfl) (by decide +kernel) ?_
    refine T_icmp_ne 88 (dk dtk_X7_source 43 rfl) (by decide) (fun c4 => ?_) (fun c4 => ?_)
    · have h := h.1 c4
      refine T_iconst (v := 0) (dk dtk_X7_source 46 rfl) (by decide +kernel) ?_
      exact h
    · have h := h.2 c4
      refine T_iconst (v := 1) (dk dtk_X7_source 44 rfl) (by decide +kernel) ?_
      refine T_goto 89 (dk dtk_X7_source 45 rfl) (by decide) ?_
      exact h
set_option maxRecDepth 100000 in
set_option maxHeartbeats 4000000 in
theorem kg_X7_source_89 {G : kG} {q : kP} {d : Nat} {x : gd} {P : Option gv → gd → Prop} {X : String → gd → Prop} (hq : kV q) (l1 : Int32) (l2 : Int32) (l4 : Int32) (l5 : Int32) (l7 : Int32) (l8 : Int32) (s0 : Int32)
    (h : ((¬ (l5 = (0 : Int32)) → KE G q (d + 7) zk_X7_source 113 [(0, vr 100), (1, vi l1), (2, vi l2), (4, vi l4), (5, vi l5), (7, vi l7), (8, vi l8), (9, vi s0)] [] x P X) ∧ (l5 = (0 : Int32) → ((¬ (s0 = (0 : Int32)) → KE G q (d + 7) zk_X7_source 113 [(0, vr 100), (1, vi l1), (2, vi l2), (4, vi l4), (5, vi l5), (7, vi l7), (8, vi l8), (9, vi s0)] [] x P X) ∧ (s0 = (0 : Int32) → ((l4 ≤ (16 : Int32) → KE G q (d + 7) zk_X7_source 113 [(0, vr 100), (1, vi l1), (2, vi l2), (4, vi l4), (5, vi l5), (7, vi l7), (8, vi l8), (9, vi s0)] [] x P X) ∧ (¬ (l4 ≤ (16 : Int32)) → KE G q (d + 6) zk_X7_refuse 0 [(0, vr 100), (1, vi 3)] [] x (rv (fun x4 => KE G q (d + 7) zk_X7_source 113 [(0, vr 100), (1, vi l1), (2, vi l2), (4, vi l4), (5, vi l5), (7, vi l7), (8, vi l8), (9, vi s0)] [] x4 P X)) X))))))) :
    KE G q (d + 7) zk_X7_source 89 [(0, vr 100), (1, vi l1), (2, vi l2), (4, vi l4), (5, vi l5), (7, vi l7), (8, vi l8)] [vi s0] x P X := by
  refine T_istore (lv2 := [(9, vi s0), (0, vr 100), (1, vi l1), (2, vi l2), (4, vi l4), (5, vi l5), (7, vi l7), (8, vi l8)]) (dk dtk_X7_source 47 rfl) (by decide) rfl ?_
  refine T_iload 5 (dk dtk_X7_source 48 rfl) rfl ?_
  refine T_if_ne 113 (dk dtk_X7_source 49 rfl) (by decide) (fun c1 => ?_) (fun c1 => ?_)
  · have h := h.1 c1
    exact T_sub [1, 2, 3, 4, 5, 6, 7, 0] rfl h
  · have h := h.2 c1
    refine T_iload 0 (dk dtk_X7_source 50 rfl) rfl ?_
    refine T_if_ne 113 (dk dtk_X7_source 51 rfl) (by decide) (fun c2 => ?_) (fun c2 => ?_)
    · have h := h.1 c2
      exact T_sub [1, 2, 3, 4, 5, 6, 7, 0] rfl h
    · have h := h.2 c2
      refine T_iload 4 (dk dtk_X7_source 52 rfl) rfl ?_
      refine T_bipush (v := 16) (dk dtk_X7_source 53 rfl) (by decide +kernel) ?_
      refine T_icmp_le 113 (dk dtk_X7_source 54 rfl) (by decide) (fun c3 => ?_) (fun c3 => ?_)
      · have h := h.1 c3
        exact T_sub [1, 2, 3, 4, 5, 6, 7, 0] rfl h
      · have h := h.2 c3
        refine T_aload_n 1 (dk dtk_X7_source 55 rfl) rfl rfl ?_
        refine T_iconst (v := 3) (dk dtk_X7_source 56 rfl) (by decide +kernel) ?_
        refine KD_Vv [vi 3] [] rfl (dk dtk_X7_source 57 rfl) kcv_X7_96 rfl kk_100 rfl (kl_100 hq) (Nat.le_of_ble_eq_true rfl) (Nat.le_of_ble_eq_true rfl) (gok_i (av_c rfl (av_c (gkr (kl_100 hq)) (av_c rfl (av_c rfl (av_c rfl (av_c rfl (av_c rfl (av_c rfl av_n)))))))) as_n) rfl h (fun x4 h => ?_)
        exact T_sub [1, 2, 3, 4, 5, 6, 7, 0] rfl h
set_option maxRecDepth 100000 in
set_option maxHeartbeats 4000000 in
theorem kg_X7_source_113 {G : kG} {q : kP} {d : Nat} {x : gd} {P : Option gv → gd → Prop} {X : String → gd → Prop} (hq : kV q) (l1 : Int32) (l2 : Int32) (l4 : Int32) (l5 : Int32) (l7 : Int32) (l8 : Int32) (l9 : Int32)
    (h : ((¬ (l5 = (0 : Int32)) → KE G q (d + 7) zk_X7_source 132 [(0, vr 100), (1, vi l1), (2, vi l2), (4, vi l4), (5, vi l5), (7, vi l7), (8, vi l8), (9, vi l9)] [vi 0, vi l9, vi 2, vr 100] x P X) ∧ (l5 = (0 : Int32) → ((¬ (l2 = (-1 : Int32)) → KE G q (d + 7) zk_X7_source 132 [(0, vr 100), (1, vi l1), (2, vi l2), (4, vi l4), (5, vi l5), (7, vi l7), (8, vi l8), (9, vi l9)] [vi 0, vi l9, vi 2, vr 100] x P X) ∧ (l2 = (-1 : Int32) → KE G q (d + 7) zk_X7_source 132 [(0, vr 100), (1, vi l1), (2, vi l2), (4, vi l4), (5, vi l5), (7, vi l7), (8, vi l8), (9, vi l9)] [vi 1, vi l9, vi 2, vr 100] x P X))))) :
    KE G q (d + 7) zk_X7_source 113 [(0, vr 100), (1, vi l1), (2, vi l2), (4, vi l4), (5, vi l5), (7, vi l7), (8, vi l8), (9, vi l9)] [] x P X := by
  refine T_aload_n 0 (dk dtk_X7_source 58 rfl) rfl rfl ?_
  refine T_iconst (v := 2) (dk dtk_X7_source 59 rfl) (by decide +kernel) ?_
  refine T_iload 7 (dk dtk_X7_source 60 rfl) rfl ?_
  refine T_iload 4 (dk dtk_X7_source 61 rfl) rfl ?_
  refine T_if_ne 131 (dk dtk_X7_source 62 rfl) (by decide) (fun c1 => ?_) (fun c1 => ?_)
  · have h := h.1 c1
    refine T_iconst (v := 0) (dk dtk_X7_source 68 rfl) (by decide +kernel) ?_
    exact h
  · have h := h.2 c1
    refine T_iload_n 2 (dk dtk_X7_source 63 rfl) rfl rfl ?_
    refine T_iconst (v := (-1)) (dk dtk_X7_source 64 rfl) (by decide +kernel) ?_
    refine T_icmp_ne 131 (dk dtk_X7_source 65 rfl) (by decide) (fun c2 => ?_) (fun c2 => ?_)
    · have h := h.1 c2
      refine T_iconst (v := 0) (dk dtk_X7_source 68 rfl) (by decide +kernel) ?_
      exact h
    · have h := h.2 c2
      refine T_iconst (v := 1) (dk dtk_X7_source 66 rfl) (by decide +kernel) ?_
      refine T_goto 132 (dk dtk_X7_source 67 rfl) (by decide) ?_
      exact h
set_option maxRecDepth 100000 in
set_option maxHeartbeats 4000000 in
theorem kg_X7_source_132 {G : kG} {q : kP} {d : Nat} {x : gd} {P : Option gv → gd → Prop} {X : String → gd → Prop} (hq : kV q) (l1 : Int32) (l2 : Int32) (l4 : Int32) (l5 : Int32) (l7 : Int32) (l8 : Int32) (l9 : Int32) (s0 : Int32) (s1 : Int32) (s2 : Int32)
    (h : KT G q (d + 6) zk_X7_useOfCell 0 [(0, vi s1), (1, vi s0)] [] x (ri (fun r2 x1 => KE G q (d + 6) zk_X7_needFor 0 [(0, vr 100), (1, vi s2), (2, vi r2)] [] x1 (ri (fun r4 x3 => ((l9 = (0 : Int32) → KE G q (d + 7) zk_X7_source 163 [(0, vr 100), (1, vi l1), (2, vi l2), (4, vi l4), (5, vi l5), (6, vi r4), (7, vi l7), (8, vi l8)] [] x3 P X) ∧ (¬ (l9 = (0 : Int32)) → KE G q (d + 6) zk_X7_pass 0 [(0, vr 100)] [] x3 (rv (fun x6 => KE G q (d + 6) zk_X7_sum 0 [(0, vr 100), (1, vi l4)] [] x6 (ri (fun r8 x7 => KE G q (d + 6) zk_X7_need 0 [(0, vr 100), (1, vi 26)] [] x7 (rv (fun x9 => KE G q (d + 7) zk_X7_source 163 [(0, vr 100), (1, vi l1), (2, vi l2), (4, vi l4), (5, vi l5), (6, vi r4), (7, vi r8), (8, vi l8)] [] x9 P X)) X)) X)) X)))) X))) :
    KE G q (d + 7) zk_X7_source 132 [(0, vr 100), (1, vi l1), (2, vi l2), (4, vi l4), (5, vi l5), (7, vi l7), (8, vi l8), (9, vi l9)] [vi s0, vi s1, vi s2, vr 100] x P X := by
  refine KC_Si [vi s1, vi s0] [vi s2, vr 100] rfl (dk dtk_X7_source 69 rfl) kcs_X7_282 rfl (Nat.le_of_ble_eq_true rfl) (Nat.le_of_ble_eq_true rfl) (gok_i (av_c (gkr (kl_100 hq)) (av_c rfl (av_c rfl (av_c rfl (av_c rfl (av_c rfl (av_c rfl (av_c rfl av_n)))))))) (as_c rfl (as_c (gkr (kl_100 hq)) as_n))) rfl h (fun r2 x1 h => ?_)
  refine KD_Vi [vi s2, vi r2] [] rfl (dk dtk_X7_source 70 rfl) kcv_X7_130 rfl kk_100 rfl (kl_100 hq) (Nat.le_of_ble_eq_true rfl) (Nat.le_of_ble_eq_true rfl) (gok_i (av_c (gkr (kl_100 hq)) (av_c rfl (av_c rfl (av_c rfl (av_c rfl (av_c rfl (av_c rfl (av_c rfl av_n)))))))) as_n) rfl h (fun r4 x3 h => ?_)
  refine T_istore (lv2 := [(6, vi r4), (0, vr 100), (1, vi l1), (2, vi l2), (4, vi l4), (5, vi l5), (7, vi l7), (8, vi l8), (9, vi l9)]) (dk dtk_X7_source 71 rfl) (by decide) rfl ?_
  refine T_iload 8 (dk dtk_X7_source 72 rfl) rfl ?_
  refine T_if_eq 163 (dk dtk_X7_source 73 rfl) (by decide) (fun c5 => ?_) (fun c5 => ?_)
  · have h := h.1 c5
    exact T_sub [1, 2, 3, 4, 5, 0, 6, 7] rfl h
  · have h := h.2 c5
    refine T_aload_n 1 (dk dtk_X7_source 74 rfl) rfl rfl ?_
    refine T_sub (lv2 := [(6, vi r4), (0, vr 100), (1, vi l1), (2, vi l2), (4, vi l4), (5, vi l5), (8, vi l8)]) [0, 1, 2, 3, 4, 5, 7] rfl ?_
    refine KD_Vv [] [] rfl (dk dtk_X7_source 75 rfl) kcv_X7_112 rfl kk_100 rfl (kl_100 hq) (Nat.le_of_ble_eq_true rfl) (Nat.le_of_ble_eq_true rfl) (gok_i (av_c rfl (av_c (gkr (kl_100 hq)) (av_c rfl (av_c rfl (av_c rfl (av_c rfl (av_c rfl av_n))))))) as_n) rfl h (fun x6 h => ?_)
    refine T_aload_n 1 (dk dtk_X7_source 76 rfl) rfl rfl ?_
    refine T_iload 4 (dk dtk_X7_source 77 rfl) rfl ?_
    refine KD_Vi [vi l4] [] rfl (dk dtk_X7_source 78 rfl) kcv_X7_201 rfl kk_100 rfl (kl_100 hq) (Nat.le_of_ble_eq_true rfl) (Nat.le_of_ble_eq_true rfl) (gok_i (av_c rfl (av_c (gkr (kl_100 hq)) (av_c rfl (av_c rfl (av_c rfl (av_c rfl (av_c rfl av_n))))))) as_n) rfl h (fun r8 x7 h => ?_)
    refine T_istore (lv2 := [(7, vi r8), (6, vi r4), (0, vr 100), (1, vi l1), (2, vi l2), (4, vi l4), (5, vi l5), (8, vi l8)]) (dk dtk_X7_source 79 rfl) (by decide) rfl ?_
    refine T_aload_n 2 (dk dtk_X7_source 80 rfl) rfl rfl ?_
    refine T_bipush (v := 26) (dk dtk_X7_source 81 rfl) (by decide +kernel) ?_
    refine KD_Vv [vi 26] [] rfl (dk dtk_X7_source 82 rfl) kcv_X7_115 rfl kk_100 rfl (kl_100 hq) (Nat.le_of_ble_eq_true rfl) (Nat.le_of_ble_eq_true rfl) (gok_i (av_c rfl (av_c rfl (av_c (gkr (kl_100 hq)) (av_c rfl (av_c rfl (av_c rfl (av_c rfl (av_c rfl av_n)))))))) as_n) rfl h (fun x9 h => ?_)
    exact T_sub [2, 3, 4, 5, 6, 1, 0, 7] rfl h
set_option maxRecDepth 100000 in
set_option maxHeartbeats 4000000 in
theorem kg_X7_source_163 {G : kG} {q : kP} {d : Nat} {x : gd} {P : Option gv → gd → Prop} {X : String → gd → Prop} (hq : kV q) (l1 : Int32) (l2 : Int32) (l4 : Int32) (l5 : Int32) (l6 : Int32) (l7 : Int32) (l8 : Int32)
    (h : ((l5 = (0 : Int32) → KE G q (d + 7) zk_X7_source 174 [(0, vr 100), (1, vi l1), (2, vi l2), (4, vi l4), (5, vi l5), (6, vi l6), (7, vi l7), (8, vi l8)] [] x P X) ∧ (¬ (l5 = (0 : Int32)) → KE G q (d + 6) zk_X7_need 0 [(0, vr 100), (1, vi 28)] [] x (rv (fun x2 => KE G q (d + 7) zk_X7_source 174 [(0, vr 100), (1, vi l1), (2, vi l2), (4, vi l4), (5, vi l5), (6, vi l6), (7, vi l7), (8, vi l8)] [] x2 P X)) X))) :
    KE G q (d + 7) zk_X7_source 163 [(0, vr 100), (1, vi l1), (2, vi l2), (4, vi l4), (5, vi l5), (6, vi l6), (7, vi l7), (8, vi l8)] [] x P X := by
  refine T_iload 4 (dk dtk_X7_source 83 rfl) rfl ?_
  refine T_if_eq 174 (dk dtk_X7_source 84 rfl) (by decide) (fun c1 => ?_) (fun c1 => ?_)
  · have h := h.1 c1
    exact h
  · have h := h.2 c1
    refine T_aload_n 0 (dk dtk_X7_source 85 rfl) rfl rfl ?_
    refine T_bipush (v := 28) (dk dtk_X7_source 86 rfl) (by decide +kernel) ?_
    refine KD_Vv [vi 28] [] rfl (dk dtk_X7_source 87 rfl) kcv_X7_115 rfl kk_100 rfl (kl_100 hq) (Nat.le_of_ble_eq_true rfl) (Nat.le_of_ble_eq_true rfl) (gok_i (av_c (gkr (kl_100 hq)) (av_c rfl (av_c rfl (av_c rfl (av_c rfl (av_c rfl (av_c rfl (av_c rfl av_n)))))))) as_n) rfl h (fun x2 h => ?_)
    exact h
set_option maxRecDepth 100000 in
set_option maxHeartbeats 4000000 in
theorem kg_X7_source_174 {G : kG} {q : kP} {d : Nat} {x : gd} {P : Option gv → gd → Prop} {X : String → gd → Prop} (hq : kV q) (l1 : Int32) (l2 : Int32) (l4 : Int32) (l5 : Int32) (l6 : Int32) (l7 : Int32) (l8 : Int32)
    (h : ((¬ (l5 = (0 : Int32)) → KE G q (d + 6) zk_X7_sum 0 [(0, vr 100), (1, vi l4)] [] x (ri (fun r3 x2 => KE G q (d + 7) zk_X7_source 189 [(0, vr 100), (1, vi l1), (2, vi l2), (4, vi l4), (5, vi l5), (6, vi l6), (7, vi l7), (8, vi l8)] [vi r3] x2 P X)) X) ∧ (l5 = (0 : Int32) → KE G q (d + 7) zk_X7_source 189 [(0, vr 100), (1, vi l1), (2, vi l2), (4, vi l4), (5, vi l5), (6, vi l6), (7, vi l7), (8, vi l8)] [vi (-1)] x P X))) :
    KE G q (d + 7) zk_X7_source 174 [(0, vr 100), (1, vi l1), (2, vi l2), (4, vi l4), (5, vi l5), (6, vi l6), (7, vi l7), (8, vi l8)] [] x P X := by
  refine T_iload 4 (dk dtk_X7_source 88 rfl) rfl ?_
  refine T_if_ne 183 (dk dtk_X7_source 89 rfl) (by decide) (fun c1 => ?_) (fun c1 => ?_)
  · have h := h.1 c1
    refine T_aload_n 0 (dk dtk_X7_source 92 rfl) rfl rfl ?_
    refine T_iload 3 (dk dtk_X7_source 93 rfl) rfl ?_
    refine KD_Vi [vi l4] [] rfl (dk dtk_X7_source 94 rfl) kcv_X7_201 rfl kk_100 rfl (kl_100 hq) (Nat.le_of_ble_eq_true rfl) (Nat.le_of_ble_eq_true rfl) (gok_i (av_c (gkr (kl_100 hq)) (av_c rfl (av_c rfl (av_c rfl (av_c rfl (av_c rfl (av_c rfl (av_c rfl av_n)))))))) as_n) rfl h (fun r3 x2 h => ?_)
    exact h
  · have h := h.2 c1
    refine T_iconst (v := (-1)) (dk dtk_X7_source 90 rfl) (by decide +kernel) ?_
    refine T_goto 189 (dk dtk_X7_source 91 rfl) (by decide) ?_
    exact h
set_option maxRecDepth 100000 in
set_option maxHeartbeats 4000000 in
theorem kg_X7_source_189 {G : kG} {q : kP} {d : Nat} {x : gd} {P : Option gv → gd → Prop} {X : String → gd → Prop} (hq : kV q) (l1 : Int32) (l2 : Int32) (l4 : Int32) (l5 : Int32) (l6 : Int32) (l7 : Int32) (l8 : Int32) (s0 : Int32)
    (h : ((¬ (l5 = (4 : Int32)) → KE G q (d + 7) zk_X7_source 211 [(0, vr 100), (1, vi l1), (2, vi l2), (5, vi l5), (6, vi l6), (7, vi l7), (8, vi l8), (9, vi s0)] [] x P X) ∧ (l5 = (4 : Int32) → KE G q (d + 6) zk_X7_need 0 [(0, vr 100), (1, vi 28)] [] x (rv (fun x2 => KE G q (d + 6) zk_X7_sum 0 [(0, vr 100), (1, vi l4)] [] x2 (ri (fun r4 x3 => KE G q (d + 7) zk_X7_source 211 [(0, vr 100), (1, vi l1), (2, vi l2), (5, vi l5), (6, vi l6), (7, vi l7), (8, vi r4), (9, vi s0)] [] x3 P X)) X)) X))) :
    KE G q (d + 7) zk_X7_source 189 [(0, vr 100), (1, vi l1), (2, vi l2), (4, vi l4), (5, vi l5), (6, vi l6), (7, vi l7), (8, vi l8)] [vi s0] x P X := by
  refine T_istore (lv2 := [(9, vi s0), (0, vr 100), (1, vi l1), (2, vi l2), (4, vi l4), (5, vi l5), (6, vi l6), (7, vi l7), (8, vi l8)]) (dk dtk_X7_source 95 rfl) (by decide) rfl ?_
  refine T_iload 5 (dk dtk_X7_source 96 rfl) rfl ?_
  refine T_iconst (v := 4) (dk dtk_X7_source 97 rfl) (by decide +kernel) ?_
  refine T_icmp_ne 211 (dk dtk_X7_source 98 rfl) (by decide) (fun c1 => ?_) (fun c1 => ?_)
  · have h := h.1 c1
    exact T_sub [1, 2, 3, 5, 6, 7, 8, 0] rfl h
  · have h := h.2 c1
    refine T_aload_n 1 (dk dtk_X7_source 99 rfl) rfl rfl ?_
    refine T_bipush (v := 28) (dk dtk_X7_source 100 rfl) (by decide +kernel) ?_
    refine T_sub (lv2 := [(9, vi s0), (0, vr 100), (1, vi l1), (2, vi l2), (4, vi l4), (5, vi l5), (6, vi l6), (7, vi l7)]) [0, 1, 2, 3, 4, 5, 6, 7] rfl ?_
    refine KD_Vv [vi 28] [] rfl (dk dtk_X7_source 101 rfl) kcv_X7_115 rfl kk_100 rfl (kl_100 hq) (Nat.le_of_ble_eq_true rfl) (Nat.le_of_ble_eq_true rfl) (gok_i (av_c rfl (av_c (gkr (kl_100 hq)) (av_c rfl (av_c rfl (av_c rfl (av_c rfl (av_c rfl (av_c rfl av_n)))))))) as_n) rfl h (fun x2 h => ?_)
    refine T_aload_n 1 (dk dtk_X7_source 102 rfl) rfl rfl ?_
    refine T_iload 4 (dk dtk_X7_source 103 rfl) rfl ?_
    refine T_sub (lv2 := [(9, vi s0), (0, vr 100), (1, vi l1), (2, vi l2), (5, vi l5), (6, vi l6), (7, vi l7)]) [0, 1, 2, 3, 5, 6, 7] rfl ?_
    refine KD_Vi [vi l4] [] rfl (dk dtk_X7_source 104 rfl) kcv_X7_201 rfl kk_100 rfl (kl_100 hq) (Nat.le_of_ble_eq_true rfl) (Nat.le_of_ble_eq_true rfl) (gok_i (av_c rfl (av_c (gkr (kl_100 hq)) (av_c rfl (av_c rfl (av_c rfl (av_c rfl (av_c rfl av_n))))))) as_n) rfl h (fun r4 x3 h => ?_)
    refine T_istore (lv2 := [(8, vi r4), (9, vi s0), (0, vr 100), (1, vi l1), (2, vi l2), (5, vi l5), (6, vi l6), (7, vi l7)]) (dk dtk_X7_source 105 rfl) (by decide) rfl ?_
    exact T_sub [2, 3, 4, 5, 6, 7, 0, 1] rfl h
set_option maxRecDepth 100000 in
set_option maxHeartbeats 4000000 in
theorem kg_X7_source_211 {G : kG} {q : kP} {d : Nat} {x : gd} {P : Option gv → gd → Prop} {X : String → gd → Prop} (hq : kV q) (l1 : Int32) (l2 : Int32) (l5 : Int32) (l6 : Int32) (l7 : Int32) (l8 : Int32) (l9 : Int32)
    (h : ((¬ (l5 = (16 : Int32)) → KE G q (d + 7) zk_X7_source 233 [(0, vr 100), (1, vi l1), (2, vi l2), (6, vi l6), (7, vi l7), (8, vi l8), (9, vi l9)] [vi l5, vr 80] x P X) ∧ (l5 = (16 : Int32) → ((¬ (l2 = (-1 : Int32)) → KE G q (d + 7) zk_X7_source 233 [(0, vr 100), (1, vi l1), (2, vi l2), (6, vi l6), (7, vi l7), (8, vi l8), (9, vi l9)] [vi l5, vr 80] x P X) ∧ (l2 = (-1 : Int32) → KE G q (d + 7) zk_X7_source 233 [(0, vr 100), (1, vi l1), (2, vi l2), (6, vi l6), (7, vi l7), (8, vi l8), (9, vi l9)] [vi 1, vr 80] x P X))))) :
    KE G q (d + 7) zk_X7_source 211 [(0, vr 100), (1, vi l1), (2, vi l2), (5, vi l5), (6, vi l6), (7, vi l7), (8, vi l8), (9, vi l9)] [] x P X := by
  refine T_aload_n 0 (dk dtk_X7_source 106 rfl) rfl rfl ?_
  refine T_getR 100 3 80 (dk dtk_X7_source 107 rfl) kfl_X7_29 kk_100 (kl_100 hq) (by decide) rfl kr_100_3 ?_
  refine T_iload 3 (dk dtk_X7_source 108 rfl) rfl ?_
  refine T_bipush (v := 16) (dk dtk_X7_source 109 rfl) (by decide +kernel) ?_
  refine T_icmp_ne 231 (dk dtk_X7_source 110 rfl) (by decide) (fun c1 => ?_) (fun c1 => ?_)
  · have h := h.1 c1
    refine T_iload 3 (dk dtk_X7_source 116 rfl) rfl ?_
    exact T_sub [0, 1, 2, 4, 5, 6, 7] rfl h
  · have h := h.2 c1
    refine T_iload_n 2 (dk dtk_X7_source 111 rfl) rfl rfl ?_
    refine T_iconst (v := (-1)) (dk dtk_X7_source 112 rfl) (by decide +kernel) ?_
    refine T_icmp_ne 231 (dk dtk_X7_source 113 rfl) (by decide) (fun c2 => ?_) (fun c2 => ?_)
    · have h := h.1 c2
      refine T_iload 3 (dk dtk_X7_source 116 rfl) rfl ?_
      exact T_sub [0, 1, 2, 4, 5, 6, 7] rfl h
    · have h := h.2 c2
      refine T_iconst (v := 1) (dk dtk_X7_source 114 rfl) (by decide +kernel) ?_
      refine T_goto 233 (dk dtk_X7_source 115 rfl) (by decide) ?_
      exact T_sub [0, 1, 2, 4, 5, 6, 7] rfl h
set_option maxRecDepth 100000 in
set_option maxHeartbeats 4000000 in
theorem kg_X7_source_233 {G : kG} {q : kP} {d : Nat} {x : gd} {P : Option gv → gd → Prop} {X : String → gd → Prop} (hq : kV q) (l1 : Int32) (l2 : Int32) (l6 : Int32) (l7 : Int32) (l8 : Int32) (l9 : Int32) (s0 : Int32)
    (h : KT G q (d + 6) zk_X8_add 0 [(0, vr 80), (1, vi s0), (2, vi l1), (3, vi (x.1 100 9))] [] x (ri (fun r2 x1 => vp_in r2 400 ∧ (∀ x4 : gd, x4 = si x1 84 (r2 : Int32).toNatClampNeg l2 → vp_in r2 400 ∧ (∀ x6 : gd, x6 = si x4 85 (r2 : Int32).toNatClampNeg l6 → vp_in r2 400 ∧ (∀ x8 : gd, x8 = si x6 87 (r2 : Int32).toNatClampNeg l7 → vp_in r2 400 ∧ (∀ x10 : gd, x10 = si x8 88 (r2 : Int32).toNatClampNeg l9 → vp_in r2 400 ∧ (∀ x12 : gd, x12 = si x10 89 (r2 : Int32).toNatClampNeg l8 → P none x12)))))))) :
    KE G q (d + 7) zk_X7_source 233 [(0, vr 100), (1, vi l1), (2, vi l2), (6, vi l6), (7, vi l7), (8, vi l8), (9, vi l9)] [vi s0, vr 80] x P X := by
  refine T_iload_n 1 (dk dtk_X7_source 117 rfl) rfl rfl ?_
  refine T_aload_n 0 (dk dtk_X7_source 118 rfl) rfl rfl ?_
  refine T_getI 100 9 (dk dtk_X7_source 119 rfl) kfl_X7_181 kk_100 (kl_100 hq) (by decide) rfl ?_
  refine T_sub (lv2 := [(0, vr 100), (2, vi l2), (6, vi l6), (7, vi l7), (8, vi l8), (9, vi l9)]) [0, 2, 3, 4, 5, 6] rfl ?_
  refine KC_Vi [vi s0, vi l1, vi (x.1 100 9)] [] rfl (dk dtk_X7_source 120 rfl) kcv_X7_191 rfl kk_80 rfl (kl_80 hq) (Nat.le_of_ble_eq_true rfl) (Nat.le_of_ble_eq_true rfl) (gok_i (av_c (gkr (kl_100 hq)) (av_c rfl (av_c rfl (av_c rfl (av_c rfl (av_c rfl av_n)))))) as_n) rfl h (fun r2 x1 h => ?_)
  refine T_istore (lv2 := [(10, vi r2), (0, vr 100), (2, vi l2), (6, vi l6), (7, vi l7), (8, vi l8), (9, vi l9)]) (dk dtk_X7_source 121 rfl) (by decide) rfl ?_
  refine T_aload_n 1 (dk dtk_X7_source 122 rfl) rfl rfl ?_
  refine T_getR 100 3 80 (dk dtk_X7_source 123 rfl) kfl_X7_29 kk_100 (kl_100 hq) (by decide) rfl kr_100_3 ?_
  refine T_getR 80 3 84 (dk dtk_X7_source 124 rfl) kfl_X7_214 kk_80 (kl_80 hq) (by decide) rfl kr_80_3 ?_
  refine T_iload 0 (dk dtk_X7_source 125 rfl) rfl ?_
  refine T_iload_n 2 (dk dtk_X7_source 126 rfl) rfl rfl ?_
  obtain ⟨h3, h⟩ := h
  obtain ⟨x4, ex4⟩ : ∃ z, z = si x1 84 (r2 : Int32).toNatClampNeg l2 := ⟨_, rfl⟩
  have h := h x4 ex4
  refine T_iast 84 400 (dk dtk_X7_source 127 rfl) kk_84 (kl_84 hq) h3 ?_
  rw [← ex4]
  refine T_aload_n 1 (dk dtk_X7_source 128 rfl) rfl rfl ?_
  refine T_getR 100 3 80 (dk dtk_X7_source 129 rfl) kfl_X7_29 kk_100 (kl_100 hq) (by decide) rfl kr_100_3 ?_
  refine T_getR 80 4 85 (dk dtk_X7_source 130 rfl) kfl_X7_220 kk_80 (kl_80 hq) (by decide) rfl kr_80_4 ?_
  refine T_iload 0 (dk dtk_X7_source 131 rfl) rfl ?_
  refine T_iload 3 (dk dtk_X7_source 132 rfl) rfl ?_
  obtain ⟨h5, h⟩ := h
  obtain ⟨x6, ex6⟩ : ∃ z, z = si x4 85 (r2 : Int32).toNatClampNeg l6 := ⟨_, rfl⟩
  have h := h x6 ex6
  refine T_iast 85 400 (dk dtk_X7_source 133 rfl) kk_85 (kl_85 hq) h5 ?_
  rw [← ex6]
  refine T_aload_n 1 (dk dtk_X7_source 134 rfl) rfl rfl ?_
  refine T_getR 100 3 80 (dk dtk_X7_source 135 rfl) kfl_X7_29 kk_100 (kl_100 hq) (by decide) rfl kr_100_3 ?_
  refine T_getR 80 6 87 (dk dtk_X7_source 136 rfl) kfl_X7_276 kk_80 (kl_80 hq) (by decide) rfl kr_80_6 ?_
  refine T_iload 0 (dk dtk_X7_source 137 rfl) rfl ?_
  refine T_iload 4 (dk dtk_X7_source 138 rfl) rfl ?_
  obtain ⟨h7, h⟩ := h
  obtain ⟨x8, ex8⟩ : ∃ z, z = si x6 87 (r2 : Int32).toNatClampNeg l7 := ⟨_, rfl⟩
  have h := h x8 ex8
  refine T_iast 87 400 (dk dtk_X7_source 139 rfl) kk_87 (kl_87 hq) h7 ?_
  rw [← ex8]
  refine T_aload_n 1 (dk dtk_X7_source 140 rfl) rfl rfl ?_
  refine T_getR 100 3 80 (dk dtk_X7_source 141 rfl) kfl_X7_29 kk_100 (kl_100 hq) (by decide) rfl kr_100_3 ?_
  refine T_getR 80 7 88 (dk dtk_X7_source 142 rfl) kfl_X7_233 kk_80 (kl_80 hq) (by decide) rfl kr_80_7 ?_
  refine T_iload 0 (dk dtk_X7_source 143 rfl) rfl ?_
  refine T_iload 6 (dk dtk_X7_source 144 rfl) rfl ?_
  obtain ⟨h9, h⟩ := h
  obtain ⟨x10, ex10⟩ : ∃ z, z = si x8 88 (r2 : Int32).toNatClampNeg l9 := ⟨_, rfl⟩
  have h := h x10 ex10
  refine T_iast 88 400 (dk dtk_X7_source 145 rfl) kk_88 (kl_88 hq) h9 ?_
  rw [← ex10]
  refine T_aload_n 1 (dk dtk_X7_source 146 rfl) rfl rfl ?_
  refine T_getR 100 3 80 (dk dtk_X7_source 147 rfl) kfl_X7_29 kk_100 (kl_100 hq) (by decide) rfl kr_100_3 ?_
  refine T_getR 80 8 89 (dk dtk_X7_source 148 rfl) kfl_X7_286 kk_80 (kl_80 hq) (by decide) rfl kr_80_8 ?_
  refine T_iload 0 (dk dtk_X7_source 149 rfl) rfl ?_
  refine T_iload 5 (dk dtk_X7_source 150 rfl) rfl ?_
  obtain ⟨h11, h⟩ := h
  obtain ⟨x12, ex12⟩ : ∃ z, z = si x10 89 (r2 : Int32).toNatClampNeg l8 := ⟨_, rfl⟩
  have h := h x12 ex12
  refine T_iast 89 400 (dk dtk_X7_source 151 rfl) kk_89 (kl_89 hq) h11 ?_
  rw [← ex12]
  exact KE_vret (dk dtk_X7_source 152 rfl) rfl h
set_option maxRecDepth 100000 in
theorem dtk_X7_sourceOp : dck cX7_sourceOp [(0, .aload_n 0, 1), (1, .invokevirtual 71, 3), (4, .lookupswitch 98 #[(2, 50), (40, 46), (46, 48), (65, 44)], 44), (48, .iconst 2, 1), (49, .ireturn, 1), (50, .iconst 3, 1), (51, .ireturn, 1), (52, .iconst 4, 1), (53, .ireturn, 1), (54, .aload_n 0, 1), (55, .invokevirtual 144, 3), (58, .bipush 27, 2), (60, .if_icmp .ne 20, 3), (63, .aload_n 0, 1), (64, .iconst 0, 1), (65, .aload_n 0, 1), (66, .getfield 52, 3), (69, .invokevirtual 266, 3), (72, .iconst (-1), 1), (73, .if_icmp .ne 7, 3), (76, .iconst 1, 1), (77, .goto 4, 3), (80, .iconst 0, 1), (81, .istore_n 1, 1), (82, .iload_n 1, 1), (83, .ifCond .ne 12, 3), (86, .aload_n 0, 1), (87, .invokevirtual 144, 3), (90, .bipush 25, 2), (92, .if_icmp .ne 7, 3), (95, .iconst 0, 1), (96, .goto 5, 3), (99, .bipush 16, 2), (101, .ireturn, 1), (102, .bipush 16, 2), (104, .ireturn, 1)] = true := by decide +kernel
set_option maxRecDepth 100000 in
set_option maxHeartbeats 4000000 in
theorem kg_X7_sourceOp_0 {G : kG} {q : kP} {d : Nat} {x : gd} {P : Option gv → gd → Prop} (hq : kV q) 
    (h : KT G q d zk_X7_sort 0 [(0, vr 100)] [] x (ri (fun r2 x1 => (((r2 = 65) → P (some (vi 2)) x1) ∧ ((r2 = 40) → P (some (vi 3)) x1) ∧ ((r2 = 46) → P (some (vi 4)) x1) ∧ ((r2 = 2) → KT G q d zk_X7_sortBehind 0 [(0, vr 100)] [] x1 (ri (fun r8 x7 => ((¬ (r8 = (27 : Int32)) → KT G q (d + 1) zk_X7_sourceOp 81 [(0, vr 100)] [vi 0] x7 P) ∧ (r8 = (27 : Int32) → KT G q d zk_X7_knownFrom 0 [(0, vr 100), (1, vi 0), (2, vi (x7.1 100 4))] [] x7 (ri (fun r11 x10 => ((¬ (r11 = (-1 : Int32)) → KT G q (d + 1) zk_X7_sourceOp 81 [(0, vr 100)] [vi 0] x10 P) ∧ (r11 = (-1 : Int32) → KT G q (d + 1) zk_X7_sourceOp 81 [(0, vr 100)] [vi 1] x10 P))))))))) ∧ ((∀ k ∈ [(65 : Int32), (40 : Int32), (46 : Int32), (2 : Int32)], ¬ r2 = k) → P (some (vi 16)) x1))))) :
    KT G q (d + 1) zk_X7_sourceOp 0 [(0, vr 100)] [] x P := by
  refine T_aload_n 0 (dk dtk_X7_sourceOp 0 rfl) rfl rfl ?_
  refine KC_Vi [] [] rfl (dk dtk_X7_sourceOp 1 rfl) kcv_X7_71 rfl kk_100 rfl (kl_100 hq) (Nat.le_of_ble_eq_true rfl) (Nat.le_of_ble_eq_true rfl) (gok_i (av_c (gkr (kl_100 hq)) av_n) as_n) rfl h (fun r2 x1 h => ?_)
  by_cases c3 : r2 = 65
  · have h := h.1 c3
    refine T_lookup 44 48 (dk dtk_X7_sourceOp 2 rfl) (by decide +kernel) (by rw [c3]; decide +kernel) (by decide) ?_
    refine T_iconst (v := 2) (dk dtk_X7_sourceOp 3 rfl) (by decide +kernel) ?_
    exact KT_iret (dk dtk_X7_sourceOp 4 rfl) rfl rfl h
  · have h := h.2
    by_cases c4 : r2 = 40
    · have h := h.1 c4
      refine T_lookup 46 50 (dk dtk_X7_sourceOp 2 rfl) (by decide +kernel) (by rw [c4]; decide +kernel) (by decide) ?_
      refine T_iconst (v := 3) (dk dtk_X7_sourceOp 5 rfl) (by decide +kernel) ?_
      exact KT_iret (dk dtk_X7_sourceOp 6 rfl) rfl rfl h
    · have h := h.2
      by_cases c5 : r2 = 46
      · have h := h.1 c5
        refine T_lookup 48 52 (dk dtk_X7_sourceOp 2 rfl) (by decide +kernel) (by rw [c5]; decide +kernel) (by decide) ?_
        refine T_iconst (v := 4) (dk dtk_X7_sourceOp 7 rfl) (by decide +kernel) ?_
        exact KT_iret (dk dtk_X7_sourceOp 8 rfl) rfl rfl h
      · have h := h.2
        by_cases c6 : r2 = 2
        · have h := h.1 c6
          refine T_lookup 50 54 (dk dtk_X7_sourceOp 2 rfl) (by decide +kernel) (by rw [c6]; decide +kernel) (by decide) ?_
          refine T_aload_n 0 (dk dtk_X7_sourceOp 9 rfl) rfl rfl ?_
          refine KC_Vi [] [] rfl (dk dtk_X7_sourceOp 10 rfl) kcv_X7_144 rfl kk_100 rfl (kl_100 hq) (Nat.le_of_ble_eq_true rfl) (Nat.le_of_ble_eq_true rfl) (gok_i (av_c (gkr (kl_100 hq)) av_n) as_n) rfl h (fun r8 x7 h => ?_)
          refine T_bipush (v := 27) (dk dtk_X7_sourceOp 11 rfl) (by decide +kernel) ?_
          refine T_icmp_ne 80 (dk dtk_X7_sourceOp 12 rfl) (by decide) (fun c9 => ?_) (fun c9 => ?_)
          · have h := h.1 c9
            refine T_iconst (v := 0) (dk dtk_X7_sourceOp 22 rfl) (by decide +kernel) ?_
            exact h
          · have h := h.2 c9
            refine T_aload_n 0 (dk dtk_X7_sourceOp 13 rfl) rfl rfl ?_
            refine T_iconst (v := 0) (dk dtk_X7_sourceOp 14 rfl) (by decide +kernel) ?_
            refine T_aload_n 0 (dk dtk_X7_sourceOp 15 rfl) rfl rfl ?_
            refine T_getI 100 4 (dk dtk_X7_sourceOp 16 rfl) kfl_X7_52 kk_100 (kl_100 hq) (by decide) rfl ?_
            refine KC_Vi [vi 0, vi (x7.1 100 4)] [] rfl (dk dtk_X7_sourceOp 17 rfl) kcv_X7_266 rfl kk_100 rfl (kl_100 hq) (Nat.le_of_ble_eq_true rfl) (Nat.le_of_ble_eq_true rfl) (gok_i (av_c (gkr (kl_100 hq)) av_n) as_n) rfl h (fun r11 x10 h => ?_)
            refine T_iconst (v := (-1)) (dk dtk_X7_sourceOp 18 rfl) (by decide +kernel) ?_
            refine T_icmp_ne 80 (dk dtk_X7_sourceOp 19 rfl) (by decide) (fun c12 => ?_) (fun c12 => ?_)
            · have h := h.1 c12
              refine T_iconst (v := 0) (dk dtk_X7_sourceOp 22 rfl) (by decide +kernel) ?_
              exact h
            · have h := h.2 c12
              refine T_iconst (v := 1) (dk dtk_X7_sourceOp 20 rfl) (by decide +kernel) ?_
              refine T_goto 81 (dk dtk_X7_sourceOp 21 rfl) (by decide) ?_
              exact h
        · have h := h.2
          have n13 : ∀ k ∈ [(65 : Int32), (40 : Int32), (46 : Int32), (2 : Int32)], ¬ r2 = k := (gno c3 (gno c4 (gno c5 (gno c6 gno0))))
          have h := h n13
          refine T_lookup 98 102 (dk dtk_X7_sourceOp 2 rfl) (by decide +kernel) (glk_d [(65 : Int32), (40 : Int32), (46 : Int32), (2 : Int32)] (by decide +kernel) n13) (by decide) ?_
          refine T_bipush (v := 16) (dk dtk_X7_sourceOp 34 rfl) (by decide +kernel) ?_
          exact KT_iret (dk dtk_X7_sourceOp 35 rfl) rfl rfl h
set_option maxRecDepth 100000 in
set_option maxHeartbeats 4000000 in
theorem kg_X7_sourceOp_81 {G : kG} {q : kP} {d : Nat} {x : gd} {P : Option gv → gd → Prop} (hq : kV q) (s0 : Int32)
    (h : ((¬ (s0 = (0 : Int32)) → P (some (vi 0)) x) ∧ (s0 = (0 : Int32) → KT G q d zk_X7_sortBehind 0 [(0, vr 100)] [] x (ri (fun r3 x2 => ((¬ (r3 = (25 : Int32)) → P (some (vi 16)) x2) ∧ (r3 = (25 : Int32) → P (some (vi 0)) x2))))))) :
    KT G q (d + 1) zk_X7_sourceOp 81 [(0, vr 100)] [vi s0] x P := by
  refine T_istore_n (lv2 := [(1, vi s0), (0, vr 100)]) (dk dtk_X7_sourceOp 23 rfl) rfl (by decide) rfl ?_
  refine T_iload_n 0 (dk dtk_X7_sourceOp 24 rfl) rfl rfl ?_
  refine T_if_ne 95 (dk dtk_X7_sourceOp 25 rfl) (by decide) (fun c1 => ?_) (fun c1 => ?_)
  · have h := h.1 c1
    refine T_iconst (v := 0) (dk dtk_X7_sourceOp 30 rfl) (by decide +kernel) ?_
    refine T_goto 101 (dk dtk_X7_sourceOp 31 rfl) (by decide) ?_
    exact KT_iret (dk dtk_X7_sourceOp 33 rfl) rfl rfl h
  · have h := h.2 c1
    refine T_aload_n 1 (dk dtk_X7_sourceOp 26 rfl) rfl rfl ?_
    refine T_sub (lv2 := []) [] rfl ?_
    refine KC_Vi [] [] rfl (dk dtk_X7_sourceOp 27 rfl) kcv_X7_144 rfl kk_100 rfl (kl_100 hq) (Nat.le_of_ble_eq_true rfl) (Nat.le_of_ble_eq_true rfl) (gok_i av_n as_n) rfl h (fun r3 x2 h => ?_)
    refine T_bipush (v := 25) (dk dtk_X7_sourceOp 28 rfl) (by decide +kernel) ?_
    refine T_icmp_ne 99 (dk dtk_X7_sourceOp 29 rfl) (by decide) (fun c4 => ?_) (fun c4 => ?_)
    · have h := h.1 c4
      refine T_bipush (v := 16) (dk dtk_X7_sourceOp 32 rfl) (by decide +kernel) ?_
      exact KT_iret (dk dtk_X7_sourceOp 33 rfl) rfl rfl h
    · have h := h.2 c4
      refine T_iconst (v := 0) (dk dtk_X7_sourceOp 30 rfl) (by decide +kernel) ?_
      refine T_goto 101 (dk dtk_X7_sourceOp 31 rfl) (by decide) ?_
      exact KT_iret (dk dtk_X7_sourceOp 33 rfl) rfl rfl h
set_option maxRecDepth 100000 in
theorem dtk_X7_useOfCell : dck cX7_useOfCell [(0, .iload_n 0, 1), (1, .ifCond .eq 15, 3), (4, .iload_n 1, 1), (5, .ifCond .eq 8, 3), (8, .bipush 9, 2), (10, .goto 5, 3), (13, .bipush 7, 2), (15, .ireturn, 1), (16, .iload_n 1, 1), (17, .ifCond .eq 8, 3), (20, .bipush 8, 2), (22, .goto 5, 3), (25, .bipush 6, 2), (27, .ireturn, 1)] = true := by decide +kernel
set_option maxRecDepth 100000 in
set_option maxHeartbeats 4000000 in
theorem kg_X7_useOfCell_0 {G : kG} {q : kP} {d : Nat} {x : gd} {P : Option gv → gd → Prop} (hq : kV q) (l0 : Int32) (l1 : Int32)
    (h : ((l0 = (0 : Int32) → ((l1 = (0 : Int32) → P (some (vi 6)) x) ∧ (¬ (l1 = (0 : Int32)) → P (some (vi 8)) x))) ∧ (¬ (l0 = (0 : Int32)) → ((l1 = (0 : Int32) → P (some (vi 7)) x) ∧ (¬ (l1 = (0 : Int32)) → P (some (vi 9)) x))))) :
    KT G q d zk_X7_useOfCell 0 [(0, vi l0), (1, vi l1)] [] x P := by
  refine T_iload_n 0 (dk dtk_X7_useOfCell 0 rfl) rfl rfl ?_
  refine T_if_eq 16 (dk dtk_X7_useOfCell 1 rfl) (by decide) (fun c1 => ?_) (fun c1 => ?_)
  · have h := h.1 c1
    refine T_iload_n 1 (dk dtk_X7_useOfCell 8 rfl) rfl rfl ?_
    refine T_if_eq 25 (dk dtk_X7_useOfCell 9 rfl) (by decide) (fun c2 => ?_) (fun c2 => ?_)
    · have h := h.1 c2
      refine T_bipush (v := 6) (dk dtk_X7_useOfCell 12 rfl) (by decide +kernel) ?_
      exact KT_iret (dk dtk_X7_useOfCell 13 rfl) rfl rfl h
    · have h := h.2 c2
      refine T_bipush (v := 8) (dk dtk_X7_useOfCell 10 rfl) (by decide +kernel) ?_
      refine T_goto 27 (dk dtk_X7_useOfCell 11 rfl) (by decide) ?_
      exact KT_iret (dk dtk_X7_useOfCell 13 rfl) rfl rfl h
  · have h := h.2 c1
    refine T_iload_n 1 (dk dtk_X7_useOfCell 2 rfl) rfl rfl ?_
    refine T_if_eq 13 (dk dtk_X7_useOfCell 3 rfl) (by decide) (fun c3 => ?_) (fun c3 => ?_)
    · have h := h.1 c3
      refine T_bipush (v := 7) (dk dtk_X7_useOfCell 6 rfl) (by decide +kernel) ?_
      exact KT_iret (dk dtk_X7_useOfCell 7 rfl) rfl rfl h
    · have h := h.2 c3
      refine T_bipush (v := 9) (dk dtk_X7_useOfCell 4 rfl) (by decide +kernel) ?_
      refine T_goto 15 (dk dtk_X7_useOfCell 5 rfl) (by decide) ?_
      exact KT_iret (dk dtk_X7_useOfCell 7 rfl) rfl rfl h
set_option maxRecDepth 100000 in
theorem dtk_X7_plainStatement : dck cX7_plainStatement [(0, .aload_n 0, 1), (1, .invokevirtual 71, 3), (4, .bipush 70, 2), (6, .if_icmp .ne 7, 3), (9, .iconst 1, 1), (10, .goto 4, 3), (13, .iconst 0, 1), (14, .istore_n 3, 1), (15, .aload_n 0, 1), (16, .invokevirtual 112, 3), (19, .iconst (-1), 1), (20, .istore 4, 2), (22, .iload_n 1, 1), (23, .iconst 5, 1), (24, .if_icmp .lt 39, 3), (27, .iload_n 1, 1), (28, .bipush 10, 2), (30, .if_icmp .gt 33, 3), (33, .aload_n 0, 1), (34, .iload_n 1, 1), (35, .iload_n 2, 1), (36, .invokevirtual 260, 3), (39, .istore 4, 2), (41, .aload_n 0, 1), (42, .getfield 29, 3), (45, .getfield 214, 3), (48, .iload 4, 2), (50, .iload_n 3, 1), (51, .ifCond .eq 7, 3), (54, .iconst 1, 1), (55, .goto 4, 3), (58, .iconst 0, 1), (59, .iastore, 1), (60, .goto 120, 3), (63, .iconst (-1), 1), (64, .istore 5, 2), (66, .iload_n 1, 1), (67, .bipush 13, 2), (69, .if_icmp .ne 26, 3), (72, .aload_n 0, 1), (73, .getfield 11, 3), (76, .getfield 147, 3), (79, .aload_n 0, 1), (80, .iconst 3, 1), (81, .bipush 13, 2), (83, .invokevirtual 130, 3), (86, .iaload, 1), (87, .istore 5, 2), (89, .aload_n 0, 1), (90, .bipush 28, 2), (92, .invokevirtual 115, 3), (95, .iload_n 1, 1), (96, .bipush 13, 2), (98, .if_icmp .eq 15, 3), (101, .iload_n 1, 1), (102, .bipush 14, 2), (104, .if_icmp .eq 9, 3), (107, .iload_n 1, 1), (108, .bipush 18, 2), (110, .if_icmp .ne 7, 3), (113, .iconst 1, 1), (114, .goto 4, 3), (117, .iconst 0, 1), (118, .istore 6, 2), (120, .iload 6, 2), (122, .ifCond .eq 16, 3), (125, .aload_n 0, 1), (126, .aload_n 0, 1), (127, .getfield 184, 3), (130, .iconst 1, 1), (131, .iadd, 1), (132, .invokevirtual 201, 3), (135, .goto 4, 3), (138, .iconst (-1), 1), (139, .istore 7, 2), (141, .aload_n 0, 1), (142, .getfield 29, 3), (145, .iload_n 1, 1), (146, .iload_n 2, 1), (147, .aload_n 0, 1), (148, .getfield 181, 3), (151, .invokevirtual 191, 3), (154, .istore 4, 2), (156, .aload_n 0, 1), (157, .getfield 29, 3), (160, .getfield 220, 3), (163, .iload 4, 2), (165, .iload 5, 2), (167, .iastore, 1), (168, .aload_n 0, 1), (169, .getfield 29, 3), (172, .getfield 233, 3), (175, .iload 4, 2), (177, .iload 7, 2), (179, .iastore, 1), (180, .aload_n 0, 1), (181, .bipush 27, 2), (183, .invokevirtual 115, 3), (186, .return_, 1)] = true := by decide +kernel
set_option maxRecDepth 100000 in
set_option maxHeartbeats 4000000 in
theorem kg_X7_plainStatement_0 {G : kG} {q : kP} {d : Nat} {x : gd} {P : Option gv → gd → Prop} {X : String → gd → Prop} (hq : kV q) (l1 : Int32) (l2 : Int32)
    (h : KT G q (d + 6) zk_X7_sort 0 [(0, vr 100)] [] x (ri (fun r2 x1 => ((¬ (r2 = (70 : Int32)) → KE G q (d + 7) zk_X7_plainStatement 14 [(0, vr 100), (1, vi l1), (2, vi l2)] [vi 0] x1 P X) ∧ (r2 = (70 : Int32) → KE G q (d + 7) zk_X7_plainStatement 14 [(0, vr 100), (1, vi l1), (2, vi l2)] [vi 1] x1 P X))))) :
    KE G q (d + 7) zk_X7_plainStatement 0 [(0, vr 100), (1, vi l1), (2, vi l2)] [] x P X := by
  refine T_aload_n 0 (dk dtk_X7_plainStatement 0 rfl) rfl rfl ?_
  refine KC_Vi [] [] rfl (dk dtk_X7_plainStatement 1 rfl) kcv_X7_71 rfl kk_100 rfl (kl_100 hq) (Nat.le_of_ble_eq_true rfl) (Nat.le_of_ble_eq_true rfl) (gok_i (av_c (gkr (kl_100 hq)) (av_c rfl (av_c rfl av_n))) as_n) rfl h (fun r2 x1 h => ?_)
  refine T_bipush (v := 70) (dk dtk_X7_plainStatement 2 rfl) (by decide +kernel) ?_
  refine T_icmp_ne 13 (dk dtk_X7_plainStatement 3 rfl) (by decide) (fun c3 => ?_) (fun c3 => ?_)
  · have h := h.1 c3
    refine T_iconst (v := 0) (dk dtk_X7_plainStatement 6 rfl) (by decide +kernel) ?_
    exact h
  · have h := h.2 c3
    refine T_iconst (v := 1) (dk dtk_X7_plainStatement 4 rfl) (by decide +kernel) ?_
    refine T_goto 14 (dk dtk_X7_plainStatement 5 rfl) (by decide) ?_
    exact h
set_option maxRecDepth 100000 in
set_option maxHeartbeats 4000000 in
theorem kg_X7_plainStatement_14 {G : kG} {q : kP} {d : Nat} {x : gd} {P : Option gv → gd → Prop} {X : String → gd → Prop} (hq : kV q) (l1 : Int32) (l2 : Int32) (s0 : Int32)
    (h : KE G q (d + 6) zk_X7_pass 0 [(0, vr 100)] [] x (rv (fun x1 => ((l1 < (5 : Int32) → KE G q (d + 7) zk_X7_plainStatement 63 [(0, vr 100), (1, vi l1), (2, vi l2)] [] x1 P X) ∧ (¬ (l1 < (5 : Int32)) → (((10 : Int32) < l1 → KE G q (d + 7) zk_X7_plainStatement 63 [(0, vr 100), (1, vi l1), (2, vi l2)] [] x1 P X) ∧ (¬ ((10 : Int32) < l1) → KE G q (d + 6) zk_X7_nameStep 0 [(0, vr 100), (1, vi l1), (2, vi l2)] [] x1 (ri (fun r5 x4 => ((s0 = (0 : Int32) → vp_in r5 400 ∧ (∀ x8 : gd, x8 = si x4 84 (r5 : Int32).toNatClampNeg 0 → KE G q (d + 7) zk_X7_plainStatement 180 [(0, vr 100)] [] x8 P X)) ∧ (¬ (s0 = (0 : Int32)) → vp_in r5 400 ∧ (∀ x10 : gd, x10 = si x4 84 (r5 : Int32).toNatClampNeg 1 → KE G q (d + 7) zk_X7_plainStatement 180 [(0, vr 100)] [] x10 P X))))) X)))))) X) :
    KE G q (d + 7) zk_X7_plainStatement 14 [(0, vr 100), (1, vi l1), (2, vi l2)] [vi s0] x P X := by
  refine T_istore_n (lv2 := [(3, vi s0), (0, vr 100), (1, vi l1), (2, vi l2)]) (dk dtk_X7_plainStatement 7 rfl) rfl (by decide) rfl ?_
  refine T_aload_n 1 (dk dtk_X7_plainStatement 8 rfl) rfl rfl ?_
  refine KD_Vv [] [] rfl (dk dtk_X7_plainStatement 9 rfl) kcv_X7_112 rfl kk_100 rfl (kl_100 hq) (Nat.le_of_ble_eq_true rfl) (Nat.le_of_ble_eq_true rfl) (gok_i (av_c rfl (av_c (gkr (kl_100 hq)) (av_c rfl (av_c rfl av_n)))) as_n) rfl h (fun x1 h => ?_)
  refine T_iconst (v := (-1)) (dk dtk_X7_plainStatement 10 rfl) (by decide +kernel) ?_
  refine T_istore (lv2 := [(4, vi (-1)), (3, vi s0), (0, vr 100), (1, vi l1), (2, vi l2)]) (dk dtk_X7_plainStatement 11 rfl) (by decide) rfl ?_
  refine T_iload_n 3 (dk dtk_X7_plainStatement 12 rfl) rfl rfl ?_
  refine T_iconst (v := 5) (dk dtk_X7_plainStatement 13 rfl) (by decide +kernel) ?_
  refine T_icmp_lt 63 (dk dtk_X7_plainStatement 14 rfl) (by decide) (fun c2 => ?_) (fun c2 => ?_)
  · have h := h.1 c2
    exact T_sub [2, 3, 4] rfl h
  · have h := h.2 c2
    refine T_iload_n 3 (dk dtk_X7_plainStatement 15 rfl) rfl rfl ?_
    refine T_bipush (v := 10) (dk dtk_X7_plainStatement 16 rfl) (by decide +kernel) ?_
    refine T_icmp_gt 63 (dk dtk_X7_plainStatement 17 rfl) (by decide) (fun c3 => ?_) (fun c3 => ?_)
    · have h := h.1 c3
      exact T_sub [2, 3, 4] rfl h
    · have h := h.2 c3
      refine T_aload_n 2 (dk dtk_X7_plainStatement 18 rfl) rfl rfl ?_
      refine T_iload_n 3 (dk dtk_X7_plainStatement 19 rfl) rfl rfl ?_
      refine T_iload_n 4 (dk dtk_X7_plainStatement 20 rfl) rfl rfl ?_
      refine T_sub (lv2 := [(3, vi s0), (0, vr 100)]) [1, 2] rfl ?_
      refine KD_Vi [vi l1, vi l2] [] rfl (dk dtk_X7_plainStatement 21 rfl) kcv_X7_260 rfl kk_100 rfl (kl_100 hq) (Nat.le_of_ble_eq_true rfl) (Nat.le_of_ble_eq_true rfl) (gok_i (av_c rfl (av_c (gkr (kl_100 hq)) av_n)) as_n) rfl h (fun r5 x4 h => ?_)
      refine T_istore (lv2 := [(4, vi r5), (3, vi s0), (0, vr 100)]) (dk dtk_X7_plainStatement 22 rfl) (by decide) rfl ?_
      refine T_aload_n 2 (dk dtk_X7_plainStatement 23 rfl) rfl rfl ?_
      refine T_getR 100 3 80 (dk dtk_X7_plainStatement 24 rfl) kfl_X7_29 kk_100 (kl_100 hq) (by decide) rfl kr_100_3 ?_
      refine T_getR 80 3 84 (dk dtk_X7_plainStatement 25 rfl) kfl_X7_214 kk_80 (kl_80 hq) (by decide) rfl kr_80_3 ?_
      refine T_iload 0 (dk dtk_X7_plainStatement 26 rfl) rfl ?_
      refine T_iload_n 1 (dk dtk_X7_plainStatement 27 rfl) rfl rfl ?_
      refine T_if_eq 58 (dk dtk_X7_plainStatement 28 rfl) (by decide) (fun c6 => ?_) (fun c6 => ?_)
      · have h := h.1 c6
        refine T_iconst (v := 0) (dk dtk_X7_plainStatement 31 rfl) (by decide +kernel) ?_
        obtain ⟨h7, h⟩ := h
        obtain ⟨x8, ex8⟩ : ∃ z, z = si x4 84 (r5 : Int32).toNatClampNeg 0 := ⟨_, rfl⟩
        have h := h x8 ex8
        refine T_iast 84 400 (dk dtk_X7_plainStatement 32 rfl) kk_84 (kl_84 hq) h7 ?_
        rw [← ex8]
        refine T_goto 180 (dk dtk_X7_plainStatement 33 rfl) (by decide) ?_
        exact T_sub [2] rfl h
      · have h := h.2 c6
        refine T_iconst (v := 1) (dk dtk_X7_plainStatement 29 rfl) (by decide +kernel) ?_
        refine T_goto 59 (dk dtk_X7_plainStatement 30 rfl) (by decide) ?_
        obtain ⟨h9, h⟩ := h
        obtain ⟨x10, ex10⟩ : ∃ z, z = si x4 84 (r5 : Int32).toNatClampNeg 1 := ⟨_, rfl⟩
        have h := h x10 ex10
        refine T_iast 84 400 (dk dtk_X7_plainStatement 32 rfl) kk_84 (kl_84 hq) h9 ?_
        rw [← ex10]
        refine T_goto 180 (dk dtk_X7_plainStatement 33 rfl) (by decide) ?_
        exact T_sub [2] rfl h
set_option maxRecDepth 100000 in
set_option maxHeartbeats 4000000 in
theorem kg_X7_plainStatement_63 {G : kG} {q : kP} {d : Nat} {x : gd} {P : Option gv → gd → Prop} {X : String → gd → Prop} (hq : kV q) (l1 : Int32) (l2 : Int32)
    (h : ((¬ (l1 = (13 : Int32)) → KE G q (d + 7) zk_X7_plainStatement 95 [(0, vr 100), (1, vi l1), (2, vi l2), (5, vi (-1))] [] x P X) ∧ (l1 = (13 : Int32) → KE G q (d + 6) zk_X7_needFor 0 [(0, vr 100), (1, vi 3), (2, vi 13)] [] x (ri (fun r3 x2 => vp_in r3 702 ∧ KE G q (d + 6) zk_X7_need 0 [(0, vr 100), (1, vi 28)] [] x2 (rv (fun x5 => KE G q (d + 7) zk_X7_plainStatement 95 [(0, vr 100), (1, vi l1), (2, vi l2), (5, vi (x2.1 27 (r3 : Int32).toNatClampNeg))] [] x5 P X)) X)) X))) :
    KE G q (d + 7) zk_X7_plainStatement 63 [(0, vr 100), (1, vi l1), (2, vi l2)] [] x P X := by
  refine T_iconst (v := (-1)) (dk dtk_X7_plainStatement 34 rfl) (by decide +kernel) ?_
  refine T_istore (lv2 := [(5, vi (-1)), (0, vr 100), (1, vi l1), (2, vi l2)]) (dk dtk_X7_plainStatement 35 rfl) (by decide) rfl ?_
  refine T_iload_n 2 (dk dtk_X7_plainStatement 36 rfl) rfl rfl ?_
  refine T_bipush (v := 13) (dk dtk_X7_plainStatement 37 rfl) (by decide +kernel) ?_
  refine T_icmp_ne 95 (dk dtk_X7_plainStatement 38 rfl) (by decide) (fun c1 => ?_) (fun c1 => ?_)
  · have h := h.1 c1
    exact T_sub [1, 2, 3, 0] rfl h
  · have h := h.2 c1
    refine T_aload_n 1 (dk dtk_X7_plainStatement 39 rfl) rfl rfl ?_
    refine T_getR 100 0 20 (dk dtk_X7_plainStatement 40 rfl) kfl_X7_11 kk_100 (kl_100 hq) (by decide) rfl kr_100_0 ?_
    refine T_getR 20 6 27 (dk dtk_X7_plainStatement 41 rfl) kfl_X7_147 kk_20 (kl_20 hq) (by decide) rfl kr_20_6 ?_
    refine T_aload_n 1 (dk dtk_X7_plainStatement 42 rfl) rfl rfl ?_
    refine T_iconst (v := 3) (dk dtk_X7_plainStatement 43 rfl) (by decide +kernel) ?_
    refine T_bipush (v := 13) (dk dtk_X7_plainStatement 44 rfl) (by decide +kernel) ?_
    refine T_sub (lv2 := [(0, vr 100), (1, vi l1), (2, vi l2)]) [1, 2, 3] rfl ?_
    refine KD_Vi [vi 3, vi 13] [vr 27] rfl (dk dtk_X7_plainStatement 45 rfl) kcv_X7_130 rfl kk_100 rfl (kl_100 hq) (Nat.le_of_ble_eq_true rfl) (Nat.le_of_ble_eq_true rfl) (gok_i (av_c (gkr (kl_100 hq)) (av_c rfl (av_c rfl av_n))) (as_c (gkr (kl_27 hq)) as_n)) rfl h (fun r3 x2 h => ?_)
    obtain ⟨h4, h⟩ := h
    refine T_iald 27 702 (dk dtk_X7_plainStatement 46 rfl) kk_27 (kl_27 hq) h4 ?_
    refine T_istore (lv2 := [(5, vi (x2.1 27 (r3 : Int32).toNatClampNeg)), (0, vr 100), (1, vi l1), (2, vi l2)]) (dk dtk_X7_plainStatement 47 rfl) (by decide) rfl ?_
    refine T_aload_n 1 (dk dtk_X7_plainStatement 48 rfl) rfl rfl ?_
    refine T_bipush (v := 28) (dk dtk_X7_plainStatement 49 rfl) (by decide +kernel) ?_
    refine KD_Vv [vi 28] [] rfl (dk dtk_X7_plainStatement 50 rfl) kcv_X7_115 rfl kk_100 rfl (kl_100 hq) (Nat.le_of_ble_eq_true rfl) (Nat.le_of_ble_eq_true rfl) (gok_i (av_c rfl (av_c (gkr (kl_100 hq)) (av_c rfl (av_c rfl av_n)))) as_n) rfl h (fun x5 h => ?_)
    exact T_sub [1, 2, 3, 0] rfl h
set_option maxRecDepth 100000 in
set_option maxHeartbeats 4000000 in
theorem kg_X7_plainStatement_95 {G : kG} {q : kP} {d : Nat} {x : gd} {P : Option gv → gd → Prop} {X : String → gd → Prop} (hq : kV q) (l1 : Int32) (l2 : Int32) (l5 : Int32)
    (h : ((l1 = (13 : Int32) → KE G q (d + 7) zk_X7_plainStatement 118 [(0, vr 100), (1, vi l1), (2, vi l2), (5, vi l5)] [vi 1] x P X) ∧ (¬ (l1 = (13 : Int32)) → ((l1 = (14 : Int32) → KE G q (d + 7) zk_X7_plainStatement 118 [(0, vr 100), (1, vi l1), (2, vi l2), (5, vi l5)] [vi 1] x P X) ∧ (¬ (l1 = (14 : Int32)) → ((¬ (l1 = (18 : Int32)) → KE G q (d + 7) zk_X7_plainStatement 118 [(0, vr 100), (1, vi l1), (2, vi l2), (5, vi l5)] [vi 0] x P X) ∧ (l1 = (18 : Int32) → KE G q (d + 7) zk_X7_plainStatement 118 [(0, vr 100), (1, vi l1), (2, vi l2), (5, vi l5)] [vi 1] x P X))))))) :
    KE G q (d + 7) zk_X7_plainStatement 95 [(0, vr 100), (1, vi l1), (2, vi l2), (5, vi l5)] [] x P X := by
  refine T_iload_n 1 (dk dtk_X7_plainStatement 51 rfl) rfl rfl ?_
  refine T_bipush (v := 13) (dk dtk_X7_plainStatement 52 rfl) (by decide +kernel) ?_
  refine T_icmp_eq 113 (dk dtk_X7_plainStatement 53 rfl) (by decide) (fun c1 => ?_) (fun c1 => ?_)
  · have h := h.1 c1
    refine T_iconst (v := 1) (dk dtk_X7_plainStatement 60 rfl) (by decide +kernel) ?_
    refine T_goto 118 (dk dtk_X7_plainStatement 61 rfl) (by decide) ?_
    exact h
  · have h := h.2 c1
    refine T_iload_n 1 (dk dtk_X7_plainStatement 54 rfl) rfl rfl ?_
    refine T_bipush (v := 14) (dk dtk_X7_plainStatement 55 rfl) (by decide +kernel) ?_
    refine T_icmp_eq 113 (dk dtk_X7_plainStatement 56 rfl) (by decide) (fun c2 => ?_) (fun c2 => ?_)
    · have h := h.1 c2
      refine T_iconst (v := 1) (dk dtk_X7_plainStatement 60 rfl) (by decide +kernel) ?_
      refine T_goto 118 (dk dtk_X7_plainStatement 61 rfl) (by decide) ?_
      exact h
    · have h := h.2 c2
      refine T_iload_n 1 (dk dtk_X7_plainStatement 57 rfl) rfl rfl ?_
      refine T_bipush (v := 18) (dk dtk_X7_plainStatement 58 rfl) (by decide +kernel) ?_
      refine T_icmp_ne 117 (dk dtk_X7_plainStatement 59 rfl) (by decide) (fun c3 => ?_) (fun c3 => ?_)
      · have h := h.1 c3
        refine T_iconst (v := 0) (dk dtk_X7_plainStatement 62 rfl) (by decide +kernel) ?_
        exact h
      · have h := h.2 c3
        refine T_iconst (v := 1) (dk dtk_X7_plainStatement 60 rfl) (by decide +kernel) ?_
        refine T_goto 118 (dk dtk_X7_plainStatement 61 rfl) (by decide) ?_
        exact h
set_option maxRecDepth 100000 in
set_option maxHeartbeats 4000000 in
theorem kg_X7_plainStatement_118 {G : kG} {q : kP} {d : Nat} {x : gd} {P : Option gv → gd → Prop} {X : String → gd → Prop} (hq : kV q) (l1 : Int32) (l2 : Int32) (l5 : Int32) (s0 : Int32)
    (h : ((s0 = (0 : Int32) → KE G q (d + 7) zk_X7_plainStatement 139 [(0, vr 100), (1, vi l1), (2, vi l2), (5, vi l5)] [vi (-1)] x P X) ∧ (¬ (s0 = (0 : Int32)) → KE G q (d + 6) zk_X7_sum 0 [(0, vr 100), (1, vi ((x.1 100 13) + 1))] [] x (ri (fun r3 x2 => KE G q (d + 7) zk_X7_plainStatement 139 [(0, vr 100), (1, vi l1), (2, vi l2), (5, vi l5)] [vi r3] x2 P X)) X))) :
    KE G q (d + 7) zk_X7_plainStatement 118 [(0, vr 100), (1, vi l1), (2, vi l2), (5, vi l5)] [vi s0] x P X := by
  refine T_istore (lv2 := [(6, vi s0), (0, vr 100), (1, vi l1), (2, vi l2), (5, vi l5)]) (dk dtk_X7_plainStatement 63 rfl) (by decide) rfl ?_
  refine T_iload 0 (dk dtk_X7_plainStatement 64 rfl) rfl ?_
  refine T_if_eq 138 (dk dtk_X7_plainStatement 65 rfl) (by decide) (fun c1 => ?_) (fun c1 => ?_)
  · have h := h.1 c1
    refine T_iconst (v := (-1)) (dk dtk_X7_plainStatement 73 rfl) (by decide +kernel) ?_
    exact T_sub [1, 2, 3, 4] rfl h
  · have h := h.2 c1
    refine T_aload_n 1 (dk dtk_X7_plainStatement 66 rfl) rfl rfl ?_
    refine T_aload_n 1 (dk dtk_X7_plainStatement 67 rfl) rfl rfl ?_
    refine T_getI 100 13 (dk dtk_X7_plainStatement 68 rfl) kfl_X7_184 kk_100 (kl_100 hq) (by decide) rfl ?_
    refine T_iconst (v := 1) (dk dtk_X7_plainStatement 69 rfl) (by decide +kernel) ?_
    refine T_iadd (dk dtk_X7_plainStatement 70 rfl) ?_
    refine T_sub (lv2 := [(0, vr 100), (1, vi l1), (2, vi l2), (5, vi l5)]) [1, 2, 3, 4] rfl ?_
    refine KD_Vi [vi ((x.1 100 13) + 1)] [] rfl (dk dtk_X7_plainStatement 71 rfl) kcv_X7_201 rfl kk_100 rfl (kl_100 hq) (Nat.le_of_ble_eq_true rfl) (Nat.le_of_ble_eq_true rfl) (gok_i (av_c (gkr (kl_100 hq)) (av_c rfl (av_c rfl (av_c rfl av_n)))) as_n) rfl h (fun r3 x2 h => ?_)
    refine T_goto 139 (dk dtk_X7_plainStatement 72 rfl) (by decide) ?_
    exact h
set_option maxRecDepth 100000 in
set_option maxHeartbeats 4000000 in
theorem kg_X7_plainStatement_139 {G : kG} {q : kP} {d : Nat} {x : gd} {P : Option gv → gd → Prop} {X : String → gd → Prop} (hq : kV q) (l1 : Int32) (l2 : Int32) (l5 : Int32) (s0 : Int32)
    (h : KT G q (d + 6) zk_X8_add 0 [(0, vr 80), (1, vi l1), (2, vi l2), (3, vi (x.1 100 9))] [] x (ri (fun r2 x1 => vp_in r2 400 ∧ (∀ x4 : gd, x4 = si x1 85 (r2 : Int32).toNatClampNeg l5 → vp_in r2 400 ∧ (∀ x6 : gd, x6 = si x4 88 (r2 : Int32).toNatClampNeg s0 → KE G q (d + 7) zk_X7_plainStatement 180 [(0, vr 100)] [] x6 P X))))) :
    KE G q (d + 7) zk_X7_plainStatement 139 [(0, vr 100), (1, vi l1), (2, vi l2), (5, vi l5)] [vi s0] x P X := by
  refine T_istore (lv2 := [(7, vi s0), (0, vr 100), (1, vi l1), (2, vi l2), (5, vi l5)]) (dk dtk_X7_plainStatement 74 rfl) (by decide) rfl ?_
  refine T_aload_n 1 (dk dtk_X7_plainStatement 75 rfl) rfl rfl ?_
  refine T_getR 100 3 80 (dk dtk_X7_plainStatement 76 rfl) kfl_X7_29 kk_100 (kl_100 hq) (by decide) rfl kr_100_3 ?_
  refine T_iload_n 2 (dk dtk_X7_plainStatement 77 rfl) rfl rfl ?_
  refine T_iload_n 3 (dk dtk_X7_plainStatement 78 rfl) rfl rfl ?_
  refine T_aload_n 1 (dk dtk_X7_plainStatement 79 rfl) rfl rfl ?_
  refine T_getI 100 9 (dk dtk_X7_plainStatement 80 rfl) kfl_X7_181 kk_100 (kl_100 hq) (by decide) rfl ?_
  refine T_sub (lv2 := [(7, vi s0), (0, vr 100), (5, vi l5)]) [0, 1, 4] rfl ?_
  refine KC_Vi [vi l1, vi l2, vi (x.1 100 9)] [] rfl (dk dtk_X7_plainStatement 81 rfl) kcv_X7_191 rfl kk_80 rfl (kl_80 hq) (Nat.le_of_ble_eq_true rfl) (Nat.le_of_ble_eq_true rfl) (gok_i (av_c rfl (av_c (gkr (kl_100 hq)) (av_c rfl av_n))) as_n) rfl h (fun r2 x1 h => ?_)
  refine T_istore (lv2 := [(4, vi r2), (7, vi s0), (0, vr 100), (5, vi l5)]) (dk dtk_X7_plainStatement 82 rfl) (by decide) rfl ?_
  refine T_aload_n 2 (dk dtk_X7_plainStatement 83 rfl) rfl rfl ?_
  refine T_getR 100 3 80 (dk dtk_X7_plainStatement 84 rfl) kfl_X7_29 kk_100 (kl_100 hq) (by decide) rfl kr_100_3 ?_
  refine T_getR 80 4 85 (dk dtk_X7_plainStatement 85 rfl) kfl_X7_220 kk_80 (kl_80 hq) (by decide) rfl kr_80_4 ?_
  refine T_iload 0 (dk dtk_X7_plainStatement 86 rfl) rfl ?_
  refine T_iload 3 (dk dtk_X7_plainStatement 87 rfl) rfl ?_
  obtain ⟨h3, h⟩ := h
  obtain ⟨x4, ex4⟩ : ∃ z, z = si x1 85 (r2 : Int32).toNatClampNeg l5 := ⟨_, rfl⟩
  have h := h x4 ex4
  refine T_iast 85 400 (dk dtk_X7_plainStatement 88 rfl) kk_85 (kl_85 hq) h3 ?_
  rw [← ex4]
  refine T_aload_n 2 (dk dtk_X7_plainStatement 89 rfl) rfl rfl ?_
  refine T_getR 100 3 80 (dk dtk_X7_plainStatement 90 rfl) kfl_X7_29 kk_100 (kl_100 hq) (by decide) rfl kr_100_3 ?_
  refine T_getR 80 7 88 (dk dtk_X7_plainStatement 91 rfl) kfl_X7_233 kk_80 (kl_80 hq) (by decide) rfl kr_80_7 ?_
  refine T_iload 0 (dk dtk_X7_plainStatement 92 rfl) rfl ?_
  refine T_iload 1 (dk dtk_X7_plainStatement 93 rfl) rfl ?_
  obtain ⟨h5, h⟩ := h
  obtain ⟨x6, ex6⟩ : ∃ z, z = si x4 88 (r2 : Int32).toNatClampNeg s0 := ⟨_, rfl⟩
  have h := h x6 ex6
  refine T_iast 88 400 (dk dtk_X7_plainStatement 94 rfl) kk_88 (kl_88 hq) h5 ?_
  rw [← ex6]
  exact T_sub [2] rfl h
set_option maxRecDepth 100000 in
set_option maxHeartbeats 4000000 in
theorem kg_X7_plainStatement_180 {G : kG} {q : kP} {d : Nat} {x : gd} {P : Option gv → gd → Prop} {X : String → gd → Prop} (hq : kV q) 
    (h : KE G q (d + 6) zk_X7_need 0 [(0, vr 100), (1, vi 27)] [] x (rv (fun x1 => P none x1)) X) :
    KE G q (d + 7) zk_X7_plainStatement 180 [(0, vr 100)] [] x P X := by
  refine T_aload_n 0 (dk dtk_X7_plainStatement 95 rfl) rfl rfl ?_
  refine T_bipush (v := 27) (dk dtk_X7_plainStatement 96 rfl) (by decide +kernel) ?_
  refine T_sub (lv2 := []) [] rfl ?_
  refine KD_Vv [vi 27] [] rfl (dk dtk_X7_plainStatement 97 rfl) kcv_X7_115 rfl kk_100 rfl (kl_100 hq) (Nat.le_of_ble_eq_true rfl) (Nat.le_of_ble_eq_true rfl) (gok_i av_n as_n) rfl h (fun x1 h => ?_)
  exact KE_vret (dk dtk_X7_plainStatement 98 rfl) rfl h
set_option maxRecDepth 100000 in
theorem dtk_X7_nameStep : dck cX7_nameStep [(0, .aload_n 0, 1), (1, .iconst 2, 1), (2, .iload_n 1, 1), (3, .bipush 9, 2), (5, .if_icmp .eq 9, 3), (8, .iload_n 1, 1), (9, .bipush 10, 2), (11, .if_icmp .ne 7, 3), (14, .iconst 5, 1), (15, .goto 4, 3), (18, .iconst 4, 1), (19, .invokevirtual 130, 3), (22, .istore_n 3, 1), (23, .aload_n 0, 1), (24, .getfield 29, 3), (27, .iload_n 1, 1), (28, .iload_n 2, 1), (29, .aload_n 0, 1), (30, .getfield 181, 3), (33, .invokevirtual 191, 3), (36, .istore 4, 2), (38, .aload_n 0, 1), (39, .getfield 29, 3), (42, .getfield 220, 3), (45, .iload 4, 2), (47, .iload_n 3, 1), (48, .iastore, 1), (49, .iload 4, 2), (51, .ireturn, 1)] = true := by decide +kernel
set_option maxRecDepth 100000 in
set_option maxHeartbeats 4000000 in
theorem kg_X7_nameStep_0 {G : kG} {q : kP} {d : Nat} {x : gd} {P : Option gv → gd → Prop} {X : String → gd → Prop} (hq : kV q) (l1 : Int32) (l2 : Int32)
    (h : ((l1 = (9 : Int32) → KE G q (d + 7) zk_X7_nameStep 19 [(0, vr 100), (1, vi l1), (2, vi l2)] [vi 5, vi 2, vr 100] x P X) ∧ (¬ (l1 = (9 : Int32)) → ((¬ (l1 = (10 : Int32)) → KE G q (d + 7) zk_X7_nameStep 19 [(0, vr 100), (1, vi l1), (2, vi l2)] [vi 4, vi 2, vr 100] x P X) ∧ (l1 = (10 : Int32) → KE G q (d + 7) zk_X7_nameStep 19 [(0, vr 100), (1, vi l1), (2, vi l2)] [vi 5, vi 2, vr 100] x P X))))) :
    KE G q (d + 7) zk_X7_nameStep 0 [(0, vr 100), (1, vi l1), (2, vi l2)] [] x P X := by
  refine T_aload_n 0 (dk dtk_X7_nameStep 0 rfl) rfl rfl ?_
  refine T_iconst (v := 2) (dk dtk_X7_nameStep 1 rfl) (by decide +kernel) ?_
  refine T_iload_n 1 (dk dtk_X7_nameStep 2 rfl) rfl rfl ?_
  refine T_bipush (v := 9) (dk dtk_X7_nameStep 3 rfl) (by decide +kernel) ?_
  refine T_icmp_eq 14 (dk dtk_X7_nameStep 4 rfl) (by decide) (fun c1 => ?_) (fun c1 => ?_)
  · have h := h.1 c1
    refine T_iconst (v := 5) (dk dtk_X7_nameStep 8 rfl) (by decide +kernel) ?_
    refine T_goto 19 (dk dtk_X7_nameStep 9 rfl) (by decide) ?_
    exact h
  · have h := h.2 c1
    refine T_iload_n 1 (dk dtk_X7_nameStep 5 rfl) rfl rfl ?_
    refine T_bipush (v := 10) (dk dtk_X7_nameStep 6 rfl) (by decide +kernel) ?_
    refine T_icmp_ne 18 (dk dtk_X7_nameStep 7 rfl) (by decide) (fun c2 => ?_) (fun c2 => ?_)
    · have h := h.1 c2
      refine T_iconst (v := 4) (dk dtk_X7_nameStep 10 rfl) (by decide +kernel) ?_
      exact h
    · have h := h.2 c2
      refine T_iconst (v := 5) (dk dtk_X7_nameStep 8 rfl) (by decide +kernel) ?_
      refine T_goto 19 (dk dtk_X7_nameStep 9 rfl) (by decide) ?_
      exact h
set_option maxRecDepth 100000 in
set_option maxHeartbeats 4000000 in
theorem kg_X7_nameStep_19 {G : kG} {q : kP} {d : Nat} {x : gd} {P : Option gv → gd → Prop} {X : String → gd → Prop} (hq : kV q) (l1 : Int32) (l2 : Int32) (s0 : Int32) (s1 : Int32)
    (h : KE G q (d + 6) zk_X7_needFor 0 [(0, vr 100), (1, vi s1), (2, vi s0)] [] x (ri (fun r2 x1 => KT G q (d + 6) zk_X8_add 0 [(0, vr 80), (1, vi l1), (2, vi l2), (3, vi (x1.1 100 9))] [] x1 (ri (fun r4 x3 => vp_in r4 400 ∧ (∀ x6 : gd, x6 = si x3 85 (r4 : Int32).toNatClampNeg r2 → P (some (vi r4)) x6))))) X) :
    KE G q (d + 7) zk_X7_nameStep 19 [(0, vr 100), (1, vi l1), (2, vi l2)] [vi s0, vi s1, vr 100] x P X := by
  refine KD_Vi [vi s1, vi s0] [] rfl (dk dtk_X7_nameStep 11 rfl) kcv_X7_130 rfl kk_100 rfl (kl_100 hq) (Nat.le_of_ble_eq_true rfl) (Nat.le_of_ble_eq_true rfl) (gok_i (av_c (gkr (kl_100 hq)) (av_c rfl (av_c rfl av_n))) as_n) rfl h (fun r2 x1 h => ?_)
  refine T_istore_n (lv2 := [(3, vi r2), (0, vr 100), (1, vi l1), (2, vi l2)]) (dk dtk_X7_nameStep 12 rfl) rfl (by decide) rfl ?_
  refine T_aload_n 1 (dk dtk_X7_nameStep 13 rfl) rfl rfl ?_
  refine T_getR 100 3 80 (dk dtk_X7_nameStep 14 rfl) kfl_X7_29 kk_100 (kl_100 hq) (by decide) rfl kr_100_3 ?_
  refine T_iload_n 2 (dk dtk_X7_nameStep 15 rfl) rfl rfl ?_
  refine T_iload_n 3 (dk dtk_X7_nameStep 16 rfl) rfl rfl ?_
  refine T_aload_n 1 (dk dtk_X7_nameStep 17 rfl) rfl rfl ?_
  refine T_getI 100 9 (dk dtk_X7_nameStep 18 rfl) kfl_X7_181 kk_100 (kl_100 hq) (by decide) rfl ?_
  refine T_sub (lv2 := [(3, vi r2), (0, vr 100)]) [0, 1] rfl ?_
  refine KC_Vi [vi l1, vi l2, vi (x1.1 100 9)] [] rfl (dk dtk_X7_nameStep 19 rfl) kcv_X7_191 rfl kk_80 rfl (kl_80 hq) (Nat.le_of_ble_eq_true rfl) (Nat.le_of_ble_eq_true rfl) (gok_i (av_c rfl (av_c (gkr (kl_100 hq)) av_n)) as_n) rfl h (fun r4 x3 h => ?_)
  refine T_istore (lv2 := [(4, vi r4), (3, vi r2), (0, vr 100)]) (dk dtk_X7_nameStep 20 rfl) (by decide) rfl ?_
  refine T_aload_n 2 (dk dtk_X7_nameStep 21 rfl) rfl rfl ?_
  refine T_getR 100 3 80 (dk dtk_X7_nameStep 22 rfl) kfl_X7_29 kk_100 (kl_100 hq) (by decide) rfl kr_100_3 ?_
  refine T_getR 80 4 85 (dk dtk_X7_nameStep 23 rfl) kfl_X7_220 kk_80 (kl_80 hq) (by decide) rfl kr_80_4 ?_
  refine T_iload 0 (dk dtk_X7_nameStep 24 rfl) rfl ?_
  refine T_iload_n 1 (dk dtk_X7_nameStep 25 rfl) rfl rfl ?_
  obtain ⟨h5, h⟩ := h
  obtain ⟨x6, ex6⟩ : ∃ z, z = si x3 85 (r4 : Int32).toNatClampNeg r2 := ⟨_, rfl⟩
  have h := h x6 ex6
  refine T_iast 85 400 (dk dtk_X7_nameStep 26 rfl) kk_85 (kl_85 hq) h5 ?_
  rw [← ex6]
  refine T_iload 0 (dk dtk_X7_nameStep 27 rfl) rfl ?_
  exact KE_iret (dk dtk_X7_nameStep 28 rfl) rfl rfl h
end
