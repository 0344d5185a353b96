set_option maxRecDepth 100000 in
theorem dtk_X4_handOn : dck cX4_handOn [(0, .aload_n 0, 1), (1, .getfield 27, 3), (4, .iload_n 1, 1), (5, .iaload, 1), (6, .istore_n 3, 1), (7, .aload_n 0, 1), (8, .getfield 24, 3), (11, .iload_n 1, 1), (12, .iaload, 1), (13, .tableswitch 154 1 9 #[126, 126, 126, 126, 154, 67, 67, 83, 51], 51), (64, .aload_n 0, 1), (65, .getfield 49, 3), (68, .iload_n 3, 1), (69, .aload_n 0, 1), (70, .getfield 43, 3), (73, .iload_n 1, 1), (74, .invokestatic 109, 3), (77, .goto 90, 3), (80, .aload_n 0, 1), (81, .getfield 52, 3), (84, .iload_n 3, 1), (85, .aload_n 0, 1), (86, .getfield 43, 3), (89, .iload_n 1, 1), (90, .invokestatic 109, 3), (93, .goto 74, 3), (96, .iconst 0, 1), (97, .istore 4, 2), (99, .iload 4, 2), (101, .bipush 6, 2), (103, .if_icmp .ge 33, 3), (106, .iload_n 2, 1), (107, .iload 4, 2), (109, .ishr, 1), (110, .iconst 1, 1), (111, .iand, 1), (112, .iconst 1, 1), (113, .if_icmp .ne 17, 3), (116, .aload_n 0, 1), (117, .getfield 58, 3), (120, .iload 4, 2), (122, .aload_n 0, 1), (123, .getfield 43, 3), (126, .iload_n 1, 1), (127, .invokestatic 109, 3), (130, .iinc 4 1, 3), (133, .goto (-34), 3), (136, .goto 31, 3), (139, .aload_n 0, 1), (140, .getfield 11, 3), (143, .getfield 116, 3), (146, .iload_n 3, 1), (147, .baload, 1), (148, .ifCond .eq 19, 3), (151, .aload_n 0, 1), (152, .getfield 55, 3), (155, .iload_n 3, 1), (156, .aload_n 0, 1), (157, .getfield 43, 3), (160, .iload_n 1, 1), (161, .invokestatic 109, 3), (164, .goto 3, 3), (167, .return_, 1)] = true := by decide +kernel
set_option maxRecDepth 100000 in
set_option maxHeartbeats 4000000 in
theorem kg_X4_handOn_0 {G : kG} {q : kP} {d : Nat} {x : gd} {P : Option gv → gd → Prop} (hq : kV q) (l1 : Int32) (l2 : Int32)
    (h : vp_in l1 400 ∧ vp_in l1 400 ∧ ((((x.1 167 (l1 : Int32).toNatClampNeg) = 9) → KT G q d zk_X4_join 0 [(0, vr 175), (1, vi (x.1 168 (l1 : Int32).toNatClampNeg)), (2, vr 173), (3, vi l1)] [] x (rv (fun x4 => P none x4))) ∧ (((x.1 167 (l1 : Int32).toNatClampNeg) = 6 ∨ (x.1 167 (l1 : Int32).toNatClampNeg) = 7) → KT G q d zk_X4_join 0 [(0, vr 176), (1, vi (x.1 168 (l1 : Int32).toNatClampNeg)), (2, vr 173), (3, vi l1)] [] x (rv (fun x6 => P none x6))) ∧ (((x.1 167 (l1 : Int32).toNatClampNeg) = 8) → KT G q (d + 1) zk_X4_handOn 99 [(0, vr 160), (1, vi l1), (2, vi l2), (4, vi 0)] [] x P) ∧ (((x.1 167 (l1 : Int32).toNatClampNeg) = 1 ∨ (x.1 167 (l1 : Int32).toNatClampNeg) = 2 ∨ (x.1 167 (l1 : Int32).toNatClampNeg) = 3 ∨ (x.1 167 (l1 : Int32).toNatClampNeg) = 4) → vp_in (x.1 168 (l1 : Int32).toNatClampNeg) 24 ∧ (((x.1 69 (x.1 168 (l1 : Int32).toNatClampNeg : Int32).toNatClampNeg) = (0 : Int32) → P none x) ∧ (¬ ((x.1 69 (x.1 168 (l1 : Int32).toNatClampNeg : Int32).toNatClampNeg) = (0 : Int32)) → KT G q d zk_X4_join 0 [(0, vr 177), (1, vi (x.1 168 (l1 : Int32).toNatClampNeg)), (2, vr 173), (3, vi l1)] [] x (rv (fun x11 => P none x11))))) ∧ ((∀ k ∈ [(9 : Int32), (6 : Int32), (7 : Int32), (8 : Int32), (1 : Int32), (2 : Int32), (3 : Int32), (4 : Int32)], ¬ (x.1 167 (l1 : Int32).toNatClampNeg) = k) → P none x))) :
    KT G q (d + 1) zk_X4_handOn 0 [(0, vr 160), (1, vi l1), (2, vi l2)] [] x P := by
  refine T_aload_n 0 (dk dtk_X4_handOn 0 rfl) rfl rfl ?_
  refine T_getR 160 7 168 (dk dtk_X4_handOn 1 rfl) kfl_X4_27 kk_160 (kl_160 hq) (by decide) rfl kr_160_7 ?_
  refine T_iload_n 1 (dk dtk_X4_handOn 2 rfl) rfl rfl ?_
  obtain ⟨h1, h⟩ := h
  refine T_iald 168 400 (dk dtk_X4_handOn 3 rfl) kk_168 (kl_168 hq) h1 ?_
  refine T_istore_n (lv2 := [(3, vi (x.1 168 (l1 : Int32).toNatClampNeg)), (0, vr 160), (1, vi l1), (2, vi l2)]) (dk dtk_X4_handOn 4 rfl) rfl (by decide) rfl ?_
  refine T_aload_n 1 (dk dtk_X4_handOn 5 rfl) rfl rfl ?_
  refine T_getR 160 6 167 (dk dtk_X4_handOn 6 rfl) kfl_X4_24 kk_160 (kl_160 hq) (by decide) rfl kr_160_6 ?_
  refine T_iload_n 2 (dk dtk_X4_handOn 7 rfl) rfl rfl ?_
  obtain ⟨h2, h⟩ := h
  refine T_iald 167 400 (dk dtk_X4_handOn 8 rfl) kk_167 (kl_167 hq) h2 ?_
  by_cases c3 : (x.1 167 (l1 : Int32).toNatClampNeg) = 9
  · have h := h.1 c3
    refine T_table 51 64 (dk dtk_X4_handOn 9 rfl) (by decide) (by rw [c3]; decide +kernel) (by decide) ?_
    refine T_aload_n 1 (dk dtk_X4_handOn 10 rfl) rfl rfl ?_
    refine T_getR 160 14 175 (dk dtk_X4_handOn 11 rfl) kfl_X4_49 kk_160 (kl_160 hq) (by decide) rfl kr_160_14 ?_
    refine T_iload_n 0 (dk dtk_X4_handOn 12 rfl) rfl rfl ?_
    refine T_aload_n 1 (dk dtk_X4_handOn 13 rfl) rfl rfl ?_
    refine T_getR 160 12 173 (dk dtk_X4_handOn 14 rfl) kfl_X4_43 kk_160 (kl_160 hq) (by decide) rfl kr_160_12 ?_
    refine T_iload_n 2 (dk dtk_X4_handOn 15 rfl) rfl rfl ?_
    refine T_sub (lv2 := []) [] rfl ?_
    refine KC_Sv [vr 175, vi (x.1 168 (l1 : Int32).toNatClampNeg), vr 173, vi l1] [] rfl (dk dtk_X4_handOn 16 rfl) kcs_X4_109 rfl (Nat.le_of_ble_eq_true rfl) (Nat.le_of_ble_eq_true rfl) (gok_i av_n as_n) rfl h (fun x4 h => ?_)
    refine T_goto 167 (dk dtk_X4_handOn 17 rfl) (by decide) ?_
    exact KT_vret (dk dtk_X4_handOn 62 rfl) rfl h
  · have h := h.2
    by_cases c5 : (x.1 167 (l1 : Int32).toNatClampNeg) = 6 ∨ (x.1 167 (l1 : Int32).toNatClampNeg) = 7
    · have h := h.1 c5
      refine T_table 67 80 (dk dtk_X4_handOn 9 rfl) (by decide) (by rcases c5 with q9 | q9 <;> rw [q9] <;> decide +kernel) (by decide) ?_
      refine T_aload_n 1 (dk dtk_X4_handOn 18 rfl) rfl rfl ?_
      refine T_getR 160 15 176 (dk dtk_X4_handOn 19 rfl) kfl_X4_52 kk_160 (kl_160 hq) (by decide) rfl kr_160_15 ?_
      refine T_iload_n 0 (dk dtk_X4_handOn 20 rfl) rfl rfl ?_
      refine T_aload_n 1 (dk dtk_X4_handOn 21 rfl) rfl rfl ?_
      refine T_getR 160 12 173 (dk dtk_X4_handOn 22 rfl) kfl_X4_43 kk_160 (kl_160 hq) (by decide) rfl kr_160_12 ?_
      refine T_iload_n 2 (dk dtk_X4_handOn 23 rfl) rfl rfl ?_
      refine T_sub (lv2 := []) [] rfl ?_
      refine KC_Sv [vr 176, vi (x.1 168 (l1 : Int32).toNatClampNeg), vr 173, vi l1] [] rfl (dk dtk_X4_handOn 24 rfl) kcs_X4_109 rfl (Nat.le_of_ble_eq_true rfl) (Nat.le_of_ble_eq_true rfl) (gok_i av_n as_n) rfl h (fun x6 h => ?_)
      refine T_goto 167 (dk dtk_X4_handOn 25 rfl) (by decide) ?_
      exact KT_vret (dk dtk_X4_handOn 62 rfl) rfl h
    · have h := h.2
      by_cases c7 : (x.1 167 (l1 : Int32).toNatClampNeg) = 8
      · have h := h.1 c7
        refine T_table 83 96 (dk dtk_X4_handOn 9 rfl) (by decide) (by rw [c7]; decide +kernel) (by decide) ?_
        refine T_iconst (v := 0) (dk dtk_X4_handOn 26 rfl) (by decide +kernel) ?_
        refine T_istore (lv2 := [(4, vi 0), (3, vi (x.1 168 (l1 : Int32).toNatClampNeg)), (0, vr 160), (1, vi l1), (2, vi l2)]) (dk dtk_X4_handOn 27 rfl) (by decide) rfl ?_
        exact T_sub [2, 3, 4, 0] rfl h
      · have h := h.2
        by_cases c8 : (x.1 167 (l1 : Int32).toNatClampNeg) = 1 ∨ (x.1 167 (l1 : Int32).toNatClampNeg) = 2 ∨ (x.1 167 (l1 : Int32).toNatClampNeg) = 3 ∨ (x.1 167 (l1 : Int32).toNatClampNeg) = 4
        · have h := h.1 c8
          refine T_table 126 139 (dk dtk_X4_handOn 9 rfl) (by decide) (by rcases c8 with q9 | q9 | q9 | q9 <;> rw [q9] <;> decide +kernel) (by decide) ?_
          refine T_aload_n 1 (dk dtk_X4_handOn 48 rfl) rfl rfl ?_
          refine T_getR 160 0 60 (dk dtk_X4_handOn 49 rfl) kfl_X4_11 kk_160 (kl_160 hq) (by decide) rfl kr_160_0 ?_
          refine T_getR 60 8 69 (dk dtk_X4_handOn 50 rfl) kfl_X4_116 kk_60 (kl_60 hq) (by decide) rfl kr_60_8 ?_
          refine T_iload_n 0 (dk dtk_X4_handOn 51 rfl) rfl rfl ?_
          obtain ⟨h9, h⟩ := h
          refine T_zald 69 24 (dk dtk_X4_handOn 52 rfl) kk_69 (kl_69 hq) h9 ?_
          refine T_if_eq 167 (dk dtk_X4_handOn 53 rfl) (by decide) (fun c10 => ?_) (fun c10 => ?_)
          · have h := h.1 c10
            exact KT_vret (dk dtk_X4_handOn 62 rfl) rfl h
          · have h := h.2 c10
            refine T_aload_n 1 (dk dtk_X4_handOn 54 rfl) rfl rfl ?_
            refine T_getR 160 16 177 (dk dtk_X4_handOn 55 rfl) kfl_X4_55 kk_160 (kl_160 hq) (by decide) rfl kr_160_16 ?_
            refine T_iload_n 0 (dk dtk_X4_handOn 56 rfl) rfl rfl ?_
            refine T_aload_n 1 (dk dtk_X4_handOn 57 rfl) rfl rfl ?_
            refine T_getR 160 12 173 (dk dtk_X4_handOn 58 rfl) kfl_X4_43 kk_160 (kl_160 hq) (by decide) rfl kr_160_12 ?_
            refine T_iload_n 2 (dk dtk_X4_handOn 59 rfl) rfl rfl ?_
            refine T_sub (lv2 := []) [] rfl ?_
            refine KC_Sv [vr 177, vi (x.1 168 (l1 : Int32).toNatClampNeg), vr 173, vi l1] [] rfl (dk dtk_X4_handOn 60 rfl) kcs_X4_109 rfl (Nat.le_of_ble_eq_true rfl) (Nat.le_of_ble_eq_true rfl) (gok_i av_n as_n) rfl h (fun x11 h => ?_)
            refine T_goto 167 (dk dtk_X4_handOn 61 rfl) (by decide) ?_
            exact KT_vret (dk dtk_X4_handOn 62 rfl) rfl h
        · have h := h.2
          have n12 : ∀ k ∈ [(9 : Int32), (6 : Int32), (7 : Int32), (8 : Int32), (1 : Int32), (2 : Int32), (3 : Int32), (4 : Int32)], ¬ (x.1 167 (l1 : Int32).toNatClampNeg) = k := (gno c3 (gno (fun q9 => c5 (Or.inl q9)) (gno (fun q9 => c5 (Or.inr (q9))) (gno c7 (gno (fun q9 => c8 (Or.inl q9)) (gno (fun q9 => c8 (Or.inr (Or.inl q9))) (gno (fun q9 => c8 (Or.inr (Or.inr (Or.inl q9)))) (gno (fun q9 => c8 (Or.inr (Or.inr (Or.inr (q9))))) gno0))))))))
          have h := h n12
          refine T_table 154 167 (dk dtk_X4_handOn 9 rfl) (by decide) (gtab_d [(9 : Int32), (6 : Int32), (7 : Int32), (8 : Int32), (1 : Int32), (2 : Int32), (3 : Int32), (4 : Int32)] (by decide +kernel) n12) (by decide) ?_
          exact KT_vret (dk dtk_X4_handOn 62 rfl) rfl h
set_option maxRecDepth 100000 in
set_option maxHeartbeats 4000000 in
theorem kg_X4_handOn_99 {G : kG} {q : kP} {d : Nat} {x : gd} {P : Option gv → gd → Prop} (hq : kV q) (l1 : Int32) (l2 : Int32) (l4 : Int32)
    (h : (((6 : Int32) ≤ l4 → P none x) ∧ (¬ ((6 : Int32) ≤ l4) → ((¬ (((l2 >>> (l4 &&& 31 : Int32)) &&& 1) = (1 : Int32)) → KT G q (d + 1) zk_X4_handOn 99 [(0, vr 160), (1, vi l1), (2, vi l2), (4, vi (l4 + 1))] [] x P) ∧ (((l2 >>> (l4 &&& 31 : Int32)) &&& 1) = (1 : Int32) → KT G q d zk_X4_join 0 [(0, vr 178), (1, vi l4), (2, vr 173), (3, vi l1)] [] x (rv (fun x3 => KT G q (d + 1) zk_X4_handOn 99 [(0, vr 160), (1, vi l1), (2, vi l2), (4, vi (l4 + 1))] [] x3 P))))))) :
    KT G q (d + 1) zk_X4_handOn 99 [(0, vr 160), (1, vi l1), (2, vi l2), (4, vi l4)] [] x P := by
  refine T_iload 3 (dk dtk_X4_handOn 28 rfl) rfl ?_
  refine T_bipush (v := 6) (dk dtk_X4_handOn 29 rfl) (by decide +kernel) ?_
  refine T_icmp_ge 136 (dk dtk_X4_handOn 30 rfl) (by decide) (fun c1 => ?_) (fun c1 => ?_)
  · have h := h.1 c1
    refine T_goto 167 (dk dtk_X4_handOn 47 rfl) (by decide) ?_
    exact KT_vret (dk dtk_X4_handOn 62 rfl) rfl h
  · have h := h.2 c1
    refine T_iload_n 2 (dk dtk_X4_handOn 31 rfl) rfl rfl ?_
    refine T_iload 3 (dk dtk_X4_handOn 32 rfl) rfl ?_
    refine T_ishr (dk dtk_X4_handOn 33 rfl) ?_
    refine T_iconst (v := 1) (dk dtk_X4_handOn 34 rfl) (by decide +kernel) ?_
    refine T_iand (dk dtk_X4_handOn 35 rfl) ?_
    refine T_iconst (v := 1) (dk dtk_X4_handOn 36 rfl) (by decide +kernel) ?_
    refine T_icmp_ne 130 (dk dtk_X4_handOn 37 rfl) (by decide) (fun c2 => ?_) (fun c2 => ?_)
    · have h := h.1 c2
      refine T_iinc (v := l4 + 1) (lv2 := [(4, vi (l4 + 1)), (0, vr 160), (1, vi l1), (2, vi l2)]) 3 (dk dtk_X4_handOn 45 rfl) rfl rfl (by decide) rfl ?_
      refine T_goto 99 (dk dtk_X4_handOn 46 rfl) (by decide) ?_
      exact T_sub [1, 2, 3, 0] rfl h
    · have h := h.2 c2
      refine T_aload_n 0 (dk dtk_X4_handOn 38 rfl) rfl rfl ?_
      refine T_getR 160 17 178 (dk dtk_X4_handOn 39 rfl) kfl_X4_58 kk_160 (kl_160 hq) (by decide) rfl kr_160_17 ?_
      refine T_iload 3 (dk dtk_X4_handOn 40 rfl) rfl ?_
      refine T_aload_n 0 (dk dtk_X4_handOn 41 rfl) rfl rfl ?_
      refine T_getR 160 12 173 (dk dtk_X4_handOn 42 rfl) kfl_X4_43 kk_160 (kl_160 hq) (by decide) rfl kr_160_12 ?_
      refine T_iload_n 1 (dk dtk_X4_handOn 43 rfl) rfl rfl ?_
      refine KC_Sv [vr 178, vi l4, vr 173, vi l1] [] rfl (dk dtk_X4_handOn 44 rfl) kcs_X4_109 rfl (Nat.le_of_ble_eq_true rfl) (Nat.le_of_ble_eq_true rfl) (gok_i (av_c (gkr (kl_160 hq)) (av_c rfl (av_c rfl (av_c rfl av_n)))) as_n) rfl h (fun x3 h => ?_)
      refine T_iinc (v := l4 + 1) (lv2 := [(4, vi (l4 + 1)), (0, vr 160), (1, vi l1), (2, vi l2)]) 3 (dk dtk_X4_handOn 45 rfl) rfl rfl (by decide) rfl ?_
      refine T_goto 99 (dk dtk_X4_handOn 46 rfl) (by decide) ?_
      exact T_sub [1, 2, 3, 0] rfl h
set_option maxRecDepth 100000 in
theorem dtk_X4_join : dck cX4_join [(0, .iconst 0, 1), (1, .istore 4, 2), (3, .iload 4, 2), (5, .bipush 6, 2), (7, .if_icmp .ge 38, 3), (10, .iload_n 1, 1), (11, .bipush 6, 2), (13, .imul, 1), (14, .iload 4, 2), (16, .iadd, 1), (17, .istore 5, 2), (19, .aload_n 0, 1), (20, .iload 5, 2), (22, .aload_n 0, 1), (23, .iload 5, 2), (25, .iaload, 1), (26, .aload_n 2, 1), (27, .iload_n 3, 1), (28, .bipush 6, 2), (30, .imul, 1), (31, .iload 4, 2), (33, .iadd, 1), (34, .iaload, 1), (35, .invokestatic 119, 3), (38, .iastore, 1), (39, .iinc 4 1, 3), (42, .goto (-39), 3), (45, .return_, 1)] = true := by decide +kernel
set_option maxRecDepth 100000 in
set_option maxHeartbeats 4000000 in
theorem kg_X4_join_0 {G : kG} {q : kP} {d : Nat} {x : gd} {P : Option gv → gd → Prop} (hq : kV q) {a0 n0 : Nat} (ka0 : kK a0 = .inr (.int, n0)) (ma0 : a0 ∈ (kf q).2.1) {a2 n2 : Nat} (ka2 : kK a2 = .inr (.int, n2)) (ma2 : a2 ∈ (kf q).2.1) (l1 : Int32) (l3 : Int32)
    (h : KT G q (d + 1) zk_X4_join 3 [(0, vr a0), (1, vi l1), (2, vr a2), (3, vi l3), (4, vi 0)] [] x P) :
    KT G q (d + 1) zk_X4_join 0 [(0, vr a0), (1, vi l1), (2, vr a2), (3, vi l3)] [] x P := by
  refine T_iconst (v := 0) (dk dtk_X4_join 0 rfl) (by decide +kernel) ?_
  refine T_istore (lv2 := [(4, vi 0), (0, vr a0), (1, vi l1), (2, vr a2), (3, vi l3)]) (dk dtk_X4_join 1 rfl) (by decide) rfl ?_
  exact T_sub [1, 2, 3, 4, 0] rfl h
set_option maxRecDepth 100000 in
set_option maxHeartbeats 4000000 in
theorem kg_X4_join_3 {G : kG} {q : kP} {d : Nat} {x : gd} {P : Option gv → gd → Prop} (hq : kV q) {a0 n0 : Nat} (ka0 : kK a0 = .inr (.int, n0)) (ma0 : a0 ∈ (kf q).2.1) {a2 n2 : Nat} (ka2 : kK a2 = .inr (.int, n2)) (ma2 : a2 ∈ (kf q).2.1) (l1 : Int32) (l3 : Int32) (l4 : Int32)
    (h : (((6 : Int32) ≤ l4 → P none x) ∧ (¬ ((6 : Int32) ≤ l4) → vp_in ((l1 * 6) + l4) n0 ∧ vp_in ((l3 * 6) + l4) n2 ∧ (∀ r5 : Int32, (r5.toInt = Int32.toInt (x.1 a0 ((l1 * 6) + l4 : Int32).toNatClampNeg) ∨ r5.toInt = Int32.toInt (x.1 a2 ((l3 * 6) + l4 : Int32).toNatClampNeg)) → Int32.toInt (x.1 a0 ((l1 * 6) + l4 : Int32).toNatClampNeg) ≤ r5.toInt → Int32.toInt (x.1 a2 ((l3 * 6) + l4 : Int32).toNatClampNeg) ≤ r5.toInt → vp_in ((l1 * 6) + l4) n0 ∧ (∀ x10 : gd, x10 = si x a0 ((l1 * 6) + l4 : Int32).toNatClampNeg r5 → KT G q (d + 1) zk_X4_join 3 [(0, vr a0), (1, vi l1), (2, vr a2), (3, vi l3), (4, vi (l4 + 1))] [] x10 P))))) :
    KT G q (d + 1) zk_X4_join 3 [(0, vr a0), (1, vi l1), (2, vr a2), (3, vi l3), (4, vi l4)] [] x P := by
  refine T_iload 4 (dk dtk_X4_join 2 rfl) rfl ?_
  refine T_bipush (v := 6) (dk dtk_X4_join 3 rfl) (by decide +kernel) ?_
  refine T_icmp_ge 45 (dk dtk_X4_join 4 rfl) (by decide) (fun c1 => ?_) (fun c1 => ?_)
  · have h := h.1 c1
    exact KT_vret (dk dtk_X4_join 27 rfl) rfl h
  · have h := h.2 c1
    refine T_iload_n 1 (dk dtk_X4_join 5 rfl) rfl rfl ?_
    refine T_bipush (v := 6) (dk dtk_X4_join 6 rfl) (by decide +kernel) ?_
    refine T_imul (dk dtk_X4_join 7 rfl) ?_
    refine T_iload 4 (dk dtk_X4_join 8 rfl) rfl ?_
    refine T_iadd (dk dtk_X4_join 9 rfl) ?_
    refine T_istore (lv2 := [(5, vi ((l1 * 6) + l4)), (0, vr a0), (1, vi l1), (2, vr a2), (3, vi l3), (4, vi l4)]) (dk dtk_X4_join 10 rfl) (by decide) rfl ?_
    refine T_aload_n 1 (dk dtk_X4_join 11 rfl) rfl rfl ?_
    refine T_iload 0 (dk dtk_X4_join 12 rfl) rfl ?_
    refine T_aload_n 1 (dk dtk_X4_join 13 rfl) rfl rfl ?_
    refine T_iload 0 (dk dtk_X4_join 14 rfl) rfl ?_
    obtain ⟨h2, h⟩ := h
    refine T_iald a0 n0 (dk dtk_X4_join 15 rfl) ka0 ma0 h2 ?_
    refine T_aload_n 3 (dk dtk_X4_join 16 rfl) rfl rfl ?_
    refine T_iload_n 4 (dk dtk_X4_join 17 rfl) rfl rfl ?_
    refine T_bipush (v := 6) (dk dtk_X4_join 18 rfl) (by decide +kernel) ?_
    refine T_imul (dk dtk_X4_join 19 rfl) ?_
    refine T_iload 5 (dk dtk_X4_join 20 rfl) rfl ?_
    refine T_iadd (dk dtk_X4_join 21 rfl) ?_
    obtain ⟨h3, h⟩ := h
    refine T_iald a2 n2 (dk dtk_X4_join 22 rfl) ka2 ma2 h3 ?_
    refine T_sub (lv2 := [(0, vr a0), (1, vi l1), (2, vr a2), (3, vi l3), (4, vi l4)]) [1, 2, 3, 4, 5] rfl ?_
    refine T_max (dk dtk_X4_join 23 rfl) kmx_X4_119 (by omega) (Nat.le_of_ble_eq_true rfl) (fun r5 h6 h7 h8 => ?_)
    have h := h r5 h6 h7 h8
    obtain ⟨h9, h⟩ := h
    obtain ⟨x10, ex10⟩ : ∃ z, z = si x a0 ((l1 * 6) + l4 : Int32).toNatClampNeg r5 := ⟨_, rfl⟩
    have h := h x10 ex10
    refine T_iast a0 n0 (dk dtk_X4_join 24 rfl) ka0 ma0 h9 ?_
    rw [← ex10]
    refine T_iinc (v := l4 + 1) (lv2 := [(4, vi (l4 + 1)), (0, vr a0), (1, vi l1), (2, vr a2), (3, vi l3)]) 4 (dk dtk_X4_join 25 rfl) rfl rfl (by decide) rfl ?_
    refine T_goto 3 (dk dtk_X4_join 26 rfl) (by decide) ?_
    exact T_sub [1, 2, 3, 4, 0] rfl h
set_option maxRecDepth 100000 in
theorem dtk_X4_isBefore : dck cX4_isBefore [(0, .aload_n 0, 1), (1, .getfield 21, 3), (4, .iload_n 1, 1), (5, .iaload, 1), (6, .istore_n 3, 1), (7, .iload_n 1, 1), (8, .iload_n 2, 1), (9, .if_icmp .eq 32, 3), (12, .aload_n 0, 1), (13, .getfield 43, 3), (16, .iload_n 2, 1), (17, .bipush 6, 2), (19, .imul, 1), (20, .iload_n 3, 1), (21, .iadd, 1), (22, .iaload, 1), (23, .aload_n 0, 1), (24, .getfield 43, 3), (27, .iload_n 1, 1), (28, .bipush 6, 2), (30, .imul, 1), (31, .iload_n 3, 1), (32, .iadd, 1), (33, .iaload, 1), (34, .if_icmp .lt 7, 3), (37, .iconst 1, 1), (38, .goto 4, 3), (41, .iconst 0, 1), (42, .ireturn, 1)] = true := by decide +kernel
set_option maxRecDepth 100000 in
set_option maxHeartbeats 4000000 in
theorem kg_X4_isBefore_0 {G : kG} {q : kP} {d : Nat} {x : gd} {P : Option gv → gd → Prop} (hq : kV q) (l1 : Int32) (l2 : Int32)
    (h : vp_in l1 400 ∧ ((l1 = l2 → P (some (vi 0)) x) ∧ (¬ (l1 = l2) → vp_in ((l2 * 6) + (x.1 166 (l1 : Int32).toNatClampNeg)) 2400 ∧ vp_in ((l1 * 6) + (x.1 166 (l1 : Int32).toNatClampNeg)) 2400 ∧ (((x.1 173 ((l2 * 6) + (x.1 166 (l1 : Int32).toNatClampNeg) : Int32).toNatClampNeg) < (x.1 173 ((l1 * 6) + (x.1 166 (l1 : Int32).toNatClampNeg) : Int32).toNatClampNeg) → P (some (vi 0)) x) ∧ (¬ ((x.1 173 ((l2 * 6) + (x.1 166 (l1 : Int32).toNatClampNeg) : Int32).toNatClampNeg) < (x.1 173 ((l1 * 6) + (x.1 166 (l1 : Int32).toNatClampNeg) : Int32).toNatClampNeg)) → P (some (vi 1)) x))))) :
    KT G q d zk_X4_isBefore 0 [(0, vr 160), (1, vi l1), (2, vi l2)] [] x P := by
  refine T_aload_n 0 (dk dtk_X4_isBefore 0 rfl) rfl rfl ?_
  refine T_getR 160 5 166 (dk dtk_X4_isBefore 1 rfl) kfl_X4_21 kk_160 (kl_160 hq) (by decide) rfl kr_160_5 ?_
  refine T_iload_n 1 (dk dtk_X4_isBefore 2 rfl) rfl rfl ?_
  obtain ⟨h1, h⟩ := h
  refine T_iald 166 400 (dk dtk_X4_isBefore 3 rfl) kk_166 (kl_166 hq) h1 ?_
  refine T_istore_n (lv2 := [(3, vi (x.1 166 (l1 : Int32).toNatClampNeg)), (0, vr 160), (1, vi l1), (2, vi l2)]) (dk dtk_X4_isBefore 4 rfl) rfl (by decide) rfl ?_
  refine T_iload_n 2 (dk dtk_X4_isBefore 5 rfl) rfl rfl ?_
  refine T_iload_n 3 (dk dtk_X4_isBefore 6 rfl) rfl rfl ?_
  refine T_icmp_eq 41 (dk dtk_X4_isBefore 7 rfl) (by decide) (fun c2 => ?_) (fun c2 => ?_)
  · have h := h.1 c2
    refine T_iconst (v := 0) (dk dtk_X4_isBefore 27 rfl) (by decide +kernel) ?_
    exact KT_iret (dk dtk_X4_isBefore 28 rfl) rfl rfl h
  · have h := h.2 c2
    refine T_aload_n 1 (dk dtk_X4_isBefore 8 rfl) rfl rfl ?_
    refine T_getR 160 12 173 (dk dtk_X4_isBefore 9 rfl) kfl_X4_43 kk_160 (kl_160 hq) (by decide) rfl kr_160_12 ?_
    refine T_iload_n 3 (dk dtk_X4_isBefore 10 rfl) rfl rfl ?_
    refine T_bipush (v := 6) (dk dtk_X4_isBefore 11 rfl) (by decide +kernel) ?_
    refine T_imul (dk dtk_X4_isBefore 12 rfl) ?_
    refine T_iload_n 0 (dk dtk_X4_isBefore 13 rfl) rfl rfl ?_
    refine T_iadd (dk dtk_X4_isBefore 14 rfl) ?_
    obtain ⟨h3, h⟩ := h
    refine T_iald 173 2400 (dk dtk_X4_isBefore 15 rfl) kk_173 (kl_173 hq) h3 ?_
    refine T_aload_n 1 (dk dtk_X4_isBefore 16 rfl) rfl rfl ?_
    refine T_getR 160 12 173 (dk dtk_X4_isBefore 17 rfl) kfl_X4_43 kk_160 (kl_160 hq) (by decide) rfl kr_160_12 ?_
    refine T_iload_n 2 (dk dtk_X4_isBefore 18 rfl) rfl rfl ?_
    refine T_bipush (v := 6) (dk dtk_X4_isBefore 19 rfl) (by decide +kernel) ?_
    refine T_imul (dk dtk_X4_isBefore 20 rfl) ?_
    refine T_iload_n 0 (dk dtk_X4_isBefore 21 rfl) rfl rfl ?_
    refine T_iadd (dk dtk_X4_isBefore 22 rfl) ?_
    obtain ⟨h4, h⟩ := h
    refine T_iald 173 2400 (dk dtk_X4_isBefore 23 rfl) kk_173 (kl_173 hq) h4 ?_
    refine T_icmp_lt 41 (dk dtk_X4_isBefore 24 rfl) (by decide) (fun c5 => ?_) (fun c5 => ?_)
    · have h := h.1 c5
      refine T_iconst (v := 0) (dk dtk_X4_isBefore 27 rfl) (by decide +kernel) ?_
      exact KT_iret (dk dtk_X4_isBefore 28 rfl) rfl rfl h
    · have h := h.2 c5
      refine T_iconst (v := 1) (dk dtk_X4_isBefore 25 rfl) (by decide +kernel) ?_
      refine T_goto 42 (dk dtk_X4_isBefore 26 rfl) (by decide) ?_
      exact KT_iret (dk dtk_X4_isBefore 28 rfl) rfl rfl h
set_option maxRecDepth 100000 in
theorem dtk_X4_races : dck cX4_races [(0, .aload_n 0, 1), (1, .getfield 65, 3), (4, .ifCond .ne 7, 3), (7, .iconst 0, 1), (8, .goto 14, 3), (11, .aload_n 0, 1), (12, .getfield 40, 3), (15, .aload_n 0, 1), (16, .getfield 65, 3), (19, .iconst 1, 1), (20, .isub, 1), (21, .iaload, 1), (22, .ireturn, 1)] = true := by decide +kernel
set_option maxRecDepth 100000 in
set_option maxHeartbeats 4000000 in
theorem kg_X4_races_0 {G : kG} {q : kP} {d : Nat} {x : gd} {P : Option gv → gd → Prop} (hq : kV q) 
    (h : ((¬ ((x.1 160 3) = (0 : Int32)) → vp_in ((x.1 160 3) - 1) 400 ∧ P (some (vi (x.1 172 ((x.1 160 3) - 1 : Int32).toNatClampNeg))) x) ∧ ((x.1 160 3) = (0 : Int32) → P (some (vi 0)) x))) :
    KT G q d zk_X4_races 0 [(0, vr 160)] [] x P := by
  refine T_aload_n 0 (dk dtk_X4_races 0 rfl) rfl rfl ?_
  refine T_getI 160 3 (dk dtk_X4_races 1 rfl) kfl_X4_65 kk_160 (kl_160 hq) (by decide) rfl ?_
  refine T_if_ne 11 (dk dtk_X4_races 2 rfl) (by decide) (fun c1 => ?_) (fun c1 => ?_)
  · have h := h.1 c1
    refine T_aload_n 0 (dk dtk_X4_races 5 rfl) rfl rfl ?_
    refine T_getR 160 11 172 (dk dtk_X4_races 6 rfl) kfl_X4_40 kk_160 (kl_160 hq) (by decide) rfl kr_160_11 ?_
    refine T_aload_n 0 (dk dtk_X4_races 7 rfl) rfl rfl ?_
    refine T_getI 160 3 (dk dtk_X4_races 8 rfl) kfl_X4_65 kk_160 (kl_160 hq) (by decide) rfl ?_
    refine T_iconst (v := 1) (dk dtk_X4_races 9 rfl) (by decide +kernel) ?_
    refine T_isub (dk dtk_X4_races 10 rfl) ?_
    obtain ⟨h2, h⟩ := h
    refine T_iald 172 400 (dk dtk_X4_races 11 rfl) kk_172 (kl_172 hq) h2 ?_
    exact KT_iret (dk dtk_X4_races 12 rfl) rfl rfl h
  · have h := h.2 c1
    refine T_iconst (v := 0) (dk dtk_X4_races 3 rfl) (by decide +kernel) ?_
    refine T_goto 22 (dk dtk_X4_races 4 rfl) (by decide) ?_
    exact KT_iret (dk dtk_X4_races 12 rfl) rfl rfl h
set_option maxRecDepth 100000 in
theorem dtk_X4_laterOfRace : dck cX4_laterOfRace [(0, .iconst 0, 1), (1, .istore_n 2, 1), (2, .iload_n 2, 1), (3, .aload_n 0, 1), (4, .getfield 65, 3), (7, .if_icmp .ge 21, 3), (10, .aload_n 0, 1), (11, .getfield 40, 3), (14, .iload_n 2, 1), (15, .iaload, 1), (16, .iload_n 1, 1), (17, .if_icmp .le 5, 3), (20, .iload_n 2, 1), (21, .ireturn, 1), (22, .iinc 2 1, 3), (25, .goto (-23), 3), (28, .iconst (-1), 1), (29, .ireturn, 1)] = true := by decide +kernel
set_option maxRecDepth 100000 in
set_option maxHeartbeats 4000000 in
theorem kg_X4_laterOfRace_0 {G : kG} {q : kP} {d : Nat} {x : gd} {P : Option gv → gd → Prop} (hq : kV q) (l1 : Int32)
    (h : KT G q d zk_X4_laterOfRace 2 [(0, vr 160), (1, vi l1), (2, vi 0)] [] x P) :
    KT G q d zk_X4_laterOfRace 0 [(0, vr 160), (1, vi l1)] [] x P := by
  refine T_iconst (v := 0) (dk dtk_X4_laterOfRace 0 rfl) (by decide +kernel) ?_
  refine T_istore_n (lv2 := [(2, vi 0), (0, vr 160), (1, vi l1)]) (dk dtk_X4_laterOfRace 1 rfl) rfl (by decide) rfl ?_
  exact T_sub [1, 2, 0] rfl h
set_option maxRecDepth 100000 in
set_option maxHeartbeats 4000000 in
theorem kg_X4_laterOfRace_2 {G : kG} {q : kP} {d : Nat} {x : gd} {P : Option gv → gd → Prop} (hq : kV q) (l1 : Int32) (l2 : Int32)
    (h : (((x.1 160 3) ≤ l2 → P (some (vi (-1))) x) ∧ (¬ ((x.1 160 3) ≤ l2) → vp_in l2 400 ∧ (((x.1 172 (l2 : Int32).toNatClampNeg) ≤ l1 → KT G q d zk_X4_laterOfRace 2 [(0, vr 160), (1, vi l1), (2, vi (l2 + 1))] [] x P) ∧ (¬ ((x.1 172 (l2 : Int32).toNatClampNeg) ≤ l1) → P (some (vi l2)) x))))) :
    KT G q d zk_X4_laterOfRace 2 [(0, vr 160), (1, vi l1), (2, vi l2)] [] x P := by
  refine T_iload_n 2 (dk dtk_X4_laterOfRace 2 rfl) rfl rfl ?_
  refine T_aload_n 0 (dk dtk_X4_laterOfRace 3 rfl) rfl rfl ?_
  refine T_getI 160 3 (dk dtk_X4_laterOfRace 4 rfl) kfl_X4_65 kk_160 (kl_160 hq) (by decide) rfl ?_
  refine T_icmp_ge 28 (dk dtk_X4_laterOfRace 5 rfl) (by decide) (fun c1 => ?_) (fun c1 => ?_)
  · have h := h.1 c1
    refine T_iconst (v := (-1)) (dk dtk_X4_laterOfRace 16 rfl) (by decide +kernel) ?_
    exact KT_iret (dk dtk_X4_laterOfRace 17 rfl) rfl rfl h
  · have h := h.2 c1
    refine T_aload_n 0 (dk dtk_X4_laterOfRace 6 rfl) rfl rfl ?_
    refine T_getR 160 11 172 (dk dtk_X4_laterOfRace 7 rfl) kfl_X4_40 kk_160 (kl_160 hq) (by decide) rfl kr_160_11 ?_
    refine T_iload_n 2 (dk dtk_X4_laterOfRace 8 rfl) rfl rfl ?_
    obtain ⟨h2, h⟩ := h
    refine T_iald 172 400 (dk dtk_X4_laterOfRace 9 rfl) kk_172 (kl_172 hq) h2 ?_
    refine T_iload_n 1 (dk dtk_X4_laterOfRace 10 rfl) rfl rfl ?_
    refine T_icmp_le 22 (dk dtk_X4_laterOfRace 11 rfl) (by decide) (fun c3 => ?_) (fun c3 => ?_)
    · have h := h.1 c3
      refine T_iinc (v := l2 + 1) (lv2 := [(2, vi (l2 + 1)), (0, vr 160), (1, vi l1)]) 2 (dk dtk_X4_laterOfRace 14 rfl) rfl rfl (by decide) rfl ?_
      refine T_goto 2 (dk dtk_X4_laterOfRace 15 rfl) (by decide) ?_
      exact T_sub [1, 2, 0] rfl h
    · have h := h.2 c3
      refine T_iload_n 2 (dk dtk_X4_laterOfRace 12 rfl) rfl rfl ?_
      exact KT_iret (dk dtk_X4_laterOfRace 13 rfl) rfl rfl h
set_option maxRecDepth 100000 in
theorem dtk_X4_earlierOfRace : dck cX4_earlierOfRace [(0, .iload_n 1, 1), (1, .iload_n 2, 1), (2, .ifCond .le 14, 3), (5, .aload_n 0, 1), (6, .getfield 40, 3), (9, .iload_n 2, 1), (10, .iconst 1, 1), (11, .isub, 1), (12, .iaload, 1), (13, .goto 4, 3), (16, .iconst 0, 1), (17, .isub, 1), (18, .istore_n 3, 1), (19, .iconst 0, 1), (20, .istore 4, 2), (22, .iload 4, 2), (24, .iload_n 2, 1), (25, .if_icmp .ge 29, 3), (28, .aload_n 0, 1), (29, .iload 4, 2), (31, .iload_n 2, 1), (32, .invokevirtual 125, 3), (35, .ifCond .eq 13, 3), (38, .iload_n 3, 1), (39, .ifCond .ne 6, 3), (42, .iload 4, 2), (44, .ireturn, 1), (45, .iinc 3 (-1), 3), (48, .iinc 4 1, 3), (51, .goto (-29), 3), (54, .iconst (-1), 1), (55, .ireturn, 1)] = true := by decide +kernel
set_option maxRecDepth 100000 in
set_option maxHeartbeats 4000000 in
theorem kg_X4_earlierOfRace_0 {G : kG} {q : kP} {d : Nat} {x : gd} {P : Option gv → gd → Prop} (hq : kV q) (l1 : Int32) (l2 : Int32)
    (h : ((l2 ≤ (0 : Int32) → KT G q (d + 1) zk_X4_earlierOfRace 22 [(0, vr 160), (2, vi l2), (3, vi (l1 - 0)), (4, vi 0)] [] x P) ∧ (¬ (l2 ≤ (0 : Int32)) → vp_in (l2 - 1) 400 ∧ KT G q (d + 1) zk_X4_earlierOfRace 22 [(0, vr 160), (2, vi l2), (3, vi (l1 - (x.1 172 (l2 - 1 : Int32).toNatClampNeg))), (4, vi 0)] [] x P))) :
    KT G q (d + 1) zk_X4_earlierOfRace 0 [(0, vr 160), (1, vi l1), (2, vi l2)] [] x P := by
  refine T_iload_n 1 (dk dtk_X4_earlierOfRace 0 rfl) rfl rfl ?_
  refine T_iload_n 2 (dk dtk_X4_earlierOfRace 1 rfl) rfl rfl ?_
  refine T_if_le 16 (dk dtk_X4_earlierOfRace 2 rfl) (by decide) (fun c1 => ?_) (fun c1 => ?_)
  · have h := h.1 c1
    refine T_iconst (v := 0) (dk dtk_X4_earlierOfRace 10 rfl) (by decide +kernel) ?_
    refine T_isub (dk dtk_X4_earlierOfRace 11 rfl) ?_
    refine T_istore_n (lv2 := [(3, vi (l1 - 0)), (0, vr 160), (1, vi l1), (2, vi l2)]) (dk dtk_X4_earlierOfRace 12 rfl) rfl (by decide) rfl ?_
    refine T_iconst (v := 0) (dk dtk_X4_earlierOfRace 13 rfl) (by decide +kernel) ?_
    refine T_istore (lv2 := [(4, vi 0), (3, vi (l1 - 0)), (0, vr 160), (1, vi l1), (2, vi l2)]) (dk dtk_X4_earlierOfRace 14 rfl) (by decide) rfl ?_
    exact T_sub [2, 4, 1, 0] rfl h
  · have h := h.2 c1
    refine T_aload_n 0 (dk dtk_X4_earlierOfRace 3 rfl) rfl rfl ?_
    refine T_getR 160 11 172 (dk dtk_X4_earlierOfRace 4 rfl) kfl_X4_40 kk_160 (kl_160 hq) (by decide) rfl kr_160_11 ?_
    refine T_iload_n 2 (dk dtk_X4_earlierOfRace 5 rfl) rfl rfl ?_
    refine T_iconst (v := 1) (dk dtk_X4_earlierOfRace 6 rfl) (by decide +kernel) ?_
    refine T_isub (dk dtk_X4_earlierOfRace 7 rfl) ?_
    obtain ⟨h2, h⟩ := h
    refine T_iald 172 400 (dk dtk_X4_earlierOfRace 8 rfl) kk_172 (kl_172 hq) h2 ?_
    refine T_goto 17 (dk dtk_X4_earlierOfRace 9 rfl) (by decide) ?_
    refine T_isub (dk dtk_X4_earlierOfRace 11 rfl) ?_
    refine T_istore_n (lv2 := [(3, vi (l1 - (x.1 172 (l2 - 1 : Int32).toNatClampNeg))), (0, vr 160), (1, vi l1), (2, vi l2)]) (dk dtk_X4_earlierOfRace 12 rfl) rfl (by decide) rfl ?_
    refine T_iconst (v := 0) (dk dtk_X4_earlierOfRace 13 rfl) (by decide +kernel) ?_
    refine T_istore (lv2 := [(4, vi 0), (3, vi (l1 - (x.1 172 (l2 - 1 : Int32).toNatClampNeg))), (0, vr 160), (1, vi l1), (2, vi l2)]) (dk dtk_X4_earlierOfRace 14 rfl) (by decide) rfl ?_
    exact T_sub [2, 4, 1, 0] rfl h
set_option maxRecDepth 100000 in
set_option maxHeartbeats 4000000 in
theorem kg_X4_earlierOfRace_22 {G : kG} {q : kP} {d : Nat} {x : gd} {P : Option gv → gd → Prop} (hq : kV q) (l2 : Int32) (l3 : Int32) (l4 : Int32)
    (h : ((l2 ≤ l4 → P (some (vi (-1))) x) ∧ (¬ (l2 ≤ l4) → KT G q d zk_X4_isRace 0 [(0, vr 160), (1, vi l4), (2, vi l2)] [] x (ri (fun r3 x2 => ((r3 = (0 : Int32) → KT G q (d + 1) zk_X4_earlierOfRace 22 [(0, vr 160), (2, vi l2), (3, vi l3), (4, vi (l4 + 1))] [] x2 P) ∧ (¬ (r3 = (0 : Int32)) → ((¬ (l3 = (0 : Int32)) → KT G q (d + 1) zk_X4_earlierOfRace 22 [(0, vr 160), (2, vi l2), (3, vi (l3 + (-1))), (4, vi (l4 + 1))] [] x2 P) ∧ (l3 = (0 : Int32) → P (some (vi l4)) x2))))))))) :
    KT G q (d + 1) zk_X4_earlierOfRace 22 [(0, vr 160), (2, vi l2), (3, vi l3), (4, vi l4)] [] x P := by
  refine T_iload 3 (dk dtk_X4_earlierOfRace 15 rfl) rfl ?_
  refine T_iload_n 1 (dk dtk_X4_earlierOfRace 16 rfl) rfl rfl ?_
  refine T_icmp_ge 54 (dk dtk_X4_earlierOfRace 17 rfl) (by decide) (fun c1 => ?_) (fun c1 => ?_)
  · have h := h.1 c1
    refine T_iconst (v := (-1)) (dk dtk_X4_earlierOfRace 30 rfl) (by decide +kernel) ?_
    exact KT_iret (dk dtk_X4_earlierOfRace 31 rfl) rfl rfl h
  · have h := h.2 c1
    refine T_aload_n 0 (dk dtk_X4_earlierOfRace 18 rfl) rfl rfl ?_
    refine T_iload 3 (dk dtk_X4_earlierOfRace 19 rfl) rfl ?_
    refine T_iload_n 1 (dk dtk_X4_earlierOfRace 20 rfl) rfl rfl ?_
    refine KC_Vi [vi l4, vi l2] [] rfl (dk dtk_X4_earlierOfRace 21 rfl) kcv_X4_125 rfl kk_160 rfl (kl_160 hq) (Nat.le_of_ble_eq_true rfl) (Nat.le_of_ble_eq_true rfl) (gok_i (av_c (gkr (kl_160 hq)) (av_c rfl (av_c rfl (av_c rfl av_n)))) as_n) rfl h (fun r3 x2 h => ?_)
    refine T_if_eq 48 (dk dtk_X4_earlierOfRace 22 rfl) (by decide) (fun c4 => ?_) (fun c4 => ?_)
    · have h := h.1 c4
      refine T_iinc (v := l4 + 1) (lv2 := [(4, vi (l4 + 1)), (0, vr 160), (2, vi l2), (3, vi l3)]) 3 (dk dtk_X4_earlierOfRace 28 rfl) rfl rfl (by decide) rfl ?_
      refine T_goto 22 (dk dtk_X4_earlierOfRace 29 rfl) (by decide) ?_
      exact T_sub [1, 2, 3, 0] rfl h
    · have h := h.2 c4
      refine T_iload_n 2 (dk dtk_X4_earlierOfRace 23 rfl) rfl rfl ?_
      refine T_if_ne 45 (dk dtk_X4_earlierOfRace 24 rfl) (by decide) (fun c5 => ?_) (fun c5 => ?_)
      · have h := h.1 c5
        refine T_iinc (v := l3 + (-1)) (lv2 := [(3, vi (l3 + (-1))), (0, vr 160), (2, vi l2), (4, vi l4)]) 2 (dk dtk_X4_earlierOfRace 27 rfl) rfl rfl (by decide) rfl ?_
        refine T_iinc (v := l4 + 1) (lv2 := [(4, vi (l4 + 1)), (3, vi (l3 + (-1))), (0, vr 160), (2, vi l2)]) 3 (dk dtk_X4_earlierOfRace 28 rfl) rfl rfl (by decide) rfl ?_
        refine T_goto 22 (dk dtk_X4_earlierOfRace 29 rfl) (by decide) ?_
        exact T_sub [2, 3, 1, 0] rfl h
      · have h := h.2 c5
        refine T_iload 3 (dk dtk_X4_earlierOfRace 25 rfl) rfl ?_
        exact KT_iret (dk dtk_X4_earlierOfRace 26 rfl) rfl rfl h
set_option maxRecDepth 100000 in
theorem dtk_X4_racesOf : dck cX4_racesOf [(0, .aload_n 0, 1), (1, .iload_n 1, 1), (2, .invokevirtual 129, 3), (5, .ifCond .ne 5, 3), (8, .iconst 0, 1), (9, .ireturn, 1), (10, .iconst 0, 1), (11, .istore_n 2, 1), (12, .iconst 0, 1), (13, .istore_n 3, 1), (14, .iload_n 3, 1), (15, .iload_n 1, 1), (16, .if_icmp .ge 21, 3), (19, .aload_n 0, 1), (20, .iload_n 3, 1), (21, .iload_n 1, 1), (22, .invokevirtual 125, 3), (25, .ifCond .eq 6, 3), (28, .iinc 2 1, 3), (31, .iinc 3 1, 3), (34, .goto (-20), 3), (37, .iload_n 2, 1), (38, .ireturn, 1)] = true := by decide +kernel
set_option maxRecDepth 100000 in
set_option maxHeartbeats 4000000 in
theorem kg_X4_racesOf_0 {G : kG} {q : kP} {d : Nat} {x : gd} {P : Option gv → gd → Prop} (hq : kV q) (l1 : Int32)
    (h : KT G q d zk_X4_mayRace 0 [(0, vr 160), (1, vi l1)] [] x (ri (fun r2 x1 => ((¬ (r2 = (0 : Int32)) → KT G q (d + 1) zk_X4_racesOf 14 [(0, vr 160), (1, vi l1), (2, vi 0), (3, vi 0)] [] x1 P) ∧ (r2 = (0 : Int32) → P (some (vi 0)) x1))))) :
    KT G q (d + 1) zk_X4_racesOf 0 [(0, vr 160), (1, vi l1)] [] x P := by
  refine T_aload_n 0 (dk dtk_X4_racesOf 0 rfl) rfl rfl ?_
  refine T_iload_n 1 (dk dtk_X4_racesOf 1 rfl) rfl rfl ?_
  refine KC_Vi [vi l1] [] rfl (dk dtk_X4_racesOf 2 rfl) kcv_X4_129 rfl kk_160 rfl (kl_160 hq) (Nat.le_of_ble_eq_true rfl) (Nat.le_of_ble_eq_true rfl) (gok_i (av_c (gkr (kl_160 hq)) (av_c rfl av_n)) as_n) rfl h (fun r2 x1 h => ?_)
  refine T_if_ne 10 (dk dtk_X4_racesOf 3 rfl) (by decide) (fun c3 => ?_) (fun c3 => ?_)
  · have h := h.1 c3
    refine T_iconst (v := 0) (dk dtk_X4_racesOf 6 rfl) (by decide +kernel) ?_
    refine T_istore_n (lv2 := [(2, vi 0), (0, vr 160), (1, vi l1)]) (dk dtk_X4_racesOf 7 rfl) rfl (by decide) rfl ?_
    refine T_iconst (v := 0) (dk dtk_X4_racesOf 8 rfl) (by decide +kernel) ?_
    refine T_istore_n (lv2 := [(3, vi 0), (2, vi 0), (0, vr 160), (1, vi l1)]) (dk dtk_X4_racesOf 9 rfl) rfl (by decide) rfl ?_
    exact T_sub [2, 3, 1, 0] rfl h
  · have h := h.2 c3
    refine T_iconst (v := 0) (dk dtk_X4_racesOf 4 rfl) (by decide +kernel) ?_
    exact KT_iret (dk dtk_X4_racesOf 5 rfl) rfl rfl h
set_option maxRecDepth 100000 in
set_option maxHeartbeats 4000000 in
theorem kg_X4_racesOf_14 {G : kG} {q : kP} {d : Nat} {x : gd} {P : Option gv → gd → Prop} (hq : kV q) (l1 : Int32) (l2 : Int32) (l3 : Int32)
    (h : ((l1 ≤ l3 → P (some (vi l2)) x) ∧ (¬ (l1 ≤ l3) → KT G q d zk_X4_isRace 0 [(0, vr 160), (1, vi l3), (2, vi l1)] [] x (ri (fun r3 x2 => ((r3 = (0 : Int32) → KT G q (d + 1) zk_X4_racesOf 14 [(0, vr 160), (1, vi l1), (2, vi l2), (3, vi (l3 + 1))] [] x2 P) ∧ (¬ (r3 = (0 : Int32)) → KT G q (d + 1) zk_X4_racesOf 14 [(0, vr 160), (1, vi l1), (2, vi (l2 + 1)), (3, vi (l3 + 1))] [] x2 P))))))) :
    KT G q (d + 1) zk_X4_racesOf 14 [(0, vr 160), (1, vi l1), (2, vi l2), (3, vi l3)] [] x P := by
  refine T_iload_n 3 (dk dtk_X4_racesOf 10 rfl) rfl rfl ?_
  refine T_iload_n 1 (dk dtk_X4_racesOf 11 rfl) rfl rfl ?_
  refine T_icmp_ge 37 (dk dtk_X4_racesOf 12 rfl) (by decide) (fun c1 => ?_) (fun c1 => ?_)
  · have h := h.1 c1
    refine T_iload_n 2 (dk dtk_X4_racesOf 21 rfl) rfl rfl ?_
    exact KT_iret (dk dtk_X4_racesOf 22 rfl) rfl rfl h
  · have h := h.2 c1
    refine T_aload_n 0 (dk dtk_X4_racesOf 13 rfl) rfl rfl ?_
    refine T_iload_n 3 (dk dtk_X4_racesOf 14 rfl) rfl rfl ?_
    refine T_iload_n 1 (dk dtk_X4_racesOf 15 rfl) rfl rfl ?_
    refine KC_Vi [vi l3, vi l1] [] rfl (dk dtk_X4_racesOf 16 rfl) kcv_X4_125 rfl kk_160 rfl (kl_160 hq) (Nat.le_of_ble_eq_true rfl) (Nat.le_of_ble_eq_true rfl) (gok_i (av_c (gkr (kl_160 hq)) (av_c rfl (av_c rfl (av_c rfl av_n)))) as_n) rfl h (fun r3 x2 h => ?_)
    refine T_if_eq 31 (dk dtk_X4_racesOf 17 rfl) (by decide) (fun c4 => ?_) (fun c4 => ?_)
    · have h := h.1 c4
      refine T_iinc (v := l3 + 1) (lv2 := [(3, vi (l3 + 1)), (0, vr 160), (1, vi l1), (2, vi l2)]) 3 (dk dtk_X4_racesOf 19 rfl) rfl rfl (by decide) rfl ?_
      refine T_goto 14 (dk dtk_X4_racesOf 20 rfl) (by decide) ?_
      exact T_sub [1, 2, 3, 0] rfl h
    · have h := h.2 c4
      refine T_iinc (v := l2 + 1) (lv2 := [(2, vi (l2 + 1)), (0, vr 160), (1, vi l1), (3, vi l3)]) 2 (dk dtk_X4_racesOf 18 rfl) rfl rfl (by decide) rfl ?_
      refine T_iinc (v := l3 + 1) (lv2 := [(3, vi (l3 + 1)), (2, vi (l2 + 1)), (0, vr 160), (1, vi l1)]) 3 (dk dtk_X4_racesOf 19 rfl) rfl rfl (by decide) rfl ?_
      refine T_goto 14 (dk dtk_X4_racesOf 20 rfl) (by decide) ?_
      exact T_sub [2, 3, 1, 0] rfl h
set_option maxRecDepth 100000 in
theorem dtk_X4_mayRace : dck cX4_mayRace [(0, .aload_n 0, 1), (1, .getfield 24, 3), (4, .iload_n 1, 1), (5, .iaload, 1), (6, .iconst 4, 1), (7, .if_icmp .gt 33, 3), (10, .aload_n 0, 1), (11, .getfield 36, 3), (14, .iload_n 1, 1), (15, .baload, 1), (16, .ifCond .ne 24, 3), (19, .aload_n 0, 1), (20, .getfield 11, 3), (23, .getfield 116, 3), (26, .aload_n 0, 1), (27, .getfield 27, 3), (30, .iload_n 1, 1), (31, .iaload, 1), (32, .baload, 1), (33, .ifCond .ne 7, 3), (36, .iconst 1, 1), (37, .goto 4, 3), (40, .iconst 0, 1), (41, .ireturn, 1)] = true := by decide +kernel
set_option maxRecDepth 100000 in
set_option maxHeartbeats 4000000 in
theorem kg_X4_mayRace_0 {G : kG} {q : kP} {d : Nat} {x : gd} {P : Option gv → gd → Prop} (hq : kV q) (l1 : Int32)
    (h : vp_in l1 400 ∧ (((4 : Int32) < (x.1 167 (l1 : Int32).toNatClampNeg) → P (some (vi 0)) x) ∧ (¬ ((4 : Int32) < (x.1 167 (l1 : Int32).toNatClampNeg)) → vp_in l1 400 ∧ ((¬ ((x.1 171 (l1 : Int32).toNatClampNeg) = (0 : Int32)) → P (some (vi 0)) x) ∧ ((x.1 171 (l1 : Int32).toNatClampNeg) = (0 : Int32) → vp_in l1 400 ∧ vp_in (x.1 168 (l1 : Int32).toNatClampNeg) 24 ∧ ((¬ ((x.1 69 (x.1 168 (l1 : Int32).toNatClampNeg : Int32).toNatClampNeg) = (0 : Int32)) → P (some (vi 0)) x) ∧ ((x.1 69 (x.1 168 (l1 : Int32).toNatClampNeg : Int32).toNatClampNeg) = (0 : Int32) → P (some (vi 1)) x))))))) :
    KT G q d zk_X4_mayRace 0 [(0, vr 160), (1, vi l1)] [] x P := by
  refine T_aload_n 0 (dk dtk_X4_mayRace 0 rfl) rfl rfl ?_
  refine T_getR 160 6 167 (dk dtk_X4_mayRace 1 rfl) kfl_X4_24 kk_160 (kl_160 hq) (by decide) rfl kr_160_6 ?_
  refine T_iload_n 1 (dk dtk_X4_mayRace 2 rfl) rfl rfl ?_
  obtain ⟨h1, h⟩ := h
  refine T_iald 167 400 (dk dtk_X4_mayRace 3 rfl) kk_167 (kl_167 hq) h1 ?_
  refine T_iconst (v := 4) (dk dtk_X4_mayRace 4 rfl) (by decide +kernel) ?_
  refine T_icmp_gt 40 (dk dtk_X4_mayRace 5 rfl) (by decide) (fun c2 => ?_) (fun c2 => ?_)
  · have h := h.1 c2
    refine T_iconst (v := 0) (dk dtk_X4_mayRace 22 rfl) (by decide +kernel) ?_
    exact KT_iret (dk dtk_X4_mayRace 23 rfl) rfl rfl h
  · have h := h.2 c2
    refine T_aload_n 0 (dk dtk_X4_mayRace 6 rfl) rfl rfl ?_
    refine T_getR 160 10 171 (dk dtk_X4_mayRace 7 rfl) kfl_X4_36 kk_160 (kl_160 hq) (by decide) rfl kr_160_10 ?_
    refine T_iload_n 1 (dk dtk_X4_mayRace 8 rfl) rfl rfl ?_
    obtain ⟨h3, h⟩ := h
    refine T_zald 171 400 (dk dtk_X4_mayRace 9 rfl) kk_171 (kl_171 hq) h3 ?_
    refine T_if_ne 40 (dk dtk_X4_mayRace 10 rfl) (by decide) (fun c4 => ?_) (fun c4 => ?_)
    · have h := h.1 c4
      refine T_iconst (v := 0) (dk dtk_X4_mayRace 22 rfl) (by decide +kernel) ?_
      exact KT_iret (dk dtk_X4_mayRace 23 rfl) rfl rfl h
    · have h := h.2 c4
      refine T_aload_n 0 (dk dtk_X4_mayRace 11 rfl) rfl rfl ?_
      refine T_getR 160 0 60 (dk dtk_X4_mayRace 12 rfl) kfl_X4_11 kk_160 (kl_160 hq) (by decide) rfl kr_160_0 ?_
      refine T_getR 60 8 69 (dk dtk_X4_mayRace 13 rfl) kfl_X4_116 kk_60 (kl_60 hq) (by decide) rfl kr_60_8 ?_
      refine T_aload_n 0 (dk dtk_X4_mayRace 14 rfl) rfl rfl ?_
      refine T_getR 160 7 168 (dk dtk_X4_mayRace 15 rfl) kfl_X4_27 kk_160 (kl_160 hq) (by decide) rfl kr_160_7 ?_
      refine T_iload_n 1 (dk dtk_X4_mayRace 16 rfl) rfl rfl ?_
      obtain ⟨h5, h⟩ := h
      refine T_iald 168 400 (dk dtk_X4_mayRace 17 rfl) kk_168 (kl_168 hq) h5 ?_
      obtain ⟨h6, h⟩ := h
      refine T_zald 69 24 (dk dtk_X4_mayRace 18 rfl) kk_69 (kl_69 hq) h6 ?_
      refine T_if_ne 40 (dk dtk_X4_mayRace 19 rfl) (by decide) (fun c7 => ?_) (fun c7 => ?_)
      · have h := h.1 c7
        refine T_iconst (v := 0) (dk dtk_X4_mayRace 22 rfl) (by decide +kernel) ?_
        exact KT_iret (dk dtk_X4_mayRace 23 rfl) rfl rfl h
      · have h := h.2 c7
        refine T_iconst (v := 1) (dk dtk_X4_mayRace 20 rfl) (by decide +kernel) ?_
        refine T_goto 41 (dk dtk_X4_mayRace 21 rfl) (by decide) ?_
        exact KT_iret (dk dtk_X4_mayRace 23 rfl) rfl rfl h
set_option maxRecDepth 100000 in
theorem dtk_X4_isRace : dck cX4_isRace [(0, .aload_n 0, 1), (1, .getfield 27, 3), (4, .iload_n 1, 1), (5, .iaload, 1), (6, .aload_n 0, 1), (7, .getfield 27, 3), (10, .iload_n 2, 1), (11, .iaload, 1), (12, .if_icmp .ne 57, 3), (15, .aload_n 0, 1), (16, .getfield 21, 3), (19, .iload_n 1, 1), (20, .iaload, 1), (21, .aload_n 0, 1), (22, .getfield 21, 3), (25, .iload_n 2, 1), (26, .iaload, 1), (27, .if_icmp .eq 42, 3), (30, .aload_n 0, 1), (31, .iload_n 1, 1), (32, .invokevirtual 129, 3), (35, .ifCond .eq 34, 3), (38, .aload_n 0, 1), (39, .getfield 24, 3), (42, .iload_n 1, 1), (43, .iaload, 1), (44, .aload_n 0, 1), (45, .getfield 24, 3), (48, .iload_n 2, 1), (49, .iaload, 1), (50, .invokestatic 133, 3), (53, .ifCond .eq 16, 3), (56, .aload_n 0, 1), (57, .iload_n 1, 1), (58, .iload_n 2, 1), (59, .invokevirtual 136, 3), (62, .ifCond .ne 7, 3), (65, .iconst 1, 1), (66, .goto 4, 3), (69, .iconst 0, 1), (70, .ireturn, 1)] = true := by decide +kernel
set_option maxRecDepth 100000 in
set_option maxHeartbeats 4000000 in
theorem kg_X4_isRace_0 {G : kG} {q : kP} {d : Nat} {x : gd} {P : Option gv → gd → Prop} (hq : kV q) (l1 : Int32) (l2 : Int32)
    (h : vp_in l1 400 ∧ vp_in l2 400 ∧ ((¬ ((x.1 168 (l1 : Int32).toNatClampNeg) = (x.1 168 (l2 : Int32).toNatClampNeg)) → P (some (vi 0)) x) ∧ ((x.1 168 (l1 : Int32).toNatClampNeg) = (x.1 168 (l2 : Int32).toNatClampNeg) → vp_in l1 400 ∧ vp_in l2 400 ∧ (((x.1 166 (l1 : Int32).toNatClampNeg) = (x.1 166 (l2 : Int32).toNatClampNeg) → P (some (vi 0)) x) ∧ (¬ ((x.1 166 (l1 : Int32).toNatClampNeg) = (x.1 166 (l2 : Int32).toNatClampNeg)) → KT G q d zk_X4_mayRace 0 [(0, vr 160), (1, vi l1)] [] x (ri (fun r8 x7 => ((r8 = (0 : Int32) → P (some (vi 0)) x7) ∧ (¬ (r8 = (0 : Int32)) → vp_in l1 400 ∧ vp_in l2 400 ∧ KT G q d zk_X4_sortsRace 0 [(0, vi (x7.1 167 (l1 : Int32).toNatClampNeg)), (1, vi (x7.1 167 (l2 : Int32).toNatClampNeg))] [] x7 (ri (fun r13 x12 => ((r13 = (0 : Int32) → P (some (vi 0)) x12) ∧ (¬ (r13 = (0 : Int32)) → KT G q d zk_X4_isBefore 0 [(0, vr 160), (1, vi l1), (2, vi l2)] [] x12 (ri (fun r16 x15 => ((¬ (r16 = (0 : Int32)) → P (some (vi 0)) x15) ∧ (r16 = (0 : Int32) → P (some (vi 1)) x15))))))))))))))))) :
    KT G q (d + 1) zk_X4_isRace 0 [(0, vr 160), (1, vi l1), (2, vi l2)] [] x P := by
  refine T_aload_n 0 (dk dtk_X4_isRace 0 rfl) rfl rfl ?_
  refine T_getR 160 7 168 (dk dtk_X4_isRace 1 rfl) kfl_X4_27 kk_160 (kl_160 hq) (by decide) rfl kr_160_7 ?_
  refine T_iload_n 1 (dk dtk_X4_isRace 2 rfl) rfl rfl ?_
  obtain ⟨h1, h⟩ := h
  refine T_iald 168 400 (dk dtk_X4_isRace 3 rfl) kk_168 (kl_168 hq) h1 ?_
  refine T_aload_n 0 (dk dtk_X4_isRace 4 rfl) rfl rfl ?_
  refine T_getR 160 7 168 (dk dtk_X4_isRace 5 rfl) kfl_X4_27 kk_160 (kl_160 hq) (by decide) rfl kr_160_7 ?_
  refine T_iload_n 2 (dk dtk_X4_isRace 6 rfl) rfl rfl ?_
  obtain ⟨h2, h⟩ := h
  refine T_iald 168 400 (dk dtk_X4_isRace 7 rfl) kk_168 (kl_168 hq) h2 ?_
  refine T_icmp_ne 69 (dk dtk_X4_isRace 8 rfl) (by decide) (fun c3 => ?_) (fun c3 => ?_)
  · have h := h.1 c3
    refine T_iconst (v := 0) (dk dtk_X4_isRace 39 rfl) (by decide +kernel) ?_
    exact KT_iret (dk dtk_X4_isRace 40 rfl) rfl rfl h
  · have h := h.2 c3
    refine T_aload_n 0 (dk dtk_X4_isRace 9 rfl) rfl rfl ?_
    refine T_getR 160 5 166 (dk dtk_X4_isRace 10 rfl) kfl_X4_21 kk_160 (kl_160 hq) (by decide) rfl kr_160_5 ?_
    refine T_iload_n 1 (dk dtk_X4_isRace 11 rfl) rfl rfl ?_
    obtain ⟨h4, h⟩ := h
    refine T_iald 166 400 (dk dtk_X4_isRace 12 rfl) kk_166 (kl_166 hq) h4 ?_
    refine T_aload_n 0 (dk dtk_X4_isRace 13 rfl) rfl rfl ?_
    refine T_getR 160 5 166 (dk dtk_X4_isRace 14 rfl) kfl_X4_21 kk_160 (kl_160 hq) (by decide) rfl kr_160_5 ?_
    refine T_iload_n 2 (dk dtk_X4_isRace 15 rfl) rfl rfl ?_
    obtain ⟨h5, h⟩ := h
    refine T_iald 166 400 (dk dtk_X4_isRace 16 rfl) kk_166 (kl_166 hq) h5 ?_
    refine T_icmp_eq 69 (dk dtk_X4_isRace 17 rfl) (by decide) (fun c6 => ?_) (fun c6 => ?_)
    · have h := h.1 c6
      refine T_iconst (v := 0) (dk dtk_X4_isRace 39 rfl) (by decide +kernel) ?_
      exact KT_iret (dk dtk_X4_isRace 40 rfl) rfl rfl h
    · have h := h.2 c6
      refine T_aload_n 0 (dk dtk_X4_isRace 18 rfl) rfl rfl ?_
      refine T_iload_n 1 (dk dtk_X4_isRace 19 rfl) rfl rfl ?_
      refine KC_Vi [vi l1] [] rfl (dk dtk_X4_isRace 20 rfl) kcv_X4_129 rfl kk_160 rfl (kl_160 hq) (Nat.le_of_ble_eq_true rfl) (Nat.le_of_ble_eq_true rfl) (gok_i (av_c (gkr (kl_160 hq)) (av_c rfl (av_c rfl av_n))) as_n) rfl h (fun r8 x7 h => ?_)
      refine T_if_eq 69 (dk dtk_X4_isRace 21 rfl) (by decide) (fun c9 => ?_) (fun c9 => ?_)
      · have h := h.1 c9
        refine T_iconst (v := 0) (dk dtk_X4_isRace 39 rfl) (by decide +kernel) ?_
        exact KT_iret (dk dtk_X4_isRace 40 rfl) rfl rfl h
      · have h := h.2 c9
        refine T_aload_n 0 (dk dtk_X4_isRace 22 rfl) rfl rfl ?_
        refine T_getR 160 6 167 (dk dtk_X4_isRace 23 rfl) kfl_X4_24 kk_160 (kl_160 hq) (by decide) rfl kr_160_6 ?_
        refine T_iload_n 1 (dk dtk_X4_isRace 24 rfl) rfl rfl ?_
        obtain ⟨h10, h⟩ := h
        refine T_iald 167 400 (dk dtk_X4_isRace 25 rfl) kk_167 (kl_167 hq) h10 ?_
        refine T_aload_n 0 (dk dtk_X4_isRace 26 rfl) rfl rfl ?_
        refine T_getR 160 6 167 (dk dtk_X4_isRace 27 rfl) kfl_X4_24 kk_160 (kl_160 hq) (by decide) rfl kr_160_6 ?_
        refine T_iload_n 2 (dk dtk_X4_isRace 28 rfl) rfl rfl ?_
        obtain ⟨h11, h⟩ := h
        refine T_iald 167 400 (dk dtk_X4_isRace 29 rfl) kk_167 (kl_167 hq) h11 ?_
        refine KC_Si [vi (x7.1 167 (l1 : Int32).toNatClampNeg), vi (x7.1 167 (l2 : Int32).toNatClampNeg)] [] rfl (dk dtk_X4_isRace 30 rfl) kcs_X4_133 rfl (Nat.le_of_ble_eq_true rfl) (Nat.le_of_ble_eq_true rfl) (gok_i (av_c (gkr (kl_160 hq)) (av_c rfl (av_c rfl av_n))) as_n) rfl h (fun r13 x12 h => ?_)
        refine T_if_eq 69 (dk dtk_X4_isRace 31 rfl) (by decide) (fun c14 => ?_) (fun c14 => ?_)
        · have h := h.1 c14
          refine T_iconst (v := 0) (dk dtk_X4_isRace 39 rfl) (by decide +kernel) ?_
          exact KT_iret (dk dtk_X4_isRace 40 rfl) rfl rfl h
        · have h := h.2 c14
          refine T_aload_n 0 (dk dtk_X4_isRace 32 rfl) rfl rfl ?_
          refine T_iload_n 1 (dk dtk_X4_isRace 33 rfl) rfl rfl ?_
          refine T_iload_n 2 (dk dtk_X4_isRace 34 rfl) rfl rfl ?_
          refine T_sub (lv2 := []) [] rfl ?_
          refine KC_Vi [vi l1, vi l2] [] rfl (dk dtk_X4_isRace 35 rfl) kcv_X4_136 rfl kk_160 rfl (kl_160 hq) (Nat.le_of_ble_eq_true rfl) (Nat.le_of_ble_eq_true rfl) (gok_i av_n as_n) rfl h (fun r16 x15 h => ?_)
          refine T_if_ne 69 (dk dtk_X4_isRace 36 rfl) (by decide) (fun c17 => ?_) (fun c17 => ?_)
          · have h := h.1 c17
            refine T_iconst (v := 0) (dk dtk_X4_isRace 39 rfl) (by decide +kernel) ?_
            exact KT_iret (dk dtk_X4_isRace 40 rfl) rfl rfl h
          · have h := h.2 c17
            refine T_iconst (v := 1) (dk dtk_X4_isRace 37 rfl) (by decide +kernel) ?_
            refine T_goto 70 (dk dtk_X4_isRace 38 rfl) (by decide) ?_
            exact KT_iret (dk dtk_X4_isRace 40 rfl) rfl rfl h
set_option maxRecDepth 100000 in
theorem dtk_X4_sortsRace : dck cX4_sortsRace [(0, .iload_n 0, 1), (1, .ifCond .ne 11, 3), (4, .iload_n 1, 1), (5, .ifCond .ne 7, 3), (8, .iconst 1, 1), (9, .goto 4, 3), (12, .iconst 0, 1), (13, .istore_n 2, 1), (14, .iload_n 0, 1), (15, .iconst 2, 1), (16, .if_icmp .lt 12, 3), (19, .iload_n 1, 1), (20, .iconst 2, 1), (21, .if_icmp .lt 7, 3), (24, .iconst 1, 1), (25, .goto 4, 3), (28, .iconst 0, 1), (29, .istore_n 3, 1), (30, .iload_n 2, 1), (31, .ifCond .ne 11, 3), (34, .iload_n 3, 1), (35, .ifCond .ne 7, 3), (38, .iconst 1, 1), (39, .goto 4, 3), (42, .iconst 0, 1), (43, .ireturn, 1)] = true := by decide +kernel
set_option maxRecDepth 100000 in
set_option maxHeartbeats 4000000 in
theorem kg_X4_sortsRace_0 {G : kG} {q : kP} {d : Nat} {x : gd} {P : Option gv → gd → Prop} (hq : kV q) (l0 : Int32) (l1 : Int32)
    (h : ((¬ (l0 = (0 : Int32)) → KT G q d zk_X4_sortsRace 13 [(0, vi l0), (1, vi l1)] [vi 0] x P) ∧ (l0 = (0 : Int32) → ((¬ (l1 = (0 : Int32)) → KT G q d zk_X4_sortsRace 13 [(0, vi l0), (1, vi l1)] [vi 0] x P) ∧ (l1 = (0 : Int32) → KT G q d zk_X4_sortsRace 13 [(0, vi l0), (1, vi l1)] [vi 1] x P))))) :
    KT G q d zk_X4_sortsRace 0 [(0, vi l0), (1, vi l1)] [] x P := by
  refine T_iload_n 0 (dk dtk_X4_sortsRace 0 rfl) rfl rfl ?_
  refine T_if_ne 12 (dk dtk_X4_sortsRace 1 rfl) (by decide) (fun c1 => ?_) (fun c1 => ?_)
  · have h := h.1 c1
    refine T_iconst (v := 0) (dk dtk_X4_sortsRace 6 rfl) (by decide +kernel) ?_
    exact h
  · have h := h.2 c1
    refine T_iload_n 1 (dk dtk_X4_sortsRace 2 rfl) rfl rfl ?_
    refine T_if_ne 12 (dk dtk_X4_sortsRace 3 rfl) (by decide) (fun c2 => ?_) (fun c2 => ?_)
    · have h := h.1 c2
      refine T_iconst (v := 0) (dk dtk_X4_sortsRace 6 rfl) (by decide +kernel) ?_
      exact h
    · have h := h.2 c2
      refine T_iconst (v := 1) (dk dtk_X4_sortsRace 4 rfl) (by decide +kernel) ?_
      refine T_goto 13 (dk dtk_X4_sortsRace 5 rfl) (by decide) ?_
      exact h
set_option maxRecDepth 100000 in
set_option maxHeartbeats 4000000 in
theorem kg_X4_sortsRace_13 {G : kG} {q : kP} {d : Nat} {x : gd} {P : Option gv → gd → Prop} (hq : kV q) (l0 : Int32) (l1 : Int32) (s0 : Int32)
    (h : ((l0 < (2 : Int32) → KT G q d zk_X4_sortsRace 29 [(2, vi s0)] [vi 0] x P) ∧ (¬ (l0 < (2 : Int32)) → ((l1 < (2 : Int32) → KT G q d zk_X4_sortsRace 29 [(2, vi s0)] [vi 0] x P) ∧ (¬ (l1 < (2 : Int32)) → KT G q d zk_X4_sortsRace 29 [(2, vi s0)] [vi 1] x P))))) :
    KT G q d zk_X4_sortsRace 13 [(0, vi l0), (1, vi l1)] [vi s0] x P := by
  refine T_istore_n (lv2 := [(2, vi s0), (0, vi l0), (1, vi l1)]) (dk dtk_X4_sortsRace 7 rfl) rfl (by decide) rfl ?_
  refine T_iload_n 1 (dk dtk_X4_sortsRace 8 rfl) rfl rfl ?_
  refine T_iconst (v := 2) (dk dtk_X4_sortsRace 9 rfl) (by decide +kernel) ?_
  refine T_icmp_lt 28 (dk dtk_X4_sortsRace 10 rfl) (by decide) (fun c1 => ?_) (fun c1 => ?_)
  · have h := h.1 c1
    refine T_iconst (v := 0) (dk dtk_X4_sortsRace 16 rfl) (by decide +kernel) ?_
    exact T_sub [0] rfl h
  · have h := h.2 c1
    refine T_iload_n 2 (dk dtk_X4_sortsRace 11 rfl) rfl rfl ?_
    refine T_iconst (v := 2) (dk dtk_X4_sortsRace 12 rfl) (by decide +kernel) ?_
    refine T_icmp_lt 28 (dk dtk_X4_sortsRace 13 rfl) (by decide) (fun c2 => ?_) (fun c2 => ?_)
    · have h := h.1 c2
      refine T_iconst (v := 0) (dk dtk_X4_sortsRace 16 rfl) (by decide +kernel) ?_
      exact T_sub [0] rfl h
    · have h := h.2 c2
      refine T_iconst (v := 1) (dk dtk_X4_sortsRace 14 rfl) (by decide +kernel) ?_
      refine T_goto 29 (dk dtk_X4_sortsRace 15 rfl) (by decide) ?_
      exact T_sub [0] rfl h
set_option maxRecDepth 100000 in
set_option maxHeartbeats 4000000 in
theorem kg_X4_sortsRace_29 {G : kG} {q : kP} {d : Nat} {x : gd} {P : Option gv → gd → Prop} (hq : kV q) (l2 : Int32) (s0 : Int32)
    (h : ((¬ (l2 = (0 : Int32)) → P (some (vi 0)) x) ∧ (l2 = (0 : Int32) → ((¬ (s0 = (0 : Int32)) → P (some (vi 0)) x) ∧ (s0 = (0 : Int32) → P (some (vi 1)) x))))) :
    KT G q d zk_X4_sortsRace 29 [(2, vi l2)] [vi s0] x P := by
  refine T_istore_n (lv2 := [(3, vi s0), (2, vi l2)]) (dk dtk_X4_sortsRace 17 rfl) rfl (by decide) rfl ?_
  refine T_iload_n 1 (dk dtk_X4_sortsRace 18 rfl) rfl rfl ?_
  refine T_if_ne 42 (dk dtk_X4_sortsRace 19 rfl) (by decide) (fun c1 => ?_) (fun c1 => ?_)
  · have h := h.1 c1
    refine T_iconst (v := 0) (dk dtk_X4_sortsRace 24 rfl) (by decide +kernel) ?_
    exact KT_iret (dk dtk_X4_sortsRace 25 rfl) rfl rfl h
  · have h := h.2 c1
    refine T_iload_n 0 (dk dtk_X4_sortsRace 20 rfl) rfl rfl ?_
    refine T_if_ne 42 (dk dtk_X4_sortsRace 21 rfl) (by decide) (fun c2 => ?_) (fun c2 => ?_)
    · have h := h.1 c2
      refine T_iconst (v := 0) (dk dtk_X4_sortsRace 24 rfl) (by decide +kernel) ?_
      exact KT_iret (dk dtk_X4_sortsRace 25 rfl) rfl rfl h
    · have h := h.2 c2
      refine T_iconst (v := 1) (dk dtk_X4_sortsRace 22 rfl) (by decide +kernel) ?_
      refine T_goto 43 (dk dtk_X4_sortsRace 23 rfl) (by decide) ?_
      exact KT_iret (dk dtk_X4_sortsRace 25 rfl) rfl rfl h
set_option maxRecDepth 100000 in
theorem dtk_X3_take : dck cX3_take [(0, .aload_n 0, 1), (1, .iconst 0, 1), (2, .putfield 40, 3), (5, .aload_n 0, 1), (6, .iconst 0, 1), (7, .putfield 44, 3), (10, .aload_n 0, 1), (11, .getfield 32, 3), (14, .iconst (-1), 1), (15, .invokestatic 47, 3), (18, .iconst 0, 1), (19, .istore_n 2, 1), (20, .iload_n 2, 1), (21, .aload_n 1, 1), (22, .getfield 53, 3), (25, .if_icmp .ge 97, 3), (28, .aload_n 1, 1), (29, .getfield 58, 3), (32, .iload_n 2, 1), (33, .iaload, 1), (34, .istore_n 3, 1), (35, .aload_n 1, 1), (36, .getfield 61, 3), (39, .iload_n 2, 1), (40, .baload, 1), (41, .ifCond .ne 75, 3), (44, .iload_n 3, 1), (45, .bipush 13, 2), (47, .if_icmp .eq 12, 3), (50, .iload_n 3, 1), (51, .bipush 14, 2), (53, .if_icmp .eq 6, 3), (56, .goto 60, 3), (59, .iload_n 3, 1), (60, .bipush 13, 2), (62, .if_icmp .ne 28, 3), (65, .aload_n 0, 1), (66, .aload_n 1, 1), (67, .getfield 67, 3), (70, .iload_n 2, 1), (71, .iaload, 1), (72, .aload_n 1, 1), (73, .getfield 70, 3), (76, .iload_n 2, 1), (77, .iaload, 1), (78, .aload_n 1, 1), (79, .getfield 73, 3), (82, .iload_n 2, 1), (83, .iaload, 1), (84, .invokevirtual 76, 3), (87, .goto 19, 3), (90, .aload_n 0, 1), (91, .aload_n 1, 1), (92, .getfield 67, 3), (95, .iload_n 2, 1), (96, .iaload, 1), (97, .aload_n 1, 1), (98, .getfield 73, 3), (101, .iload_n 2, 1), (102, .iaload, 1), (103, .invokevirtual 80, 3), (106, .aload_n 0, 1), (107, .dup, 1), (108, .getfield 44, 3), (111, .iconst 1, 1), (112, .iadd, 1), (113, .putfield 44, 3), (116, .iinc 2 1, 3), (119, .goto (-99), 3), (122, .return_, 1)] = true := by decide +kernel
set_option maxRecDepth 100000 in
set_option maxHeartbeats 4000000 in
theorem kg_X3_take_0 {G : kG} {q : kP} {d : Nat} {x : gd} {P : Option gv → gd → Prop} (hq : kV q) (hh : q.hi = true)
    (h : (∀ x1 : gd, x1 = si x 180 6 0 → (∀ x2 : gd, x2 = si x1 180 7 0 → (∀ x3 : gd, x3 = sfl x2 189 (-1) 6 → KT G q (d + 1) zk_X3_take 20 [(0, vr 180), (1, vr 160), (2, vi 0)] [] x3 P)))) :
    KT G q (d + 1) zk_X3_take 0 [(0, vr 180), (1, vr 160)] [] x P := by
  refine T_aload_n 0 (dk dtk_X3_take 0 rfl) rfl rfl ?_
  refine T_iconst (v := 0) (dk dtk_X3_take 1 rfl) (by decide +kernel) ?_
  obtain ⟨x1, ex1⟩ : ∃ z, z = si x 180 6 0 := ⟨_, rfl⟩
  have h := h x1 ex1
  refine T_putI 180 6 (dk dtk_X3_take 2 rfl) kfl_X3_40 kk_180 (kl_180 hq hh) (by decide) rfl ⟨rfl, rfl⟩ ?_
  rw [← ex1]
  refine T_aload_n 0 (dk dtk_X3_take 3 rfl) rfl rfl ?_
  refine T_iconst (v := 0) (dk dtk_X3_take 4 rfl) (by decide +kernel) ?_
  obtain ⟨x2, ex2⟩ : ∃ z, z = si x1 180 7 0 := ⟨_, rfl⟩
  have h := h x2 ex2
  refine T_putI 180 7 (dk dtk_X3_take 5 rfl) kfl_X3_44 kk_180 (kl_180 hq hh) (by decide) rfl ⟨rfl, rfl⟩ ?_
  rw [← ex2]
  refine T_aload_n 0 (dk dtk_X3_take 6 rfl) rfl rfl ?_
  refine T_getR 180 8 189 (dk dtk_X3_take 7 rfl) kfl_X3_32 kk_180 (kl_180 hq hh) (by decide) rfl kr_180_8 ?_
  refine T_iconst (v := (-1)) (dk dtk_X3_take 8 rfl) (by decide +kernel) ?_
  refine KC_Sv (F := fun z => z = sfl x2 189 (-1) 6) [vr 189, vi (-1)] [] rfl (dk dtk_X3_take 9 rfl) kcs_X3_47 rfl (Nat.le_of_ble_eq_true rfl) (Nat.le_of_ble_eq_true rfl) (gok_i (av_c (gkr (kl_180 hq hh)) (av_c (gkr (kl_160 hq)) av_n)) as_n) rfl (tj_fill 189 6 (-1) kk_189 (kl_189 hq hh) (by decide) ⟨rfl, none, rfl, rfl, rfl⟩) (fun x3 ex3 => ?_)
  have h := h x3 ex3
  refine T_iconst (v := 0) (dk dtk_X3_take 10 rfl) (by decide +kernel) ?_
  refine T_istore_n (lv2 := [(2, vi 0), (0, vr 180), (1, vr 160)]) (dk dtk_X3_take 11 rfl) rfl (by decide) rfl ?_
  exact T_sub [1, 2, 0] rfl h
set_option maxRecDepth 100000 in
set_option maxHeartbeats 4000000 in
theorem kg_X3_take_20 {G : kG} {q : kP} {d : Nat} {x : gd} {P : Option gv → gd → Prop} (hq : kV q) (hh : q.hi = true) (l2 : Int32)
    (h : (((x.1 160 3) ≤ l2 → P none x) ∧ (¬ ((x.1 160 3) ≤ l2) → vp_in l2 400 ∧ vp_in l2 400 ∧ ((¬ ((x.1 171 (l2 : Int32).toNatClampNeg) = (0 : Int32)) → KT G q (d + 1) zk_X3_take 20 [(0, vr 180), (1, vr 160), (2, vi (l2 + 1))] [] x P) ∧ ((x.1 171 (l2 : Int32).toNatClampNeg) = (0 : Int32) → (((x.1 167 (l2 : Int32).toNatClampNeg) = (13 : Int32) → KT G q (d + 1) zk_X3_take 59 [(0, vr 180), (1, vr 160), (2, vi l2), (3, vi (x.1 167 (l2 : Int32).toNatClampNeg))] [] x P) ∧ (¬ ((x.1 167 (l2 : Int32).toNatClampNeg) = (13 : Int32)) → (((x.1 167 (l2 : Int32).toNatClampNeg) = (14 : Int32) → KT G q (d + 1) zk_X3_take 59 [(0, vr 180), (1, vr 160), (2, vi l2), (3, vi (x.1 167 (l2 : Int32).toNatClampNeg))] [] x P) ∧ (¬ ((x.1 167 (l2 : Int32).toNatClampNeg) = (14 : Int32)) → KT G q (d + 1) zk_X3_take 20 [(0, vr 180), (1, vr 160), (2, vi (l2 + 1))] [] x P))))))))) :
    KT G q (d + 1) zk_X3_take 20 [(0, vr 180), (1, vr 160), (2, vi l2)] [] x P := by
  refine T_iload_n 2 (dk dtk_X3_take 12 rfl) rfl rfl ?_
  refine T_aload_n 1 (dk dtk_X3_take 13 rfl) rfl rfl ?_
  refine T_getI 160 3 (dk dtk_X3_take 14 rfl) kfl_X3_53 kk_160 (kl_160 hq) (by decide) rfl ?_
  refine T_icmp_ge 122 (dk dtk_X3_take 15 rfl) (by decide) (fun c1 => ?_) (fun c1 => ?_)
  · have h := h.1 c1
    exact KT_vret (dk dtk_X3_take 69 rfl) rfl h
  · have h := h.2 c1
    refine T_aload_n 1 (dk dtk_X3_take 16 rfl) rfl rfl ?_
    refine T_getR 160 6 167 (dk dtk_X3_take 17 rfl) kfl_X3_58 kk_160 (kl_160 hq) (by decide) rfl kr_160_6 ?_
    refine T_iload_n 2 (dk dtk_X3_take 18 rfl) rfl rfl ?_
    obtain ⟨h2, h⟩ := h
    refine T_iald 167 400 (dk dtk_X3_take 19 rfl) kk_167 (kl_167 hq) h2 ?_
    refine T_istore_n (lv2 := [(3, vi (x.1 167 (l2 : Int32).toNatClampNeg)), (0, vr 180), (1, vr 160), (2, vi l2)]) (dk dtk_X3_take 20 rfl) rfl (by decide) rfl ?_
    refine T_aload_n 2 (dk dtk_X3_take 21 rfl) rfl rfl ?_
    refine T_getR 160 10 171 (dk dtk_X3_take 22 rfl) kfl_X3_61 kk_160 (kl_160 hq) (by decide) rfl kr_160_10 ?_
    refine T_iload_n 3 (dk dtk_X3_take 23 rfl) rfl rfl ?_
    obtain ⟨h3, h⟩ := h
    refine T_zald 171 400 (dk dtk_X3_take 24 rfl) kk_171 (kl_171 hq) h3 ?_
    refine T_if_ne 116 (dk dtk_X3_take 25 rfl) (by decide) (fun c4 => ?_) (fun c4 => ?_)
    · have h := h.1 c4
      refine T_iinc (v := l2 + 1) (lv2 := [(2, vi (l2 + 1)), (3, vi (x.1 167 (l2 : Int32).toNatClampNeg)), (0, vr 180), (1, vr 160)]) 3 (dk dtk_X3_take 67 rfl) rfl rfl (by decide) rfl ?_
      refine T_goto 20 (dk dtk_X3_take 68 rfl) (by decide) ?_
      exact T_sub [2, 3, 0] rfl h
    · have h := h.2 c4
      refine T_iload_n 0 (dk dtk_X3_take 26 rfl) rfl rfl ?_
      refine T_bipush (v := 13) (dk dtk_X3_take 27 rfl) (by decide +kernel) ?_
      refine T_icmp_eq 59 (dk dtk_X3_take 28 rfl) (by decide) (fun c5 => ?_) (fun c5 => ?_)
      · have h := h.1 c5
        exact T_sub [1, 2, 3, 0] rfl h
      · have h := h.2 c5
        refine T_iload_n 0 (dk dtk_X3_take 29 rfl) rfl rfl ?_
        refine T_bipush (v := 14) (dk dtk_X3_take 30 rfl) (by decide +kernel) ?_
        refine T_icmp_eq 59 (dk dtk_X3_take 31 rfl) (by decide) (fun c6 => ?_) (fun c6 => ?_)
        · have h := h.1 c6
          exact T_sub [1, 2, 3, 0] rfl h
        · have h := h.2 c6
          refine T_goto 116 (dk dtk_X3_take 32 rfl) (by decide) ?_
          refine T_iinc (v := l2 + 1) (lv2 := [(2, vi (l2 + 1)), (3, vi (x.1 167 (l2 : Int32).toNatClampNeg)), (0, vr 180), (1, vr 160)]) 3 (dk dtk_X3_take 67 rfl) rfl rfl (by decide) rfl ?_
          refine T_goto 20 (dk dtk_X3_take 68 rfl) (by decide) ?_
          exact T_sub [2, 3, 0] rfl h
set_option maxRecDepth 100000 in
set_option maxHeartbeats 4000000 in
theorem kg_X3_take_59 {G : kG} {q : kP} {d : Nat} {x : gd} {P : Option gv → gd → Prop} (hq : kV q) (hh : q.hi = true) (l2 : Int32) (l3 : Int32)
    (h : ((¬ (l3 = (13 : Int32)) → vp_in l2 400 ∧ vp_in l2 400 ∧ KT G q d zk_X3_endCall 0 [(0, vr 180), (1, vi (x.1 166 (l2 : Int32).toNatClampNeg)), (2, vi (x.1 170 (l2 : Int32).toNatClampNeg))] [] x (rv (fun x4 => (∀ x5 : gd, x5 = si x4 180 7 ((x4.1 180 7) + 1) → KT G q (d + 1) zk_X3_take 20 [(0, vr 180), (1, vr 160), (2, vi (l2 + 1))] [] x5 P)))) ∧ (l3 = (13 : Int32) → vp_in l2 400 ∧ vp_in l2 400 ∧ vp_in l2 400 ∧ KT G q d zk_X3_beginCall 0 [(0, vr 180), (1, vi (x.1 166 (l2 : Int32).toNatClampNeg)), (2, vi (x.1 168 (l2 : Int32).toNatClampNeg)), (3, vi (x.1 170 (l2 : Int32).toNatClampNeg))] [] x (rv (fun x9 => (∀ x10 : gd, x10 = si x9 180 7 ((x9.1 180 7) + 1) → KT G q (d + 1) zk_X3_take 20 [(0, vr 180), (1, vr 160), (2, vi (l2 + 1))] [] x10 P)))))) :
    KT G q (d + 1) zk_X3_take 59 [(0, vr 180), (1, vr 160), (2, vi l2), (3, vi l3)] [] x P := by
  refine T_iload_n 3 (dk dtk_X3_take 33 rfl) rfl rfl ?_
  refine T_bipush (v := 13) (dk dtk_X3_take 34 rfl) (by decide +kernel) ?_
  refine T_icmp_ne 90 (dk dtk_X3_take 35 rfl) (by decide) (fun c1 => ?_) (fun c1 => ?_)
  · have h := h.1 c1
    refine T_aload_n 0 (dk dtk_X3_take 51 rfl) rfl rfl ?_
    refine T_aload_n 1 (dk dtk_X3_take 52 rfl) rfl rfl ?_
    refine T_getR 160 5 166 (dk dtk_X3_take 53 rfl) kfl_X3_67 kk_160 (kl_160 hq) (by decide) rfl kr_160_5 ?_
    refine T_iload_n 2 (dk dtk_X3_take 54 rfl) rfl rfl ?_
    obtain ⟨h2, h⟩ := h
    refine T_iald 166 400 (dk dtk_X3_take 55 rfl) kk_166 (kl_166 hq) h2 ?_
    refine T_aload_n 1 (dk dtk_X3_take 56 rfl) rfl rfl ?_
    refine T_getR 160 9 170 (dk dtk_X3_take 57 rfl) kfl_X3_73 kk_160 (kl_160 hq) (by decide) rfl kr_160_9 ?_
    refine T_iload_n 2 (dk dtk_X3_take 58 rfl) rfl rfl ?_
    obtain ⟨h3, h⟩ := h
    refine T_iald 170 400 (dk dtk_X3_take 59 rfl) kk_170 (kl_170 hq) h3 ?_
    refine T_sub (lv2 := [(0, vr 180), (1, vr 160), (2, vi l2)]) [0, 1, 2] rfl ?_
    refine KC_Vv [vi (x.1 166 (l2 : Int32).toNatClampNeg), vi (x.1 170 (l2 : Int32).toNatClampNeg)] [] rfl (dk dtk_X3_take 60 rfl) kcv_X3_80 rfl kk_180 rfl (kl_180 hq hh) (Nat.le_of_ble_eq_true rfl) (Nat.le_of_ble_eq_true rfl) (gok_i (av_c (gkr (kl_180 hq hh)) (av_c (gkr (kl_160 hq)) (av_c rfl av_n))) as_n) rfl h (fun x4 h => ?_)
    refine T_aload_n 0 (dk dtk_X3_take 61 rfl) rfl rfl ?_
    refine T_dup (dk dtk_X3_take 62 rfl) rfl ?_
    refine T_getI 180 7 (dk dtk_X3_take 63 rfl) kfl_X3_44 kk_180 (kl_180 hq hh) (by decide) rfl ?_
    refine T_iconst (v := 1) (dk dtk_X3_take 64 rfl) (by decide +kernel) ?_
    refine T_iadd (dk dtk_X3_take 65 rfl) ?_
    obtain ⟨x5, ex5⟩ : ∃ z, z = si x4 180 7 ((x4.1 180 7) + 1) := ⟨_, rfl⟩
    have h := h x5 ex5
    refine T_putI 180 7 (dk dtk_X3_take 66 rfl) kfl_X3_44 kk_180 (kl_180 hq hh) (by decide) rfl ⟨rfl, rfl⟩ ?_
    rw [← ex5]
    refine T_iinc (v := l2 + 1) (lv2 := [(2, vi (l2 + 1)), (0, vr 180), (1, vr 160)]) 2 (dk dtk_X3_take 67 rfl) rfl rfl (by decide) rfl ?_
    refine T_goto 20 (dk dtk_X3_take 68 rfl) (by decide) ?_
    exact T_sub [1, 2, 0] rfl h
  · have h := h.2 c1
    refine T_aload_n 0 (dk dtk_X3_take 36 rfl) rfl rfl ?_
    refine T_aload_n 1 (dk dtk_X3_take 37 rfl) rfl rfl ?_
    refine T_getR 160 5 166 (dk dtk_X3_take 38 rfl) kfl_X3_67 kk_160 (kl_160 hq) (by decide) rfl kr_160_5 ?_
    refine T_iload_n 2 (dk dtk_X3_take 39 rfl) rfl rfl ?_
    obtain ⟨h6, h⟩ := h
    refine T_iald 166 400 (dk dtk_X3_take 40 rfl) kk_166 (kl_166 hq) h6 ?_
    refine T_aload_n 1 (dk dtk_X3_take 41 rfl) rfl rfl ?_
    refine T_getR 160 7 168 (dk dtk_X3_take 42 rfl) kfl_X3_70 kk_160 (kl_160 hq) (by decide) rfl kr_160_7 ?_
    refine T_iload_n 2 (dk dtk_X3_take 43 rfl) rfl rfl ?_
    obtain ⟨h7, h⟩ := h
    refine T_iald 168 400 (dk dtk_X3_take 44 rfl) kk_168 (kl_168 hq) h7 ?_
    refine T_aload_n 1 (dk dtk_X3_take 45 rfl) rfl rfl ?_
    refine T_getR 160 9 170 (dk dtk_X3_take 46 rfl) kfl_X3_73 kk_160 (kl_160 hq) (by decide) rfl kr_160_9 ?_
    refine T_iload_n 2 (dk dtk_X3_take 47 rfl) rfl rfl ?_
    obtain ⟨h8, h⟩ := h
    refine T_iald 170 400 (dk dtk_X3_take 48 rfl) kk_170 (kl_170 hq) h8 ?_
    refine T_sub (lv2 := [(0, vr 180), (1, vr 160), (2, vi l2)]) [0, 1, 2] rfl ?_
    refine KC_Vv [vi (x.1 166 (l2 : Int32).toNatClampNeg), vi (x.1 168 (l2 : Int32).toNatClampNeg), vi (x.1 170 (l2 : Int32).toNatClampNeg)] [] rfl (dk dtk_X3_take 49 rfl) kcv_X3_76 rfl kk_180 rfl (kl_180 hq hh) (Nat.le_of_ble_eq_true rfl) (Nat.le_of_ble_eq_true rfl) (gok_i (av_c (gkr (kl_180 hq hh)) (av_c (gkr (kl_160 hq)) (av_c rfl av_n))) as_n) rfl h (fun x9 h => ?_)
    refine T_goto 106 (dk dtk_X3_take 50 rfl) (by decide) ?_
    refine T_aload_n 0 (dk dtk_X3_take 61 rfl) rfl rfl ?_
    refine T_dup (dk dtk_X3_take 62 rfl) rfl ?_
    refine T_getI 180 7 (dk dtk_X3_take 63 rfl) kfl_X3_44 kk_180 (kl_180 hq hh) (by decide) rfl ?_
    refine T_iconst (v := 1) (dk dtk_X3_take 64 rfl) (by decide +kernel) ?_
    refine T_iadd (dk dtk_X3_take 65 rfl) ?_
    obtain ⟨x10, ex10⟩ : ∃ z, z = si x9 180 7 ((x9.1 180 7) + 1) := ⟨_, rfl⟩
    have h := h x10 ex10
    refine T_putI 180 7 (dk dtk_X3_take 66 rfl) kfl_X3_44 kk_180 (kl_180 hq hh) (by decide) rfl ⟨rfl, rfl⟩ ?_
    rw [← ex10]
    refine T_iinc (v := l2 + 1) (lv2 := [(2, vi (l2 + 1)), (0, vr 180), (1, vr 160)]) 2 (dk dtk_X3_take 67 rfl) rfl rfl (by decide) rfl ?_
    refine T_goto 20 (dk dtk_X3_take 68 rfl) (by decide) ?_
    exact T_sub [1, 2, 0] rfl h
