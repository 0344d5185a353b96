set_option maxRecDepth 100000 in
theorem dtk_X10_sameOutcomes : dck cX10_sameOutcomes [(0, .aload_n 0, 1), (1, .getfield 51, 3), (4, .aload_n 1, 1), (5, .getfield 51, 3), (8, .if_icmp .eq 5, 3), (11, .iconst 0, 1), (12, .ireturn, 1), (13, .iconst 0, 1), (14, .istore_n 3, 1), (15, .iload_n 3, 1), (16, .aload_n 0, 1), (17, .getfield 51, 3), (20, .if_icmp .ge 40, 3), (23, .aload_n 0, 1), (24, .getfield 33, 3), (27, .aload_n 0, 1), (28, .getfield 37, 3), (31, .iload_n 3, 1), (32, .iaload, 1), (33, .aaload, 1), (34, .aload_n 1, 1), (35, .getfield 33, 3), (38, .aload_n 1, 1), (39, .getfield 37, 3), (42, .iload_n 3, 1), (43, .iaload, 1), (44, .aaload, 1), (45, .iload_n 2, 1), (46, .invokestatic 70, 3), (49, .ifCond .eq 5, 3), (52, .iconst 0, 1), (53, .ireturn, 1), (54, .iinc 3 1, 3), (57, .goto (-42), 3), (60, .iconst 1, 1), (61, .ireturn, 1)] = true := by decide +kernel
set_option maxRecDepth 100000 in
set_option maxHeartbeats 4000000 in
theorem kg_X10_sameOutcomes_0 {G : kG} {q : kP} {d : Nat} {x : gd} {P : Option gv → gd → Prop} (hq : kV q) {o : Nat} (ho : kiT q o) {a1 : Nat} (ha1 : kiT q a1) (l2 : Int32)
    (h : (((x.1 o 3) = (x.1 a1 3) → KT G q (d + 1) zk_X10_sameOutcomes 15 [(0, vr o), (1, vr a1), (2, vi l2), (3, vi 0)] [] x P) ∧ (¬ ((x.1 o 3) = (x.1 a1 3)) → P (some (vi 0)) x))) :
    KT G q (d + 1) zk_X10_sameOutcomes 0 [(0, vr o), (1, vr a1), (2, vi l2)] [] x P := by
  refine T_aload_n 0 (dk dtk_X10_sameOutcomes 0 rfl) rfl rfl ?_
  refine T_getI o 3 (dk dtk_X10_sameOutcomes 1 rfl) kfl_X10_51 (kk_T0 ho) (kl_T0 hq ho) (by decide) rfl ?_
  refine T_aload_n 1 (dk dtk_X10_sameOutcomes 2 rfl) rfl rfl ?_
  refine T_getI a1 3 (dk dtk_X10_sameOutcomes 3 rfl) kfl_X10_51 (kk_T0 ha1) (kl_T0 hq ha1) (by decide) rfl ?_
  refine T_icmp_eq 13 (dk dtk_X10_sameOutcomes 4 rfl) (by decide) (fun c1 => ?_) (fun c1 => ?_)
  · have h := h.1 c1
    refine T_iconst (v := 0) (dk dtk_X10_sameOutcomes 7 rfl) (by decide +kernel) ?_
    refine T_istore_n (lv2 := [(3, vi 0), (0, vr o), (1, vr a1), (2, vi l2)]) (dk dtk_X10_sameOutcomes 8 rfl) rfl (by decide) rfl ?_
    exact T_sub [1, 2, 3, 0] rfl h
  · have h := h.2 c1
    refine T_iconst (v := 0) (dk dtk_X10_sameOutcomes 5 rfl) (by decide +kernel) ?_
    exact KT_iret (dk dtk_X10_sameOutcomes 6 rfl) rfl rfl h
set_option maxRecDepth 100000 in
set_option maxHeartbeats 4000000 in
theorem kg_X10_sameOutcomes_15 {G : kG} {q : kP} {d : Nat} {x : gd} {P : Option gv → gd → Prop} (hq : kV q) {o : Nat} (ho : kiT q o) {a1 : Nat} (ha1 : kiT q a1) (l2 : Int32) (l3 : Int32)
    (h : (((x.1 o 3) ≤ l3 → P (some (vi 1)) x) ∧ (¬ ((x.1 o 3) ≤ l3) → vp_in l3 3000 ∧ vp_in (x.1 (o + 14) (l3 : Int32).toNatClampNeg) 3000 ∧ (∀ u4, u4 = (kf q).1 (o + 13) (x.1 (o + 14) (l3 : Int32).toNatClampNeg : Int32).toNatClampNeg → vp_in l3 3000 ∧ vp_in (x.1 (a1 + 14) (l3 : Int32).toNatClampNeg) 3000 ∧ (∀ u7, u7 = (kf q).1 (a1 + 13) (x.1 (a1 + 14) (l3 : Int32).toNatClampNeg : Int32).toNatClampNeg → ∃ c8, u4 = some c8 ∧ kK c8 = .inr (.int, 24) ∧ c8 ∈ (kf q).2.1 ∧ ∃ c11, u7 = some c11 ∧ kK c11 = .inr (.int, 24) ∧ c11 ∈ (kf q).2.1 ∧ KT G q d zk_X10_order 0 [(0, vr c8), (1, vr c11), (2, vi l2)] [] x (ri (fun r15 x14 => ((r15 = (0 : Int32) → KT G q (d + 1) zk_X10_sameOutcomes 15 [(0, vr o), (1, vr a1), (2, vi l2), (3, vi (l3 + 1))] [] x14 P) ∧ (¬ (r15 = (0 : Int32)) → P (some (vi 0)) x14))))))))) :
    KT G q (d + 1) zk_X10_sameOutcomes 15 [(0, vr o), (1, vr a1), (2, vi l2), (3, vi l3)] [] x P := by
  refine T_iload_n 3 (dk dtk_X10_sameOutcomes 9 rfl) rfl rfl ?_
  refine T_aload_n 0 (dk dtk_X10_sameOutcomes 10 rfl) rfl rfl ?_
  refine T_getI o 3 (dk dtk_X10_sameOutcomes 11 rfl) kfl_X10_51 (kk_T0 ho) (kl_T0 hq ho) (by decide) rfl ?_
  refine T_icmp_ge 60 (dk dtk_X10_sameOutcomes 12 rfl) (by decide) (fun c1 => ?_) (fun c1 => ?_)
  · have h := h.1 c1
    refine T_iconst (v := 1) (dk dtk_X10_sameOutcomes 34 rfl) (by decide +kernel) ?_
    exact KT_iret (dk dtk_X10_sameOutcomes 35 rfl) rfl rfl h
  · have h := h.2 c1
    refine T_aload_n 0 (dk dtk_X10_sameOutcomes 13 rfl) rfl rfl ?_
    refine T_getR o 12 (o + 13) (dk dtk_X10_sameOutcomes 14 rfl) kfl_X10_33 (kk_T0 ho) (kl_T0 hq ho) (by decide) rfl (kr_T_12 ho) ?_
    refine T_aload_n 0 (dk dtk_X10_sameOutcomes 15 rfl) rfl rfl ?_
    refine T_getR o 13 (o + 14) (dk dtk_X10_sameOutcomes 16 rfl) kfl_X10_37 (kk_T0 ho) (kl_T0 hq ho) (by decide) rfl (kr_T_13 ho) ?_
    refine T_iload_n 3 (dk dtk_X10_sameOutcomes 17 rfl) rfl rfl ?_
    obtain ⟨h2, h⟩ := h
    refine T_iald (o + 14) 3000 (dk dtk_X10_sameOutcomes 18 rfl) (kk_T14 ho) (kl_T14 hq ho) h2 ?_
    obtain ⟨h3, h⟩ := h
    obtain ⟨u4, eu4⟩ : ∃ z, z = (kf q).1 (o + 13) (x.1 (o + 14) (l3 : Int32).toNatClampNeg : Int32).toNatClampNeg := ⟨_, rfl⟩
    have h := h u4 eu4
    refine T_aaldI (o + 13) 3000 (dk dtk_X10_sameOutcomes 19 rfl) (kk_T13 ho) (kl_T13 hq ho) h3 ?_
    rw [← eu4]
    refine T_aload_n 1 (dk dtk_X10_sameOutcomes 20 rfl) rfl rfl ?_
    refine T_getR a1 12 (a1 + 13) (dk dtk_X10_sameOutcomes 21 rfl) kfl_X10_33 (kk_T0 ha1) (kl_T0 hq ha1) (by decide) rfl (kr_T_12 ha1) ?_
    refine T_aload_n 1 (dk dtk_X10_sameOutcomes 22 rfl) rfl rfl ?_
    refine T_getR a1 13 (a1 + 14) (dk dtk_X10_sameOutcomes 23 rfl) kfl_X10_37 (kk_T0 ha1) (kl_T0 hq ha1) (by decide) rfl (kr_T_13 ha1) ?_
    refine T_iload_n 3 (dk dtk_X10_sameOutcomes 24 rfl) rfl rfl ?_
    obtain ⟨h5, h⟩ := h
    refine T_iald (a1 + 14) 3000 (dk dtk_X10_sameOutcomes 25 rfl) (kk_T14 ha1) (kl_T14 hq ha1) h5 ?_
    obtain ⟨h6, h⟩ := h
    obtain ⟨u7, eu7⟩ : ∃ z, z = (kf q).1 (a1 + 13) (x.1 (a1 + 14) (l3 : Int32).toNatClampNeg : Int32).toNatClampNeg := ⟨_, rfl⟩
    have h := h u7 eu7
    refine T_aaldI (a1 + 13) 3000 (dk dtk_X10_sameOutcomes 26 rfl) (kk_T13 ha1) (kl_T13 hq ha1) h6 ?_
    rw [← eu7]
    refine T_iload_n 2 (dk dtk_X10_sameOutcomes 27 rfl) rfl rfl ?_
    obtain ⟨c8, rfl, g9, g10, h⟩ := h
    obtain ⟨c11, rfl, g12, g13, h⟩ := h
    refine KC_Si [vr c8, vr c11, vi l2] [] rfl (dk dtk_X10_sameOutcomes 28 rfl) kcs_X10_70 rfl (Nat.le_of_ble_eq_true rfl) (Nat.le_of_ble_eq_true rfl) (gok_i (av_c (gkr (kl_T0 hq ho)) (av_c (gkr (kl_T0 hq ha1)) (av_c rfl (av_c rfl av_n)))) as_n) rfl h (fun r15 x14 h => ?_)
    refine T_if_eq 54 (dk dtk_X10_sameOutcomes 29 rfl) (by decide) (fun c16 => ?_) (fun c16 => ?_)
    · have h := h.1 c16
      refine T_iinc (v := l3 + 1) (lv2 := [(3, vi (l3 + 1)), (0, vr o), (1, vr a1), (2, vi l2)]) 3 (dk dtk_X10_sameOutcomes 32 rfl) rfl rfl (by decide) rfl ?_
      refine T_goto 15 (dk dtk_X10_sameOutcomes 33 rfl) (by decide) ?_
      exact T_sub [1, 2, 3, 0] rfl h
    · have h := h.2 c16
      refine T_iconst (v := 0) (dk dtk_X10_sameOutcomes 30 rfl) (by decide +kernel) ?_
      exact KT_iret (dk dtk_X10_sameOutcomes 31 rfl) rfl rfl h
set_option maxRecDepth 100000 in
theorem dtk_X2_explore : dck cX2_explore [(0, .aload_n 0, 1), (1, .aload_n 3, 1), (2, .putfield 44, 3), (5, .aload_n 0, 1), (6, .getfield 44, 3), (9, .iconst 1, 1), (10, .aload_n 0, 1), (11, .getfield 9, 3), (14, .getfield 48, 3), (17, .ishl, 1), (18, .iconst 1, 1), (19, .isub, 1), (20, .invokevirtual 54, 3), (23, .aload_n 0, 1), (24, .getfield 33, 3), (27, .iconst 0, 1), (28, .invokestatic 60, 3), (31, .aload_n 0, 1), (32, .getfield 20, 3), (35, .iload_n 1, 1), (36, .invokevirtual 66, 3), (39, .aload_n 0, 1), (40, .iconst (-1), 1), (41, .iconst (-1), 1), (42, .iload_n 2, 1), (43, .invokevirtual 69, 3), (46, .iconst 0, 1), (47, .istore 4, 2), (49, .iload 4, 2), (51, .aload_n 0, 1), (52, .getfield 44, 3), (55, .getfield 73, 3), (58, .if_icmp .ge 95, 3), (61, .iload 4, 2), (63, .sipush 3000, 3), (66, .if_icmp .ge 87, 3), (69, .aload_n 0, 1), (70, .iload 4, 2), (72, .invokevirtual 76, 3), (75, .aload_n 0, 1), (76, .getfield 20, 3), (79, .invokevirtual 79, 3), (82, .aload_n 0, 1), (83, .invokevirtual 82, 3), (86, .aload_n 0, 1), (87, .iload 4, 2), (89, .invokevirtual 85, 3), (92, .iconst 0, 1), (93, .istore 5, 2), (95, .iload 5, 2), (97, .aload_n 0, 1), (98, .getfield 20, 3), (101, .getfield 88, 3), (104, .if_icmp .ge 43, 3), (107, .aload_n 0, 1), (108, .getfield 44, 3), (111, .getfield 91, 3), (114, .ifCond .ne 33, 3), (117, .aload_n 0, 1), (118, .iload 4, 2), (120, .invokevirtual 76, 3), (123, .aload_n 0, 1), (124, .getfield 20, 3), (127, .iload 5, 2), (129, .invokevirtual 95, 3), (132, .aload_n 0, 1), (133, .iload 4, 2), (135, .iload 5, 2), (137, .iload_n 2, 1), (138, .invokevirtual 69, 3), (141, .iinc 5 1, 3), (144, .goto (-49), 3), (147, .iinc 4 1, 3), (150, .goto (-101), 3), (153, .return_, 1)] = true := by decide +kernel
set_option maxRecDepth 100000 in
theorem dtk_X2_addState : dck cX2_addState [(0, .aload_n 0, 1), (1, .invokevirtual 98, 3), (4, .ifCond .eq 4, 3), (7, .return_, 1), (8, .aload_n 0, 1), (9, .getfield 44, 3), (12, .getfield 73, 3), (15, .iload_n 3, 1), (16, .if_icmp .lt 14, 3), (19, .aload_n 0, 1), (20, .getfield 44, 3), (23, .iconst 1, 1), (24, .putfield 91, 3), (27, .goto 9, 3), (30, .aload_n 0, 1), (31, .iload_n 1, 1), (32, .iload_n 2, 1), (33, .invokevirtual 102, 3), (36, .return_, 1)] = true := by decide +kernel
set_option maxRecDepth 100000 in
theorem dtk_X2_recall : dck cX2_recall [(0, .aload_n 0, 1), (1, .getfield 26, 3), (4, .iload_n 1, 1), (5, .aaload, 1), (6, .iconst 0, 1), (7, .aload_n 0, 1), (8, .getfield 20, 3), (11, .getfield 106, 3), (14, .iconst 0, 1), (15, .aload_n 0, 1), (16, .getfield 20, 3), (19, .getfield 109, 3), (22, .invokestatic 112, 3), (25, .return_, 1)] = true := by decide +kernel
set_option maxRecDepth 100000 in
set_option maxHeartbeats 4000000 in
theorem kg_X2_recall_0 {G : kG} {q : kP} {d : Nat} {x : gd} {P : Option gv → gd → Prop} (hq : kV q) (he : q.ex = true) (l1 : Int32)
    (h : vp_in l1 3000 ∧ (∀ u2, u2 = (kf q).1 203 (l1 : Int32).toNatClampNeg → ∃ c3, u2 = some c3 ∧ kK c3 = .inr (.int, 228) ∧ c3 ∈ (kf q).2.1 ∧ ¬ (0 : Int32) < 0 ∧ ¬ (0 : Int32) < 0 ∧ ¬ (x.1 220 5) < 0 ∧ (0 : Int32).toNatClampNeg + (x.1 220 5 : Int32).toNatClampNeg ≤ 228 ∧ (0 : Int32).toNatClampNeg + (x.1 220 5 : Int32).toNatClampNeg ≤ 228 ∧ (∀ x11 : gd, x11 = scp x c3 225 (0 : Int32).toNatClampNeg (0 : Int32).toNatClampNeg (x.1 220 5 : Int32).toNatClampNeg → P none x11))) :
    KT G q (d + 2) zk_X2_recall 0 [(0, vr 200), (1, vi l1)] [] x P := by
  refine T_aload_n 0 (dk dtk_X2_recall 0 rfl) rfl rfl ?_
  refine T_getR 200 2 203 (dk dtk_X2_recall 1 rfl) kfl_X2_26 kk_200 (kl_200 hq he) (by decide) rfl kr_200_2 ?_
  refine T_iload_n 1 (dk dtk_X2_recall 2 rfl) rfl rfl ?_
  obtain ⟨h1, h⟩ := h
  obtain ⟨u2, eu2⟩ : ∃ z, z = (kf q).1 203 (l1 : Int32).toNatClampNeg := ⟨_, rfl⟩
  have h := h u2 eu2
  refine T_aaldI 203 3000 (dk dtk_X2_recall 3 rfl) kk_203 (kl_203 hq he) h1 ?_
  rw [← eu2]
  refine T_iconst (v := 0) (dk dtk_X2_recall 4 rfl) (by decide +kernel) ?_
  refine T_aload_n 0 (dk dtk_X2_recall 5 rfl) rfl rfl ?_
  refine T_getR 200 1 220 (dk dtk_X2_recall 6 rfl) kfl_X2_20 kk_200 (kl_200 hq he) (by decide) rfl kr_200_1 ?_
  refine T_getR 220 4 225 (dk dtk_X2_recall 7 rfl) kfl_X2_106 kk_220 (kl_220 hq he) (by decide) rfl kr_220_4 ?_
  refine T_iconst (v := 0) (dk dtk_X2_recall 8 rfl) (by decide +kernel) ?_
  refine T_aload_n 0 (dk dtk_X2_recall 9 rfl) rfl rfl ?_
  refine T_getR 200 1 220 (dk dtk_X2_recall 10 rfl) kfl_X2_20 kk_200 (kl_200 hq he) (by decide) rfl kr_200_1 ?_
  refine T_getI 220 5 (dk dtk_X2_recall 11 rfl) kfl_X2_109 kk_220 (kl_220 hq he) (by decide) rfl ?_
  obtain ⟨c3, rfl, g4, g5, h⟩ := h
  refine T_sub (lv2 := []) [] rfl ?_
  obtain ⟨h6, h7, h8, h9, h10, h⟩ := h
  obtain ⟨x11, ex11⟩ : ∃ z, z = scp x c3 225 (0 : Int32).toNatClampNeg (0 : Int32).toNatClampNeg (x.1 220 5 : Int32).toNatClampNeg := ⟨_, rfl⟩
  have h := h x11 ex11
  refine T_copy c3 225 228 228 (dk dtk_X2_recall 12 rfl) kcy_X2_112 g4 g5 kk_225 (kl_225 hq he) (by omega) (Nat.le_of_ble_eq_true rfl) h6 h7 h8 h9 h10 ?_
  rw [← ex11]
  exact KT_vret (dk dtk_X2_recall 13 rfl) rfl h
set_option maxRecDepth 100000 in
theorem dtk_X2_isKept : dck cX2_isKept [(0, .aload_n 0, 1), (1, .aload_n 0, 1), (2, .getfield 20, 3), (5, .invokevirtual 118, 3), (8, .putfield 122, 3), (11, .aload_n 0, 1), (12, .aload_n 0, 1), (13, .getfield 122, 3), (16, .sipush 8191, 3), (19, .iand, 1), (20, .putfield 124, 3), (23, .iconst 0, 1), (24, .istore_n 1, 1), (25, .iload_n 1, 1), (26, .sipush 8192, 3), (29, .if_icmp .ge 78, 3), (32, .aload_n 0, 1), (33, .getfield 33, 3), (36, .aload_n 0, 1), (37, .getfield 124, 3), (40, .iaload, 1), (41, .ifCond .eq 66, 3), (44, .aload_n 0, 1), (45, .getfield 33, 3), (48, .aload_n 0, 1), (49, .getfield 124, 3), (52, .iaload, 1), (53, .iconst 1, 1), (54, .isub, 1), (55, .istore_n 2, 1), (56, .aload_n 0, 1), (57, .getfield 30, 3), (60, .iload_n 2, 1), (61, .iaload, 1), (62, .aload_n 0, 1), (63, .getfield 122, 3), (66, .if_icmp .ne 21, 3), (69, .aload_n 0, 1), (70, .getfield 20, 3), (73, .aload_n 0, 1), (74, .getfield 26, 3), (77, .iload_n 2, 1), (78, .aaload, 1), (79, .invokevirtual 127, 3), (82, .ifCond .eq 5, 3), (85, .iconst 1, 1), (86, .ireturn, 1), (87, .aload_n 0, 1), (88, .aload_n 0, 1), (89, .getfield 124, 3), (92, .iconst 1, 1), (93, .iadd, 1), (94, .sipush 8191, 3), (97, .iand, 1), (98, .putfield 124, 3), (101, .iinc 1 1, 3), (104, .goto (-79), 3), (107, .iconst 0, 1), (108, .ireturn, 1)] = true := by decide +kernel
set_option maxRecDepth 100000 in
set_option maxHeartbeats 4000000 in
theorem kg_X2_isKept_0 {G : kG} {q : kP} {d : Nat} {x : gd} {P : Option gv → gd → Prop} (hq : kV q) (he : q.ex = true)
    (h : KT G q d zk_X5_mix 0 [(0, vr 220)] [] x (ri (fun r2 x1 => (∀ x3 : gd, x3 = si x1 200 6 r2 → (∀ x4 : gd, x4 = si x3 200 5 ((x3.1 200 6) &&& 8191) → KT G q (d + 1) zk_X2_isKept 25 [(0, vr 200), (1, vi 0)] [] x4 P))))) :
    KT G q (d + 1) zk_X2_isKept 0 [(0, vr 200)] [] x P := by
  refine T_aload_n 0 (dk dtk_X2_isKept 0 rfl) rfl rfl ?_
  refine T_aload_n 0 (dk dtk_X2_isKept 1 rfl) rfl rfl ?_
  refine T_getR 200 1 220 (dk dtk_X2_isKept 2 rfl) kfl_X2_20 kk_200 (kl_200 hq he) (by decide) rfl kr_200_1 ?_
  refine KC_Vi [] [vr 200] rfl (dk dtk_X2_isKept 3 rfl) kcv_X2_118 rfl kk_220 rfl (kl_220 hq he) (Nat.le_of_ble_eq_true rfl) (Nat.le_of_ble_eq_true rfl) (gok_i (av_c (gkr (kl_200 hq he)) av_n) (as_c (gkr (kl_200 hq he)) as_n)) rfl h (fun r2 x1 h => ?_)
  obtain ⟨x3, ex3⟩ : ∃ z, z = si x1 200 6 r2 := ⟨_, rfl⟩
  have h := h x3 ex3
  refine T_putI 200 6 (dk dtk_X2_isKept 4 rfl) kfl_X2_122 kk_200 (kl_200 hq he) (by decide) rfl ⟨rfl, rfl⟩ ?_
  rw [← ex3]
  refine T_aload_n 0 (dk dtk_X2_isKept 5 rfl) rfl rfl ?_
  refine T_aload_n 0 (dk dtk_X2_isKept 6 rfl) rfl rfl ?_
  refine T_getI 200 6 (dk dtk_X2_isKept 7 rfl) kfl_X2_122 kk_200 (kl_200 hq he) (by decide) rfl ?_
  refine T_sipush (v := 8191) (dk dtk_X2_isKept 8 rfl) (by decide +kernel) ?_
  refine T_iand (dk dtk_X2_isKept 9 rfl) ?_
  obtain ⟨x4, ex4⟩ : ∃ z, z = si x3 200 5 ((x3.1 200 6) &&& 8191) := ⟨_, rfl⟩
  have h := h x4 ex4
  refine T_putI 200 5 (dk dtk_X2_isKept 10 rfl) kfl_X2_124 kk_200 (kl_200 hq he) (by decide) rfl ⟨rfl, rfl⟩ ?_
  rw [← ex4]
  refine T_iconst (v := 0) (dk dtk_X2_isKept 11 rfl) (by decide +kernel) ?_
  refine T_istore_n (lv2 := [(1, vi 0), (0, vr 200)]) (dk dtk_X2_isKept 12 rfl) rfl (by decide) rfl ?_
  exact T_sub [1, 0] rfl h
set_option maxRecDepth 100000 in
set_option maxHeartbeats 4000000 in
theorem kg_X2_isKept_25 {G : kG} {q : kP} {d : Nat} {x : gd} {P : Option gv → gd → Prop} (hq : kV q) (he : q.ex = true) (l1 : Int32)
    (h : (((8192 : Int32) ≤ l1 → P (some (vi 0)) x) ∧ (¬ ((8192 : Int32) ≤ l1) → vp_in (x.1 200 5) 8192 ∧ (((x.1 205 (x.1 200 5 : Int32).toNatClampNeg) = (0 : Int32) → P (some (vi 0)) x) ∧ (¬ ((x.1 205 (x.1 200 5 : Int32).toNatClampNeg) = (0 : Int32)) → vp_in (x.1 200 5) 8192 ∧ vp_in ((x.1 205 (x.1 200 5 : Int32).toNatClampNeg) - 1) 3000 ∧ ((¬ ((x.1 204 ((x.1 205 (x.1 200 5 : Int32).toNatClampNeg) - 1 : Int32).toNatClampNeg) = (x.1 200 6)) → (∀ x7 : gd, x7 = si x 200 5 (((x.1 200 5) + 1) &&& 8191) → KT G q (d + 1) zk_X2_isKept 25 [(0, vr 200), (1, vi (l1 + 1))] [] x7 P)) ∧ ((x.1 204 ((x.1 205 (x.1 200 5 : Int32).toNatClampNeg) - 1 : Int32).toNatClampNeg) = (x.1 200 6) → vp_in ((x.1 205 (x.1 200 5 : Int32).toNatClampNeg) - 1) 3000 ∧ (∀ u9, u9 = (kf q).1 203 ((x.1 205 (x.1 200 5 : Int32).toNatClampNeg) - 1 : Int32).toNatClampNeg → ∃ c10, u9 = some c10 ∧ kK c10 = .inr (.int, 228) ∧ c10 ∈ (kf q).2.1 ∧ KT G q d zk_X5_isSame 0 [(0, vr 220), (1, vr c10)] [] x (ri (fun r14 x13 => ((r14 = (0 : Int32) → (∀ x16 : gd, x16 = si x13 200 5 (((x13.1 200 5) + 1) &&& 8191) → KT G q (d + 1) zk_X2_isKept 25 [(0, vr 200), (1, vi (l1 + 1))] [] x16 P)) ∧ (¬ (r14 = (0 : Int32)) → P (some (vi 1)) x13)))))))))))) :
    KT G q (d + 1) zk_X2_isKept 25 [(0, vr 200), (1, vi l1)] [] x P := by
  refine T_iload_n 1 (dk dtk_X2_isKept 13 rfl) rfl rfl ?_
  refine T_sipush (v := 8192) (dk dtk_X2_isKept 14 rfl) (by decide +kernel) ?_
  refine T_icmp_ge 107 (dk dtk_X2_isKept 15 rfl) (by decide) (fun c1 => ?_) (fun c1 => ?_)
  · have h := h.1 c1
    refine T_iconst (v := 0) (dk dtk_X2_isKept 57 rfl) (by decide +kernel) ?_
    exact KT_iret (dk dtk_X2_isKept 58 rfl) rfl rfl h
  · have h := h.2 c1
    refine T_aload_n 0 (dk dtk_X2_isKept 16 rfl) rfl rfl ?_
    refine T_getR 200 4 205 (dk dtk_X2_isKept 17 rfl) kfl_X2_33 kk_200 (kl_200 hq he) (by decide) rfl kr_200_4 ?_
    refine T_aload_n 0 (dk dtk_X2_isKept 18 rfl) rfl rfl ?_
    refine T_getI 200 5 (dk dtk_X2_isKept 19 rfl) kfl_X2_124 kk_200 (kl_200 hq he) (by decide) rfl ?_
    obtain ⟨h2, h⟩ := h
    refine T_iald 205 8192 (dk dtk_X2_isKept 20 rfl) kk_205 (kl_205 hq he) h2 ?_
    refine T_if_eq 107 (dk dtk_X2_isKept 21 rfl) (by decide) (fun c3 => ?_) (fun c3 => ?_)
    · have h := h.1 c3
      refine T_iconst (v := 0) (dk dtk_X2_isKept 57 rfl) (by decide +kernel) ?_
      exact KT_iret (dk dtk_X2_isKept 58 rfl) rfl rfl h
    · have h := h.2 c3
      refine T_aload_n 0 (dk dtk_X2_isKept 22 rfl) rfl rfl ?_
      refine T_getR 200 4 205 (dk dtk_X2_isKept 23 rfl) kfl_X2_33 kk_200 (kl_200 hq he) (by decide) rfl kr_200_4 ?_
      refine T_aload_n 0 (dk dtk_X2_isKept 24 rfl) rfl rfl ?_
      refine T_getI 200 5 (dk dtk_X2_isKept 25 rfl) kfl_X2_124 kk_200 (kl_200 hq he) (by decide) rfl ?_
      obtain ⟨h4, h⟩ := h
      refine T_iald 205 8192 (dk dtk_X2_isKept 26 rfl) kk_205 (kl_205 hq he) h4 ?_
      refine T_iconst (v := 1) (dk dtk_X2_isKept 27 rfl) (by decide +kernel) ?_
      refine T_isub (dk dtk_X2_isKept 28 rfl) ?_
      refine T_istore_n (lv2 := [(2, vi ((x.1 205 (x.1 200 5 : Int32).toNatClampNeg) - 1)), (0, vr 200), (1, vi l1)]) (dk dtk_X2_isKept 29 rfl) rfl (by decide) rfl ?_
      refine T_aload_n 1 (dk dtk_X2_isKept 30 rfl) rfl rfl ?_
      refine T_getR 200 3 204 (dk dtk_X2_isKept 31 rfl) kfl_X2_30 kk_200 (kl_200 hq he) (by decide) rfl kr_200_3 ?_
      refine T_iload_n 0 (dk dtk_X2_isKept 32 rfl) rfl rfl ?_
      obtain ⟨h5, h⟩ := h
      refine T_iald 204 3000 (dk dtk_X2_isKept 33 rfl) kk_204 (kl_204 hq he) h5 ?_
      refine T_aload_n 1 (dk dtk_X2_isKept 34 rfl) rfl rfl ?_
      refine T_getI 200 6 (dk dtk_X2_isKept 35 rfl) kfl_X2_122 kk_200 (kl_200 hq he) (by decide) rfl ?_
      refine T_icmp_ne 87 (dk dtk_X2_isKept 36 rfl) (by decide) (fun c6 => ?_) (fun c6 => ?_)
      · have h := h.1 c6
        refine T_aload_n 1 (dk dtk_X2_isKept 47 rfl) rfl rfl ?_
        refine T_aload_n 1 (dk dtk_X2_isKept 48 rfl) rfl rfl ?_
        refine T_getI 200 5 (dk dtk_X2_isKept 49 rfl) kfl_X2_124 kk_200 (kl_200 hq he) (by decide) rfl ?_
        refine T_iconst (v := 1) (dk dtk_X2_isKept 50 rfl) (by decide +kernel) ?_
        refine T_iadd (dk dtk_X2_isKept 51 rfl) ?_
        refine T_sipush (v := 8191) (dk dtk_X2_isKept 52 rfl) (by decide +kernel) ?_
        refine T_iand (dk dtk_X2_isKept 53 rfl) ?_
        obtain ⟨x7, ex7⟩ : ∃ z, z = si x 200 5 (((x.1 200 5) + 1) &&& 8191) := ⟨_, rfl⟩
        have h := h x7 ex7
        refine T_putI 200 5 (dk dtk_X2_isKept 54 rfl) kfl_X2_124 kk_200 (kl_200 hq he) (by decide) rfl ⟨rfl, rfl⟩ ?_
        rw [← ex7]
        refine T_iinc (v := l1 + 1) (lv2 := [(1, vi (l1 + 1)), (2, vi ((x.1 205 (x.1 200 5 : Int32).toNatClampNeg) - 1)), (0, vr 200)]) 2 (dk dtk_X2_isKept 55 rfl) rfl rfl (by decide) rfl ?_
        refine T_goto 25 (dk dtk_X2_isKept 56 rfl) (by decide) ?_
        exact T_sub [2, 0] rfl h
      · have h := h.2 c6
        refine T_aload_n 1 (dk dtk_X2_isKept 37 rfl) rfl rfl ?_
        refine T_getR 200 1 220 (dk dtk_X2_isKept 38 rfl) kfl_X2_20 kk_200 (kl_200 hq he) (by decide) rfl kr_200_1 ?_
        refine T_aload_n 1 (dk dtk_X2_isKept 39 rfl) rfl rfl ?_
        refine T_getR 200 2 203 (dk dtk_X2_isKept 40 rfl) kfl_X2_26 kk_200 (kl_200 hq he) (by decide) rfl kr_200_2 ?_
        refine T_iload_n 0 (dk dtk_X2_isKept 41 rfl) rfl rfl ?_
        obtain ⟨h8, h⟩ := h
        obtain ⟨u9, eu9⟩ : ∃ z, z = (kf q).1 203 ((x.1 205 (x.1 200 5 : Int32).toNatClampNeg) - 1 : Int32).toNatClampNeg := ⟨_, rfl⟩
        have h := h u9 eu9
        refine T_aaldI 203 3000 (dk dtk_X2_isKept 42 rfl) kk_203 (kl_203 hq he) h8 ?_
        rw [← eu9]
        obtain ⟨c10, rfl, g11, g12, h⟩ := h
        refine T_sub (lv2 := [(0, vr 200), (1, vi l1)]) [1, 2] rfl ?_
        refine KC_Vi [vr c10] [] rfl (dk dtk_X2_isKept 43 rfl) kcv_X2_127 rfl kk_220 rfl (kl_220 hq he) (Nat.le_of_ble_eq_true rfl) (Nat.le_of_ble_eq_true rfl) (gok_i (av_c (gkr (kl_200 hq he)) (av_c rfl av_n)) as_n) rfl h (fun r14 x13 h => ?_)
        refine T_if_eq 87 (dk dtk_X2_isKept 44 rfl) (by decide) (fun c15 => ?_) (fun c15 => ?_)
        · have h := h.1 c15
          refine T_aload_n 0 (dk dtk_X2_isKept 47 rfl) rfl rfl ?_
          refine T_aload_n 0 (dk dtk_X2_isKept 48 rfl) rfl rfl ?_
          refine T_getI 200 5 (dk dtk_X2_isKept 49 rfl) kfl_X2_124 kk_200 (kl_200 hq he) (by decide) rfl ?_
          refine T_iconst (v := 1) (dk dtk_X2_isKept 50 rfl) (by decide +kernel) ?_
          refine T_iadd (dk dtk_X2_isKept 51 rfl) ?_
          refine T_sipush (v := 8191) (dk dtk_X2_isKept 52 rfl) (by decide +kernel) ?_
          refine T_iand (dk dtk_X2_isKept 53 rfl) ?_
          obtain ⟨x16, ex16⟩ : ∃ z, z = si x13 200 5 (((x13.1 200 5) + 1) &&& 8191) := ⟨_, rfl⟩
          have h := h x16 ex16
          refine T_putI 200 5 (dk dtk_X2_isKept 54 rfl) kfl_X2_124 kk_200 (kl_200 hq he) (by decide) rfl ⟨rfl, rfl⟩ ?_
          rw [← ex16]
          refine T_iinc (v := l1 + 1) (lv2 := [(1, vi (l1 + 1)), (0, vr 200)]) 1 (dk dtk_X2_isKept 55 rfl) rfl rfl (by decide) rfl ?_
          refine T_goto 25 (dk dtk_X2_isKept 56 rfl) (by decide) ?_
          exact T_sub [1, 0] rfl h
        · have h := h.2 c15
          refine T_iconst (v := 1) (dk dtk_X2_isKept 45 rfl) (by decide +kernel) ?_
          exact KT_iret (dk dtk_X2_isKept 46 rfl) rfl rfl h
set_option maxRecDepth 100000 in
theorem dtk_X2_keep : dck cX2_keep [(0, .aload_n 0, 1), (1, .getfield 44, 3), (4, .getfield 73, 3), (7, .istore_n 3, 1), (8, .iload_n 3, 1), (9, .sipush 3000, 3), (12, .if_icmp .lt 4, 3), (15, .return_, 1), (16, .aload_n 0, 1), (17, .getfield 26, 3), (20, .iload_n 3, 1), (21, .aaload, 1), (22, .ifnonnull 14, 3), (25, .aload_n 0, 1), (26, .getfield 26, 3), (29, .iload_n 3, 1), (30, .sipush 228, 3), (33, .newarray .int, 2), (35, .aastore, 1), (36, .aload_n 0, 1), (37, .getfield 20, 3), (40, .getfield 106, 3), (43, .iconst 0, 1), (44, .aload_n 0, 1), (45, .getfield 26, 3), (48, .iload_n 3, 1), (49, .aaload, 1), (50, .iconst 0, 1), (51, .aload_n 0, 1), (52, .getfield 20, 3), (55, .getfield 109, 3), (58, .invokestatic 112, 3), (61, .aload_n 0, 1), (62, .getfield 30, 3), (65, .iload_n 3, 1), (66, .aload_n 0, 1), (67, .getfield 122, 3), (70, .iastore, 1), (71, .aload_n 0, 1), (72, .getfield 33, 3), (75, .aload_n 0, 1), (76, .getfield 124, 3), (79, .iload_n 3, 1), (80, .iconst 1, 1), (81, .iadd, 1), (82, .iastore, 1), (83, .aload_n 0, 1), (84, .getfield 44, 3), (87, .iload_n 1, 1), (88, .iload_n 2, 1), (89, .invokevirtual 131, 3), (92, .return_, 1)] = true := by decide +kernel
set_option maxRecDepth 100000 in
theorem dtk_X2_inspect : dck cX2_inspect [(0, .aload_n 0, 1), (1, .getfield 44, 3), (4, .dup, 1), (5, .getfield 133, 3), (8, .aload_n 0, 1), (9, .getfield 20, 3), (12, .getfield 88, 3), (15, .iadd, 1), (16, .putfield 133, 3), (19, .iconst 0, 1), (20, .istore_n 2, 1), (21, .iload_n 2, 1), (22, .aload_n 0, 1), (23, .getfield 9, 3), (26, .getfield 136, 3), (29, .if_icmp .ge 34, 3), (32, .aload_n 0, 1), (33, .aload_n 0, 1), (34, .getfield 9, 3), (37, .getfield 139, 3), (40, .iload_n 2, 1), (41, .iaload, 1), (42, .invokevirtual 142, 3), (45, .ifCond .eq 12, 3), (48, .aload_n 0, 1), (49, .getfield 44, 3), (52, .iload_n 2, 1), (53, .iload_n 1, 1), (54, .invokevirtual 146, 3), (57, .iinc 2 1, 3), (60, .goto (-39), 3), (63, .aload_n 0, 1), (64, .getfield 20, 3), (67, .getfield 88, 3), (70, .ifCond .ne 8, 3), (73, .aload_n 0, 1), (74, .iload_n 1, 1), (75, .invokevirtual 149, 3), (78, .aload_n 0, 1), (79, .getfield 20, 3), (82, .invokevirtual 152, 3), (85, .ifCond .eq 13, 3), (88, .aload_n 0, 1), (89, .getfield 44, 3), (92, .bipush 9, 2), (94, .iload_n 1, 1), (95, .invokevirtual 146, 3), (98, .aload_n 0, 1), (99, .invokevirtual 155, 3), (102, .ifCond .eq 13, 3), (105, .aload_n 0, 1), (106, .getfield 44, 3), (109, .bipush 10, 2), (111, .iload_n 1, 1), (112, .invokevirtual 146, 3), (115, .return_, 1)] = true := by decide +kernel
set_option maxRecDepth 100000 in
theorem dtk_X2_inspectEnd : dck cX2_inspectEnd [(0, .aload_n 0, 1), (1, .getfield 44, 3), (4, .dup, 1), (5, .getfield 158, 3), (8, .iconst 1, 1), (9, .iadd, 1), (10, .putfield 158, 3), (13, .aload_n 0, 1), (14, .getfield 44, 3), (17, .aload_n 0, 1), (18, .getfield 20, 3), (21, .getfield 106, 3), (24, .aload_n 0, 1), (25, .getfield 9, 3), (28, .getfield 161, 3), (31, .invokevirtual 164, 3), (34, .aload_n 0, 1), (35, .getfield 20, 3), (38, .invokevirtual 167, 3), (41, .ifCond .eq 14, 3), (44, .aload_n 0, 1), (45, .getfield 44, 3), (48, .bipush 8, 2), (50, .iload_n 1, 1), (51, .invokevirtual 146, 3), (54, .return_, 1), (55, .iconst 0, 1), (56, .istore_n 2, 1), (57, .iload_n 2, 1), (58, .aload_n 0, 1), (59, .getfield 9, 3), (62, .getfield 170, 3), (65, .if_icmp .ge 36, 3), (68, .aload_n 0, 1), (69, .aload_n 0, 1), (70, .getfield 9, 3), (73, .getfield 173, 3), (76, .iload_n 2, 1), (77, .iaload, 1), (78, .invokevirtual 142, 3), (81, .ifCond .eq 14, 3), (84, .aload_n 0, 1), (85, .getfield 44, 3), (88, .iconst 4, 1), (89, .iload_n 2, 1), (90, .iadd, 1), (91, .iload_n 1, 1), (92, .invokevirtual 146, 3), (95, .iinc 2 1, 3), (98, .goto (-41), 3), (101, .return_, 1)] = true := by decide +kernel
set_option maxRecDepth 100000 in
theorem dtk_X2_isFalse : dck cX2_isFalse [(0, .aload_n 0, 1), (1, .getfield 9, 3), (4, .iload_n 1, 1), (5, .aload_n 0, 1), (6, .getfield 20, 3), (9, .getfield 106, 3), (12, .iconst 0, 1), (13, .iconst 0, 1), (14, .invokevirtual 176, 3), (17, .ifCond .eq 13, 3), (20, .aload_n 0, 1), (21, .getfield 9, 3), (24, .getfield 180, 3), (27, .ifCond .eq 7, 3), (30, .iconst 1, 1), (31, .goto 4, 3), (34, .iconst 0, 1), (35, .ireturn, 1)] = true := by decide +kernel
set_option maxRecDepth 100000 in
set_option maxHeartbeats 4000000 in
theorem kg_X2_isFalse_0 {G : kG} {q : kP} {d : Nat} {x : gd} {P : Option gv → gd → Prop} (hq : kV q) (he : q.ex = true) (l1 : Int32)
    (h : KT G q d zk_X0_work 0 [(0, vr 60), (1, vi l1), (2, vr 225), (3, vi 0), (4, vi 0)] [] x (ri (fun r2 x1 => ((r2 = (0 : Int32) → P (some (vi 1)) x1) ∧ (¬ (r2 = (0 : Int32)) → (((x1.1 60 5) = (0 : Int32) → P (some (vi 0)) x1) ∧ (¬ ((x1.1 60 5) = (0 : Int32)) → P (some (vi 1)) x1))))))) :
    KT G q (d + 1) zk_X2_isFalse 0 [(0, vr 200), (1, vi l1)] [] x P := by
  refine T_aload_n 0 (dk dtk_X2_isFalse 0 rfl) rfl rfl ?_
  refine T_getR 200 0 60 (dk dtk_X2_isFalse 1 rfl) kfl_X2_9 kk_200 (kl_200 hq he) (by decide) rfl kr_200_0 ?_
  refine T_iload_n 1 (dk dtk_X2_isFalse 2 rfl) rfl rfl ?_
  refine T_aload_n 0 (dk dtk_X2_isFalse 3 rfl) rfl rfl ?_
  refine T_getR 200 1 220 (dk dtk_X2_isFalse 4 rfl) kfl_X2_20 kk_200 (kl_200 hq he) (by decide) rfl kr_200_1 ?_
  refine T_getR 220 4 225 (dk dtk_X2_isFalse 5 rfl) kfl_X2_106 kk_220 (kl_220 hq he) (by decide) rfl kr_220_4 ?_
  refine T_iconst (v := 0) (dk dtk_X2_isFalse 6 rfl) (by decide +kernel) ?_
  refine T_iconst (v := 0) (dk dtk_X2_isFalse 7 rfl) (by decide +kernel) ?_
  refine T_sub (lv2 := [(0, vr 200)]) [0] rfl ?_
  refine KC_Vi [vi l1, vr 225, vi 0, vi 0] [] rfl (dk dtk_X2_isFalse 8 rfl) kcv_X2_176 rfl kk_60 rfl (kl_60 hq) (Nat.le_of_ble_eq_true rfl) (Nat.le_of_ble_eq_true rfl) (gok_i (av_c (gkr (kl_200 hq he)) av_n) as_n) rfl h (fun r2 x1 h => ?_)
  refine T_if_eq 30 (dk dtk_X2_isFalse 9 rfl) (by decide) (fun c3 => ?_) (fun c3 => ?_)
  · have h := h.1 c3
    refine T_iconst (v := 1) (dk dtk_X2_isFalse 14 rfl) (by decide +kernel) ?_
    refine T_goto 35 (dk dtk_X2_isFalse 15 rfl) (by decide) ?_
    exact KT_iret (dk dtk_X2_isFalse 17 rfl) rfl rfl h
  · have h := h.2 c3
    refine T_aload_n 0 (dk dtk_X2_isFalse 10 rfl) rfl rfl ?_
    refine T_getR 200 0 60 (dk dtk_X2_isFalse 11 rfl) kfl_X2_9 kk_200 (kl_200 hq he) (by decide) rfl kr_200_0 ?_
    refine T_getI 60 5 (dk dtk_X2_isFalse 12 rfl) kfl_X2_180 kk_60 (kl_60 hq) (by decide) rfl ?_
    refine T_if_eq 34 (dk dtk_X2_isFalse 13 rfl) (by decide) (fun c4 => ?_) (fun c4 => ?_)
    · have h := h.1 c4
      refine T_iconst (v := 0) (dk dtk_X2_isFalse 16 rfl) (by decide +kernel) ?_
      exact KT_iret (dk dtk_X2_isFalse 17 rfl) rfl rfl h
    · have h := h.2 c4
      refine T_iconst (v := 1) (dk dtk_X2_isFalse 14 rfl) (by decide +kernel) ?_
      refine T_goto 35 (dk dtk_X2_isFalse 15 rfl) (by decide) ?_
      exact KT_iret (dk dtk_X2_isFalse 17 rfl) rfl rfl h
set_option maxRecDepth 100000 in
theorem dtk_X2_inspectActs : dck cX2_inspectActs [(0, .iconst 0, 1), (1, .istore_n 1, 1), (2, .iconst 0, 1), (3, .istore_n 2, 1), (4, .iload_n 2, 1), (5, .aload_n 0, 1), (6, .getfield 20, 3), (9, .getfield 88, 3), (12, .if_icmp .ge 36, 3), (15, .aload_n 0, 1), (16, .getfield 20, 3), (19, .getfield 183, 3), (22, .iload_n 2, 1), (23, .iaload, 1), (24, .iconst (-1), 1), (25, .if_icmp .ne 17, 3), (28, .iload_n 1, 1), (29, .iconst 1, 1), (30, .aload_n 0, 1), (31, .getfield 20, 3), (34, .getfield 186, 3), (37, .iload_n 2, 1), (38, .iaload, 1), (39, .ishl, 1), (40, .ior, 1), (41, .istore_n 1, 1), (42, .iinc 2 1, 3), (45, .goto (-41), 3), (48, .iconst 0, 1), (49, .istore_n 2, 1), (50, .iconst 0, 1), (51, .istore_n 3, 1), (52, .iload_n 3, 1), (53, .aload_n 0, 1), (54, .getfield 9, 3), (57, .getfield 189, 3), (60, .if_icmp .ge 46, 3), (63, .aload_n 0, 1), (64, .getfield 38, 3), (67, .iload_n 3, 1), (68, .iconst (-1), 1), (69, .iastore, 1), (70, .iload_n 1, 1), (71, .iload_n 3, 1), (72, .ishr, 1), (73, .iconst 1, 1), (74, .iand, 1), (75, .iconst 1, 1), (76, .if_icmp .ne 11, 3), (79, .aload_n 0, 1), (80, .iload_n 3, 1), (81, .invokevirtual 192, 3), (84, .goto 16, 3), (87, .aload_n 0, 1), (88, .getfield 20, 3), (91, .iload_n 3, 1), (92, .invokevirtual 195, 3), (95, .ifCond .eq 5, 3), (98, .iconst 1, 1), (99, .istore_n 2, 1), (100, .iinc 3 1, 3), (103, .goto (-51), 3), (106, .iload_n 2, 1), (107, .ifCond .eq 16, 3), (110, .aload_n 0, 1), (111, .getfield 44, 3), (114, .dup, 1), (115, .getfield 198, 3), (118, .iconst 1, 1), (119, .iadd, 1), (120, .putfield 198, 3), (123, .return_, 1)] = true := by decide +kernel
set_option maxRecDepth 100000 in
set_option maxHeartbeats 4000000 in
theorem kg_X2_inspectActs_0 {G : kG} {q : kP} {d : Nat} {x : gd} {P : Option gv → gd → Prop} (hq : kV q) (he : q.ex = true)
    (h : KT G q (d + 1) zk_X2_inspectActs 4 [(0, vr 200), (1, vi 0), (2, vi 0)] [] x P) :
    KT G q (d + 1) zk_X2_inspectActs 0 [(0, vr 200)] [] x P := by
  refine T_iconst (v := 0) (dk dtk_X2_inspectActs 0 rfl) (by decide +kernel) ?_
  refine T_istore_n (lv2 := [(1, vi 0), (0, vr 200)]) (dk dtk_X2_inspectActs 1 rfl) rfl (by decide) rfl ?_
  refine T_iconst (v := 0) (dk dtk_X2_inspectActs 2 rfl) (by decide +kernel) ?_
  refine T_istore_n (lv2 := [(2, vi 0), (1, vi 0), (0, vr 200)]) (dk dtk_X2_inspectActs 3 rfl) rfl (by decide) rfl ?_
  exact T_sub [2, 1, 0] rfl h
set_option maxRecDepth 100000 in
set_option maxHeartbeats 4000000 in
theorem kg_X2_inspectActs_4 {G : kG} {q : kP} {d : Nat} {x : gd} {P : Option gv → gd → Prop} (hq : kV q) (he : q.ex = true) (l1 : Int32) (l2 : Int32)
    (h : (((x.1 220 13) ≤ l2 → KT G q (d + 1) zk_X2_inspectActs 52 [(0, vr 200), (1, vi l1), (2, vi 0), (3, vi 0)] [] x P) ∧ (¬ ((x.1 220 13) ≤ l2) → vp_in l2 84 ∧ ((¬ ((x.1 232 (l2 : Int32).toNatClampNeg) = (-1 : Int32)) → KT G q (d + 1) zk_X2_inspectActs 4 [(0, vr 200), (1, vi l1), (2, vi (l2 + 1))] [] x P) ∧ ((x.1 232 (l2 : Int32).toNatClampNeg) = (-1 : Int32) → vp_in l2 84 ∧ KT G q (d + 1) zk_X2_inspectActs 4 [(0, vr 200), (1, vi (l1 ||| (1 <<< ((x.1 231 (l2 : Int32).toNatClampNeg) &&& 31 : Int32)))), (2, vi (l2 + 1))] [] x P))))) :
    KT G q (d + 1) zk_X2_inspectActs 4 [(0, vr 200), (1, vi l1), (2, vi l2)] [] x P := by
  refine T_iload_n 2 (dk dtk_X2_inspectActs 4 rfl) rfl rfl ?_
  refine T_aload_n 0 (dk dtk_X2_inspectActs 5 rfl) rfl rfl ?_
  refine T_getR 200 1 220 (dk dtk_X2_inspectActs 6 rfl) kfl_X2_20 kk_200 (kl_200 hq he) (by decide) rfl kr_200_1 ?_
  refine T_getI 220 13 (dk dtk_X2_inspectActs 7 rfl) kfl_X2_88 kk_220 (kl_220 hq he) (by decide) rfl ?_
  refine T_icmp_ge 48 (dk dtk_X2_inspectActs 8 rfl) (by decide) (fun c1 => ?_) (fun c1 => ?_)
  · have h := h.1 c1
    refine T_iconst (v := 0) (dk dtk_X2_inspectActs 28 rfl) (by decide +kernel) ?_
    refine T_istore_n (lv2 := [(2, vi 0), (0, vr 200), (1, vi l1)]) (dk dtk_X2_inspectActs 29 rfl) rfl (by decide) rfl ?_
    refine T_iconst (v := 0) (dk dtk_X2_inspectActs 30 rfl) (by decide +kernel) ?_
    refine T_istore_n (lv2 := [(3, vi 0), (2, vi 0), (0, vr 200), (1, vi l1)]) (dk dtk_X2_inspectActs 31 rfl) rfl (by decide) rfl ?_
    exact T_sub [2, 3, 1, 0] rfl h
  · have h := h.2 c1
    refine T_aload_n 0 (dk dtk_X2_inspectActs 9 rfl) rfl rfl ?_
    refine T_getR 200 1 220 (dk dtk_X2_inspectActs 10 rfl) kfl_X2_20 kk_200 (kl_200 hq he) (by decide) rfl kr_200_1 ?_
    refine T_getR 220 11 232 (dk dtk_X2_inspectActs 11 rfl) kfl_X2_183 kk_220 (kl_220 hq he) (by decide) rfl kr_220_11 ?_
    refine T_iload_n 2 (dk dtk_X2_inspectActs 12 rfl) rfl rfl ?_
    obtain ⟨h2, h⟩ := h
    refine T_iald 232 84 (dk dtk_X2_inspectActs 13 rfl) kk_232 (kl_232 hq he) h2 ?_
    refine T_iconst (v := (-1)) (dk dtk_X2_inspectActs 14 rfl) (by decide +kernel) ?_
    refine T_icmp_ne 42 (dk dtk_X2_inspectActs 15 rfl) (by decide) (fun c3 => ?_) (fun c3 => ?_)
    · have h := h.1 c3
      refine T_iinc (v := l2 + 1) (lv2 := [(2, vi (l2 + 1)), (0, vr 200), (1, vi l1)]) 2 (dk dtk_X2_inspectActs 26 rfl) rfl rfl (by decide) rfl ?_
      refine T_goto 4 (dk dtk_X2_inspectActs 27 rfl) (by decide) ?_
      exact T_sub [1, 2, 0] rfl h
    · have h := h.2 c3
      refine T_iload_n 1 (dk dtk_X2_inspectActs 16 rfl) rfl rfl ?_
      refine T_iconst (v := 1) (dk dtk_X2_inspectActs 17 rfl) (by decide +kernel) ?_
      refine T_aload_n 0 (dk dtk_X2_inspectActs 18 rfl) rfl rfl ?_
      refine T_getR 200 1 220 (dk dtk_X2_inspectActs 19 rfl) kfl_X2_20 kk_200 (kl_200 hq he) (by decide) rfl kr_200_1 ?_
      refine T_getR 220 10 231 (dk dtk_X2_inspectActs 20 rfl) kfl_X2_186 kk_220 (kl_220 hq he) (by decide) rfl kr_220_10 ?_
      refine T_iload_n 2 (dk dtk_X2_inspectActs 21 rfl) rfl rfl ?_
      obtain ⟨h4, h⟩ := h
      refine T_iald 231 84 (dk dtk_X2_inspectActs 22 rfl) kk_231 (kl_231 hq he) h4 ?_
      refine T_ishl (dk dtk_X2_inspectActs 23 rfl) ?_
      refine T_ior (dk dtk_X2_inspectActs 24 rfl) ?_
      refine T_istore_n (lv2 := [(1, vi (l1 ||| (1 <<< ((x.1 231 (l2 : Int32).toNatClampNeg) &&& 31 : Int32)))), (0, vr 200), (2, vi l2)]) (dk dtk_X2_inspectActs 25 rfl) rfl (by decide) rfl ?_
      refine T_iinc (v := l2 + 1) (lv2 := [(2, vi (l2 + 1)), (1, vi (l1 ||| (1 <<< ((x.1 231 (l2 : Int32).toNatClampNeg) &&& 31 : Int32)))), (0, vr 200)]) 2 (dk dtk_X2_inspectActs 26 rfl) rfl rfl (by decide) rfl ?_
      refine T_goto 4 (dk dtk_X2_inspectActs 27 rfl) (by decide) ?_
      exact T_sub [2, 1, 0] rfl h
set_option maxRecDepth 100000 in
set_option maxHeartbeats 4000000 in
theorem kg_X2_inspectActs_52 {G : kG} {q : kP} {d : Nat} {x : gd} {P : Option gv → gd → Prop} (hq : kV q) (he : q.ex = true) (l1 : Int32) (l2 : Int32) (l3 : Int32)
    (h : (((x.1 60 10) ≤ l3 → ((l2 = (0 : Int32) → P none x) ∧ (¬ (l2 = (0 : Int32)) → (∀ u3, u3 = (kf q).1 200 7 → ∃ c4, u3 = some c4 ∧ kiT q c4 ∧ (∀ x6 : gd, x6 = si x c4 4 ((x.1 c4 4) + 1) → P none x6))))) ∧ (¬ ((x.1 60 10) ≤ l3) → vp_in l3 6 ∧ (∀ x8 : gd, x8 = si x 209 (l3 : Int32).toNatClampNeg (-1) → ((¬ (((l1 >>> (l3 &&& 31 : Int32)) &&& 1) = (1 : Int32)) → KT G q d zk_X5_isGoing 0 [(0, vr 220), (1, vi l3)] [] x8 (ri (fun r11 x10 => ((r11 = (0 : Int32) → KT G q (d + 1) zk_X2_inspectActs 52 [(0, vr 200), (1, vi l1), (2, vi l2), (3, vi (l3 + 1))] [] x10 P) ∧ (¬ (r11 = (0 : Int32)) → KT G q (d + 1) zk_X2_inspectActs 52 [(0, vr 200), (1, vi l1), (2, vi 1), (3, vi (l3 + 1))] [] x10 P))))) ∧ (((l1 >>> (l3 &&& 31 : Int32)) &&& 1) = (1 : Int32) → KT G q d zk_X2_inspectAct 0 [(0, vr 200), (1, vi l3)] [] x8 (rv (fun x13 => KT G q (d + 1) zk_X2_inspectActs 52 [(0, vr 200), (1, vi l1), (2, vi l2), (3, vi (l3 + 1))] [] x13 P)))))))) :
    KT G q (d + 1) zk_X2_inspectActs 52 [(0, vr 200), (1, vi l1), (2, vi l2), (3, vi l3)] [] x P := by
  refine T_iload_n 3 (dk dtk_X2_inspectActs 32 rfl) rfl rfl ?_
  refine T_aload_n 0 (dk dtk_X2_inspectActs 33 rfl) rfl rfl ?_
  refine T_getR 200 0 60 (dk dtk_X2_inspectActs 34 rfl) kfl_X2_9 kk_200 (kl_200 hq he) (by decide) rfl kr_200_0 ?_
  refine T_getI 60 10 (dk dtk_X2_inspectActs 35 rfl) kfl_X2_189 kk_60 (kl_60 hq) (by decide) rfl ?_
  refine T_icmp_ge 106 (dk dtk_X2_inspectActs 36 rfl) (by decide) (fun c1 => ?_) (fun c1 => ?_)
  · have h := h.1 c1
    refine T_iload_n 2 (dk dtk_X2_inspectActs 62 rfl) rfl rfl ?_
    refine T_if_eq 123 (dk dtk_X2_inspectActs 63 rfl) (by decide) (fun c2 => ?_) (fun c2 => ?_)
    · have h := h.1 c2
      exact KT_vret (dk dtk_X2_inspectActs 71 rfl) rfl h
    · have h := h.2 c2
      refine T_aload_n 0 (dk dtk_X2_inspectActs 64 rfl) rfl rfl ?_
      obtain ⟨u3, eu3⟩ : ∃ z, z = (kf q).1 200 7 := ⟨_, rfl⟩
      have h := h u3 eu3
      refine T_getO 200 7 (dk dtk_X2_inspectActs 65 rfl) kfl_X2_44 kk_200 (kl_200 hq he) (by decide) rfl ?_
      rw [← eu3]
      refine T_dup (dk dtk_X2_inspectActs 66 rfl) rfl ?_
      obtain ⟨c4, rfl, g5, h⟩ := h
      refine T_getI c4 4 (dk dtk_X2_inspectActs 67 rfl) kfl_X2_198 (kk_T0 g5) (kl_T0 hq g5) (by decide) rfl ?_
      refine T_iconst (v := 1) (dk dtk_X2_inspectActs 68 rfl) (by decide +kernel) ?_
      refine T_iadd (dk dtk_X2_inspectActs 69 rfl) ?_
      obtain ⟨x6, ex6⟩ : ∃ z, z = si x c4 4 ((x.1 c4 4) + 1) := ⟨_, rfl⟩
      have h := h x6 ex6
      refine T_putI c4 4 (dk dtk_X2_inspectActs 70 rfl) kfl_X2_198 (kk_T0 g5) (kl_T0 hq g5) (by decide) rfl ⟨rfl, rfl⟩ ?_
      rw [← ex6]
      exact KT_vret (dk dtk_X2_inspectActs 71 rfl) rfl h
  · have h := h.2 c1
    refine T_aload_n 0 (dk dtk_X2_inspectActs 37 rfl) rfl rfl ?_
    refine T_getR 200 8 209 (dk dtk_X2_inspectActs 38 rfl) kfl_X2_38 kk_200 (kl_200 hq he) (by decide) rfl kr_200_8 ?_
    refine T_iload_n 3 (dk dtk_X2_inspectActs 39 rfl) rfl rfl ?_
    refine T_iconst (v := (-1)) (dk dtk_X2_inspectActs 40 rfl) (by decide +kernel) ?_
    obtain ⟨h7, h⟩ := h
    obtain ⟨x8, ex8⟩ : ∃ z, z = si x 209 (l3 : Int32).toNatClampNeg (-1) := ⟨_, rfl⟩
    have h := h x8 ex8
    refine T_iast 209 6 (dk dtk_X2_inspectActs 41 rfl) kk_209 (kl_209 hq he) h7 ?_
    rw [← ex8]
    refine T_iload_n 1 (dk dtk_X2_inspectActs 42 rfl) rfl rfl ?_
    refine T_iload_n 3 (dk dtk_X2_inspectActs 43 rfl) rfl rfl ?_
    refine T_ishr (dk dtk_X2_inspectActs 44 rfl) ?_
    refine T_iconst (v := 1) (dk dtk_X2_inspectActs 45 rfl) (by decide +kernel) ?_
    refine T_iand (dk dtk_X2_inspectActs 46 rfl) ?_
    refine T_iconst (v := 1) (dk dtk_X2_inspectActs 47 rfl) (by decide +kernel) ?_
    refine T_icmp_ne 87 (dk dtk_X2_inspectActs 48 rfl) (by decide) (fun c9 => ?_) (fun c9 => ?_)
    · have h := h.1 c9
      refine T_aload_n 0 (dk dtk_X2_inspectActs 53 rfl) rfl rfl ?_
      refine T_getR 200 1 220 (dk dtk_X2_inspectActs 54 rfl) kfl_X2_20 kk_200 (kl_200 hq he) (by decide) rfl kr_200_1 ?_
      refine T_iload_n 3 (dk dtk_X2_inspectActs 55 rfl) rfl rfl ?_
      refine KC_Vi [vi l3] [] rfl (dk dtk_X2_inspectActs 56 rfl) kcv_X2_195 rfl kk_220 rfl (kl_220 hq he) (Nat.le_of_ble_eq_true rfl) (Nat.le_of_ble_eq_true rfl) (gok_i (av_c (gkr (kl_200 hq he)) (av_c rfl (av_c rfl (av_c rfl av_n)))) as_n) rfl h (fun r11 x10 h => ?_)
      refine T_if_eq 100 (dk dtk_X2_inspectActs 57 rfl) (by decide) (fun c12 => ?_) (fun c12 => ?_)
      · have h := h.1 c12
        refine T_iinc (v := l3 + 1) (lv2 := [(3, vi (l3 + 1)), (0, vr 200), (1, vi l1), (2, vi l2)]) 3 (dk dtk_X2_inspectActs 60 rfl) rfl rfl (by decide) rfl ?_
        refine T_goto 52 (dk dtk_X2_inspectActs 61 rfl) (by decide) ?_
        exact T_sub [1, 2, 3, 0] rfl h
      · have h := h.2 c12
        refine T_iconst (v := 1) (dk dtk_X2_inspectActs 58 rfl) (by decide +kernel) ?_
        refine T_istore_n (lv2 := [(2, vi 1), (0, vr 200), (1, vi l1), (3, vi l3)]) (dk dtk_X2_inspectActs 59 rfl) rfl (by decide) rfl ?_
        refine T_iinc (v := l3 + 1) (lv2 := [(3, vi (l3 + 1)), (2, vi 1), (0, vr 200), (1, vi l1)]) 3 (dk dtk_X2_inspectActs 60 rfl) rfl rfl (by decide) rfl ?_
        refine T_goto 52 (dk dtk_X2_inspectActs 61 rfl) (by decide) ?_
        exact T_sub [2, 3, 1, 0] rfl h
    · have h := h.2 c9
      refine T_aload_n 0 (dk dtk_X2_inspectActs 49 rfl) rfl rfl ?_
      refine T_iload_n 3 (dk dtk_X2_inspectActs 50 rfl) rfl rfl ?_
      refine KC_Vv [vi l3] [] rfl (dk dtk_X2_inspectActs 51 rfl) kcv_X2_192 rfl kk_200 rfl (kl_200 hq he) (Nat.le_of_ble_eq_true rfl) (Nat.le_of_ble_eq_true rfl) (gok_i (av_c (gkr (kl_200 hq he)) (av_c rfl (av_c rfl (av_c rfl av_n)))) as_n) rfl h (fun x13 h => ?_)
      refine T_goto 100 (dk dtk_X2_inspectActs 52 rfl) (by decide) ?_
      refine T_iinc (v := l3 + 1) (lv2 := [(3, vi (l3 + 1)), (0, vr 200), (1, vi l1), (2, vi l2)]) 3 (dk dtk_X2_inspectActs 60 rfl) rfl rfl (by decide) rfl ?_
      refine T_goto 52 (dk dtk_X2_inspectActs 61 rfl) (by decide) ?_
      exact T_sub [1, 2, 3, 0] rfl h
set_option maxRecDepth 100000 in
theorem dtk_X2_inspectAct : dck cX2_inspectAct [(0, .aload_n 0, 1), (1, .getfield 20, 3), (4, .iload_n 1, 1), (5, .invokevirtual 201, 3), (8, .istore_n 2, 1), (9, .aload_n 0, 1), (10, .getfield 20, 3), (13, .iload_n 1, 1), (14, .invokevirtual 205, 3), (17, .istore_n 3, 1), (18, .iload_n 2, 1), (19, .iconst 5, 1), (20, .if_icmp .ne 19, 3), (23, .aload_n 0, 1), (24, .getfield 44, 3), (27, .aload_n 0, 1), (28, .getfield 20, 3), (31, .iload_n 1, 1), (32, .invokevirtual 208, 3), (35, .iload_n 3, 1), (36, .invokevirtual 211, 3), (39, .iload_n 2, 1), (40, .iconst 4, 1), (41, .if_icmp .gt 8, 3), (44, .iload_n 3, 1), (45, .iconst (-1), 1), (46, .if_icmp .ne 4, 3), (49, .return_, 1), (50, .aload_n 0, 1), (51, .getfield 44, 3), (54, .getfield 214, 3), (57, .iload_n 3, 1), (58, .dup2, 1), (59, .iaload, 1), (60, .aload_n 0, 1), (61, .getfield 20, 3), (64, .iload_n 1, 1), (65, .invokevirtual 208, 3), (68, .iand, 1), (69, .iastore, 1), (70, .aload_n 0, 1), (71, .getfield 9, 3), (74, .getfield 217, 3), (77, .iload_n 3, 1), (78, .baload, 1), (79, .ifCond .ne 28, 3), (82, .aload_n 0, 1), (83, .getfield 20, 3), (86, .iload_n 1, 1), (87, .invokevirtual 221, 3), (90, .ifCond .ne 17, 3), (93, .aload_n 0, 1), (94, .getfield 38, 3), (97, .iload_n 1, 1), (98, .iload_n 3, 1), (99, .iastore, 1), (100, .aload_n 0, 1), (101, .getfield 41, 3), (104, .iload_n 1, 1), (105, .iload_n 2, 1), (106, .iastore, 1), (107, .return_, 1)] = true := by decide +kernel
set_option maxRecDepth 100000 in
set_option maxHeartbeats 4000000 in
theorem kg_X2_inspectAct_0 {G : kG} {q : kP} {d : Nat} {x : gd} {P : Option gv → gd → Prop} (hq : kV q) (he : q.ex = true) (l1 : Int32)
    (h : KT G q d zk_X5_sortOf 0 [(0, vr 220), (1, vi l1)] [] x (ri (fun r2 x1 => KT G q d zk_X5_objectOf 0 [(0, vr 220), (1, vi l1)] [] x1 (ri (fun r4 x3 => ((¬ (r2 = (5 : Int32)) → KT G q (d + 1) zk_X2_inspectAct 39 [(0, vr 200), (1, vi l1), (2, vi r2), (3, vi r4)] [] x3 P) ∧ (r2 = (5 : Int32) → (∀ u6, u6 = (kf q).1 200 7 → gokv (kf q).2.1 (vo u6) = true ∧ KT G q d zk_X5_heldBy 0 [(0, vr 220), (1, vi l1)] [] x3 (ri (fun r9 x8 => ∃ c10, u6 = some c10 ∧ kiT q c10 ∧ KT G q d zk_X10_addTake 0 [(0, vr c10), (1, vi r9), (2, vi r4)] [] x8 (rv (fun x12 => KT G q (d + 1) zk_X2_inspectAct 39 [(0, vr 200), (1, vi l1), (2, vi r2), (3, vi r4)] [] x12 P)))))))))))) :
    KT G q (d + 1) zk_X2_inspectAct 0 [(0, vr 200), (1, vi l1)] [] x P := by
  refine T_aload_n 0 (dk dtk_X2_inspectAct 0 rfl) rfl rfl ?_
  refine T_getR 200 1 220 (dk dtk_X2_inspectAct 1 rfl) kfl_X2_20 kk_200 (kl_200 hq he) (by decide) rfl kr_200_1 ?_
  refine T_iload_n 1 (dk dtk_X2_inspectAct 2 rfl) rfl rfl ?_
  refine KC_Vi [vi l1] [] rfl (dk dtk_X2_inspectAct 3 rfl) kcv_X2_201 rfl kk_220 rfl (kl_220 hq he) (Nat.le_of_ble_eq_true rfl) (Nat.le_of_ble_eq_true rfl) (gok_i (av_c (gkr (kl_200 hq he)) (av_c rfl av_n)) as_n) rfl h (fun r2 x1 h => ?_)
  refine T_istore_n (lv2 := [(2, vi r2), (0, vr 200), (1, vi l1)]) (dk dtk_X2_inspectAct 4 rfl) rfl (by decide) rfl ?_
  refine T_aload_n 1 (dk dtk_X2_inspectAct 5 rfl) rfl rfl ?_
  refine T_getR 200 1 220 (dk dtk_X2_inspectAct 6 rfl) kfl_X2_20 kk_200 (kl_200 hq he) (by decide) rfl kr_200_1 ?_
  refine T_iload_n 2 (dk dtk_X2_inspectAct 7 rfl) rfl rfl ?_
  refine KC_Vi [vi l1] [] rfl (dk dtk_X2_inspectAct 8 rfl) kcv_X2_205 rfl kk_220 rfl (kl_220 hq he) (Nat.le_of_ble_eq_true rfl) (Nat.le_of_ble_eq_true rfl) (gok_i (av_c rfl (av_c (gkr (kl_200 hq he)) (av_c rfl av_n))) as_n) rfl h (fun r4 x3 h => ?_)
  refine T_istore_n (lv2 := [(3, vi r4), (2, vi r2), (0, vr 200), (1, vi l1)]) (dk dtk_X2_inspectAct 9 rfl) rfl (by decide) rfl ?_
  refine T_iload_n 1 (dk dtk_X2_inspectAct 10 rfl) rfl rfl ?_
  refine T_iconst (v := 5) (dk dtk_X2_inspectAct 11 rfl) (by decide +kernel) ?_
  refine T_icmp_ne 39 (dk dtk_X2_inspectAct 12 rfl) (by decide) (fun c5 => ?_) (fun c5 => ?_)
  · have h := h.1 c5
    exact T_sub [2, 3, 1, 0] rfl h
  · have h := h.2 c5
    refine T_aload_n 2 (dk dtk_X2_inspectAct 13 rfl) rfl rfl ?_
    obtain ⟨u6, eu6⟩ : ∃ z, z = (kf q).1 200 7 := ⟨_, rfl⟩
    have h := h u6 eu6
    refine T_getO 200 7 (dk dtk_X2_inspectAct 14 rfl) kfl_X2_44 kk_200 (kl_200 hq he) (by decide) rfl ?_
    rw [← eu6]
    refine T_aload_n 2 (dk dtk_X2_inspectAct 15 rfl) rfl rfl ?_
    refine T_getR 200 1 220 (dk dtk_X2_inspectAct 16 rfl) kfl_X2_20 kk_200 (kl_200 hq he) (by decide) rfl kr_200_1 ?_
    refine T_iload_n 3 (dk dtk_X2_inspectAct 17 rfl) rfl rfl ?_
    obtain ⟨h7, h⟩ := h
    refine KC_Vi [vi l1] [vo u6] rfl (dk dtk_X2_inspectAct 18 rfl) kcv_X2_208 rfl kk_220 rfl (kl_220 hq he) (Nat.le_of_ble_eq_true rfl) (Nat.le_of_ble_eq_true rfl) (gok_i (av_c rfl (av_c rfl (av_c (gkr (kl_200 hq he)) (av_c rfl av_n)))) (as_c h7 as_n)) rfl h (fun r9 x8 h => ?_)
    refine T_iload_n 0 (dk dtk_X2_inspectAct 19 rfl) rfl rfl ?_
    obtain ⟨c10, rfl, g11, h⟩ := h
    refine KC_Vv [vi r9, vi r4] [] rfl (dk dtk_X2_inspectAct 20 rfl) kcv_X2_211 rfl (kk_T0 g11) rfl (kl_T0 hq g11) (Nat.le_of_ble_eq_true rfl) (Nat.le_of_ble_eq_true rfl) (gok_i (av_c rfl (av_c rfl (av_c (gkr (kl_200 hq he)) (av_c rfl av_n)))) as_n) rfl h (fun x12 h => ?_)
    exact T_sub [2, 3, 1, 0] rfl h
set_option maxRecDepth 100000 in
set_option maxHeartbeats 4000000 in
theorem kg_X2_inspectAct_39 {G : kG} {q : kP} {d : Nat} {x : gd} {P : Option gv → gd → Prop} (hq : kV q) (he : q.ex = true) (l1 : Int32) (l2 : Int32) (l3 : Int32)
    (h : (((4 : Int32) < l2 → P none x) ∧ (¬ ((4 : Int32) < l2) → ((¬ (l3 = (-1 : Int32)) → (∀ u3, u3 = (kf q).1 200 7 → ∃ c4, u3 = some c4 ∧ kiT q c4 ∧ vp_in l3 24 ∧ KT G q d zk_X5_heldBy 0 [(0, vr 220), (1, vi l1)] [] x (ri (fun r8 x7 => vp_in l3 24 ∧ (∀ x10 : gd, x10 = si x7 (c4 + 8) (l3 : Int32).toNatClampNeg ((x.1 (c4 + 8) (l3 : Int32).toNatClampNeg) &&& r8) → vp_in l3 24 ∧ ((¬ ((x10.1 69 (l3 : Int32).toNatClampNeg) = (0 : Int32)) → P none x10) ∧ ((x10.1 69 (l3 : Int32).toNatClampNeg) = (0 : Int32) → KT G q d zk_X5_accessFails 0 [(0, vr 220), (1, vi l1)] [] x10 (ri (fun r14 x13 => ((¬ (r14 = (0 : Int32)) → P none x13) ∧ (r14 = (0 : Int32) → vp_in l1 6 ∧ (∀ x17 : gd, x17 = si x13 209 (l1 : Int32).toNatClampNeg l3 → vp_in l1 6 ∧ (∀ x19 : gd, x19 = si x17 210 (l1 : Int32).toNatClampNeg l2 → P none x19))))))))))))) ∧ (l3 = (-1 : Int32) → P none x))))) :
    KT G q (d + 1) zk_X2_inspectAct 39 [(0, vr 200), (1, vi l1), (2, vi l2), (3, vi l3)] [] x P := by
  refine T_iload_n 2 (dk dtk_X2_inspectAct 21 rfl) rfl rfl ?_
  refine T_iconst (v := 4) (dk dtk_X2_inspectAct 22 rfl) (by decide +kernel) ?_
  refine T_icmp_gt 49 (dk dtk_X2_inspectAct 23 rfl) (by decide) (fun c1 => ?_) (fun c1 => ?_)
  · have h := h.1 c1
    exact KT_vret (dk dtk_X2_inspectAct 27 rfl) rfl h
  · have h := h.2 c1
    refine T_iload_n 3 (dk dtk_X2_inspectAct 24 rfl) rfl rfl ?_
    refine T_iconst (v := (-1)) (dk dtk_X2_inspectAct 25 rfl) (by decide +kernel) ?_
    refine T_icmp_ne 50 (dk dtk_X2_inspectAct 26 rfl) (by decide) (fun c2 => ?_) (fun c2 => ?_)
    · have h := h.1 c2
      refine T_aload_n 0 (dk dtk_X2_inspectAct 28 rfl) rfl rfl ?_
      obtain ⟨u3, eu3⟩ : ∃ z, z = (kf q).1 200 7 := ⟨_, rfl⟩
      have h := h u3 eu3
      refine T_getO 200 7 (dk dtk_X2_inspectAct 29 rfl) kfl_X2_44 kk_200 (kl_200 hq he) (by decide) rfl ?_
      rw [← eu3]
      obtain ⟨c4, rfl, g5, h⟩ := h
      refine T_getR c4 7 (c4 + 8) (dk dtk_X2_inspectAct 30 rfl) kfl_X2_214 (kk_T0 g5) (kl_T0 hq g5) (by decide) rfl (kr_T_7 g5) ?_
      refine T_iload_n 3 (dk dtk_X2_inspectAct 31 rfl) rfl rfl ?_
      refine T_dup2 (dk dtk_X2_inspectAct 32 rfl) rfl rfl ?_
      obtain ⟨h6, h⟩ := h
      refine T_iald (c4 + 8) 24 (dk dtk_X2_inspectAct 33 rfl) (kk_T8 g5) (kl_T8 hq g5) h6 ?_
      refine T_aload_n 0 (dk dtk_X2_inspectAct 34 rfl) rfl rfl ?_
      refine T_getR 200 1 220 (dk dtk_X2_inspectAct 35 rfl) kfl_X2_20 kk_200 (kl_200 hq he) (by decide) rfl kr_200_1 ?_
      refine T_iload_n 1 (dk dtk_X2_inspectAct 36 rfl) rfl rfl ?_
      refine KC_Vi [vi l1] [vi (x.1 (c4 + 8) (l3 : Int32).toNatClampNeg), vi l3, vr (c4 + 8)] rfl (dk dtk_X2_inspectAct 37 rfl) kcv_X2_208 rfl kk_220 rfl (kl_220 hq he) (Nat.le_of_ble_eq_true rfl) (Nat.le_of_ble_eq_true rfl) (gok_i (av_c (gkr (kl_200 hq he)) (av_c rfl (av_c rfl (av_c rfl av_n)))) (as_c rfl (as_c rfl (as_c (gkr (kl_T8 hq g5)) as_n)))) rfl h (fun r8 x7 h => ?_)
      refine T_iand (dk dtk_X2_inspectAct 38 rfl) ?_
      obtain ⟨h9, h⟩ := h
      obtain ⟨x10, ex10⟩ : ∃ z, z = si x7 (c4 + 8) (l3 : Int32).toNatClampNeg ((x.1 (c4 + 8) (l3 : Int32).toNatClampNeg) &&& r8) := ⟨_, rfl⟩
      have h := h x10 ex10
      refine T_iast (c4 + 8) 24 (dk dtk_X2_inspectAct 39 rfl) (kk_T8 g5) (kl_T8 hq g5) h9 ?_
      rw [← ex10]
      refine T_aload_n 0 (dk dtk_X2_inspectAct 40 rfl) rfl rfl ?_
      refine T_getR 200 0 60 (dk dtk_X2_inspectAct 41 rfl) kfl_X2_9 kk_200 (kl_200 hq he) (by decide) rfl kr_200_0 ?_
      refine T_getR 60 8 69 (dk dtk_X2_inspectAct 42 rfl) kfl_X2_217 kk_60 (kl_60 hq) (by decide) rfl kr_60_8 ?_
      refine T_iload_n 3 (dk dtk_X2_inspectAct 43 rfl) rfl rfl ?_
      obtain ⟨h11, h⟩ := h
      refine T_zald 69 24 (dk dtk_X2_inspectAct 44 rfl) kk_69 (kl_69 hq) h11 ?_
      refine T_if_ne 107 (dk dtk_X2_inspectAct 45 rfl) (by decide) (fun c12 => ?_) (fun c12 => ?_)
      · have h := h.1 c12
        exact KT_vret (dk dtk_X2_inspectAct 61 rfl) rfl h
      · have h := h.2 c12
        refine T_aload_n 0 (dk dtk_X2_inspectAct 46 rfl) rfl rfl ?_
        refine T_getR 200 1 220 (dk dtk_X2_inspectAct 47 rfl) kfl_X2_20 kk_200 (kl_200 hq he) (by decide) rfl kr_200_1 ?_
        refine T_iload_n 1 (dk dtk_X2_inspectAct 48 rfl) rfl rfl ?_
        refine KC_Vi [vi l1] [] rfl (dk dtk_X2_inspectAct 49 rfl) kcv_X2_221 rfl kk_220 rfl (kl_220 hq he) (Nat.le_of_ble_eq_true rfl) (Nat.le_of_ble_eq_true rfl) (gok_i (av_c (gkr (kl_200 hq he)) (av_c rfl (av_c rfl (av_c rfl av_n)))) as_n) rfl h (fun r14 x13 h => ?_)
        refine T_if_ne 107 (dk dtk_X2_inspectAct 50 rfl) (by decide) (fun c15 => ?_) (fun c15 => ?_)
        · have h := h.1 c15
          exact KT_vret (dk dtk_X2_inspectAct 61 rfl) rfl h
        · have h := h.2 c15
          refine T_aload_n 0 (dk dtk_X2_inspectAct 51 rfl) rfl rfl ?_
          refine T_getR 200 8 209 (dk dtk_X2_inspectAct 52 rfl) kfl_X2_38 kk_200 (kl_200 hq he) (by decide) rfl kr_200_8 ?_
          refine T_iload_n 1 (dk dtk_X2_inspectAct 53 rfl) rfl rfl ?_
          refine T_iload_n 3 (dk dtk_X2_inspectAct 54 rfl) rfl rfl ?_
          obtain ⟨h16, h⟩ := h
          obtain ⟨x17, ex17⟩ : ∃ z, z = si x13 209 (l1 : Int32).toNatClampNeg l3 := ⟨_, rfl⟩
          have h := h x17 ex17
          refine T_iast 209 6 (dk dtk_X2_inspectAct 55 rfl) kk_209 (kl_209 hq he) h16 ?_
          rw [← ex17]
          refine T_aload_n 0 (dk dtk_X2_inspectAct 56 rfl) rfl rfl ?_
          refine T_getR 200 9 210 (dk dtk_X2_inspectAct 57 rfl) kfl_X2_41 kk_200 (kl_200 hq he) (by decide) rfl kr_200_9 ?_
          refine T_iload_n 1 (dk dtk_X2_inspectAct 58 rfl) rfl rfl ?_
          refine T_iload_n 2 (dk dtk_X2_inspectAct 59 rfl) rfl rfl ?_
          obtain ⟨h18, h⟩ := h
          obtain ⟨x19, ex19⟩ : ∃ z, z = si x17 210 (l1 : Int32).toNatClampNeg l2 := ⟨_, rfl⟩
          have h := h x19 ex19
          refine T_iast 210 6 (dk dtk_X2_inspectAct 60 rfl) kk_210 (kl_210 hq he) h18 ?_
          rw [← ex19]
          exact KT_vret (dk dtk_X2_inspectAct 61 rfl) rfl h
    · have h := h.2 c2
      exact KT_vret (dk dtk_X2_inspectAct 27 rfl) rfl h
set_option maxRecDepth 100000 in
theorem dtk_X2_isRacing : dck cX2_isRacing [(0, .iconst 0, 1), (1, .istore_n 1, 1), (2, .iload_n 1, 1), (3, .aload_n 0, 1), (4, .getfield 9, 3), (7, .getfield 189, 3), (10, .if_icmp .ge 67, 3), (13, .iconst 0, 1), (14, .istore_n 2, 1), (15, .iload_n 2, 1), (16, .iload_n 1, 1), (17, .if_icmp .ge 54, 3), (20, .aload_n 0, 1), (21, .getfield 38, 3), (24, .iload_n 1, 1), (25, .iaload, 1), (26, .iconst (-1), 1), (27, .if_icmp .eq 38, 3), (30, .aload_n 0, 1), (31, .getfield 38, 3), (34, .iload_n 1, 1), (35, .iaload, 1), (36, .aload_n 0, 1), (37, .getfield 38, 3), (40, .iload_n 2, 1), (41, .iaload, 1), (42, .if_icmp .ne 23, 3), (45, .aload_n 0, 1), (46, .getfield 41, 3), (49, .iload_n 1, 1), (50, .iaload, 1), (51, .aload_n 0, 1), (52, .getfield 41, 3), (55, .iload_n 2, 1), (56, .iaload, 1), (57, .invokestatic 224, 3), (60, .ifCond .eq 5, 3), (63, .iconst 1, 1), (64, .ireturn, 1), (65, .iinc 2 1, 3), (68, .goto (-53), 3), (71, .iinc 1 1, 3), (74, .goto (-72), 3), (77, .iconst 0, 1), (78, .ireturn, 1)] = true := by decide +kernel
set_option maxRecDepth 100000 in
set_option maxHeartbeats 4000000 in
theorem kg_X2_isRacing_0 {G : kG} {q : kP} {d : Nat} {x : gd} {P : Option gv → gd → Prop} (hq : kV q) (he : q.ex = true)
    (h : KT G q (d + 1) zk_X2_isRacing 2 [(0, vr 200), (1, vi 0)] [] x P) :
    KT G q (d + 1) zk_X2_isRacing 0 [(0, vr 200)] [] x P := by
  refine T_iconst (v := 0) (dk dtk_X2_isRacing 0 rfl) (by decide +kernel) ?_
  refine T_istore_n (lv2 := [(1, vi 0), (0, vr 200)]) (dk dtk_X2_isRacing 1 rfl) rfl (by decide) rfl ?_
  exact T_sub [1, 0] rfl h
set_option maxRecDepth 100000 in
set_option maxHeartbeats 4000000 in
theorem kg_X2_isRacing_2 {G : kG} {q : kP} {d : Nat} {x : gd} {P : Option gv → gd → Prop} (hq : kV q) (he : q.ex = true) (l1 : Int32)
    (h : (((x.1 60 10) ≤ l1 → P (some (vi 0)) x) ∧ (¬ ((x.1 60 10) ≤ l1) → KT G q (d + 1) zk_X2_isRacing 15 [(0, vr 200), (1, vi l1), (2, vi 0)] [] x P))) :
    KT G q (d + 1) zk_X2_isRacing 2 [(0, vr 200), (1, vi l1)] [] x P := by
  refine T_iload_n 1 (dk dtk_X2_isRacing 2 rfl) rfl rfl ?_
  refine T_aload_n 0 (dk dtk_X2_isRacing 3 rfl) rfl rfl ?_
  refine T_getR 200 0 60 (dk dtk_X2_isRacing 4 rfl) kfl_X2_9 kk_200 (kl_200 hq he) (by decide) rfl kr_200_0 ?_
  refine T_getI 60 10 (dk dtk_X2_isRacing 5 rfl) kfl_X2_189 kk_60 (kl_60 hq) (by decide) rfl ?_
  refine T_icmp_ge 77 (dk dtk_X2_isRacing 6 rfl) (by decide) (fun c1 => ?_) (fun c1 => ?_)
  · have h := h.1 c1
    refine T_iconst (v := 0) (dk dtk_X2_isRacing 43 rfl) (by decide +kernel) ?_
    exact KT_iret (dk dtk_X2_isRacing 44 rfl) rfl rfl h
  · have h := h.2 c1
    refine T_iconst (v := 0) (dk dtk_X2_isRacing 7 rfl) (by decide +kernel) ?_
    refine T_istore_n (lv2 := [(2, vi 0), (0, vr 200), (1, vi l1)]) (dk dtk_X2_isRacing 8 rfl) rfl (by decide) rfl ?_
    exact T_sub [1, 2, 0] rfl h
set_option maxRecDepth 100000 in
set_option maxHeartbeats 4000000 in
theorem kg_X2_isRacing_15 {G : kG} {q : kP} {d : Nat} {x : gd} {P : Option gv → gd → Prop} (hq : kV q) (he : q.ex = true) (l1 : Int32) (l2 : Int32)
    (h : ((l1 ≤ l2 → KT G q (d + 1) zk_X2_isRacing 2 [(0, vr 200), (1, vi (l1 + 1))] [] x P) ∧ (¬ (l1 ≤ l2) → vp_in l1 6 ∧ (((x.1 209 (l1 : Int32).toNatClampNeg) = (-1 : Int32) → KT G q (d + 1) zk_X2_isRacing 15 [(0, vr 200), (1, vi l1), (2, vi (l2 + 1))] [] x P) ∧ (¬ ((x.1 209 (l1 : Int32).toNatClampNeg) = (-1 : Int32)) → vp_in l1 6 ∧ vp_in l2 6 ∧ ((¬ ((x.1 209 (l1 : Int32).toNatClampNeg) = (x.1 209 (l2 : Int32).toNatClampNeg)) → KT G q (d + 1) zk_X2_isRacing 15 [(0, vr 200), (1, vi l1), (2, vi (l2 + 1))] [] x P) ∧ ((x.1 209 (l1 : Int32).toNatClampNeg) = (x.1 209 (l2 : Int32).toNatClampNeg) → vp_in l1 6 ∧ vp_in l2 6 ∧ KT G q d zk_X4_sortsRace 0 [(0, vi (x.1 210 (l1 : Int32).toNatClampNeg)), (1, vi (x.1 210 (l2 : Int32).toNatClampNeg))] [] x (ri (fun r10 x9 => ((r10 = (0 : Int32) → KT G q (d + 1) zk_X2_isRacing 15 [(0, vr 200), (1, vi l1), (2, vi (l2 + 1))] [] x9 P) ∧ (¬ (r10 = (0 : Int32)) → P (some (vi 1)) x9))))))))))) :
    KT G q (d + 1) zk_X2_isRacing 15 [(0, vr 200), (1, vi l1), (2, vi l2)] [] x P := by
  refine T_iload_n 2 (dk dtk_X2_isRacing 9 rfl) rfl rfl ?_
  refine T_iload_n 1 (dk dtk_X2_isRacing 10 rfl) rfl rfl ?_
  refine T_icmp_ge 71 (dk dtk_X2_isRacing 11 rfl) (by decide) (fun c1 => ?_) (fun c1 => ?_)
  · have h := h.1 c1
    refine T_iinc (v := l1 + 1) (lv2 := [(1, vi (l1 + 1)), (0, vr 200), (2, vi l2)]) 1 (dk dtk_X2_isRacing 41 rfl) rfl rfl (by decide) rfl ?_
    refine T_goto 2 (dk dtk_X2_isRacing 42 rfl) (by decide) ?_
    exact T_sub [1, 0] rfl h
  · have h := h.2 c1
    refine T_aload_n 0 (dk dtk_X2_isRacing 12 rfl) rfl rfl ?_
    refine T_getR 200 8 209 (dk dtk_X2_isRacing 13 rfl) kfl_X2_38 kk_200 (kl_200 hq he) (by decide) rfl kr_200_8 ?_
    refine T_iload_n 1 (dk dtk_X2_isRacing 14 rfl) rfl rfl ?_
    obtain ⟨h2, h⟩ := h
    refine T_iald 209 6 (dk dtk_X2_isRacing 15 rfl) kk_209 (kl_209 hq he) h2 ?_
    refine T_iconst (v := (-1)) (dk dtk_X2_isRacing 16 rfl) (by decide +kernel) ?_
    refine T_icmp_eq 65 (dk dtk_X2_isRacing 17 rfl) (by decide) (fun c3 => ?_) (fun c3 => ?_)
    · have h := h.1 c3
      refine T_iinc (v := l2 + 1) (lv2 := [(2, vi (l2 + 1)), (0, vr 200), (1, vi l1)]) 2 (dk dtk_X2_isRacing 39 rfl) rfl rfl (by decide) rfl ?_
      refine T_goto 15 (dk dtk_X2_isRacing 40 rfl) (by decide) ?_
      exact T_sub [1, 2, 0] rfl h
    · have h := h.2 c3
      refine T_aload_n 0 (dk dtk_X2_isRacing 18 rfl) rfl rfl ?_
      refine T_getR 200 8 209 (dk dtk_X2_isRacing 19 rfl) kfl_X2_38 kk_200 (kl_200 hq he) (by decide) rfl kr_200_8 ?_
      refine T_iload_n 1 (dk dtk_X2_isRacing 20 rfl) rfl rfl ?_
      obtain ⟨h4, h⟩ := h
      refine T_iald 209 6 (dk dtk_X2_isRacing 21 rfl) kk_209 (kl_209 hq he) h4 ?_
      refine T_aload_n 0 (dk dtk_X2_isRacing 22 rfl) rfl rfl ?_
      refine T_getR 200 8 209 (dk dtk_X2_isRacing 23 rfl) kfl_X2_38 kk_200 (kl_200 hq he) (by decide) rfl kr_200_8 ?_
      refine T_iload_n 2 (dk dtk_X2_isRacing 24 rfl) rfl rfl ?_
      obtain ⟨h5, h⟩ := h
      refine T_iald 209 6 (dk dtk_X2_isRacing 25 rfl) kk_209 (kl_209 hq he) h5 ?_
      refine T_icmp_ne 65 (dk dtk_X2_isRacing 26 rfl) (by decide) (fun c6 => ?_) (fun c6 => ?_)
      · have h := h.1 c6
        refine T_iinc (v := l2 + 1) (lv2 := [(2, vi (l2 + 1)), (0, vr 200), (1, vi l1)]) 2 (dk dtk_X2_isRacing 39 rfl) rfl rfl (by decide) rfl ?_
        refine T_goto 15 (dk dtk_X2_isRacing 40 rfl) (by decide) ?_
        exact T_sub [1, 2, 0] rfl h
      · have h := h.2 c6
        refine T_aload_n 0 (dk dtk_X2_isRacing 27 rfl) rfl rfl ?_
        refine T_getR 200 9 210 (dk dtk_X2_isRacing 28 rfl) kfl_X2_41 kk_200 (kl_200 hq he) (by decide) rfl kr_200_9 ?_
        refine T_iload_n 1 (dk dtk_X2_isRacing 29 rfl) rfl rfl ?_
        obtain ⟨h7, h⟩ := h
        refine T_iald 210 6 (dk dtk_X2_isRacing 30 rfl) kk_210 (kl_210 hq he) h7 ?_
        refine T_aload_n 0 (dk dtk_X2_isRacing 31 rfl) rfl rfl ?_
        refine T_getR 200 9 210 (dk dtk_X2_isRacing 32 rfl) kfl_X2_41 kk_200 (kl_200 hq he) (by decide) rfl kr_200_9 ?_
        refine T_iload_n 2 (dk dtk_X2_isRacing 33 rfl) rfl rfl ?_
        obtain ⟨h8, h⟩ := h
        refine T_iald 210 6 (dk dtk_X2_isRacing 34 rfl) kk_210 (kl_210 hq he) h8 ?_
        refine KC_Si [vi (x.1 210 (l1 : Int32).toNatClampNeg), vi (x.1 210 (l2 : Int32).toNatClampNeg)] [] rfl (dk dtk_X2_isRacing 35 rfl) kcs_X2_224 rfl (Nat.le_of_ble_eq_true rfl) (Nat.le_of_ble_eq_true rfl) (gok_i (av_c (gkr (kl_200 hq he)) (av_c rfl (av_c rfl av_n))) as_n) rfl h (fun r10 x9 h => ?_)
        refine T_if_eq 65 (dk dtk_X2_isRacing 36 rfl) (by decide) (fun c11 => ?_) (fun c11 => ?_)
        · have h := h.1 c11
          refine T_iinc (v := l2 + 1) (lv2 := [(2, vi (l2 + 1)), (0, vr 200), (1, vi l1)]) 2 (dk dtk_X2_isRacing 39 rfl) rfl rfl (by decide) rfl ?_
          refine T_goto 15 (dk dtk_X2_isRacing 40 rfl) (by decide) ?_
          exact T_sub [1, 2, 0] rfl h
        · have h := h.2 c11
          refine T_iconst (v := 1) (dk dtk_X2_isRacing 37 rfl) (by decide +kernel) ?_
          exact KT_iret (dk dtk_X2_isRacing 38 rfl) rfl rfl h
set_option maxRecDepth 100000 in
theorem dtk_X11_feed : dck cX11_feed [(0, .iload_n 1, 1), (1, .iconst 1, 1), (2, .if_icmp .lt 9, 3), (5, .iload_n 1, 1), (6, .bipush 8, 2), (8, .if_icmp .le 13, 3), (11, .new 70, 3), (14, .dup, 1), (15, .ldc 72, 2), (17, .invokespecial 74, 3), (20, .athrow, 1), (21, .aload_n 0, 1), (22, .getfield 10, 3), (25, .getfield 77, 3), (28, .iload_n 1, 1), (29, .iadd, 1), (30, .sipush 3000, 3), (33, .if_icmp .le 13, 3), (36, .new 70, 3), (39, .dup, 1), (40, .ldc 80, 2), (42, .invokespecial 74, 3), (45, .athrow, 1), (46, .iconst 0, 1), (47, .istore 4, 2), (49, .iload 4, 2), (51, .iload_n 1, 1), (52, .if_icmp .ge 24, 3), (55, .aload_n 0, 1), (56, .getfield 10, 3), (59, .lload_n 2, 1), (60, .bipush 8, 2), (62, .iload 4, 2), (64, .imul, 1), (65, .lushr, 1), (66, .l2i, 1), (67, .invokevirtual 82, 3), (70, .iinc 4 1, 3), (73, .goto (-24), 3), (76, .aload_n 0, 1), (77, .invokevirtual 86, 3), (80, .aload_n 0, 1), (81, .getfield 10, 3), (84, .getfield 77, 3), (87, .ireturn, 1)] = true := by decide +kernel
set_option maxRecDepth 100000 in
set_option maxHeartbeats 4000000 in
theorem kg_X11_feed_0 {G : kG} {q : kP} {d : Nat} {x : gd} {P : Option gv → gd → Prop} {X : String → gd → Prop} (hq : kV q) (l1 : Int32) (l2 : Int64)
    (h : ((l1 < (1 : Int32) → KE G q (d + 7) zk_X11_feed 11 [] [] x P X) ∧ (¬ (l1 < (1 : Int32)) → ((l1 ≤ (8 : Int32) → ((((x.1 20 1) + l1) ≤ (3000 : Int32) → KE G q (d + 7) zk_X11_feed 49 [(0, vr 0), (1, vi l1), (2, vl l2), (4, vi 0)] [] x P X) ∧ (¬ (((x.1 20 1) + l1) ≤ (3000 : Int32)) → X iAE x))) ∧ (¬ (l1 ≤ (8 : Int32)) → KE G q (d + 7) zk_X11_feed 11 [] [] x P X))))) :
    KE G q (d + 7) zk_X11_feed 0 [(0, vr 0), (1, vi l1), (2, vl l2)] [] x P X := by
  refine T_iload_n 1 (dk dtk_X11_feed 0 rfl) rfl rfl ?_
  refine T_iconst (v := 1) (dk dtk_X11_feed 1 rfl) (by decide +kernel) ?_
  refine T_icmp_lt 11 (dk dtk_X11_feed 2 rfl) (by decide) (fun c1 => ?_) (fun c1 => ?_)
  · have h := h.1 c1
    exact T_sub [] rfl h
  · have h := h.2 c1
    refine T_iload_n 1 (dk dtk_X11_feed 3 rfl) rfl rfl ?_
    refine T_bipush (v := 8) (dk dtk_X11_feed 4 rfl) (by decide +kernel) ?_
    refine T_icmp_le 21 (dk dtk_X11_feed 5 rfl) (by decide) (fun c2 => ?_) (fun c2 => ?_)
    · have h := h.1 c2
      refine T_aload_n 0 (dk dtk_X11_feed 11 rfl) rfl rfl ?_
      refine T_getR 0 0 20 (dk dtk_X11_feed 12 rfl) kfl_X11_10 kk_0 (kl_0 hq) (by decide) rfl kr_0_0 ?_
      refine T_getI 20 1 (dk dtk_X11_feed 13 rfl) kfl_X11_77 kk_20 (kl_20 hq) (by decide) rfl ?_
      refine T_iload_n 1 (dk dtk_X11_feed 14 rfl) rfl rfl ?_
      refine T_iadd (dk dtk_X11_feed 15 rfl) ?_
      refine T_sipush (v := 3000) (dk dtk_X11_feed 16 rfl) (by decide +kernel) ?_
      refine T_icmp_le 46 (dk dtk_X11_feed 17 rfl) (by decide) (fun c3 => ?_) (fun c3 => ?_)
      · have h := h.1 c3
        refine T_iconst (v := 0) (dk dtk_X11_feed 23 rfl) (by decide +kernel) ?_
        refine T_istore (lv2 := [(4, vi 0), (0, vr 0), (1, vi l1), (2, vl l2)]) (dk dtk_X11_feed 24 rfl) (by decide) rfl ?_
        exact T_sub [1, 2, 3, 0] rfl h
      · have h := h.2 c3
        exact T_thr kth_X11_70_80 (dk dtk_X11_feed 18 rfl) (dk dtk_X11_feed 19 rfl) (dk dtk_X11_feed 20 rfl) (dk dtk_X11_feed 21 rfl) (dk dtk_X11_feed 22 rfl) (by intro z hz; cases hz) (by omega) (Nat.le_of_ble_eq_true rfl) (Or.inr ⟨rfl, _, rfl, h⟩)
    · have h := h.2 c2
      exact T_sub [] rfl h
set_option maxRecDepth 100000 in
set_option maxHeartbeats 4000000 in
theorem kg_X11_feed_11 {G : kG} {q : kP} {d : Nat} {x : gd} {P : Option gv → gd → Prop} {X : String → gd → Prop} (hq : kV q) 
    (h : X iAE x) :
    KE G q (d + 7) zk_X11_feed 11 [] [] x P X := by
  exact T_thr kth_X11_70_72 (dk dtk_X11_feed 6 rfl) (dk dtk_X11_feed 7 rfl) (dk dtk_X11_feed 8 rfl) (dk dtk_X11_feed 9 rfl) (dk dtk_X11_feed 10 rfl) (by intro z hz; cases hz) (by omega) (Nat.le_of_ble_eq_true rfl) (Or.inr ⟨rfl, _, rfl, h⟩)
set_option maxRecDepth 100000 in
set_option maxHeartbeats 4000000 in
theorem kg_X11_feed_49 {G : kG} {q : kP} {d : Nat} {x : gd} {P : Option gv → gd → Prop} {X : String → gd → Prop} (hq : kV q) (l1 : Int32) (l2 : Int64) (l4 : Int32)
    (h : ((l1 ≤ l4 → KT G q (d + 6) zk_X11_forgetAll 0 [(0, vr 0)] [] x (rv (fun x2 => P (some (vi (x2.1 20 1))) x2))) ∧ (¬ (l1 ≤ l4) → KT G q (d + 6) zk_X9_addByte 0 [(0, vr 20), (1, vi ((((l2 : Int64).toUInt64 >>> ((8 * l4 : Int32).toInt64.toUInt64 &&& Int64.toUInt64 63)).toInt64 : Int64).toInt32))] [] x (rv (fun x3 => KE G q (d + 7) zk_X11_feed 49 [(0, vr 0), (1, vi l1), (2, vl l2), (4, vi (l4 + 1))] [] x3 P X))))) :
    KE G q (d + 7) zk_X11_feed 49 [(0, vr 0), (1, vi l1), (2, vl l2), (4, vi l4)] [] x P X := by
  refine T_iload 3 (dk dtk_X11_feed 25 rfl) rfl ?_
  refine T_iload_n 1 (dk dtk_X11_feed 26 rfl) rfl rfl ?_
  refine T_icmp_ge 76 (dk dtk_X11_feed 27 rfl) (by decide) (fun c1 => ?_) (fun c1 => ?_)
  · have h := h.1 c1
    refine T_aload_n 0 (dk dtk_X11_feed 39 rfl) rfl rfl ?_
    refine T_sub (lv2 := [(0, vr 0)]) [0] rfl ?_
    refine KC_Vv [] [] rfl (dk dtk_X11_feed 40 rfl) kcv_X11_86 rfl kk_0 rfl (kl_0 hq) (Nat.le_of_ble_eq_true rfl) (Nat.le_of_ble_eq_true rfl) (gok_i (av_c (gkr (kl_0 hq)) av_n) as_n) rfl h (fun x2 h => ?_)
    refine T_aload_n 0 (dk dtk_X11_feed 41 rfl) rfl rfl ?_
    refine T_getR 0 0 20 (dk dtk_X11_feed 42 rfl) kfl_X11_10 kk_0 (kl_0 hq) (by decide) rfl kr_0_0 ?_
    refine T_getI 20 1 (dk dtk_X11_feed 43 rfl) kfl_X11_77 kk_20 (kl_20 hq) (by decide) rfl ?_
    exact KE_iret (dk dtk_X11_feed 44 rfl) rfl rfl h
  · have h := h.2 c1
    refine T_aload_n 0 (dk dtk_X11_feed 28 rfl) rfl rfl ?_
    refine T_getR 0 0 20 (dk dtk_X11_feed 29 rfl) kfl_X11_10 kk_0 (kl_0 hq) (by decide) rfl kr_0_0 ?_
    refine T_lload_n 2 (dk dtk_X11_feed 30 rfl) rfl rfl ?_
    refine T_bipush (v := 8) (dk dtk_X11_feed 31 rfl) (by decide +kernel) ?_
    refine T_iload 3 (dk dtk_X11_feed 32 rfl) rfl ?_
    refine T_imul (dk dtk_X11_feed 33 rfl) ?_
    refine T_lushr (dk dtk_X11_feed 34 rfl) ?_
    refine T_l2i (dk dtk_X11_feed 35 rfl) ?_
    refine KC_Vv [vi ((((l2 : Int64).toUInt64 >>> ((8 * l4 : Int32).toInt64.toUInt64 &&& Int64.toUInt64 63)).toInt64 : Int64).toInt32)] [] rfl (dk dtk_X11_feed 36 rfl) kcv_X11_82 rfl kk_20 rfl (kl_20 hq) (Nat.le_of_ble_eq_true rfl) (Nat.le_of_ble_eq_true rfl) (gok_i (av_c (gkr (kl_0 hq)) (av_c rfl (av_c rfl (av_c rfl av_n)))) as_n) rfl h (fun x3 h => ?_)
    refine T_iinc (v := l4 + 1) (lv2 := [(4, vi (l4 + 1)), (0, vr 0), (1, vi l1), (2, vl l2)]) 3 (dk dtk_X11_feed 37 rfl) rfl rfl (by decide) rfl ?_
    refine T_goto 49 (dk dtk_X11_feed 38 rfl) (by decide) ?_
    exact T_sub [1, 2, 3, 0] rfl h
