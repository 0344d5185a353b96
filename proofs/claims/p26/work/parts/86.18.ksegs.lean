section
set_option maxRecDepth 100000 in
theorem dtk_X10_sameOutcomes : dck cX10_sameOutcomes [(0, .aload_n 0, 1), (1, .getfield 51, 3), (4, .aload_n 1, 1), (5, .getfield 51, 3), (8, .if_icmp .eq 5, 3), (11, .iconst 0, 1), (12, .ireturn, 1), (13, .iconst 0, 1), (14, .istore_n 3, 1), (15, .iload_n 3, 1), (16, .aload_n 0, 1), (17, .getfield 51, 3), (20, .if_icmp .ge 40, 3), (23, .aload_n 0, 1), (24, .getfield 33, 3), (27, .aload_n 0, 1), (28, .getfield 37, 3), (31, .iload_n 3, 1), (32, .iaload, 1), (33, .aaload, 1), (34, .aload_n 1, 1), (35, .getfield 33, 3), (38, .aload_n 1, 1), (39, .getfield 37, 3), (42, .iload_n 3, 1), (43, .iaload, 1), (44, .aaload, 1), (45, .iload_n 2, 1), (46, .invokestatic 70, 3), (49, .ifCond .eq 5, 3), (52, .iconst 0, 1), (53, .ireturn, 1), (54, .iinc 3 1, 3), (57, .goto (-42), 3), (60, .iconst 1, 1), (61, .ireturn, 1)] = true := by decide +kernel
set_option maxRecDepth 100000 in
set_option maxHeartbeats 4000000 in
theorem kg_X10_sameOutcomes_0 {G : kG} {q : kP} {d : Nat} {x : gd} {P : Option gv → gd → Prop} (hq : kV q) {o : Nat} (ho : kiT q o) {a1 : Nat} (ha1 : kiT q a1) (l2 : Int32)
    (h : (((x.1 o 3) = (x.1 a1 3) → KT G q (d + 1) zk_X10_sameOutcomes 15 [(0, vr o), (1, vr a1), (2, vi l2), (3, vi 0)] [] x P) ∧ (¬ ((x.1 o 3) = (x.1 a1 3)) → P (some (vi 0)) x))) :
    KT G q (d + 1) zk_X10_sameOutcomes 0 [(0, vr o), (1, vr a1), (2, vi l2)] [] x P := by
  refine T_aload_n 0 (dk dtk_X10_sameOutcomes 0 rfl) rfl rfl ?_
  refine T_getI o 3 (dk dtk_X10_sameOutcomes 1 rfl) kfl_X10_51 (kk_T0 ho) (kl_T0 hq ho) (by decide) rfl ?_
  refine T_aload_n 1 (dk dtk_X10_sameOutcomes 2 rfl) rfl rfl ?_
  refine T_getI a1 3 (dk dtk_X10_sameOutcomes 3 rfl) kfl_X10_51 (kk_T0 ha1) (kl_T0 hq ha1) (by decide) rfl ?_
  refine T_icmp_eq 13 (dk dtk_X10_sameOutcomes 4 rfl) (by decide) (fun c1 => ?_) (fun c1 => ?_)
  · have h := h.1 c1
    refine T_iconst (v := 0) (dk dtk_X10_sameOutcomes 7 rfl) (by decide +kernel) ?_
    refine T_istore_n (lv2 := [(3, vi 0), (0, vr o), (1, vr a1), (2, vi l2)]) (dk dtk_X10_sameOutcomes 8 rfl) rfl (by decide) rfl ?_
    exact T_sub [1, 2, 3, 0] rfl h
  · have h := h.2 c1
    refine T_iconst (v := 0) (dk dtk_X10_sameOutcomes 5 rfl) (by decide +kernel) ?_
    exact KT_iret (dk dtk_X10_sameOutcomes 6 rfl) rfl rfl h
set_option maxRecDepth 100000 in
set_option maxHeartbeats 4000000 in
theorem kg_X10_sameOutcomes_15 {G : kG} {q : kP} {d : Nat} {x : gd} {P : Option gv → gd → Prop} (hq : kV q) {o : Nat} (ho : kiT q o) {a1 : Nat} (ha1 : kiT q a1) (l2 : Int32) (l3 : Int32)
    (h : (((x.1 o 3) ≤ l3 → P (some (vi 1)) x) ∧ (¬ ((x.1 o 3) ≤ l3) → vp_in l3 3000 ∧ vp_in (x.1 (o + 14) (l3 : Int32).toNatClampNeg) 3000 ∧ (∀ u4, u4 = (kf q).1 (o + 13) (x.1 (o + 14) (l3 : Int32).toNatClampNeg : Int32).toNatClampNeg → vp_in l3 3000 ∧ vp_in (x.1 (a1 + 14) (l3 : Int32).toNatClampNeg) 3000 ∧ (∀ u7, u7 = (kf q).1 (a1 + 13) (x.1 (a1 + 14) (l3 : Int32).toNatClampNeg : Int32).toNatClampNeg → ∃ c8, u4 = some c8 ∧ kK c8 = .inr (.int, 24) ∧ c8 ∈ (kf q).2.1 ∧ ∃ c11, u7 = some c11 ∧ kK c11 = .inr (.int, 24) ∧ c11 ∈ (kf q).2.1 ∧ KT G q d zk_X10_order 0 [(0, vr c8), (1, vr c11), (2, vi l2)] [] x (ri (fun r15 x14 => ((r15 = (0 : Int32) → KT G q (d + 1) zk_X10_sameOutcomes 15 [(0, vr o), (1, vr a1), (2, vi l2), (3, vi (l3 + 1))] [] x14 P) ∧ (¬ (r15 = (0 : Int32)) → P (some (vi 0)) x14))))))))) :
    KT G q (d + 1) zk_X10_sameOutcomes 15 [(0, vr o), (1, vr a1), (2, vi l2), (3, vi l3)] [] x P := by
  refine T_iload_n 3 (dk dtk_X10_sameOutcomes 9 rfl) rfl rfl ?_
  refine T_aload_n 0 (dk dtk_X10_sameOutcomes 10 rfl) rfl rfl ?_
  refine T_getI o 3 (dk dtk_X10_sameOutcomes 11 rfl) kfl_X10_51 (kk_T0 ho) (kl_T0 hq ho) (by decide) rfl ?_
  refine T_icmp_ge 60 (dk dtk_X10_sameOutcomes 12 rfl) (by decide) (fun c1 => ?_) (fun c1 => ?_)
  · have h := h.1 c1
    refine T_iconst (v := 1) (dk dtk_X10_sameOutcomes 34 rfl) (by decide +kernel) ?_
    exact KT_iret (dk dtk_X10_sameOutcomes 35 rfl) rfl rfl h
  · have h := h.2 c1
    refine T_aload_n 0 (dk dtk_X10_sameOutcomes 13 rfl) rfl rfl ?_
    refine T_getR o 12 (o + 13) (dk dtk_X10_sameOutcomes 14 rfl) kfl_X10_33 (kk_T0 ho) (kl_T0 hq ho) (by decide) rfl (kr_T_12 ho) ?_
    refine T_aload_n 0 (dk dtk_X10_sameOutcomes 15 rfl) rfl rfl ?_
    refine T_getR o 13 (o + 14) (dk dtk_X10_sameOutcomes 16 rfl) kfl_X10_37 (kk_T0 ho) (kl_T0 hq ho) (by decide) rfl (kr_T_13 ho) ?_
    refine T_iload_n 3 (dk dtk_X10_sameOutcomes 17 rfl) rfl rfl ?_
    obtain ⟨h2, h⟩ := h
    refine T_iald (o + 14) 3000 (dk dtk_X10_sameOutcomes 18 rfl) (kk_T14 ho) (kl_T14 hq ho) h2 ?_
    obtain ⟨h3, h⟩ := h
    obtain ⟨u4, eu4⟩ : ∃ z, z = (kf q).1 (o + 13) (x.1 (o + 14) (l3 : Int32).toNatClampNeg : Int32).toNatClampNeg := ⟨_, rfl⟩
    have h := h u4 eu4
    refine T_aaldI (o + 13) 3000 (dk dtk_X10_sameOutcomes 19 rfl) (kk_T13 ho) (kl_T13 hq ho) h3 ?_
    rw [← eu4]
    refine T_aload_n 1 (dk dtk_X10_sameOutcomes 20 rfl) rfl rfl ?_
    refine T_getR a1 12 (a1 + 13) (dk dtk_X10_sameOutcomes 21 rfl) kfl_X10_33 (kk_T0 ha1) (kl_T0 hq ha1) (by decide) rfl (kr_T_12 ha1) ?_
    refine T_aload_n 1 (dk dtk_X10_sameOutcomes 22 rfl) rfl rfl ?_
    refine T_getR a1 13 (a1 + 14) (dk dtk_X10_sameOutcomes 23 rfl) kfl_X10_37 (kk_T0 ha1) (kl_T0 hq ha1) (by decide) rfl (kr_T_13 ha1) ?_
    refine T_iload_n 3 (dk dtk_X10_sameOutcomes 24 rfl) rfl rfl ?_
    obtain ⟨h5, h⟩ := h
    refine T_iald (a1 + 14) 3000 (dk dtk_X10_sameOutcomes 25 rfl) (kk_T14 ha1) (kl_T14 hq ha1) h5 ?_
    obtain ⟨h6, h⟩ := h
    obtain ⟨u7, eu7⟩ : ∃ z, z = (kf q).1 (a1 + 13) (x.1 (a1 + 14) (l3 : Int32).toNatClampNeg : Int32).toNatClampNeg := ⟨_, rfl⟩
    have h := h u7 eu7
    refine T_aaldI (a1 + 13) 3000 (dk dtk_X10_sameOutcomes 26 rfl) (kk_T13 ha1) (kl_T13 hq ha1) h6 ?_
    rw [← eu7]
    refine T_iload_n 2 (dk dtk_X10_sameOutcomes 27 rfl) rfl rfl ?_
    obtain ⟨c8, rfl, g9, g10, h⟩ := h
    obtain ⟨c11, rfl, g12, g13, h⟩ := h
    refine KC_Si [vr c8, vr c11, vi l2] [] rfl (dk dtk_X10_sameOutcomes 28 rfl) kcs_X10_70 rfl (Nat.le_of_ble_eq_true rfl) (Nat.le_of_ble_eq_true rfl) (gok_i (av_c (gkr (kl_T0 hq ho)) (av_c (gkr (kl_T0 hq ha1)) (av_c rfl (av_c rfl av_n)))) as_n) rfl h (fun r15 x14 h => ?_)
    refine T_if_eq 54 (dk dtk_X10_sameOutcomes 29 rfl) (by decide) (fun c16 => ?_) (fun c16 => ?_)
    · have h := h.1 c16
      refine T_iinc (v := l3 + 1) (lv2 := [(3, vi (l3 + 1)), (0, vr o), (1, vr a1), (2, vi l2)]) 3 (dk dtk_X10_sameOutcomes 32 rfl) rfl rfl (by decide) rfl ?_
      refine T_goto 15 (dk dtk_X10_sameOutcomes 33 rfl) (by decide) ?_
      exact T_sub [1, 2, 3, 0] rfl h
    · have h := h.2 c16
      refine T_iconst (v := 0) (dk dtk_X10_sameOutcomes 30 rfl) (by decide +kernel) ?_
      exact KT_iret (dk dtk_X10_sameOutcomes 31 rfl) rfl rfl h
set_option maxRecDepth 100000 in
theorem dtk_X2_explore : dck cX2_explore [(0, .aload_n 0, 1), (1, .aload_n 3, 1), (2, .putfield 44, 3), (5, .aload_n 0, 1), (6, .getfield 44, 3), (9, .iconst 1, 1), (10, .aload_n 0, 1), (11, .getfield 9, 3), (14, .getfield 48, 3), (17, .ishl, 1), (18, .iconst 1, 1), (19, .isub, 1), (20, .invokevirtual 54, 3), (23, .aload_n 0, 1), (24, .getfield 33, 3), (27, .iconst 0, 1), (28, .invokestatic 60, 3), (31, .aload_n 0, 1), (32, .getfield 20, 3), (35, .iload_n 1, 1), (36, .invokevirtual 66, 3), (39, .aload_n 0, 1), (40, .iconst (-1), 1), (41, .iconst (-1), 1), (42, .iload_n 2, 1), (43, .invokevirtual 69, 3), (46, .iconst 0, 1), (47, .istore 4, 2), (49, .iload 4, 2), (51, .aload_n 0, 1), (52, .getfield 44, 3), (55, .getfield 73, 3), (58, .if_icmp .ge 95, 3), (61, .iload 4, 2), (63, .sipush 3000, 3), (66, .if_icmp .ge 87, 3), (69, .aload_n 0, 1), (70, .iload 4, 2), (72, .invokevirtual 76, 3), (75, .aload_n 0, 1), (76, .getfield 20, 3), (79, .invokevirtual 79, 3), (82, .aload_n 0, 1), (83, .invokevirtual 82, 3), (86, .aload_n 0, 1), (87, .iload 4, 2), (89, .invokevirtual 85, 3), (92, .iconst 0, 1), (93, .istore 5, 2), (95, .iload 5, 2), (97, .aload_n 0, 1), (98, .getfield 20, 3), (101, .getfield 88, 3), (104, .if_icmp .ge 43, 3), (107, .aload_n 0, 1), (108, .getfield 44, 3), (111, .getfield 91, 3), (114, .ifCond .ne 33, 3), (117, .aload_n 0, 1), (118, .iload 4, 2), (120, .invokevirtual 76, 3), (123, .aload_n 0, 1), (124, .getfield 20, 3), (127, .iload 5, 2), (129, .invokevirtual 95, 3), (132, .aload_n 0, 1), (133, .iload 4, 2), (135, .iload 5, 2), (137, .iload_n 2, 1), (138, .invokevirtual 69, 3), (141, .iinc 5 1, 3), (144, .goto (-49), 3), (147, .iinc 4 1, 3), (150, .goto (-101), 3), (153, .return_, 1)] = true := by decide +kernel
set_option maxRecDepth 100000 in
theorem dtk_X2_addState : dck cX2_addState [(0, .aload_n 0, 1), (1, .invokevirtual 98, 3), (4, .ifCond .eq 4, 3), (7, .return_, 1), (8, .aload_n 0, 1), (9, .getfield 44, 3), (12, .getfield 73, 3), (15, .iload_n 3, 1), (16, .if_icmp .lt 14, 3), (19, .aload_n 0, 1), (20, .getfield 44, 3), (23, .iconst 1, 1), (24, .putfield 91, 3), (27, .goto 9, 3), (30, .aload_n 0, 1), (31, .iload_n 1, 1), (32, .iload_n 2, 1), (33, .invokevirtual 102, 3), (36, .return_, 1)] = true := by decide +kernel
set_option maxRecDepth 100000 in
theorem dtk_X2_recall : dck cX2_recall [(0, .aload_n 0, 1), (1, .getfield 26, 3), (4, .iload_n 1, 1), (5, .aaload, 1), (6, .iconst 0, 1), (7, .aload_n 0, 1), (8, .getfield 20, 3), (11, .getfield 106, 3), (14, .iconst 0, 1), (15, .aload_n 0, 1), (16, .getfield 20, 3), (19, .getfield 109, 3), (22, .invokestatic 112, 3), (25, .return_, 1)] = true := by decide +kernel
set_option maxRecDepth 100000 in
set_option maxHeartbeats 4000000 in
theorem kg_X2_recall_0 {G : kG} {q : kP} {d : Nat} {x : gd} {P : Option gv → gd → Prop} (hq : kV q) (he : q.ex = true) (l1 : Int32)
    (h : vp_in l1 3000 ∧ (∀ u2, u2 = (kf q).1 203 (l1 : Int32).toNatClampNeg → ∃ c3, u2 = some c3 ∧ kK c3 = .inr (.int, 228) ∧ c3 ∈ (kf q).2.1 ∧ ¬ (0 : Int32) < 0 ∧ ¬ (0 : Int32) < 0 ∧ ¬ (x.1 220 5) < 0 ∧ (0 : Int32).toNatClampNeg + (x.1 220 5 : Int32).toNatClampNeg ≤ 228 ∧ (0 : Int32).toNatClampNeg + (x.1 220 5 : Int32).toNatClampNeg ≤ 228 ∧ (∀ x11 : gd, x11 = scp x c3 225 (0 : Int32).toNatClampNeg (0 : Int32).toNatClampNeg (x.1 220 5 : Int32).toNatClampNeg → P none x11))) :
    KT G q (d + 2) zk_X2_recall 0 [(0, vr 200), (1, vi l1)] [] x P := by
  refine T_aload_n 0 (dk dtk_X2_recall 0 rfl) rfl rfl ?_
  refine T_getR 200 2 203 (dk dtk_X2_recall 1 rfl) kfl_X2_26 kk_200 (kl_200 hq he) (by decide) rfl kr_200_2 ?_
  refine T_iload_n 1 (dk dtk_X2_recall 2 rfl) rfl rfl ?_
  obtain ⟨h1, h⟩ := h
  obtain ⟨u2, eu2⟩ : ∃ z, z = (kf q).1 203 (l1 : Int32).toNatClampNeg := ⟨_, rfl⟩
  have h := h u2 eu2
  refine T_aaldI 203 3000 (dk dtk_X2_recall 3 rfl) kk_203 (kl_203 hq he) h1 ?_
  rw [← eu2]
  refine T_iconst (v := 0) (dk dtk_X2_recall 4 rfl) (by decide +kernel) ?_
  refine T_aload_n 0 (dk dtk_X2_recall 5 rfl) rfl rfl ?_
  refine T_getR 200 1 220 (dk dtk_X2_recall 6 rfl) kfl_X2_20 kk_200 (kl_200 hq he) (by decide) rfl kr_200_1 ?_
  refine T_getR 220 4 225 (dk dtk_X2_recall 7 rfl) kfl_X2_106 kk_220 (kl_220 hq he) (by decide) rfl kr_220_4 ?_
  refine T_iconst (v := 0) (dk dtk_X2_recall 8 rfl) (by decide +kernel) ?_
  refine T_aload_n 0 (dk dtk_X2_recall 9 rfl) rfl rfl ?_
  refine T_getR 200 1 220 (dk dtk_X2_recall 10 rfl) kfl_X2_20 kk_200 (kl_200 hq he) (by decide) rfl kr_200_1 ?_
  refine T_getI 220 5 (dk dtk_X2_recall 11 rfl) kfl_X2_109 kk_220 (kl_220 hq he) (by decide) rfl ?_
  obtain ⟨c3, rfl, g4, g5, h⟩ := h
  refine T_sub (lv2 := []) [] rfl ?_
  obtain ⟨h6, h7, h8, h9, h10, h⟩ := h
  obtain ⟨x11, ex11⟩ : ∃ z, z = scp x c3 225 (0 : Int32).toNatClampNeg (0 : Int32).toNatClampNeg (x.1 220 5 : Int32).toNatClampNeg := ⟨_, rfl⟩
  have h := h x11 ex11
  refine T_copy c3 225 228 228 (dk dtk_X2_recall 12 rfl) kcy_X2_112 g4 g5 kk_225 (kl_225 hq he) (by omega) (Nat.le_of_ble_eq_true rfl) h6 h7 h8 h9 h10 ?_
  rw [← ex11]
  exact KT_vret (dk dtk_X2_recall 13 rfl) rfl h
set_option maxRecDepth 100000 in
theorem dtk_X2_isKept : dck cX2_isKept [(0, .aload_n 0, 1), (1, .aload_n 0, 1), (2, .getfield 20, 3), (5, .invokevirtual 118, 3), (8, .putfield 122, 3), (11, .aload_n 0, 1), (12, .aload_n 0, 1), (13, .getfield 122, 3), (16, .sipush 8191, 3), (19, .iand, 1), (20, .putfield 124, 3), (23, .iconst 0, 1), (24, .istore_n 1, 1), (25, .iload_n 1, 1), (26, .sipush 8192, 3), (29, .if_icmp .ge 78, 3), (32, .aload_n 0, 1), (33, .getfield 33, 3), (36, .aload_n 0, 1), (37, .getfield 124, 3), (40, .iaload, 1), (41, .ifCond .eq 66, 3), (44, .aload_n 0, 1), (45, .getfield 33, 3), (48, .aload_n 0, 1), (49, .getfield 124, 3), (52, .iaload, 1), (53, .iconst 1, 1), (54, .isub, 1), (55, .istore_n 2, 1), (56, .aload_n 0, 1), (57, .getfield 30, 3), (60, .iload_n 2, 1), (61, .iaload, 1), (62, .aload_n 0, 1), (63, .getfield 122, 3), (66, .if_icmp .ne 21, 3), (69, .aload_n 0, 1), (70, .getfield 20, 3), (73, .aload_n 0, 1), (74, .getfield 26, 3), (77, .iload_n 2, 1), (78, .aaload, 1), (79, .invokevirtual 127, 3), (82, .ifCond .eq 5, 3), (85, .iconst 1, 1), (86, .ireturn, 1), (87, .aload_n 0, 1), (88, .aload_n 0, 1), (89, .getfield 124, 3), (92, .iconst 1, 1), (93, .iadd, 1), (94, .sipush 8191, 3), (97, .iand, 1), (98, .putfield 124, 3), (101, .iinc 1 1, 3), (104, .goto (-79), 3), (107, .iconst 0, 1), (108, .ireturn, 1)] = true := by decide +kernel
set_option maxRecDepth 100000 in
set_option maxHeartbeats 4000000 in
theorem kg_X2_isKept_0 {G : kG} {q : kP} {d : Nat} {x : gd} {P : Option gv → gd → Prop} (hq : kV q) (he : q.ex = true)
    (h : KT G q d zk_X5_mix 0 [(0, vr 220)] [] x (ri (fun r2 x1 => (∀ x3 : gd, x3 = si x1 200 6 r2 → (∀ x4 : gd, x4 = si x3 200 5 ((x3.1 200 6) &&& 8191) → KT G q (d + 1) zk_X2_isKept 25 [(0, vr 200), (1, vi 0)] [] x4 P))))) :
    KT G q (d + 1) zk_X2_isKept 0 [(0, vr 200)] [] x P := by
  refine T_aload_n 0 (dk dtk_X2_isKept 0 rfl) rfl rfl ?_
  refine T_aload_n 0 (dk dtk_X2_isKept 1 rfl) rfl rfl ?_
  refine T_getR 200 1 220 (dk dtk_X2_isKept 2 rfl) kfl_X2_20 kk_200 (kl_200 hq he) (by decide) rfl kr_200_1 ?_
  refine KC_Vi [] [vr 200] rfl (dk dtk_X2_isKept 3 rfl) kcv_X2_118 rfl kk_220 rfl (kl_220 hq he) (Nat.le_of_ble_eq_true rfl) (Nat.le_of_ble_eq_true rfl) (gok_i (av_c (gkr (kl_200 hq he)) av_n) (as_c (gkr (kl_200 hq he)) as_n)) rfl h (fun r2 x1 h => ?_)
  obtain ⟨x3, ex3⟩ : ∃ z, z = si x1 200 6 r2 := ⟨_, rfl⟩
  have h := h x3 ex3
  refine T_putI 200 6 (dk dtk_X2_isKept 4 rfl) kfl_X2_122 kk_200 (kl_200 hq he) (by decide) rfl ⟨rfl, rfl⟩ ?_
  rw [← ex3]
  refine T_aload_n 0 (dk dtk_X2_isKept 5 rfl) rfl rfl ?_
  refine T_aload_n 0 (dk dtk_X2_isKept 6 rfl) rfl rfl ?_
  refine T_getI 200 6 (dk dtk_X2_isKept 7 rfl) kfl_X2_122 kk_200 (kl_200 hq he) (by decide) rfl ?_
  refine T_sipush (v := 8191) (dk dtk_X2_isKept 8 rfl) (by decide +kernel) ?_
  refine T_iand (dk dtk_X2_isKept 9 rfl) ?_
  obtain ⟨x4, ex4⟩ : ∃ z, z = si x3 200 5 ((x3.1 200 6) &&& 8191) := ⟨_, rfl⟩
  have h := h x4 ex4
  refine T_putI 200 5 (dk dtk_X2_isKept 10 rfl) kfl_X2_124 kk_200 (kl_200 hq he) (by decide) rfl ⟨rfl, rfl⟩ ?_
  rw [← ex4]
  refine T_iconst (v := 0) (dk dtk_X2_isKept 11 rfl) (by decide +kernel) ?_
  refine T_istore_n (lv2 := [(1, vi 0), (0, vr 200)]) (dk dtk_X2_isKept 12 rfl) rfl (by decide) rfl ?_
  exact T_sub [1, 0] rfl h
set_option maxRecDepth 100000 in
set_option maxHeartbeats 4000000 in
theorem kg_X2_isKept_25 {G : kG} {q : kP} {d : Nat} {x : gd} {P : Option gv → gd → Prop} (hq : kV q) (he : q.ex = true) (l1 : Int32)
    (h : (((8192 : Int32) ≤ l1 → P (some (vi 0)) x) ∧ (¬ ((8192 : Int32) ≤ l1) → vp_in (x.1 200 5) 8192 ∧ (((x.1 205 (x.1 200 5 : Int32).toNatClampNeg) = (0 : Int32) → P (some (vi 0)) x) ∧ (¬ ((x.1 205 (x.1 200 5 : Int32).toNatClampNeg) = (0 : Int32)) → vp_in (x.1 200 5) 8192 ∧ vp_in ((x.1 205 (x.1 200 5 : Int32).toNatClampNeg) - 1) 3000 ∧ ((¬ ((x.1 204 ((x.1 205 (x.1 200 5 : Int32).toNatClampNeg) - 1 : Int32).toNatClampNeg) = (x.1 200 6)) → (∀ x7 : gd, x7 = si x 200 5 (((x.1 200 5) + 1) &&& 8191) → KT G q (d + 1) zk_X2_isKept 25 [(0, vr 200), (1, vi (l1 + 1))] [] x7 P)) ∧ ((x.1 204 ((x.1 205 (x.1 200 5 : Int32).toNatClampNeg) - 1 : Int32).toNatClampNeg) = (x.1 200 6) → vp_in ((x.1 205 (x.1 200 5 : Int32).toNatClampNeg) - 1) 3000 ∧ (∀ u9, u9 = (kf q).1 203 ((x.1 205 (x.1 200 5 : Int32).toNatClampNeg) - 1 : Int32).toNatClampNeg → ∃ c10, u9 = some c10 ∧ kK c10 = .inr (.int, 228) ∧ c10 ∈ (kf q).2.1 ∧ KT G q d zk_X5_isSame 0 [(0, vr 220), (1, vr c10)] [] x (ri (fun r14 x13 => ((r14 = (0 : Int32) → (∀ x16 : gd, x16 = si x13 200 5 (((x13.1 200 5) + 1) &&& 8191) → KT G q (d + 1) zk_X2_isKept 25 [(0, vr 200), (1, vi (l1 + 1))] [] x16 P)) ∧ (¬ (r14 = (0 : Int32)) → P (some (vi 1)) x13)))))))))))) :
    KT G q (d + 1) zk_X2_isKept 25 [(0, vr 200), (1, vi l1)] [] x P := by
  refine T_iload_n 1 (dk dtk_X2_isKept 13 rfl) rfl rfl ?_
  refine T_sipush (v := 8192) (dk dtk_X2_isKept 14 rfl) (by decide +kernel) ?_
  refine T_icmp_ge 107 (dk dtk_X2_isKept 15 rfl) (by decide) (fun c1 => ?_) (fun c1 => ?_)
  · have h := h.1 c1
    refine T_iconst (v := 0) (dk dtk_X2_isKept 57 rfl) (by decide +kernel) ?_
    exact KT_iret (dk dtk_X2_isKept 58 rfl) rfl rfl h
  · have h := h.2 c1
    refine T_aload_n 0 (dk dtk_X2_isKept 16 rfl) rfl rfl ?_
    refine T_getR 200 4 205 (dk dtk_X2_isKept 17 rfl) kfl_X2_33 kk_200 (kl_200 hq he) (by decide) rfl kr_200_4 ?_
    refine T_aload_n 0 (dk dtk_X2_isKept 18 rfl) rfl rfl ?_
    refine T_getI 200 5 (dk dtk_X2_isKept 19 rfl) kfl_X2_124 kk_200 (kl_200 hq he) (by decide) rfl ?_
    obtain ⟨h2, h⟩ := h
    refine T_iald 205 8192 (dk dtk_X2_isKept 20 rfl) kk_205 (kl_205 hq he) h2 ?_
    refine T_if_eq 107 (dk dtk_X2_isKept 21 rfl) (by decide) (fun c3 => ?_) (fun c3 => ?_)
    · have h := h.1 c3
      refine T_iconst (v := 0) (dk dtk_X2_isKept 57 rfl) (by decide +kernel) ?_
      exact KT_iret (dk dtk_X2_isKept 58 rfl) rfl rfl h
    · have h := h.2 c3
      refine T_aload_n 0 (dk dtk_X2_isKept 22 rfl) rfl rfl ?_
      refine T_getR 200 4 205 (dk dtk_X2_isKept 23 rfl) kfl_X2_33 kk_200 (kl_200 hq he) (by decide) rfl kr_200_4 ?_
      refine T_aload_n 0 (dk dtk_X2_isKept 24 rfl) rfl rfl ?_
      refine T_getI 200 5 (dk dtk_X2_isKept 25 rfl) kfl_X2_124 kk_200 (kl_200 hq he) (by decide) rfl ?_
      obtain ⟨h4, h⟩ := h
      refine T_iald 205 8192 (dk dtk_X2_isKept 26 rfl) kk_205 (kl_205 hq he) h4 ?_
      refine T_iconst (v := 1) (dk dtk_X2_isKept 27 rfl) (by decide +kernel) ?_
      refine T_isub (dk dtk_X2_isKept 28 rfl) ?_
      refine T_istore_n (lv2 := [(2, vi ((x.1 205 (x.1 200 5 : Int32).toNatClampNeg) - 1)), (0, vr 200), (1, vi l1)]) (dk dtk_X2_isKept 29 rfl) rfl (by decide) rfl ?_
      refine T_aload_n 1 (dk dtk_X2_isKept 30 rfl) rfl rfl ?_
      refine T_getR 200 3 204 (dk dtk_X2_isKept 31 rfl) kfl_X2_30 kk_200 (kl_200 hq he) (by decide) rfl kr_200_3 ?_
      refine T_iload_n 0 (dk dtk_X2_isKept 32 rfl) rfl rfl ?_
      obtain ⟨h5, h⟩ := h
      refine T_iald 204 3000 (dk dtk_X2_isKept 33 rfl) kk_204 (kl_204 hq he) h5 ?_
      refine T_aload_n 1 (dk dtk_X2_isKept 34 rfl) rfl rfl ?_
      refine T_getI 200 6 (dk dtk_X2_isKept 35 rfl) kfl_X2_122 kk_200 (kl_200 hq he) (by decide) rfl ?_
      refine T_icmp_ne 87 (dk dtk_X2_isKept 36 rfl) (by decide) (fun c6 => ?_) (fun c6 => ?_)
      · have h := h.1 c6
        refine T_aload_n 1 (dk dtk_X2_isKept 47 rfl) rfl rfl ?_
        refine T_aload_n 1 (dk dtk_X2_isKept 48 rfl) rfl rfl ?_
        refine T_getI 200 5 (dk dtk_X2_isKept 49 rfl) kfl_X2_124 kk_200 (kl_200 hq he) (by decide) rfl ?_
        refine T_iconst (v := 1) (dk dtk_X2_isKept 50 rfl) (by decide +kernel) ?_
        refine T_iadd (dk dtk_X2_isKept 51 rfl) ?_
        refine T_sipush (v := 8191) (dk dtk_X2_isKept 52 rfl) (by decide +kernel) ?_
        refine T_iand (dk dtk_X2_isKept 53 rfl) ?_
        obtain ⟨x7, ex7⟩ : ∃ z, z = si x 200 5 (((x.1 200 5) + 1) &&& 8191) := ⟨_, rfl⟩
        have h := h x7 ex7
        refine T_putI 200 5 (dk dtk_X2_isKept 54 rfl) kfl_X2_124 kk_200 (kl_200 hq he) (by decide) rfl ⟨rfl, rfl⟩ ?_
        rw [← ex7]
        refine T_iinc (v := l1 + 1) (lv2 := [(1, vi (l1 + 1)), (2, vi ((x.1 205 (x.1 200 5 : Int32).toNatClampNeg) - 1)), (0, vr 200)]) 2 (dk dtk_X2_isKept 55 rfl) rfl rfl (by decide) rfl ?_
        refine T_goto 25 (dk dtk_X2_isKept 56 rfl) (by decide) ?_
        exact T_sub [2, 0] rfl h
      · have h := h.2 c6
        refine T_aload_n 1 (dk dtk_X2_isKept 37 rfl) rfl rfl ?_
        refine T_getR 200 1 220 (dk dtk_X2_isKept 38 rfl) kfl_X2_20 kk_200 (kl_200 hq he) (by decide) rfl kr_200_1 ?_
        refine T_aload_n 1 (dk dtk_X2_isKept 39 rfl) rfl rfl ?_
        refine T_getR 200 2 203 (dk dtk_X2_isKept 40 rfl) kfl_X2_26 kk_200 (kl_200 hq he) (by decide) rfl kr_200_2 ?_
        refine T_iload_n 0 (dk dtk_X2_isKept 41 rfl) rfl rfl ?_
        obtain ⟨h8, h⟩ := h
        obtain ⟨u9, eu9⟩ : ∃ z, z = (kf q).1 203 ((x.1 205 (x.1 200 5 : Int32).toNatClampNeg) - 1 : Int32).toNatClampNeg := ⟨_, rfl⟩
        have h := h u9 eu9
        refine T_aaldI 203 3000 (dk dtk_X2_isKept 42 rfl) kk_203 (kl_203 hq he) h8 ?_
        rw [← eu9]
        obtain ⟨c10, rfl, g11, g12, h⟩ := h
        refine T_sub (lv2 := [(0, vr 200), (1, vi l1)]) [1, 2] rfl ?_
        refine KC_Vi [vr c10] [] rfl (dk dtk_X2_isKept 43 rfl) kcv_X2_127 rfl kk_220 rfl (kl_220 hq he) (Nat.le_of_ble_eq_true rfl) (Nat.le_of_ble_eq_true rfl) (gok_i (av_c (gkr (kl_200 hq he)) (av_c rfl av_n)) as_n) rfl h (fun r14 x13 h => ?_)
        refine T_if_eq 87 (dk dtk_X2_isKept 44 rfl) (by decide) (fun c15 => ?_) (fun c15 => ?_)
        · have h := h.1 c15
          refine T_aload_n 0 (dk dtk_X2_isKept 47 rfl) rfl rfl ?_
          refine T_aload_n 0 (dk dtk_X2_isKept 48 rfl) rfl rfl ?_
          refine T_getI 200 5 (dk dtk_X2_isKept 49 rfl) kfl_X2_124 kk_200 (kl_200 hq he) (by decide) rfl ?_
          refine T_iconst (v := 1) (dk dtk_X2_isKept 50 rfl) (by decide +kernel) ?_
          refine T_iadd (dk dtk_X2_isKept 51 rfl) ?_
          refine T_sipush (v := 8191) (dk dtk_X2_isKept 52 rfl) (by decide +kernel) ?_
          refine T_iand (dk dtk_X2_isKept 53 rfl) ?_
          obtain ⟨x16, ex16⟩ : ∃ z, z = si x13 200 5 (((x13.1 200 5) + 1) &&& 8191) := ⟨_, rfl⟩
          have h := h x16 ex16
          refine T_putI 200 5 (dk dtk_X2_isKept 54 rfl) kfl_X2_124 kk_200 (kl_200 hq he) (by decide) rfl ⟨rfl, rfl⟩ ?_
          rw [← ex16]
          refine T_iinc (v := l1 + 1) (lv2 := [(1, vi (l1 + 1)), (0, vr 200)]) 1 (dk dtk_X2_isKept 55 rfl) rfl rfl (by decide) rfl ?_
          refine T_goto 25 (dk dtk_X2_isKept 56 rfl) (by decide) ?_
          exact T_sub [1, 0] rfl h
        · have h := h.2 c15
          refine T_iconst (v := 1) (dk dtk_X2_isKept 45 rfl) (by decide +kernel) ?_
          exact KT_iret (dk dtk_X2_isKept 46 rfl) rfl rfl h
set_option maxRecDepth 100000 in
theorem dtk_X2_keep : dck cX2_keep [(0, .aload_n 0, 1), (1, .getfield 44, 3), (4, .getfield 73, 3), (7, .istore_n 3, 1), (8, .iload_n 3, 1), (9, .sipush 3000, 3), (12, .if_icmp .lt 4, 3), (15, .return_, 1), (16, .aload_n 0, 1), (17, .getfield 26, 3), (20, .iload_n 3, 1), (21, .aaload, 1), (22, .ifnonnull 14, 3), (25, .aload_n 0, 1), (26, .getfield 26, 3), (29, .iload_n 3, 1), (30, .sipush 228, 3), (33, .newarray .int, 2), (35, .aastore, 1), (36, .aload_n 0, 1), (37, .getfield 20, 3), (40, .getfield 106, 3), (43, .iconst 0, 1), (44, .aload_n 0, 1), (45, .getfield 26, 3), (48, .iload_n 3, 1), (49, .aaload, 1), (50, .iconst 0, 1), (51, .aload_n 0, 1), (52, .getfield 20, 3), (55, .getfield 109, 3), (58, .invokestatic 112, 3), (61, .aload_n 0, 1), (62, .getfield 30, 3), (65, .iload_n 3, 1), (66, .aload_n 0, 1), (67, .getfield 122, 3), (70, .iastore, 1), (71, .aload_n 0, 1), (72, .getfield 33, 3), (75, .aload_n 0, 1), (76, .getfield 124, 3), (79, .iload_n 3, 1), (80, .iconst 1, 1), (81, .iadd, 1), (82, .iastore, 1), (83, .aload_n 0, 1), (84, .getfield 44, 3), (87, .iload_n 1, 1), (88, .iload_n 2, 1), (89, .invokevirtual 131, 3), (92, .return_, 1)] = true := by decide +kernel
set_option maxRecDepth 100000 in
theorem dtk_X2_inspect : dck cX2_inspect [(0, .aload_n 0, 1), (1, .getfield 44, 3), (4, .dup, 1), (5, .getfield 133, 3), (8, .aload_n 0, 1), (9, .getfield 20, 3), (12, .getfield 88, 3), (15, .iadd, 1), (16, .putfield 133, 3), (19, .iconst 0, 1), (20, .istore_n 2, 1), (21, .iload_n 2, 1), (22, .aload_n 0, 1), (23, .getfield 9, 3), (26, .getfield 136, 3), (29, .if_icmp .ge 34, 3), (32, .aload_n 0, 1), (33, .aload_n 0, 1), (34, .getfield 9, 3), (37, .getfield 139, 3), (40, .iload_n 2, 1), (41, .iaload, 1), (42, .invokevirtual 142, 3), (45, .ifCond .eq 12, 3), (48, .aload_n 0, 1), (49, .getfield 44, 3), (52, .iload_n 2, 1), (53, .iload_n 1, 1), (54, .invokevirtual 146, 3), (57, .iinc 2 1, 3), (60, .goto (-39), 3), (63, .aload_n 0, 1), (64, .getfield 20, 3), (67, .getfield 88, 3), (70, .ifCond .ne 8, 3), (73, .aload_n 0, 1), (74, .iload_n 1, 1), (75, .invokevirtual 149, 3), (78, .aload_n 0, 1), (79, .getfield 20, 3), (82, .invokevirtual 152, 3), (85, .ifCond .eq 13, 3), (88, .aload_n 0, 1), (89, .getfield 44, 3), (92, .bipush 9, 2), (94, .iload_n 1, 1), (95, .invokevirtual 146, 3), (98, .aload_n 0, 1), (99, .invokevirtual 155, 3), (102, .ifCond .eq 13, 3), (105, .aload_n 0, 1), (106, .getfield 44, 3), (109, .bipush 10, 2), (111, .iload_n 1, 1), (112, .invokevirtual 146, 3), (115, .return_, 1)] = true := by decide +kernel
set_option maxRecDepth 100000 in
theorem dtk_X2_inspectEnd : dck cX2_inspectEnd [(0, .aload_n 0, 1), (1, .getfield 44, 3), (4, .dup, 1), (5, .getfield 158, 3), (8, .iconst 1, 1), (9, .iadd, 1), (10, .putfield 158, 3), (13, .aload_n 0, 1), (14, .getfield 44, 3), (17, .aload_n 0, 1), (18, .getfield 20, 3), (21, .getfield 106, 3), (24, .aload_n 0, 1), (25, .getfield 9, 3), (28, .getfield 161, 3), (31, .invokevirtual 164, 3), (34, .aload_n 0, 1), (35, .getfield 20, 3), (38, .invokevirtual 167, 3), (41, .ifCond .eq 14, 3), (44, .aload_n 0, 1), (45, .getfield 44, 3), (48, .bipush 8, 2), (50, .iload_n 1, 1), (51, .invokevirtual 146, 3), (54, .return_, 1), (55, .iconst 0, 1), (56, .istore_n 2, 1), (57, .iload_n 2, 1), (58, .aload_n 0, 1), (59, .getfield 9, 3), (62, .getfield 170, 3), (65, .if_icmp .ge 36, 3), (68, .aload_n 0, 1), (69, .aload_n 0, 1), (70, .getfield 9, 3), (73, .getfield 173, 3), (76, .iload_n 2, 1), (77, .iaload, 1), (78, .invokevirtual 142, 3), (81, .ifCond .eq 14, 3), (84, .aload_n 0, 1), (85, .getfield 44, 3), (88, .iconst 4, 1), (89, .iload_n 2, 1), (90, .iadd, 1), (91, .iload_n 1, 1), (92, .invokevirtual 146, 3), (95, .iinc 2 1, 3), (98, .goto (-41), 3), (101, .return_, 1)] = true := by decide +kernel
set_option maxRecDepth 100000 in
theorem dtk_X2_isFalse : dck cX2_isFalse [(0, .aload_n 0, 1), (1, .getfield 9, 3), (4, .iload_n 1, 1), (5, .aload_n 0, 1), (6, .getfield 20, 3), (9, .getfield 106, 3), (12, .iconst 0, 1), (13, .iconst 0, 1), (14, .invokevirtual 176, 3), (17, .ifCond .eq 13, 3), (20, .aload_n 0, 1), (21, .getfield 9, 3), (24, .getfield 180, 3), (27, .ifCond .eq 7, 3), (30, .iconst 1, 1), (31, .goto 4, 3), (34, .iconst 0, 1), (35, .ireturn, 1)] = true := by decide +kernel
set_option maxRecDepth 100000 in
set_option maxHeartbeats 4000000 in
theorem kg_X2_isFalse_0 {G : kG} {q : kP} {d : Nat} {x : gd} {P : Option gv → gd → Prop} (hq : kV q) (he : q.ex = true) (l1 : Int32)
    (h : KT G q d zk_X0_work 0 [(0, vr 60), (1, vi l1), (2, vr 225), (3, vi 0), (4, vi 0)] [] x (ri (fun r2 x1 => ((r2 = (0 : Int32) → P (some (vi 1)) x1) ∧ (¬ (r2 = (0 : Int32)) → (((x1.1 60 5) = (0 : Int32) → P (some (vi 0)) x1) ∧ (¬ ((x1.1 60 5) = (0 : Int32)) → P (some (vi 1)) x1))))))) :
    KT G q (d + 1) zk_X2_isFalse 0 [(0, vr 200), (1, vi l1)] [] x P := by
  refine T_aload_n 0 (dk dtk_X2_isFalse 0 rfl) rfl rfl ?_
  refine T_getR 200 0 60 (dk dtk_X2_isFalse 1 rfl) kfl_X2_9 kk_200 (kl_200 hq he) (by decide) rfl kr_200_0 ?_
  refine T_iload_n 1 (dk dtk_X2_isFalse 2 rfl) rfl rfl ?_
  refine T_aload_n 0 (dk dtk_X2_isFalse 3 rfl) rfl rfl ?_
  refine T_getR 200 1 220 (dk dtk_X2_isFalse 4 rfl) kfl_X2_20 kk_200 (kl_200 hq he) (by decide) rfl kr_200_1 ?_
  refine T_getR 220 4 225 (dk dtk_X2_isFalse 5 rfl) kfl_X2_106 kk_220 (kl_220 hq he) (by decide) rfl kr_220_4 ?_
  refine T_iconst (v := 0) (dk dtk_X2_isFalse 6 rfl) (by decide +kernel) ?_
  refine T_iconst (v := 0) (dk dtk_X2_isFalse 7 rfl) (by decide +kernel) ?_
  refine T_sub (lv2 := [(0, vr 200)]) [0] rfl ?_
  refine KC_Vi [vi l1, vr 225, vi 0, vi 0] [] rfl (dk dtk_X2_isFalse 8 rfl) kcv_X2_176 rfl kk_60 rfl (kl_60 hq) (Nat.le_of_ble_eq_true rfl) (Nat.le_of_ble_eq_true rfl) (gok_i (av_c (gkr (kl_200 hq he)) av_n) as_n) rfl h (fun r2 x1 h => ?_)
  refine T_if_eq 30 (dk dtk_X2_isFalse 9 rfl) (by decide) (fun c3 => ?_) (fun c3 => ?_)
  · have h := h.1 c3
    refine T_iconst (v := 1) (dk dtk_X2_isFalse 14 rfl) (by decide +kernel) ?_
    refine T_goto 35 (dk dtk_X2_isFalse 15 rfl) (by decide) ?_
    exact KT_iret (dk dtk_X2_isFalse 17 rfl) rfl rfl h
  · have h := h.2 c3
    refine T_aload_n 0 (dk dtk_X2_isFalse 10 rfl) rfl rfl ?_
    refine T_getR 200 0 60 (dk dtk_X2_isFalse 11 rfl) kfl_X2_9 kk_200 (kl_200 hq he) (by decide) rfl kr_200_0 ?_
    refine T_getI 60 5 (dk dtk_X2_isFalse 12 rfl) kfl_X2_180 kk_60 (kl_60 hq) (by decide) rfl ?_
    refine T_if_eq 34 (dk dtk_X2_isFalse 13 rfl) (by decide) (fun c4 => ?_) (fun c4 => ?_)
    · have h := h.1 c4
      refine T_iconst (v := 0) (dk dtk_X2_isFalse 16 rfl) (by decide +kernel) ?_
      exact KT_iret (dk dtk_X2_isFalse 17 rfl) rfl rfl h
    · have h := h.2 c4
      refine T_iconst (v := 1) (dk dtk_X2_isFalse 14 rfl) (by decide +kernel) ?_
      refine T_goto 35 (dk dtk_X2_isFalse 15 rfl) (by decide) ?_
      exact KT_iret (dk dtk_X2_isFalse 17 rfl) rfl rfl h
set_option maxRecDepth 100000 in
theorem dtk_X2_inspectActs : dck cX2_inspectActs [(0, .iconst 0, 1), (1, .istore_n 1, 1), (2, .iconst 0, 1), (3, .istore_n 2, 1), (4, .iload_n 2, 1), (5, .aload_n 0, 1), (6, .getfield 20, 3), (9, .getfield 88, 3), (12, .if_icmp .ge 36, 3), (15, .aload_n 0, 1), (16, .getfield 20, 3), (19, .getfield 183, 3), (22, .iload_n 2, 1), (23, .iaload, 1), (24, .iconst (-1), 1), (25, .if_icmp .ne 17, 3), (28, .iload_n 1, 1), (29, .iconst 1, 1), (30, .aload_n 0, 1), (31, .getfield 20, 3), (34, .getfield 186, 3), (37, .iload_n 2, 1), (38, .iaload, 1), (39, .ishl, 1), (40, .ior, 1), (41, .istore_n 1, 1), (42, .iinc 2 1, 3), (45, .goto (-41), 3), (48, .iconst 0, 1), (49, .istore_n 2, 1), (50, .iconst 0, 1), (51, .istore_n 3, 1), (52, .iload_n 3, 1), (53, .aload_n 0, 1), (54, .getfield 9, 3), (57, .getfield 189, 3), (60, .if_icmp .ge 46, 3), (63, .aload_n 0, 1), (64, .getfield 38, 3), (67, .iload_n 3, 1), (68, .iconst (-1), 1), (69, .iastore, 1), (70, .iload_n 1, 1), (71, .iload_n 3, 1), (72, .ishr, 1), (73, .iconst 1, 1), (74, .iand, 1), (75, .iconst 1, 1), (76, .if_icmp .ne 11, 3), (79, .aload_n 0, 1), (80, .iload_n 3, 1), (81, .invokevirtual 192, 3), (84, .goto 16, 3), (87, .aload_n 0, 1), (88, .getfield 20, 3), (91, .iload_n 3, 1), (92, .invokevirtual 195, 3), (95, .ifCond .eq 5, 3), (98, .iconst 1, 1), (99, .istore_n 2, 1), (100, .iinc 3 1, 3), (103, .goto (-51), 3), (106, .iload_n 2, 1), (107, .ifCond .eq 16, 3), (110, .aload_n 0, 1), (111, .getfield 44, 3), (114, .dup, 1), (115, .getfield 198, 3), (118, .iconst 1, 1), (119, .iadd, 1), (120, .putfield 198, 3), (123, .return_, 1)] = true := by decide +kernel
set_option maxRecDepth 100000 in
set_option maxHeartbeats 4000000 in
theorem kg_X2_inspectActs_0 {G : kG} {q : kP} {d : Nat} {x : gd} {P : Option gv → gd → Prop} (hq : kV q) (he : q.ex = true)
    (h : KT G q (d + 1) zk_X2_inspectActs 4 [(0, vr 200), (1, vi 0), (2, vi 0)] [] x P) :
    KT G q (d + 1) zk_X2_inspectActs 0 [(0, vr 200)] [] x P := by
  refine T_iconst (v := 0) (dk dtk_X2_inspectActs 0 rfl) (by decide +kernel) ?_
  refine T_istore_n (lv2 := [(1, vi 0), (0, vr 200)]) (dk dtk_X2_inspectActs 1 rfl) rfl (by decide) rfl ?_
  refine T_iconst (v := 0) (dk dtk_X2_inspectActs 2 rfl) (by decide +kernel) ?_
  refine T_istore_n (lv2 := [(2, vi 0), (1, vi 0), (0, vr 200)]) (dk dtk_X2_inspectActs 3 rfl) rfl (by decide) rfl ?_
  exact T_sub [2, 1, 0] rfl h
set_option maxRecDepth 100000 in
set_option maxHeartbeats 4000000 in
theorem kg_X2_inspectActs_4 {G : kG} {q : kP} {d : Nat} {x : gd} {P : Option gv → gd → Prop} (hq : kV q) (he : q.ex = true) (l1 : Int32) (l2 : Int32)
    (h : (((x.1 220 13) ≤ l2 → KT G q (d + 1) zk_X2_inspectActs 52 [(0, vr 200), (1, vi l1), (2, vi 0), (3, vi 0)] [] x P) ∧ (¬ ((x.1 220 13) ≤ l2) → vp_in l2 84 ∧ ((¬ ((x.1 232 (l2 : Int32).toNatClampNeg) = (-1 : Int32)) → KT G q (d + 1) zk_X2_inspectActs 4 [(0, vr 200), (1, vi l1), (2, vi (l2 + 1))] [] x P) ∧ ((x.1 232 (l2 : Int32).toNatClampNeg) = (-1 : Int32) → vp_in l2 84 ∧ KT G q (d + 1) zk_X2_inspectActs 4 [(0, vr 200), (1, vi (l1 ||| (1 <<< ((x.1 231 (l2 : Int32).toNatClampNeg) &&& 31 : Int32)))), (2, vi (l2 + 1))] [] x P))))) :
    KT G q (d + 1) zk_X2_inspectActs 4 [(0, vr 200), (1, vi l1), (2, vi l2)] [] x P := by
  refine T_iload_n 2 (dk dtk_X2_inspectActs 4 rfl) rfl rfl ?_
  refine T_aload_n 0 (dk dtk_X2_inspectActs 5 rfl) rfl rfl ?_
  refine T_getR 200 1 220 (dk dtk_X2_inspectActs 6 rfl) kfl_X2_20 kk_200 (kl_200 hq he) (by decide) rfl kr_200_1 ?_
  refine T_getI 220 13 (dk dtk_X2_inspectActs 7 rfl) kfl_X2_88 kk_220 (kl_220 hq he) (by decide) rfl ?_
  refine T_icmp_ge 48 (dk dtk_X2_inspectActs 8 rfl) (by decide) (fun c1 => ?_) (fun c1 => ?_)
  · have h := h.1 c1
    refine T_iconst (v := 0) (dk dtk_X2_inspectActs 28 rfl) (by decide +kernel) ?_
    refine T_istore_n (lv2 := [(2, vi 0), (0, vr 200), (1, vi l1)]) (dk dtk_X2_inspectActs 29 rfl) rfl (by decide) rfl ?_
    refine T_iconst (v := 0) (dk dtk_X2_inspectActs 30 rfl) (by decide +kernel) ?_
    refine T_istore_n (lv2 := [(3, vi 0), (2, vi 0), (0, vr 200), (1, vi l1)]) (dk dtk_X2_inspectActs 31 rfl) rfl (by decide) rfl ?_
    exact T_sub [2, 3, 1, 0] rfl h
  · have h := h.2 c1
    refine T_aload_n 0 (dk dtk_X2_inspectActs 9 rfl) rfl rfl ?_
    refine T_getR 200 1 220 (dk dtk_X2_inspectActs 10 rfl) kfl_X2_20 kk_200 (kl_200 hq he) (by decide) rfl kr_200_1 ?_
    refine T_getR 220 11 232 (dk dtk_X2_inspectActs 11 rfl) kfl_X2_183 kk_220 (kl_220 hq he) (by decide) rfl kr_220_11 ?_
    refine T_iload_n 2 (dk dtk_X2_inspectActs 12 rfl) rfl rfl ?_
    obtain ⟨h2, h⟩ := h
    refine T_iald 232 84 (dk dtk_X2_inspectActs 13 rfl) kk_232 (kl_232 hq he) h2 ?_
    refine T_iconst (v := (-1)) (dk dtk_X2_inspectActs 14 rfl) (by decide +kernel) ?_
    refine T_icmp_ne 42 (dk dtk_X2_inspectActs 15 rfl) (by decide) (fun c3 => ?_) (fun c3 => ?_)
    · have h := h.1 c3
      refine T_iinc (v := l2 + 1) (lv2 := [(2, vi (l2 + 1)), (0, vr 200), (1, vi l1)]) 2 (dk dtk_X2_inspectActs 26 rfl) rfl rfl (by decide) rfl ?_
      refine T_goto 4 (dk dtk_X2_inspectActs 27 rfl) (by decide) ?_
      exact T_sub [1, 2, 0] rfl h
    · have h := h.2 c3
      refine T_iload_n 1 (dk dtk_X2_inspectActs 16 rfl) rfl rfl ?_
      refine T_iconst (v := 1) (dk dtk_X2_inspectActs 17 rfl) (by decide +kernel) ?_
      refine T_aload_n 0 (dk dtk_X2_inspectActs 18 rfl) rfl rfl ?_
      refine T_getR 200 1 220 (dk dtk_X2_inspectActs 19 rfl) kfl_X2_20 kk_200 (kl_200 hq he) (by decide) rfl kr_200_1 ?_
      refine T_getR 220 10 231 (dk dtk_X2_inspectActs 20 rfl) kfl_X2_186 kk_220 (kl_220 hq he) (by decide) rfl kr_220_10 ?_
      refine T_iload_n 2 (dk dtk_X2_inspectActs 21 rfl) rfl rfl ?_
      obtain ⟨h4, h⟩ := h
      refine T_iald 231 84 (dk dtk_X2_inspectActs 22 rfl) kk_231 (kl_231 hq he) h4 ?_
      refine T_ishl (dk dtk_X2_inspectActs 23 rfl) ?_
      refine T_ior (dk dtk_X2_inspectActs 24 rfl) ?_
      refine T_istore_n (lv2 := [(1, vi (l1 ||| (1 <<< ((x.1 231 (l2 : Int32).toNatClampNeg) &&& 31 : Int32)))), (0, vr 200), (2, vi l2)]) (dk dtk_X2_inspectActs 25 rfl) rfl (by decide) rfl ?_
      refine T_iinc (v := l2 + 1) (lv2 := [(2, vi (l2 + 1)), (1, vi (l1 ||| (1 <<< ((x.1 231 (l2 : Int32).toNatClampNeg) &&& 31 : Int32)))), (0, vr 200)]) 2 (dk dtk_X2_inspectActs 26 rfl) rfl rfl (by decide) rfl ?_
      refine T_goto 4 (dk dtk_X2_inspectActs 27 rfl) (by decide) ?_
      exact T_sub [2, 1, 0] rfl h
set_option maxRecDepth 100000 in
set_option maxHeartbeats 4000000 in
theorem kg_X2_inspectActs_52 {G : kG} {q : kP} {d : Nat} {x : gd} {P : Option gv → gd → Prop} (hq : kV q) (he : q.ex = true) (l1 : Int32) (l2 : Int32) (l3 : Int32)
    (h : (((x.1 60 10) ≤ l3 → ((l2 = (0 : Int32) → P none x) ∧ (¬ (l2 = (0 : Int32)) → (∀ u3, u3 = (kf q).1 200 7 → ∃ c4, u3 = some c4 ∧ kiT q c4 ∧ (∀ x6 : gd, x6 = si x c4 4 ((x.1 c4 4) + 1) → P none x6))))) ∧ (¬ ((x.1 60 10) ≤ l3) → vp_in l3 6 ∧ (∀ x8 : gd, x8 = si x 209 (l3 : Int32).toNatClampNeg (-1) → ((¬ (((l1 >>> (l3 &&& 31 : Int32)) &&& 1) = (1 : Int32)) → KT G q d zk_X5_isGoing 0 [(0, vr 220), (1, vi l3)] [] x8 (ri (fun r11 x10 => ((r11 = (0 : Int32) → KT G q (d + 1) zk_X2_inspectActs 52 [(0, vr 200), (1, vi l1), (2, vi l2), (3, vi (l3 + 1))] [] x10 P) ∧ (¬ (r11 = (0 : Int32)) → KT G q (d + 1) zk_X2_inspectActs 52 [(0, vr 200), (1, vi l1), (2, vi 1), (3, vi (l3 + 1))] [] x10 P))))) ∧ (((l1 >>> (l3 &&& 31 : Int32)) &&& 1) = (1 : Int32) → KT G q d zk_X2_inspectAct 0 [(0, vr 200), (1, vi l3)] [] x8 (rv (fun x13 => KT G q (d + 1) zk_X2_inspectActs 52 [(0, vr 200), (1, vi l1), (2, vi l2), (3, vi (l3 + 1))] [] x13 P)))))))) :
    KT G q (d + 1) zk_X2_inspectActs 52 [(0, vr 200), (1, vi l1), (2, vi l2), (3, vi l3)] [] x P := by
  refine T_iload_n 3 (dk dtk_X2_inspectActs 32 rfl) rfl rfl ?_
  refine T_aload_n 0 (dk dtk_X2_inspectActs 33 rfl) rfl rfl ?_
  refine T_getR 200 0 60 (dk dtk_X2_inspectActs 34 rfl) kfl_X2_9 kk_200 (kl_200 hq he) (by decide) rfl kr_200_0 ?_
  refine T_getI 60 10 (dk dtk_X2_inspectActs 35 rfl) kfl_X2_189 kk_60 (kl_60 hq) (by decide) rfl ?_
  refine T_icmp_ge 106 (dk dtk_X2_inspectActs 36 rfl) (by decide) (fun c1 => ?_) (fun c1 => ?_)
  · have h := h.1 c1
    refine T_iload_n 2 (dk dtk_X2_inspectActs 62 rfl) rfl rfl ?_
    refine T_if_eq 123 (dk dtk_X2_inspectActs 63 rfl) (by decide) (fun c2 => ?_) (fun c2 => ?_)
    · have h := h.1 c2
      exact KT_vret (dk dtk_X2_inspectActs 71 rfl) rfl h
    · have h := h.2 c2
      refine T_aload_n 0 (dk dtk_X2_inspectActs 64 rfl) rfl rfl ?_
      obtain ⟨u3, eu3⟩ : ∃ z, z = (kf q).1 200 7 := ⟨_, rfl⟩
      have h := h u3 eu3
      refine T_getO 200 7 (dk dtk_X2_inspectActs 65 rfl) kfl_X2_44 kk_200 (kl_200 hq he) (by decide) rfl ?_
      rw [← eu3]
      refine T_dup (dk dtk_X2_inspectActs 66 rfl) rfl ?_
      obtain ⟨c4, rfl, g5, h⟩ := h
      refine T_getI c4 4 (dk dtk_X2_inspectActs 67 rfl) kfl_X2_198 (kk_T0 g5) (kl_T0 hq g5) (by decide) rfl ?_
      refine T_iconst (v := 1) (dk dtk_X2_inspectActs 68 rfl) (by decide +kernel) ?_
      refine T_iadd (dk dtk_X2_inspectActs 69 rfl) ?_
      obtain ⟨x6, ex6⟩ : ∃ z, z = si x c4 4 ((x.1 c4 4) + 1) := ⟨_, rfl⟩
      have h := h x6 ex6
      refine T_putI c4 4 (dk dtk_X2_inspectActs 70 rfl) kfl_X2_198 (kk_T0 g5) (kl_T0 hq g5) (by decide) rfl ⟨rfl, rfl⟩ ?_
      rw [← ex6]
      exact KT_vret (dk dtk_X2_inspectActs 71 rfl) rfl h
  · have h := h.2 c1
    refine T_aload_n 0 (dk dtk_X2_inspectActs 37 rfl) rfl rfl ?_
    refine T_getR 200 8 209 (dk dtk_X2_inspectActs 38 rfl) kfl_X2_38 kk_200 (kl_200 hq he) (by decide) rfl kr_200_8 ?_
    refine T_iload_n 3 (dk dtk_X2_inspectActs 39 rfl) rfl rfl ?_
    refine T_iconst (v := (-1)) (dk dtk_X2_inspectActs 40 rfl) (by decide +kernel) ?_
    obtain ⟨h7, h⟩ := h
    obtain ⟨x8, ex8⟩ : ∃ z, z = si x 209 (l3 : Int32).toNatClampNeg (-1) := ⟨_, rfl⟩
    have h := h x8 ex8
    refine T_iast 209 6 (dk dtk_X2_inspectActs 41 rfl) kk_209 (kl_209 hq he) h7 ?_
    rw [← ex8]
    refine T_iload_n 1 (dk dtk_X2_inspectActs 42 rfl) rfl rfl ?_
    refine T_iload_n 3 (dk dtk_X2_inspectActs 43 rfl) rfl rfl ?_
    refine T_ishr (dk dtk_X2_inspectActs 44 rfl) ?_
    refine T_iconst (v := 1) (dk dtk_X2_inspectActs 45 rfl) (by decide +kernel) ?_
    refine T_iand (dk dtk_X2_inspectActs 46 rfl) ?_
    refine T_iconst (v := 1) (dk dtk_X2_inspectActs 47 rfl) (by decide +kernel) ?_
    refine T_icmp_ne 87 (dk dtk_X2_inspectActs 48 rfl) (by decide) (fun c9 => ?_) (fun c9 => ?_)
    · have h := h.1 c9
      refine T_aload_n 0 (dk dtk_X2_inspectActs 53 rfl) rfl rfl ?_
      refine T_getR 200 1 220 (dk dtk_X2_inspectActs 54 rfl) kfl_X2_20 kk_200 (kl_200 hq he) (by decide) rfl kr_200_1 ?_
      refine T_iload_n 3 (dk dtk_X2_inspectActs 55 rfl) rfl rfl ?_
      refine KC_Vi [vi l3] [] rfl (dk dtk_X2_inspectActs 56 rfl) kcv_X2_195 rfl kk_220 rfl (kl_220 hq he) (Nat.le_of_ble_eq_true rfl) (Nat.le_of_ble_eq_true rfl) (gok_i (av_c (gkr (kl_200 hq he)) (av_c rfl (av_c rfl (av_c rfl av_n)))) as_n) rfl h (fun r11 x10 h => ?_)
      refine T_if_eq 100 (dk dtk_X2_inspectActs 57 rfl) (by decide) (fun c12 => ?_) (fun c12 => ?_)
      · have h := h.1 c12
        refine T_iinc (v := l3 + 1) (lv2 := [(3, vi (l3 + 1)), (0, vr 200), (1, vi l1), (2, vi l2)]) 3 (dk dtk_X2_inspectActs 60 rfl) rfl rfl (by decide) rfl ?_
        refine T_goto 52 (dk dtk_X2_inspectActs 61 rfl) (by decide) ?_
        exact T_sub [1, 2, 3, 0] rfl h
      · have h := h.2 c12
        refine T_iconst (v := 1) (dk dtk_X2_inspectActs 58 rfl) (by decide +kernel) ?_
        refine T_istore_n (lv2 := [(2, vi 1), (0, vr 200), (1, vi l1), (3, vi l3)]) (dk dtk_X2_inspectActs 59 rfl) rfl (by decide) rfl ?_
        refine T_iinc (v := l3 + 1) (lv2 := [(3, vi (l3 + 1)), (2, vi 1), (0, vr 200), (1, vi l1)]) 3 (dk dtk_X2_inspectActs 60 rfl) rfl rfl (by decide) rfl ?_
        refine T_goto 52 (dk dtk_X2_inspectActs 61 rfl) (by decide) ?_
        exact T_sub [2, 3, 1, 0] rfl h
    · have h := h.2 c9
      refine T_aload_n 0 (dk dtk_X2_inspectActs 49 rfl) rfl rfl ?_
      refine T_iload_n 3 (dk dtk_X2_inspectActs 50 rfl) rfl rfl ?_
      refine KC_Vv [vi l3] [] rfl (dk dtk_X2_inspectActs 51 rfl) kcv_X2_192 rfl kk_200 rfl (kl_200 hq he) (Nat.le_of_ble_eq_true rfl) (Nat.le_of_ble_eq_true rfl) (gok_i (av_c (gkr (kl_200 hq he)) (av_c rfl (av_c rfl (av_c rfl av_n)))) as_n) rfl h (fun x13 h => ?_)
      refine T_goto 100 (dk dtk_X2_inspectActs 52 rfl) (by decide) ?_
      refine T_iinc (v := l3 + 1) (lv2 := [(3, vi (l3 + 1)), (0, vr 200), (1, vi l1), (2, vi l2)]) 3 (dk dtk_X2_inspectActs 60 rfl) rfl rfl (by decide) rfl ?_
      refine T_goto 52 (dk dtk_X2_inspectActs 61 rfl) (by decide) ?_
      exact T_sub [1, 2, 3, 0] rfl h
set_option maxRecDepth 100000 in
theorem dtk_X2_inspectAct : dck cX2_inspectAct [(0, .aload_n 0, 1), (1, .getfield 20, 3), (4, .iload_n 1, 1), (5, .invokevirtual 201, 3), (8, .istore_n 2, 1), (9, .aload_n 0, 1), (10, .getfield 20, 3), (13, .iload_n 1, 1), (14, .invokevirtual 205, 3), (17, .istore_n 3, 1), (18, .iload_n 2, 1), (19, .iconst 5, 1), (20, .if_icmp .ne 19, 3), (23, .aload_n 0, 1), (24, .getfield 44, 3), (27, .aload_n 0, 1), (28, .getfield 20, 3), (31, .iload_n 1, 1), (32, .invokevirtual 208, 3), (35, .iload_n 3, 1), (36, .invokevirtual 211, 3), (39, .iload_n 2, 1), (40, .iconst 4, 1), (41, .if_icmp .gt 8, 3), (44, .iload_n 3, 1), (45, .iconst (-1), 1), (46, .if_icmp .ne 4, 3), (49, .return_, 1), (50, .aload_n 0, 1), (51, .getfield 44, 3), (54, .getfield 214, 3), (57, .iload_n 3, 1), (58, .dup2, 1), (59, .iaload, 1), (60, .aload_n 0, 1), (61, .getfield 20, 3), (64, .iload_n 1, 1), (65, .invokevirtual 208, 3), (68, .iand, 1), (69, .iastore, 1), (70, .aload_n 0, 1), (71, .getfield 9, 3), (74, .getfield 217, 3), (77, .iload_n 3, 1), (78, .baload, 1), (79, .ifCond .ne 28, 3), (82, .aload_n 0, 1), (83, .getfield 20, 3), (86, .iload_n 1, 1), (87, .invokevirtual 221, 3), (90, .ifCond .ne 17, 3), (93, .aload_n 0, 1), (94, .getfield 38, 3), (97, .iload_n 1, 1), (98, .iload_n 3, 1), (99, .iastore, 1), (100, .aload_n 0, 1), (101, .getfield 41, 3), (104, .iload_n 1, 1), (105, .iload_n 2, 1), (106, .iastore, 1), (107, .return_, 1)] = true := by decide +kernel
set_option maxRecDepth 100000 in
set_option maxHeartbeats 4000000 in
theorem kg_X2_inspectAct_0 {G : kG} {q : kP} {d : Nat} {x : gd} {P : Option gv → gd → Prop} (hq : kV q) (he : q.ex = true) (l1 : Int32)
    (h : KT G q d zk_X5_sortOf 0 [(0, vr 220), (1, vi l1)] [] x (ri (fun r2 x1 => KT G q d zk_X5_objectOf 0 [(0, vr 220), (1, vi l1)] [] x1 (ri (fun r4 x3 => ((¬ (r2 = (5 : Int32)) → KT G q (d + 1) zk_X2_inspectAct 39 [(0, vr 200), (1, vi l1), (2, vi r2), (3, vi r4)] [] x3 P) ∧ (r2 = (5 : Int32) → (∀ u6, u6 = (kf q).1 200 7 → gokv (kf q).2.1 (vo u6) = true ∧ KT G q d zk_X5_heldBy 0 [(0, vr 220), (1, vi l1)] [] x3 (ri (fun r9 x8 => ∃ c10, u6 = some c10 ∧ kiT q c10 ∧ KT G q d zk_X10_addTake 0 [(0, vr c10), (1, vi r9), (2, vi r4)] [] x8 (rv (fun x12 => KT G q (d + 1) zk_X2_inspectAct 39 [(0, vr 200), (1, vi l1), (2, vi r2), (3, vi r4)] [] x12 P)))))))))))) :
    KT G q (d + 1) zk_X2_inspectAct 0 [(0, vr 200), (1, vi l1)] [] x P := by
  refine T_aload_n 0 (dk dtk_X2_inspectAct 0 rfl) rfl rfl ?_
  refine T_getR 200 1 220 (dk dtk_X2_inspectAct 1 rfl) kfl_X2_20 kk_200 (kl_200 hq he) (by decide) rfl kr_200_1 ?_
  refine T_iload_n 1 (dk dtk_X2_inspectAct 2 rfl) rfl rfl ?_
  refine KC_Vi [vi l1] [] rfl (dk dtk_X2_inspectAct 3 rfl) kcv_X2_201 rfl kk_220 rfl (kl_220 hq he) (Nat.le_of_ble_eq_true rfl) (Nat.le_of_ble_eq_true rfl) (gok_i (av_c (gkr (kl_200 hq he)) (av_c rfl av_n)) as_n) rfl h (fun r2 x1 h => ?_)
  refine T_istore_n (lv2 := [(2, vi r2), (0, vr 200), (1, vi l1)]) (dk dtk_X2_inspectAct 4 rfl) rfl (by decide) rfl ?_
  refine T_aload_n 1 (dk dtk_X2_inspectAct 5 rfl) rfl rfl ?_
  refine T_getR 200 1 220 (dk dtk_X2_inspectAct 6 rfl) kfl_X2_20 kk_200 (kl_200 hq he) (by decide) rfl kr_200_1 ?_
  refine T_iload_n 2 (dk dtk_X2_inspectAct 7 rfl) rfl rfl ?_
  refine KC_Vi [vi l1] [] rfl (dk dtk_X2_inspectAct 8 rfl) kcv_X2_205 rfl kk_220 rfl (kl_220 hq he) (Nat.le_of_ble_eq_true rfl) (Nat.le_of_ble_eq_true rfl) (gok_i (av_c rfl (av_c (gkr (kl_200 hq he)) (av_c rfl av_n))) as_n) rfl h (fun r4 x3 h => ?_)
  refine T_istore_n (lv2 := [(3, vi r4), (2, vi r2), (0, vr 200), (1, vi l1)]) (dk dtk_X2_inspectAct 9 rfl) rfl (by decide) rfl ?_
  refine T_iload_n 1 (dk dtk_X2_inspectAct 10 rfl) rfl rfl ?_
  refine T_iconst (v := 5) (dk dtk_X2_inspectAct 11 rfl) (by decide +kernel) ?_
  refine T_icmp_ne 39 (dk dtk_X2_inspectAct 12 rfl) (by decide) (fun c5 => ?_) (fun c5 => ?_)
  · have h := h.1 c5
    exact T_sub [2, 3, 1, 0] rfl h
  · have h := h.2 c5
    refine T_aload_n 2 (dk dtk_X2_inspectAct 13 rfl) rfl rfl ?_
    obtain ⟨u6, eu6⟩ : ∃ z, z = (kf q).1 200 7 := ⟨_, rfl⟩
    have h := h u6 eu6
    refine T_getO 200 7 (dk dtk_X2_inspectAct 14 rfl) kfl_X2_44 kk_200 (kl_200 hq he) (by decide) rfl ?_
    rw [← eu6]
    refine T_aload_n 2 (dk dtk_X2_inspectAct 15 rfl) rfl rfl ?_
    refine T_getR 200 1 220 (dk dtk_X2_inspectAct 16 rfl) kfl_X2_20 kk_200 (kl_200 hq he) (by decide) rfl kr_200_1 ?_
    refine T_iload_n 3 (dk dtk_X2_inspectAct 17 rfl) rfl rfl ?_
    obtain ⟨h7, h⟩ := h
    refine KC_Vi [vi l1] [vo u6] rfl (dk dtk_X2_inspectAct 18 rfl) kcv_X2_208 rfl kk_220 rfl (kl_220 hq he) (Nat.le_of_ble_eq_true rfl) (Nat.le_of_ble_eq_true rfl) (gok_i (av_c rfl (av_c rfl (av_c (gkr (kl_200 hq he)) (av_c rfl av_n)))) (as_c h7 as_n)) rfl h (fun r9 x8 h => ?_)
    refine T_iload_n 0 (dk dtk_X2_inspectAct 19 rfl) rfl rfl ?_
    obtain ⟨c10, rfl, g11, h⟩ := h
    refine KC_Vv [vi r9, vi r4] [] rfl (dk dtk_X2_inspectAct 20 rfl) kcv_X2_211 rfl (kk_T0 g11) rfl (kl_T0 hq g11) (Nat.le_of_ble_eq_true rfl) (Nat.le_of_ble_eq_true rfl) (gok_i (av_c rfl (av_c rfl (av_c (gkr (kl_200 hq he)) (av_c rfl av_n)))) as_n) rfl h (fun x12 h => ?_)
    exact T_sub [2, 3, 1, 0] rfl h
set_option maxRecDepth 100000 in
set_option maxHeartbeats 4000000 in
theorem kg_X2_inspectAct_39 {G : kG} {q : kP} {d : Nat} {x : gd} {P : Option gv → gd → Prop} (hq : kV q) (he : q.ex = true) (l1 : Int32) (l2 : Int32) (l3 : Int32)
    (h : (((4 : Int32) < l2 → P none x) ∧ (¬ ((4 : Int32) < l2) → ((¬ (l3 = (-1 : Int32)) → (∀ u3, u3 = (kf q).1 200 7 → ∃ c4, u3 = some c4 ∧ kiT q c4 ∧ vp_in l3 24 ∧ KT G q d zk_X5_heldBy 0 [(0, vr 220), (1, vi l1)] [] x (ri (fun r8 x7 => vp_in l3 24 ∧ (∀ x10 : gd, x10 = si x7 (c4 + 8) (l3 : Int32).toNatClampNeg ((x.1 (c4 + 8) (l3 : Int32).toNatClampNeg) &&& r8) → vp_in l3 24 ∧ ((¬ ((x10.1 69 (l3 : Int32).toNatClampNeg) = (0 : Int32)) → P none x10) ∧ ((x10.1 69 (l3 : Int32).toNatClampNeg) = (0 : Int32) → KT G q d zk_X5_accessFails 0 [(0, vr 220), (1, vi l1)] [] x10 (ri (fun r14 x13 => ((¬ (r14 = (0 : Int32)) → P none x13) ∧ (r14 = (0 : Int32) → vp_in l1 6 ∧ (∀ x17 : gd, x17 = si x13 209 (l1 : Int32).toNatClampNeg l3 → vp_in l1 6 ∧ (∀ x19 : gd, x19 = si x17 210 (l1 : Int32).toNatClampNeg l2 → P none x19))))))))))))) ∧ (l3 = (-1 : Int32) → P none x))))) :
    KT G q (d + 1) zk_X2_inspectAct 39 [(0, vr 200), (1, vi l1), (2, vi l2), (3, vi l3)] [] x P := by
  refine T_iload_n 2 (dk dtk_X2_inspectAct 21 rfl) rfl rfl ?_
  refine T_iconst (v := 4) (dk dtk_X2_inspectAct 22 rfl) (by decide +kernel) ?_
  refine T_icmp_gt 49 (dk dtk_X2_inspectAct 23 rfl) (by decide) (fun c1 => ?_) (fun c1 => ?_)
  · have h := h.1 c1
    exact KT_vret (dk dtk_X2_inspectAct 27 rfl) rfl h
  · have h := h.2 c1
    refine T_iload_n 3 (dk dtk_X2_inspectAct 24 rfl) rfl rfl ?_
    refine T_iconst (v := (-1)) (dk dtk_X2_inspectAct 25 rfl) (by decide +kernel) ?_
    refine T_icmp_ne 50 (dk dtk_X2_inspectAct 26 rfl) (by decide) (fun c2 => ?_) (fun c2 => ?_)
    · have h := h.1 c2
      refine T_aload_n 0 (dk dtk_X2_inspectAct 28 rfl) rfl rfl ?_
      obtain ⟨u3, eu3⟩ : ∃ z, z = (kf q).1 200 7 := ⟨_, rfl⟩
      have h := h u3 eu3
      refine T_getO 200 7 (dk dtk_X2_inspectAct 29 rfl) kfl_X2_44 kk_200 (kl_200 hq he) (by decide) rfl ?_
      rw [← eu3]
      obtain ⟨c4, rfl, g5, h⟩ := h
      refine T_getR c4 7 (c4 + 8) (dk dtk_X2_inspectAct 30 rfl) kfl_X2_214 (kk_T0 g5) (kl_T0 hq g5) (by decide) rfl (kr_T_7 g5) ?_
      refine T_iload_n 3 (dk dtk_X2_inspectAct 31 rfl) rfl rfl ?_
      refine T_dup2 (dk dtk_X2_inspectAct 32 rfl) rfl rfl ?_
      obtain ⟨h6, h⟩ := h
      refine T_iald (c4 + 8) 24 (dk dtk_X2_inspectAct 33 rfl) (kk_T8 g5) (kl_T8 hq g5) h6 ?_
      refine T_aload_n 0 (dk dtk_X2_inspectAct 34 rfl) rfl rfl ?_
      refine T_getR 200 1 220 (dk dtk_X2_inspectAct 35 rfl) kfl_X2_20 kk_200 (kl_200 hq he) (by decide) rfl kr_200_1 ?_
      refine T_iload_n 1 (dk dtk_X2_inspectAct 36 rfl) rfl rfl ?_
      refine KC_Vi [vi l1] [vi (x.1 (c4 + 8) (l3 : Int32).toNatClampNeg), vi l3, vr (c4 + 8)] rfl (dk dtk_X2_inspectAct 37 rfl) kcv_X2_208 rfl kk_220 rfl (kl_220 hq he) (Nat.le_of_ble_eq_true rfl) (Nat.le_of_ble_eq_true rfl) (gok_i (av_c (gkr (kl_200 hq he)) (av_c rfl (av_c rfl (av_c rfl av_n)))) (as_c rfl (as_c rfl (as_c (gkr (kl_T8 hq g5)) as_n)))) rfl h (fun r8 x7 h => ?_)
      refine T_iand (dk dtk_X2_inspectAct 38 rfl) ?_
      obtain ⟨h9, h⟩ := h
      obtain ⟨x10, ex10⟩ : ∃ z, z = si x7 (c4 + 8) (l3 : Int32).toNatClampNeg ((x.1 (c4 + 8) (l3 : Int32).toNatClampNeg) &&& r8) := ⟨_, rfl⟩
      have h := h x10 ex10
      refine T_iast (c4 + 8) 24 (dk dtk_X2_inspectAct 39 rfl) (kk_T8 g5) (kl_T8 hq g5) h9 ?_
      rw [← ex10]
      refine T_aload_n 0 (dk dtk_X2_inspectAct 40 rfl) rfl rfl ?_
      refine T_getR 200 0 60 (dk dtk_X2_inspectAct 41 rfl) kfl_X2_9 kk_200 (kl_200 hq he) (by decide) rfl kr_200_0 ?_
      refine T_getR 60 8 69 (dk dtk_X2_inspectAct 42 rfl) kfl_X2_217 kk_60 (kl_60 hq) (by decide) rfl kr_60_8 ?_
      refine T_iload_n 3 (dk dtk_X2_inspectAct 43 rfl) rfl rfl ?_
      obtain ⟨h11, h⟩ := h
      refine T_zald 69 24 (dk dtk_X2_inspectAct 44 rfl) kk_69 (kl_69 hq) h11 ?_
      refine T_if_ne 107 (dk dtk_X2_inspectAct 45 rfl) (by decide) (fun c12 => ?_) (fun c12 => ?_)
      · have h := h.1 c12
        exact KT_vret (dk dtk_X2_inspectAct 61 rfl) rfl h
      · have h := h.2 c12
        refine T_aload_n 0 (dk dtk_X2_inspectAct 46 rfl) rfl rfl ?_
        refine T_getR 200 1 220 (dk dtk_X2_inspectAct 47 rfl) kfl_X2_20 kk_200 (kl_200 hq he) (by decide) rfl kr_200_1 ?_
        refine T_iload_n 1 (dk dtk_X2_inspectAct 48 rfl) rfl rfl ?_
        refine KC_Vi [vi l1] [] rfl (dk dtk_X2_inspectAct 49 rfl) kcv_X2_221 rfl kk_220 rfl (kl_220 hq he) (Nat.le_of_ble_eq_true rfl) (Nat.le_of_ble_eq_true rfl) (gok_i (av_c (gkr (kl_200 hq he)) (av_c rfl (av_c rfl (av_c rfl av_n)))) as_n) rfl h (fun r14 x13 h => ?_)
        refine T_if_ne 107 (dk dtk_X2_inspectAct 50 rfl) (by decide) (fun c15 => ?_) (fun c15 => ?_)
        · have h := h.1 c15
          exact KT_vret (dk dtk_X2_inspectAct 61 rfl) rfl h
        · have h := h.2 c15
          refine T_aload_n 0 (dk dtk_X2_inspectAct 51 rfl) rfl rfl ?_
          refine T_getR 200 8 209 (dk dtk_X2_inspectAct 52 rfl) kfl_X2_38 kk_200 (kl_200 hq he) (by decide) rfl kr_200_8 ?_
          refine T_iload_n 1 (dk dtk_X2_inspectAct 53 rfl) rfl rfl ?_
          refine T_iload_n 3 (dk dtk_X2_inspectAct 54 rfl) rfl rfl ?_
          obtain ⟨h16, h⟩ := h
          obtain ⟨x17, ex17⟩ : ∃ z, z = si x13 209 (l1 : Int32).toNatClampNeg l3 := ⟨_, rfl⟩
          have h := h x17 ex17
          refine T_iast 209 6 (dk dtk_X2_inspectAct 55 rfl) kk_209 (kl_209 hq he) h16 ?_
          rw [← ex17]
          refine T_aload_n 0 (dk dtk_X2_inspectAct 56 rfl) rfl rfl ?_
          refine T_getR 200 9 210 (dk dtk_X2_inspectAct 57 rfl) kfl_X2_41 kk_200 (kl_200 hq he) (by decide) rfl kr_200_9 ?_
          refine T_iload_n 1 (dk dtk_X2_inspectAct 58 rfl) rfl rfl ?_
          refine T_iload_n 2 (dk dtk_X2_inspectAct 59 rfl) rfl rfl ?_
          obtain ⟨h18, h⟩ := h
          obtain ⟨x19, ex19⟩ : ∃ z, z = si x17 210 (l1 : Int32).toNatClampNeg l2 := ⟨_, rfl⟩
          have h := h x19 ex19
          refine T_iast 210 6 (dk dtk_X2_inspectAct 60 rfl) kk_210 (kl_210 hq he) h18 ?_
          rw [← ex19]
          exact KT_vret (dk dtk_X2_inspectAct 61 rfl) rfl h
    · have h := h.2 c2
      exact KT_vret (dk dtk_X2_inspectAct 27 rfl) rfl h
set_option maxRecDepth 100000 in
theorem dtk_X2_isRacing : dck cX2_isRacing [(0, .iconst 0, 1), (1, .istore_n 1, 1), (2, .iload_n 1, 1), (3, .aload_n 0, 1), (4, .getfield 9, 3), (7, .getfield 189, 3), (10, .if_icmp .ge 67, 3), (13, .iconst 0, 1), (14, .istore_n 2, 1), (15, .iload_n 2, 1), (16, .iload_n 1, 1), (17, .if_icmp .ge 54, 3), (20, .aload_n 0, 1), (21, .getfield 38, 3), (24, .iload_n 1, 1), (25, .iaload, 1), (26, .iconst (-1), 1), (27, .if_icmp .eq 38, 3), (30, .aload_n 0, 1), (31, .getfield 38, 3), (34, .iload_n 1, 1), (35, .iaload, 1), (36, .aload_n 0, 1), (37, .getfield 38, 3), (40, .iload_n 2, 1), (41, .iaload, 1), (42, .if_icmp .ne 23, 3), (45, .aload_n 0, 1), (46, .getfield 41, 3), (49, .iload_n 1, 1), (50, .iaload, 1), (51, .aload_n 0, 1), (52, .getfield 41, 3), (55, .iload_n 2, 1), (56, .iaload, 1), (57, .invokestatic 224, 3), (60, .ifCond .eq 5, 3), (63, .iconst 1, 1), (64, .ireturn, 1), (65, .iinc 2 1, 3), (68, .goto (-53), 3), (71, .iinc 1 1, 3), (74, .goto (-72), 3), (77, .iconst 0, 1), (78, .ireturn, 1)] = true := by decide +kernel
set_option maxRecDepth 100000 in
set_option maxHeartbeats 4000000 in
theorem kg_X2_isRacing_0 {G : kG} {q : kP} {d : Nat} {x : gd} {P : Option gv → gd → Prop} (hq : kV q) (he : q.ex = true)
    (h : KT G q (d + 1) zk_X2_isRacing 2 [(0, vr 200), (1, vi 0)] [] x P) :
    KT G q (d + 1) zk_X2_isRacing 0 [(0, vr 200)] [] x P := by
  refine T_iconst (v := 0) (dk dtk_X2_isRacing 0 rfl) (by decide +kernel) ?_
  refine T_istore_n (lv2 := [(1, vi 0), (0, vr 200)]) (dk dtk_X2_isRacing 1 rfl) rfl (by decide) rfl ?_
  exact T_sub [1, 0] rfl h
set_option maxRecDepth 100000 in
set_option maxHeartbeats 4000000 in
theorem kg_X2_isRacing_2 {G : kG} {q : kP} {d : Nat} {x : gd} {P : Option gv → gd → Prop} (hq : kV q) (he : q.ex = true) (l1 : Int32)
    (h : (((x.1 60 10) ≤ l1 → P (some (vi 0)) x) ∧ (¬ ((x.1 60 10) ≤ l1) → KT G q (d + 1) zk_X2_isRacing 15 [(0, vr 200), (1, vi l1), (2, vi 0)] [] x P))) :
    KT G q (d + 1) zk_X2_isRacing 2 [(0, vr 200), (1, vi l1)] [] x P := by
  refine T_iload_n 1 (dk dtk_X2_isRacing 2 rfl) rfl rfl ?_
  refine T_aload_n 0 (dk dtk_X2_isRacing 3 rfl) rfl rfl ?_
  refine T_getR 200 0 60 (dk dtk_X2_isRacing 4 rfl) kfl_X2_9 kk_200 (kl_200 hq he) (by decide) rfl kr_200_0 ?_
  refine T_getI 60 10 (dk dtk_X2_isRacing 5 rfl) kfl_X2_189 kk_60 (kl_60 hq) (by decide) rfl ?_
  refine T_icmp_ge 77 (dk dtk_X2_isRacing 6 rfl) (by decide) (fun c1 => ?_) (fun c1 => ?_)
  · have h := h.1 c1
    refine T_iconst (v := 0) (dk dtk_X2_isRacing 43 rfl) (by decide +kernel) ?_
    exact KT_iret (dk dtk_X2_isRacing 44 rfl) rfl rfl h
  · have h := h.2 c1
    refine T_iconst (v := 0) (dk dtk_X2_isRacing 7 rfl) (by decide +kernel) ?_
    refine T_istore_n (lv2 := [(2, vi 0), (0, vr 200), (1, vi l1)]) (dk dtk_X2_isRacing 8 rfl) rfl (by decide) rfl ?_
    exact T_sub [1, 2, 0] rfl h
set_option maxRecDepth 100000 in
set_option maxHeartbeats 4000000 in
theorem kg_X2_isRacing_15 {G : kG} {q : kP} {d : Nat} {x : gd} {P : Option gv → gd → Prop} (hq : kV q) (he : q.ex = true) (l1 : Int32) (l2 : Int32)
    (h : ((l1 ≤ l2 → KT G q (d + 1) zk_X2_isRacing 2 [(0, vr 200), (1, vi (l1 + 1))] [] x P) ∧ (¬ (l1 ≤ l2) → vp_in l1 6 ∧ (((x.1 209 (l1 : Int32).toNatClampNeg) = (-1 : Int32) → KT G q (d + 1) zk_X2_isRacing 15 [(0, vr 200), (1, vi l1), (2, vi (l2 + 1))] [] x P) ∧ (¬ ((x.1 209 (l1 : Int32).toNatClampNeg) = (-1 : Int32)) → vp_in l1 6 ∧ vp_in l2 6 ∧ ((¬ ((x.1 209 (l1 : Int32).toNatClampNeg) = (x.1 209 (l2 : Int32).toNatClampNeg)) → KT G q (d + 1) zk_X2_isRacing 15 [(0, vr 200), (1, vi l1), (2, vi (l2 + 1))] [] x P) ∧ ((x.1 209 (l1 : Int32).toNatClampNeg) = (x.1 209 (l2 : Int32).toNatClampNeg) → vp_in l1 6 ∧ vp_in l2 6 ∧ KT G q d zk_X4_sortsRace 0 [(0, vi (x.1 210 (l1 : Int32).toNatClampNeg)), (1, vi (x.1 210 (l2 : Int32).toNatClampNeg))] [] x (ri (fun r10 x9 => ((r10 = (0 : Int32) → KT G q (d + 1) zk_X2_isRacing 15 [(0, vr 200), (1, vi l1), (2, vi (l2 + 1))] [] x9 P) ∧ (¬ (r10 = (0 : Int32)) → P (some (vi 1)) x9))))))))))) :
    KT G q (d + 1) zk_X2_isRacing 15 [(0, vr 200), (1, vi l1), (2, vi l2)] [] x P := by
  refine T_iload_n 2 (dk dtk_X2_isRacing 9 rfl) rfl rfl ?_
  refine T_iload_n 1 (dk dtk_X2_isRacing 10 rfl) rfl rfl ?_
  refine T_icmp_ge 71 (dk dtk_X2_isRacing 11 rfl) (by decide) (fun c1 => ?_) (fun c1 => ?_)
  · have h := h.1 c1
    refine T_iinc (v := l1 + 1) (lv2 := [(1, vi (l1 + 1)), (0, vr 200), (2, vi l2)]) 1 (dk dtk_X2_isRacing 41 rfl) rfl rfl (by decide) rfl ?_
    refine T_goto 2 (dk dtk_X2_isRacing 42 rfl) (by decide) ?_
    exact T_sub [1, 0] rfl h
  · have h := h.2 c1
    refine T_aload_n 0 (dk dtk_X2_isRacing 12 rfl) rfl rfl ?_
    refine T_getR 200 8 209 (dk dtk_X2_isRacing 13 rfl) kfl_X2_38 kk_200 (kl_200 hq he) (by decide) rfl kr_200_8 ?_
    refine T_iload_n 1 (dk dtk_X2_isRacing 14 rfl) rfl rfl ?_
    obtain ⟨h2, h⟩ := h
    refine T_iald 209 6 (dk dtk_X2_isRacing 15 rfl) kk_209 (kl_209 hq he) h2 ?_
    refine T_iconst (v := (-1)) (dk dtk_X2_isRacing 16 rfl) (by decide +kernel) ?_
    refine T_icmp_eq 65 (dk dtk_X2_isRacing 17 rfl) (by decide) (fun c3 => ?_) (fun c3 => ?_)
    · have h := h.1 c3
      refine T_iinc (v := l2 + 1) (lv2 := [(2, vi (l2 + 1)), (0, vr 200), (1, vi l1)]) 2 (dk dtk_X2_isRacing 39 rfl) rfl rfl (by decide) rfl ?_
      refine T_goto 15 (dk dtk_X2_isRacing 40 rfl) (by decide) ?_
      exact T_sub [1, 2, 0] rfl h
    · have h := h.2 c3
      refine T_aload_n 0 (dk dtk_X2_isRacing 18 rfl) rfl rfl ?_
      refine T_getR 200 8 209 (dk dtk_X2_isRacing 19 rfl) kfl_X2_38 kk_200 (kl_200 hq he) (by decide) rfl kr_200_8 ?_
      refine T_iload_n 1 (dk dtk_X2_isRacing 20 rfl) rfl rfl ?_
      obtain ⟨h4, h⟩ := h
      refine T_iald 209 6 (dk dtk_X2_isRacing 21 rfl) kk_209 (kl_209 hq he) h4 ?_
      refine T_aload_n 0 (dk dtk_X2_isRacing 22 rfl) rfl rfl ?_
      refine T_getR 200 8 209 (dk dtk_X2_isRacing 23 rfl) kfl_X2_38 kk_200 (kl_200 hq he) (by decide) rfl kr_200_8 ?_
      refine T_iload_n 2 (dk dtk_X2_isRacing 24 rfl) rfl rfl ?_
      obtain ⟨h5, h⟩ := h
      refine T_iald 209 6 (dk dtk_X2_isRacing 25 rfl) kk_209 (kl_209 hq he) h5 ?_
      refine T_icmp_ne 65 (dk dtk_X2_isRacing 26 rfl) (by decide) (fun c6 => ?_) (fun c6 => ?_)
      · have h := h.1 c6
        refine T_iinc (v := l2 + 1) (lv2 := [(2, vi (l2 + 1)), (0, vr 200), (1, vi l1)]) 2 (dk dtk_X2_isRacing 39 rfl) rfl rfl (by decide) rfl ?_
        refine T_goto 15 (dk dtk_X2_isRacing 40 rfl) (by decide) ?_
        exact T_sub [1, 2, 0] rfl h
      · have h := h.2 c6
        refine T_aload_n 0 (dk dtk_X2_isRacing 27 rfl) rfl rfl ?_
        refine T_getR 200 9 210 (dk dtk_X2_isRacing 28 rfl) kfl_X2_41 kk_200 (kl_200 hq he) (by decide) rfl kr_200_9 ?_
        refine T_iload_n 1 (dk dtk_X2_isRacing 29 rfl) rfl rfl ?_
        obtain ⟨h7, h⟩ := h
        refine T_iald 210 6 (dk dtk_X2_isRacing 30 rfl) kk_210 (kl_210 hq he) h7 ?_
        refine T_aload_n 0 (dk dtk_X2_isRacing 31 rfl) rfl rfl ?_
        refine T_getR 200 9 210 (dk dtk_X2_isRacing 32 rfl) kfl_X2_41 kk_200 (kl_200 hq he) (by decide) rfl kr_200_9 ?_
        refine T_iload_n 2 (dk dtk_X2_isRacing 33 rfl) rfl rfl ?_
        obtain ⟨h8, h⟩ := h
        refine T_iald 210 6 (dk dtk_X2_isRacing 34 rfl) kk_210 (kl_210 hq he) h8 ?_
        refine KC_Si [vi (x.1 210 (l1 : Int32).toNatClampNeg), vi (x.1 210 (l2 : Int32).toNatClampNeg)] [] rfl (dk dtk_X2_isRacing 35 rfl) kcs_X2_224 rfl (Nat.le_of_ble_eq_true rfl) (Nat.le_of_ble_eq_true rfl) (gok_i (av_c (gkr (kl_200 hq he)) (av_c rfl (av_c rfl av_n))) as_n) rfl h (fun r10 x9 h => ?_)
        refine T_if_eq 65 (dk dtk_X2_isRacing 36 rfl) (by decide) (fun c11 => ?_) (fun c11 => ?_)
        · have h := h.1 c11
          refine T_iinc (v := l2 + 1) (lv2 := [(2, vi (l2 + 1)), (0, vr 200), (1, vi l1)]) 2 (dk dtk_X2_isRacing 39 rfl) rfl rfl (by decide) rfl ?_
          refine T_goto 15 (dk dtk_X2_isRacing 40 rfl) (by decide) ?_
          exact T_sub [1, 2, 0] rfl h
        · have h := h.2 c11
          refine T_iconst (v := 1) (dk dtk_X2_isRacing 37 rfl) (by decide +kernel) ?_
          exact KT_iret (dk dtk_X2_isRacing 38 rfl) rfl rfl h
set_option maxRecDepth 100000 in
theorem dtk_X11_feed : dck cX11_feed [(0, .iload_n 1, 1), (1, .iconst 1, 1), (2, .if_icmp .lt 9, 3), (5, .iload_n 1, 1), (6, .bipush 8, 2), (8, .if_icmp .le 13, 3), (11, .new 70, 3), (14, .dup, 1), (15, .ldc 72, 2), (17, .invokespecial 74, 3), (20, .athrow, 1), (21, .aload_n 0, 1), (22, .getfield 10, 3), (25, .getfield 77, 3), (28, .iload_n 1, 1), (29, .iadd, 1), (30, .sipush 3000, 3), (33, .if_icmp .le 13, 3), (36, .new 70, 3), (39, .dup, 1), (40, .ldc 80, 2), (42, .invokespecial 74, 3), (45, .athrow, 1), (46, .iconst 0, 1), (47, .istore 4, 2), (49, .iload 4, 2), (51, .iload_n 1, 1), (52, .if_icmp .ge 24, 3), (55, .aload_n 0, 1), (56, .getfield 10, 3), (59, .lload_n 2, 1), (60, .bipush 8, 2), (62, .iload 4, 2), (64, .imul, 1), (65, .lushr, 1), (66, .l2i, 1), (67, .invokevirtual 82, 3), (70, .iinc 4 1, 3), (73, .goto (-24), 3), (76, .aload_n 0, 1), (77, .invokevirtual 86, 3), (80, .aload_n 0, 1), (81, .getfield 10, 3), (84, .getfield 77, 3), (87, .ireturn, 1)] = true := by decide +kernel
set_option maxRecDepth 100000 in
set_option maxHeartbeats 4000000 in
theorem kg_X11_feed_0 {G : kG} {q : kP} {d : Nat} {x : gd} {P : Option gv → gd → Prop} {X : String → gd → Prop} (hq : kV q) (l1 : Int32) (l2 : Int64)
    (h : ((l1 < (1 : Int32) → KE G q (d + 7) zk_X11_feed 11 [] [] x P X) ∧ (¬ (l1 < (1 : Int32)) → ((l1 ≤ (8 : Int32) → ((((x.1 20 1) + l1) ≤ (3000 : Int32) → KE G q (d + 7) zk_X11_feed 49 [(0, vr 0), (1, vi l1), (2, vl l2), (4, vi 0)] [] x P X) ∧ (¬ (((x.1 20 1) + l1) ≤ (3000 : Int32)) → X iAE x))) ∧ (¬ (l1 ≤ (8 : Int32)) → KE G q (d + 7) zk_X11_feed 11 [] [] x P X))))) :
    KE G q (d + 7) zk_X11_feed 0 [(0, vr 0), (1, vi l1), (2, vl l2)] [] x P X := by
  refine T_iload_n 1 (dk dtk_X11_feed 0 rfl) rfl rfl ?_
  refine T_iconst (v := 1) (dk dtk_X11_feed 1 rfl) (by decide +kernel) ?_
  refine T_icmp_lt 11 (dk dtk_X11_feed 2 rfl) (by decide) (fun c1 => ?_) (fun c1 => ?_)
  · have h := h.1 c1
    exact T_sub [] rfl h
  · have h := h.2 c1
    refine T_iload_n 1 (dk dtk_X11_feed 3 rfl) rfl rfl ?_
    refine T_bipush (v := 8) (dk dtk_X11_feed 4 rfl) (by decide +kernel) ?_
    refine T_icmp_le 21 (dk dtk_X11_feed 5 rfl) (by decide) (fun c2 => ?_) (fun c2 => ?_)
    · have h := h.1 c2
      refine T_aload_n 0 (dk dtk_X11_feed 11 rfl) rfl rfl ?_
      refine T_getR 0 0 20 (dk dtk_X11_feed 12 rfl) kfl_X11_10 kk_0 (kl_0 hq) (by decide) rfl kr_0_0 ?_
      refine T_getI 20 1 (dk dtk_X11_feed 13 rfl) kfl_X11_77 kk_20 (kl_20 hq) (by decide) rfl ?_
      refine T_iload_n 1 (dk dtk_X11_feed 14 rfl) rfl rfl ?_
      refine T_iadd (dk dtk_X11_feed 15 rfl) ?_
      refine T_sipush (v := 3000) (dk dtk_X11_feed 16 rfl) (by decide +kernel) ?_
      refine T_icmp_le 46 (dk dtk_X11_feed 17 rfl) (by decide) (fun c3 => ?_) (fun c3 => ?_)
      · have h := h.1 c3
        refine T_iconst (v := 0) (dk dtk_X11_feed 23 rfl) (by decide +kernel) ?_
        refine T_istore (lv2 := [(4, vi 0), (0, vr 0), (1, vi l1), (2, vl l2)]) (dk dtk_X11_feed 24 rfl) (by decide) rfl ?_
        exact T_sub [1, 2, 3, 0] rfl h
      · have h := h.2 c3
        exact T_thr kth_X11_70_80 (dk dtk_X11_feed 18 rfl) (dk dtk_X11_feed 19 rfl) (dk dtk_X11_feed 20 rfl) (dk dtk_X11_feed 21 rfl) (dk dtk_X11_feed 22 rfl) (by intro z hz; cases hz) (by omega) (Nat.le_of_ble_eq_true rfl) (Or.inr ⟨rfl, _, rfl, h⟩)
    · have h := h.2 c2
      exact T_sub [] rfl h
set_option maxRecDepth 100000 in
set_option maxHeartbeats 4000000 in
theorem kg_X11_feed_11 {G : kG} {q : kP} {d : Nat} {x : gd} {P : Option gv → gd → Prop} {X : String → gd → Prop} (hq : kV q) 
    (h : X iAE x) :
    KE G q (d + 7) zk_X11_feed 11 [] [] x P X := by
  exact T_thr kth_X11_70_72 (dk dtk_X11_feed 6 rfl) (dk dtk_X11_feed 7 rfl) (dk dtk_X11_feed 8 rfl) (dk dtk_X11_feed 9 rfl) (dk dtk_X11_feed 10 rfl) (by intro z hz; cases hz) (by omega) (Nat.le_of_ble_eq_true rfl) (Or.inr ⟨rfl, _, rfl, h⟩)
set_option maxRecDepth 100000 in
set_option maxHeartbeats 4000000 in
theorem kg_X11_feed_49 {G : kG} {q : kP} {d : Nat} {x : gd} {P : Option gv → gd → Prop} {X : String → gd → Prop} (hq : kV q) (l1 : Int32) (l2 : Int64) (l4 : Int32)
    (h : ((l1 ≤ l4 → KT G q (d + 6) zk_X11_forgetAll 0 [(0, vr 0)] [] x (rv (fun x2 => P (some (vi (x2.1 20 1))) x2))) ∧ (¬ (l1 ≤ l4) → KT G q (d + 6) zk_X9_addByte 0 [(0, vr 20), (1, vi ((((l2 : Int64).toUInt64 >>> ((8 * l4 : Int32).toInt64.toUInt64 &&& Int64.toUInt64 63)).toInt64 : Int64).toInt32))] [] x (rv (fun x3 => KE G q (d + 7) zk_X11_feed 49 [(0, vr 0), (1, vi l1), (2, vl l2), (4, vi (l4 + 1))] [] x3 P X))))) :
    KE G q (d + 7) zk_X11_feed 49 [(0, vr 0), (1, vi l1), (2, vl l2), (4, vi l4)] [] x P X := by
  refine T_iload 3 (dk dtk_X11_feed 25 rfl) rfl ?_
  refine T_iload_n 1 (dk dtk_X11_feed 26 rfl) rfl rfl ?_
  refine T_icmp_ge 76 (dk dtk_X11_feed 27 rfl) (by decide) (fun c1 => ?_) (fun c1 => ?_)
  · have h := h.1 c1
    refine T_aload_n 0 (dk dtk_X11_feed 39 rfl) rfl rfl ?_
    refine T_sub (lv2 := [(0, vr 0)]) [0] rfl ?_
    refine KC_Vv [] [] rfl (dk dtk_X11_feed 40 rfl) kcv_X11_86 rfl kk_0 rfl (kl_0 hq) (Nat.le_of_ble_eq_true rfl) (Nat.le_of_ble_eq_true rfl) (gok_i (av_c (gkr (kl_0 hq)) av_n) as_n) rfl h (fun x2 h => ?_)
    refine T_aload_n 0 (dk dtk_X11_feed 41 rfl) rfl rfl ?_
    refine T_getR 0 0 20 (dk dtk_X11_feed 42 rfl) kfl_X11_10 kk_0 (kl_0 hq) (by decide) rfl kr_0_0 ?_
    refine T_getI 20 1 (dk dtk_X11_feed 43 rfl) kfl_X11_77 kk_20 (kl_20 hq) (by decide) rfl ?_
    exact KE_iret (dk dtk_X11_feed 44 rfl) rfl rfl h
  · have h := h.2 c1
    refine T_aload_n 0 (dk dtk_X11_feed 28 rfl) rfl rfl ?_
    refine T_getR 0 0 20 (dk dtk_X11_feed 29 rfl) kfl_X11_10 kk_0 (kl_0 hq) (by decide) rfl kr_0_0 ?_
    refine T_lload_n 2 (dk dtk_X11_feed 30 rfl) rfl rfl ?_
    refine T_bipush (v := 8) (dk dtk_X11_feed 31 rfl) (by decide +kernel) ?_
    refine T_iload 3 (dk dtk_X11_feed 32 rfl) rfl ?_
    refine T_imul (dk dtk_X11_feed 33 rfl) ?_
    refine T_lushr (dk dtk_X11_feed 34 rfl) ?_
    refine T_l2i (dk dtk_X11_feed 35 rfl) ?_
    refine KC_Vv [vi ((((l2 : Int64).toUInt64 >>> ((8 * l4 : Int32).toInt64.toUInt64 &&& Int64.toUInt64 63)).toInt64 : Int64).toInt32)] [] rfl (dk dtk_X11_feed 36 rfl) kcv_X11_82 rfl kk_20 rfl (kl_20 hq) (Nat.le_of_ble_eq_true rfl) (Nat.le_of_ble_eq_true rfl) (gok_i (av_c (gkr (kl_0 hq)) (av_c rfl (av_c rfl (av_c rfl av_n)))) as_n) rfl h (fun x3 h => ?_)
    refine T_iinc (v := l4 + 1) (lv2 := [(4, vi (l4 + 1)), (0, vr 0), (1, vi l1), (2, vl l2)]) 3 (dk dtk_X11_feed 37 rfl) rfl rfl (by decide) rfl ?_
    refine T_goto 49 (dk dtk_X11_feed 38 rfl) (by decide) ?_
    exact T_sub [1, 2, 3, 0] rfl h
end
section
set_option maxRecDepth 100000 in
theorem dtk_X11_wipe : dck cX11_wipe [(0, .aload_n 0, 1), (1, .getfield 10, 3), (4, .getfield 77, 3), (7, .istore_n 1, 1), (8, .aload_n 0, 1), (9, .getfield 10, 3), (12, .iconst 0, 1), (13, .putfield 77, 3), (16, .aload_n 0, 1), (17, .invokevirtual 86, 3), (20, .iload_n 1, 1), (21, .ireturn, 1)] = true := by decide +kernel
set_option maxRecDepth 100000 in
set_option maxHeartbeats 4000000 in
theorem kg_X11_wipe_0 {G : kG} {q : kP} {d : Nat} {x : gd} {P : Option gv → gd → Prop} (hq : kV q) 
    (h : (∀ x1 : gd, x1 = si x 20 1 0 → KT G q d zk_X11_forgetAll 0 [(0, vr 0)] [] x1 (rv (fun x2 => P (some (vi (x.1 20 1))) x2)))) :
    KT G q (d + 1) zk_X11_wipe 0 [(0, vr 0)] [] x P := by
  refine T_aload_n 0 (dk dtk_X11_wipe 0 rfl) rfl rfl ?_
  refine T_getR 0 0 20 (dk dtk_X11_wipe 1 rfl) kfl_X11_10 kk_0 (kl_0 hq) (by decide) rfl kr_0_0 ?_
  refine T_getI 20 1 (dk dtk_X11_wipe 2 rfl) kfl_X11_77 kk_20 (kl_20 hq) (by decide) rfl ?_
  refine T_istore_n (lv2 := [(1, vi (x.1 20 1)), (0, vr 0)]) (dk dtk_X11_wipe 3 rfl) rfl (by decide) rfl ?_
  refine T_aload_n 1 (dk dtk_X11_wipe 4 rfl) rfl rfl ?_
  refine T_getR 0 0 20 (dk dtk_X11_wipe 5 rfl) kfl_X11_10 kk_0 (kl_0 hq) (by decide) rfl kr_0_0 ?_
  refine T_iconst (v := 0) (dk dtk_X11_wipe 6 rfl) (by decide +kernel) ?_
  obtain ⟨x1, ex1⟩ : ∃ z, z = si x 20 1 0 := ⟨_, rfl⟩
  have h := h x1 ex1
  refine T_putI 20 1 (dk dtk_X11_wipe 7 rfl) kfl_X11_77 kk_20 (kl_20 hq) (by decide) rfl ⟨rfl, rfl⟩ ?_
  rw [← ex1]
  refine T_aload_n 1 (dk dtk_X11_wipe 8 rfl) rfl rfl ?_
  refine T_sub (lv2 := [(1, vi (x.1 20 1))]) [0] rfl ?_
  refine KC_Vv [] [] rfl (dk dtk_X11_wipe 9 rfl) kcv_X11_86 rfl kk_0 rfl (kl_0 hq) (Nat.le_of_ble_eq_true rfl) (Nat.le_of_ble_eq_true rfl) (gok_i (av_c rfl av_n) as_n) rfl h (fun x2 h => ?_)
  refine T_iload_n 0 (dk dtk_X11_wipe 10 rfl) rfl rfl ?_
  exact KT_iret (dk dtk_X11_wipe 11 rfl) rfl rfl h
set_option maxRecDepth 100000 in
theorem dtk_X11_compile : dck cX11_compile [(0, .aload_n 0, 1), (1, .invokevirtual 86, 3), (4, .aload_n 0, 1), (5, .getfield 10, 3), (8, .invokevirtual 89, 3), (11, .iconst 0, 1), (12, .istore_n 1, 1), (13, .iconst (-1), 1), (14, .istore_n 2, 1), (15, .aload_n 0, 1), (16, .getfield 37, 3), (19, .invokevirtual 92, 3), (22, .aload_n 0, 1), (23, .getfield 21, 3), (26, .invokevirtual 95, 3), (29, .istore_n 1, 1), (30, .aload_n 0, 1), (31, .getfield 21, 3), (34, .getfield 99, 3), (37, .istore_n 2, 1), (38, .goto 20, 3), (41, .astore_n 3, 1), (42, .aload_n 0, 1), (43, .getfield 37, 3), (46, .getfield 104, 3), (49, .istore_n 1, 1), (50, .aload_n 0, 1), (51, .getfield 37, 3), (54, .invokevirtual 107, 3), (57, .istore_n 2, 1), (58, .aload_n 0, 1), (59, .iload_n 1, 1), (60, .ifCond .ne 7, 3), (63, .iconst 1, 1), (64, .goto 4, 3), (67, .iconst 0, 1), (68, .putfield 110, 3), (71, .aload_n 0, 1), (72, .aload_n 0, 1), (73, .getfield 110, 3), (76, .ifCond .eq 7, 3), (79, .iconst (-1), 1), (80, .goto 12, 3), (83, .aload_n 0, 1), (84, .getfield 10, 3), (87, .getfield 114, 3), (90, .iload_n 2, 1), (91, .iaload, 1), (92, .putfield 63, 3), (95, .aload_n 0, 1), (96, .aload_n 0, 1), (97, .getfield 110, 3), (100, .ifCond .eq 7, 3), (103, .iconst (-1), 1), (104, .goto 12, 3), (107, .aload_n 0, 1), (108, .getfield 10, 3), (111, .getfield 118, 3), (114, .iload_n 2, 1), (115, .iaload, 1), (116, .putfield 67, 3), (119, .aload_n 0, 1), (120, .getfield 110, 3), (123, .ifCond .ne 6, 3), (126, .iload_n 1, 1), (127, .ineg, 1), (128, .ireturn, 1), (129, .aload_n 0, 1), (130, .getfield 37, 3), (133, .invokevirtual 121, 3), (136, .aload_n 0, 1), (137, .getfield 28, 3), (140, .getfield 124, 3), (143, .ireturn, 1)] = true := by decide +kernel
set_option maxRecDepth 100000 in
theorem dtk_X11_fault : dck cX11_fault [(0, .iload_n 1, 1), (1, .ifCond .eq 18, 3), (4, .iload_n 1, 1), (5, .iconst 1, 1), (6, .if_icmp .eq 13, 3), (9, .new 127, 3), (12, .dup, 1), (13, .ldc 129, 2), (15, .invokespecial 131, 3), (18, .athrow, 1), (19, .iload_n 1, 1), (20, .ifCond .ne 10, 3), (23, .aload_n 0, 1), (24, .getfield 63, 3), (27, .goto 7, 3), (30, .aload_n 0, 1), (31, .getfield 67, 3), (34, .ireturn, 1)] = true := by decide +kernel
set_option maxRecDepth 100000 in
set_option maxHeartbeats 4000000 in
theorem kg_X11_fault_0 {G : kG} {q : kP} {d : Nat} {x : gd} {P : Option gv → gd → Prop} {X : String → gd → Prop} (hq : kV q) (l1 : Int32)
    (h : ((l1 = (0 : Int32) → KE G q (d + 6) zk_X11_fault 19 [(0, vr 0), (1, vi l1)] [] x P X) ∧ (¬ (l1 = (0 : Int32)) → ((l1 = (1 : Int32) → KE G q (d + 6) zk_X11_fault 19 [(0, vr 0), (1, vi l1)] [] x P X) ∧ (¬ (l1 = (1 : Int32)) → X iOE x))))) :
    KE G q (d + 6) zk_X11_fault 0 [(0, vr 0), (1, vi l1)] [] x P X := by
  refine T_iload_n 1 (dk dtk_X11_fault 0 rfl) rfl rfl ?_
  refine T_if_eq 19 (dk dtk_X11_fault 1 rfl) (by decide) (fun c1 => ?_) (fun c1 => ?_)
  · have h := h.1 c1
    exact h
  · have h := h.2 c1
    refine T_iload_n 1 (dk dtk_X11_fault 2 rfl) rfl rfl ?_
    refine T_iconst (v := 1) (dk dtk_X11_fault 3 rfl) (by decide +kernel) ?_
    refine T_icmp_eq 19 (dk dtk_X11_fault 4 rfl) (by decide) (fun c2 => ?_) (fun c2 => ?_)
    · have h := h.1 c2
      exact h
    · have h := h.2 c2
      exact T_thr kth_X11_127_129 (dk dtk_X11_fault 5 rfl) (dk dtk_X11_fault 6 rfl) (dk dtk_X11_fault 7 rfl) (dk dtk_X11_fault 8 rfl) (dk dtk_X11_fault 9 rfl) (by intro z hz; cases hz) (by omega) (Nat.le_of_ble_eq_true rfl) (Or.inr ⟨rfl, _, rfl, h⟩)
set_option maxRecDepth 100000 in
set_option maxHeartbeats 4000000 in
theorem kg_X11_fault_19 {G : kG} {q : kP} {d : Nat} {x : gd} {P : Option gv → gd → Prop} {X : String → gd → Prop} (hq : kV q) (l1 : Int32)
    (h : ((¬ (l1 = (0 : Int32)) → P (some (vi (x.1 0 12))) x) ∧ (l1 = (0 : Int32) → P (some (vi (x.1 0 11))) x))) :
    KE G q (d + 6) zk_X11_fault 19 [(0, vr 0), (1, vi l1)] [] x P X := by
  refine T_iload_n 1 (dk dtk_X11_fault 10 rfl) rfl rfl ?_
  refine T_if_ne 30 (dk dtk_X11_fault 11 rfl) (by decide) (fun c1 => ?_) (fun c1 => ?_)
  · have h := h.1 c1
    refine T_aload_n 0 (dk dtk_X11_fault 15 rfl) rfl rfl ?_
    refine T_getI 0 12 (dk dtk_X11_fault 16 rfl) kfl_X11_67 kk_0 (kl_0 hq) (by decide) rfl ?_
    exact KE_iret (dk dtk_X11_fault 17 rfl) rfl rfl h
  · have h := h.2 c1
    refine T_aload_n 0 (dk dtk_X11_fault 12 rfl) rfl rfl ?_
    refine T_getI 0 11 (dk dtk_X11_fault 13 rfl) kfl_X11_63 kk_0 (kl_0 hq) (by decide) rfl ?_
    refine T_goto 34 (dk dtk_X11_fault 14 rfl) (by decide) ?_
    exact KE_iret (dk dtk_X11_fault 17 rfl) rfl rfl h
set_option maxRecDepth 100000 in
theorem dtk_X11_count : dck cX11_count [(0, .iload_n 1, 1), (1, .iconst 5, 1), (2, .invokestatic 132, 3), (5, .aload_n 0, 1), (6, .getfield 110, 3), (9, .ifCond .ne 5, 3), (12, .iconst 0, 1), (13, .ireturn, 1), (14, .iload_n 1, 1), (15, .tableswitch 61 0 3 #[29, 37, 45, 53], 29), (44, .aload_n 0, 1), (45, .getfield 28, 3), (48, .getfield 136, 3), (51, .ireturn, 1), (52, .aload_n 0, 1), (53, .getfield 28, 3), (56, .getfield 139, 3), (59, .ireturn, 1), (60, .aload_n 0, 1), (61, .getfield 28, 3), (64, .getfield 124, 3), (67, .ireturn, 1), (68, .aload_n 0, 1), (69, .getfield 28, 3), (72, .getfield 142, 3), (75, .ireturn, 1), (76, .aload_n 0, 1), (77, .getfield 28, 3), (80, .getfield 145, 3), (83, .ireturn, 1)] = true := by decide +kernel
set_option maxRecDepth 100000 in
set_option maxHeartbeats 4000000 in
theorem kg_X11_count_0 {G : kG} {q : kP} {d : Nat} {x : gd} {P : Option gv → gd → Prop} {X : String → gd → Prop} (hq : kV q) (l1 : Int32)
    (h : KE G q (d + 6) zk_X11_needWhat 0 [(0, vi l1), (1, vi 5)] [] x (rv (fun x1 => ((¬ ((x1.1 0 9) = (0 : Int32)) → (((l1 = 0) → P (some (vi (x1.1 60 6))) x1) ∧ ((l1 = 1) → P (some (vi (x1.1 60 9))) x1) ∧ ((l1 = 2) → P (some (vi (x1.1 60 10))) x1) ∧ ((l1 = 3) → P (some (vi (x1.1 60 14))) x1) ∧ ((∀ k ∈ [(0 : Int32), (1 : Int32), (2 : Int32), (3 : Int32)], ¬ l1 = k) → P (some (vi (x1.1 60 16))) x1))) ∧ ((x1.1 0 9) = (0 : Int32) → P (some (vi 0)) x1)))) X) :
    KE G q (d + 7) zk_X11_count 0 [(0, vr 0), (1, vi l1)] [] x P X := by
  refine T_iload_n 1 (dk dtk_X11_count 0 rfl) rfl rfl ?_
  refine T_iconst (v := 5) (dk dtk_X11_count 1 rfl) (by decide +kernel) ?_
  refine KD_Sv [vi l1, vi 5] [] rfl (dk dtk_X11_count 2 rfl) kcs_X11_132 rfl (Nat.le_of_ble_eq_true rfl) (Nat.le_of_ble_eq_true rfl) (gok_i (av_c (gkr (kl_0 hq)) (av_c rfl av_n)) as_n) rfl h (fun x1 h => ?_)
  refine T_aload_n 0 (dk dtk_X11_count 3 rfl) rfl rfl ?_
  refine T_getI 0 9 (dk dtk_X11_count 4 rfl) kfl_X11_110 kk_0 (kl_0 hq) (by decide) rfl ?_
  refine T_if_ne 14 (dk dtk_X11_count 5 rfl) (by decide) (fun c2 => ?_) (fun c2 => ?_)
  · have h := h.1 c2
    refine T_iload_n 1 (dk dtk_X11_count 8 rfl) rfl rfl ?_
    by_cases c3 : l1 = 0
    · have h := h.1 c3
      refine T_table 29 44 (dk dtk_X11_count 9 rfl) (by decide) (by rw [c3]; decide +kernel) (by decide) ?_
      refine T_aload_n 0 (dk dtk_X11_count 10 rfl) rfl rfl ?_
      refine T_getR 0 2 60 (dk dtk_X11_count 11 rfl) kfl_X11_28 kk_0 (kl_0 hq) (by decide) rfl kr_0_2 ?_
      refine T_getI 60 6 (dk dtk_X11_count 12 rfl) kfl_X11_136 kk_60 (kl_60 hq) (by decide) rfl ?_
      exact KE_iret (dk dtk_X11_count 13 rfl) rfl rfl h
    · have h := h.2
      by_cases c4 : l1 = 1
      · have h := h.1 c4
        refine T_table 37 52 (dk dtk_X11_count 9 rfl) (by decide) (by rw [c4]; decide +kernel) (by decide) ?_
        refine T_aload_n 0 (dk dtk_X11_count 14 rfl) rfl rfl ?_
        refine T_getR 0 2 60 (dk dtk_X11_count 15 rfl) kfl_X11_28 kk_0 (kl_0 hq) (by decide) rfl kr_0_2 ?_
        refine T_getI 60 9 (dk dtk_X11_count 16 rfl) kfl_X11_139 kk_60 (kl_60 hq) (by decide) rfl ?_
        exact KE_iret (dk dtk_X11_count 17 rfl) rfl rfl h
      · have h := h.2
        by_cases c5 : l1 = 2
        · have h := h.1 c5
          refine T_table 45 60 (dk dtk_X11_count 9 rfl) (by decide) (by rw [c5]; decide +kernel) (by decide) ?_
          refine T_aload_n 0 (dk dtk_X11_count 18 rfl) rfl rfl ?_
          refine T_getR 0 2 60 (dk dtk_X11_count 19 rfl) kfl_X11_28 kk_0 (kl_0 hq) (by decide) rfl kr_0_2 ?_
          refine T_getI 60 10 (dk dtk_X11_count 20 rfl) kfl_X11_124 kk_60 (kl_60 hq) (by decide) rfl ?_
          exact KE_iret (dk dtk_X11_count 21 rfl) rfl rfl h
        · have h := h.2
          by_cases c6 : l1 = 3
          · have h := h.1 c6
            refine T_table 53 68 (dk dtk_X11_count 9 rfl) (by decide) (by rw [c6]; decide +kernel) (by decide) ?_
            refine T_aload_n 0 (dk dtk_X11_count 22 rfl) rfl rfl ?_
            refine T_getR 0 2 60 (dk dtk_X11_count 23 rfl) kfl_X11_28 kk_0 (kl_0 hq) (by decide) rfl kr_0_2 ?_
            refine T_getI 60 14 (dk dtk_X11_count 24 rfl) kfl_X11_142 kk_60 (kl_60 hq) (by decide) rfl ?_
            exact KE_iret (dk dtk_X11_count 25 rfl) rfl rfl h
          · have h := h.2
            have n7 : ∀ k ∈ [(0 : Int32), (1 : Int32), (2 : Int32), (3 : Int32)], ¬ l1 = k := (gno c3 (gno c4 (gno c5 (gno c6 gno0))))
            have h := h n7
            refine T_table 61 76 (dk dtk_X11_count 9 rfl) (by decide) (gtab_d [(0 : Int32), (1 : Int32), (2 : Int32), (3 : Int32)] (by decide +kernel) n7) (by decide) ?_
            refine T_aload_n 0 (dk dtk_X11_count 26 rfl) rfl rfl ?_
            refine T_getR 0 2 60 (dk dtk_X11_count 27 rfl) kfl_X11_28 kk_0 (kl_0 hq) (by decide) rfl kr_0_2 ?_
            refine T_getI 60 16 (dk dtk_X11_count 28 rfl) kfl_X11_145 kk_60 (kl_60 hq) (by decide) rfl ?_
            exact KE_iret (dk dtk_X11_count 29 rfl) rfl rfl h
  · have h := h.2 c2
    refine T_iconst (v := 0) (dk dtk_X11_count 6 rfl) (by decide +kernel) ?_
    exact KE_iret (dk dtk_X11_count 7 rfl) rfl rfl h
set_option maxRecDepth 100000 in
theorem dtk_X11_begin : dck cX11_begin [(0, .aload_n 0, 1), (1, .invokevirtual 148, 3), (4, .iload_n 1, 1), (5, .invokestatic 151, 3), (8, .aload_n 0, 1), (9, .iload_n 1, 1), (10, .invokevirtual 154, 3), (13, .aload_n 0, 1), (14, .getfield 46, 3), (17, .getfield 157, 3), (20, .ireturn, 1)] = true := by decide +kernel
set_option maxRecDepth 100000 in
set_option maxHeartbeats 4000000 in
theorem kg_X11_begin_0 {G : kG} {q : kP} {d : Nat} {x : gd} {P : Option gv → gd → Prop} {X : String → gd → Prop} (hq : kV q) (l1 : Int32)
    (h : KE G q (d + 6) zk_X11_needCompiled 0 [(0, vr 0)] [] x (rv (fun x1 => KE G q (d + 6) zk_X11_needWay 0 [(0, vi l1)] [] x1 (rv (fun x2 => KT G q (d + 6) zk_X11_beginRun 0 [(0, vr 0), (1, vi l1)] [] x2 (rv (fun x3 => P (some (vi (x3.1 120 13))) x3)))) X)) X) :
    KE G q (d + 7) zk_X11_begin 0 [(0, vr 0), (1, vi l1)] [] x P X := by
  refine T_aload_n 0 (dk dtk_X11_begin 0 rfl) rfl rfl ?_
  refine KD_Vv [] [] rfl (dk dtk_X11_begin 1 rfl) kcv_X11_148 rfl kk_0 rfl (kl_0 hq) (Nat.le_of_ble_eq_true rfl) (Nat.le_of_ble_eq_true rfl) (gok_i (av_c (gkr (kl_0 hq)) (av_c rfl av_n)) as_n) rfl h (fun x1 h => ?_)
  refine T_iload_n 1 (dk dtk_X11_begin 2 rfl) rfl rfl ?_
  refine KD_Sv [vi l1] [] rfl (dk dtk_X11_begin 3 rfl) kcs_X11_151 rfl (Nat.le_of_ble_eq_true rfl) (Nat.le_of_ble_eq_true rfl) (gok_i (av_c (gkr (kl_0 hq)) (av_c rfl av_n)) as_n) rfl h (fun x2 h => ?_)
  refine T_aload_n 0 (dk dtk_X11_begin 4 rfl) rfl rfl ?_
  refine T_iload_n 1 (dk dtk_X11_begin 5 rfl) rfl rfl ?_
  refine T_sub (lv2 := [(0, vr 0)]) [0] rfl ?_
  refine KC_Vv [vi l1] [] rfl (dk dtk_X11_begin 6 rfl) kcv_X11_154 rfl kk_0 rfl (kl_0 hq) (Nat.le_of_ble_eq_true rfl) (Nat.le_of_ble_eq_true rfl) (gok_i (av_c (gkr (kl_0 hq)) av_n) as_n) rfl h (fun x3 h => ?_)
  refine T_aload_n 0 (dk dtk_X11_begin 7 rfl) rfl rfl ?_
  refine T_getR 0 4 120 (dk dtk_X11_begin 8 rfl) kfl_X11_46 kk_0 (kl_0 hq) (by decide) rfl kr_0_4 ?_
  refine T_getI 120 13 (dk dtk_X11_begin 9 rfl) kfl_X11_157 kk_120 (kl_120 hq) (by decide) rfl ?_
  exact KE_iret (dk dtk_X11_begin 10 rfl) rfl rfl h
set_option maxRecDepth 100000 in
theorem dtk_X11_choices : dck cX11_choices [(0, .aload_n 0, 1), (1, .invokevirtual 160, 3), (4, .aload_n 0, 1), (5, .getfield 46, 3), (8, .getfield 157, 3), (11, .ireturn, 1)] = true := by decide +kernel
set_option maxRecDepth 100000 in
set_option maxHeartbeats 4000000 in
theorem kg_X11_choices_0 {G : kG} {q : kP} {d : Nat} {x : gd} {P : Option gv → gd → Prop} {X : String → gd → Prop} (hq : kV q) 
    (h : KE G q (d + 6) zk_X11_needRun 0 [(0, vr 0)] [] x (rv (fun x1 => P (some (vi (x1.1 120 13))) x1)) X) :
    KE G q (d + 7) zk_X11_choices 0 [(0, vr 0)] [] x P X := by
  refine T_aload_n 0 (dk dtk_X11_choices 0 rfl) rfl rfl ?_
  refine KD_Vv [] [] rfl (dk dtk_X11_choices 1 rfl) kcv_X11_160 rfl kk_0 rfl (kl_0 hq) (Nat.le_of_ble_eq_true rfl) (Nat.le_of_ble_eq_true rfl) (gok_i (av_c (gkr (kl_0 hq)) av_n) as_n) rfl h (fun x1 h => ?_)
  refine T_aload_n 0 (dk dtk_X11_choices 2 rfl) rfl rfl ?_
  refine T_getR 0 4 120 (dk dtk_X11_choices 3 rfl) kfl_X11_46 kk_0 (kl_0 hq) (by decide) rfl kr_0_4 ?_
  refine T_getI 120 13 (dk dtk_X11_choices 4 rfl) kfl_X11_157 kk_120 (kl_120 hq) (by decide) rfl ?_
  exact KE_iret (dk dtk_X11_choices 5 rfl) rfl rfl h
set_option maxRecDepth 100000 in
theorem dtk_X11_choice : dck cX11_choice [(0, .aload_n 0, 1), (1, .invokevirtual 160, 3), (4, .iload_n 1, 1), (5, .aload_n 0, 1), (6, .getfield 46, 3), (9, .getfield 157, 3), (12, .invokestatic 163, 3), (15, .iload_n 2, 1), (16, .iconst 5, 1), (17, .invokestatic 132, 3), (20, .aload_n 0, 1), (21, .getfield 46, 3), (24, .getfield 166, 3), (27, .iload_n 1, 1), (28, .iaload, 1), (29, .istore_n 3, 1), (30, .aload_n 0, 1), (31, .getfield 46, 3), (34, .getfield 169, 3), (37, .iload_n 1, 1), (38, .iaload, 1), (39, .istore 4, 2), (41, .iload_n 2, 1), (42, .tableswitch 91 0 3 #[30, 32, 44, 63], 30), (72, .iload_n 3, 1), (73, .ireturn, 1), (74, .iload 4, 2), (76, .iconst (-1), 1), (77, .if_icmp .ne 7, 3), (80, .iconst 0, 1), (81, .goto 4, 3), (84, .iconst 1, 1), (85, .ireturn, 1), (86, .iload 4, 2), (88, .iconst (-1), 1), (89, .if_icmp .ne 14, 3), (92, .aload_n 0, 1), (93, .getfield 46, 3), (96, .iload_n 3, 1), (97, .invokevirtual 172, 3), (100, .goto 4, 3), (103, .iconst 1, 1), (104, .ireturn, 1), (105, .iload 4, 2), (107, .iconst (-1), 1), (108, .if_icmp .ne 14, 3), (111, .aload_n 0, 1), (112, .getfield 46, 3), (115, .iload_n 3, 1), (116, .invokevirtual 176, 3), (119, .goto 13, 3), (122, .aload_n 0, 1), (123, .getfield 46, 3), (126, .iload_n 3, 1), (127, .iload 4, 2), (129, .invokevirtual 179, 3), (132, .ireturn, 1), (133, .aload_n 0, 1), (134, .getfield 46, 3), (137, .getfield 183, 3), (140, .iload_n 1, 1), (141, .iaload, 1), (142, .ireturn, 1)] = true := by decide +kernel
set_option maxRecDepth 100000 in
set_option maxHeartbeats 4000000 in
theorem kg_X11_choice_0 {G : kG} {q : kP} {d : Nat} {x : gd} {P : Option gv → gd → Prop} {X : String → gd → Prop} (hq : kV q) (l1 : Int32) (l2 : Int32)
    (h : KE G q (d + 6) zk_X11_needRun 0 [(0, vr 0)] [] x (rv (fun x1 => KE G q (d + 6) zk_X11_needIndex 0 [(0, vi l1), (1, vi (x1.1 120 13))] [] x1 (rv (fun x2 => KE G q (d + 6) zk_X11_needWhat 0 [(0, vi l2), (1, vi 5)] [] x2 (rv (fun x3 => vp_in l1 84 ∧ vp_in l1 84 ∧ (((l2 = 0) → P (some (vi (x3.1 131 (l1 : Int32).toNatClampNeg))) x3) ∧ ((l2 = 1) → ((¬ ((x3.1 132 (l1 : Int32).toNatClampNeg) = (-1 : Int32)) → P (some (vi 1)) x3) ∧ ((x3.1 132 (l1 : Int32).toNatClampNeg) = (-1 : Int32) → P (some (vi 0)) x3))) ∧ ((l2 = 2) → ((¬ ((x3.1 132 (l1 : Int32).toNatClampNeg) = (-1 : Int32)) → P (some (vi 1)) x3) ∧ ((x3.1 132 (l1 : Int32).toNatClampNeg) = (-1 : Int32) → KT G q (d + 6) zk_X5_sortOf 0 [(0, vr 120), (1, vi (x3.1 131 (l1 : Int32).toNatClampNeg))] [] x3 (ri (fun r12 x11 => P (some (vi r12)) x11))))) ∧ ((l2 = 3) → ((¬ ((x3.1 132 (l1 : Int32).toNatClampNeg) = (-1 : Int32)) → KT G q (d + 6) zk_X5_lateCell 0 [(0, vr 120), (1, vi (x3.1 131 (l1 : Int32).toNatClampNeg)), (2, vi (x3.1 132 (l1 : Int32).toNatClampNeg))] [] x3 (ri (fun r16 x15 => P (some (vi r16)) x15))) ∧ ((x3.1 132 (l1 : Int32).toNatClampNeg) = (-1 : Int32) → KT G q (d + 6) zk_X5_objectOf 0 [(0, vr 120), (1, vi (x3.1 131 (l1 : Int32).toNatClampNeg))] [] x3 (ri (fun r18 x17 => P (some (vi r18)) x17))))) ∧ ((∀ k ∈ [(0 : Int32), (1 : Int32), (2 : Int32), (3 : Int32)], ¬ l2 = k) → vp_in l1 84 ∧ P (some (vi (x3.1 133 (l1 : Int32).toNatClampNeg))) x3)))) X)) X)) X) :
    KE G q (d + 7) zk_X11_choice 0 [(0, vr 0), (1, vi l1), (2, vi l2)] [] x P X := by
  refine T_aload_n 0 (dk dtk_X11_choice 0 rfl) rfl rfl ?_
  refine KD_Vv [] [] rfl (dk dtk_X11_choice 1 rfl) kcv_X11_160 rfl kk_0 rfl (kl_0 hq) (Nat.le_of_ble_eq_true rfl) (Nat.le_of_ble_eq_true rfl) (gok_i (av_c (gkr (kl_0 hq)) (av_c rfl (av_c rfl av_n))) as_n) rfl h (fun x1 h => ?_)
  refine T_iload_n 1 (dk dtk_X11_choice 2 rfl) rfl rfl ?_
  refine T_aload_n 0 (dk dtk_X11_choice 3 rfl) rfl rfl ?_
  refine T_getR 0 4 120 (dk dtk_X11_choice 4 rfl) kfl_X11_46 kk_0 (kl_0 hq) (by decide) rfl kr_0_4 ?_
  refine T_getI 120 13 (dk dtk_X11_choice 5 rfl) kfl_X11_157 kk_120 (kl_120 hq) (by decide) rfl ?_
  refine KD_Sv [vi l1, vi (x1.1 120 13)] [] rfl (dk dtk_X11_choice 6 rfl) kcs_X11_163 rfl (Nat.le_of_ble_eq_true rfl) (Nat.le_of_ble_eq_true rfl) (gok_i (av_c (gkr (kl_0 hq)) (av_c rfl (av_c rfl av_n))) as_n) rfl h (fun x2 h => ?_)
  refine T_iload_n 2 (dk dtk_X11_choice 7 rfl) rfl rfl ?_
  refine T_iconst (v := 5) (dk dtk_X11_choice 8 rfl) (by decide +kernel) ?_
  refine KD_Sv [vi l2, vi 5] [] rfl (dk dtk_X11_choice 9 rfl) kcs_X11_132 rfl (Nat.le_of_ble_eq_true rfl) (Nat.le_of_ble_eq_true rfl) (gok_i (av_c (gkr (kl_0 hq)) (av_c rfl (av_c rfl av_n))) as_n) rfl h (fun x3 h => ?_)
  refine T_aload_n 0 (dk dtk_X11_choice 10 rfl) rfl rfl ?_
  refine T_getR 0 4 120 (dk dtk_X11_choice 11 rfl) kfl_X11_46 kk_0 (kl_0 hq) (by decide) rfl kr_0_4 ?_
  refine T_getR 120 10 131 (dk dtk_X11_choice 12 rfl) kfl_X11_166 kk_120 (kl_120 hq) (by decide) rfl kr_120_10 ?_
  refine T_iload_n 1 (dk dtk_X11_choice 13 rfl) rfl rfl ?_
  obtain ⟨h4, h⟩ := h
  refine T_iald 131 84 (dk dtk_X11_choice 14 rfl) kk_131 (kl_131 hq) h4 ?_
  refine T_istore_n (lv2 := [(3, vi (x3.1 131 (l1 : Int32).toNatClampNeg)), (0, vr 0), (1, vi l1), (2, vi l2)]) (dk dtk_X11_choice 15 rfl) rfl (by decide) rfl ?_
  refine T_aload_n 1 (dk dtk_X11_choice 16 rfl) rfl rfl ?_
  refine T_getR 0 4 120 (dk dtk_X11_choice 17 rfl) kfl_X11_46 kk_0 (kl_0 hq) (by decide) rfl kr_0_4 ?_
  refine T_getR 120 11 132 (dk dtk_X11_choice 18 rfl) kfl_X11_169 kk_120 (kl_120 hq) (by decide) rfl kr_120_11 ?_
  refine T_iload_n 2 (dk dtk_X11_choice 19 rfl) rfl rfl ?_
  obtain ⟨h5, h⟩ := h
  refine T_iald 132 84 (dk dtk_X11_choice 20 rfl) kk_132 (kl_132 hq) h5 ?_
  refine T_istore (lv2 := [(4, vi (x3.1 132 (l1 : Int32).toNatClampNeg)), (3, vi (x3.1 131 (l1 : Int32).toNatClampNeg)), (0, vr 0), (1, vi l1), (2, vi l2)]) (dk dtk_X11_choice 21 rfl) (by decide) rfl ?_
  refine T_iload_n 4 (dk dtk_X11_choice 22 rfl) rfl rfl ?_
  by_cases c6 : l2 = 0
  · have h := h.1 c6
    refine T_table 30 72 (dk dtk_X11_choice 23 rfl) (by decide) (by rw [c6]; decide +kernel) (by decide) ?_
    refine T_iload_n 1 (dk dtk_X11_choice 24 rfl) rfl rfl ?_
    exact KE_iret (dk dtk_X11_choice 25 rfl) rfl rfl h
  · have h := h.2
    by_cases c7 : l2 = 1
    · have h := h.1 c7
      refine T_table 32 74 (dk dtk_X11_choice 23 rfl) (by decide) (by rw [c7]; decide +kernel) (by decide) ?_
      refine T_iload 0 (dk dtk_X11_choice 26 rfl) rfl ?_
      refine T_iconst (v := (-1)) (dk dtk_X11_choice 27 rfl) (by decide +kernel) ?_
      refine T_icmp_ne 84 (dk dtk_X11_choice 28 rfl) (by decide) (fun c8 => ?_) (fun c8 => ?_)
      · have h := h.1 c8
        refine T_iconst (v := 1) (dk dtk_X11_choice 31 rfl) (by decide +kernel) ?_
        exact KE_iret (dk dtk_X11_choice 32 rfl) rfl rfl h
      · have h := h.2 c8
        refine T_iconst (v := 0) (dk dtk_X11_choice 29 rfl) (by decide +kernel) ?_
        refine T_goto 85 (dk dtk_X11_choice 30 rfl) (by decide) ?_
        exact KE_iret (dk dtk_X11_choice 32 rfl) rfl rfl h
    · have h := h.2
      by_cases c9 : l2 = 2
      · have h := h.1 c9
        refine T_table 44 86 (dk dtk_X11_choice 23 rfl) (by decide) (by rw [c9]; decide +kernel) (by decide) ?_
        refine T_iload 0 (dk dtk_X11_choice 33 rfl) rfl ?_
        refine T_iconst (v := (-1)) (dk dtk_X11_choice 34 rfl) (by decide +kernel) ?_
        refine T_icmp_ne 103 (dk dtk_X11_choice 35 rfl) (by decide) (fun c10 => ?_) (fun c10 => ?_)
        · have h := h.1 c10
          refine T_iconst (v := 1) (dk dtk_X11_choice 41 rfl) (by decide +kernel) ?_
          exact KE_iret (dk dtk_X11_choice 42 rfl) rfl rfl h
        · have h := h.2 c10
          refine T_aload_n 2 (dk dtk_X11_choice 36 rfl) rfl rfl ?_
          refine T_getR 0 4 120 (dk dtk_X11_choice 37 rfl) kfl_X11_46 kk_0 (kl_0 hq) (by decide) rfl kr_0_4 ?_
          refine T_iload_n 1 (dk dtk_X11_choice 38 rfl) rfl rfl ?_
          refine T_sub (lv2 := []) [] rfl ?_
          refine KC_Vi [vi (x3.1 131 (l1 : Int32).toNatClampNeg)] [] rfl (dk dtk_X11_choice 39 rfl) kcv_X11_172 rfl kk_120 rfl (kl_120 hq) (Nat.le_of_ble_eq_true rfl) (Nat.le_of_ble_eq_true rfl) (gok_i av_n as_n) rfl h (fun r12 x11 h => ?_)
          refine T_goto 104 (dk dtk_X11_choice 40 rfl) (by decide) ?_
          exact KE_iret (dk dtk_X11_choice 42 rfl) rfl rfl h
      · have h := h.2
        by_cases c13 : l2 = 3
        · have h := h.1 c13
          refine T_table 63 105 (dk dtk_X11_choice 23 rfl) (by decide) (by rw [c13]; decide +kernel) (by decide) ?_
          refine T_iload 0 (dk dtk_X11_choice 43 rfl) rfl ?_
          refine T_iconst (v := (-1)) (dk dtk_X11_choice 44 rfl) (by decide +kernel) ?_
          refine T_icmp_ne 122 (dk dtk_X11_choice 45 rfl) (by decide) (fun c14 => ?_) (fun c14 => ?_)
          · have h := h.1 c14
            refine T_aload_n 2 (dk dtk_X11_choice 51 rfl) rfl rfl ?_
            refine T_getR 0 4 120 (dk dtk_X11_choice 52 rfl) kfl_X11_46 kk_0 (kl_0 hq) (by decide) rfl kr_0_4 ?_
            refine T_iload_n 1 (dk dtk_X11_choice 53 rfl) rfl rfl ?_
            refine T_iload 0 (dk dtk_X11_choice 54 rfl) rfl ?_
            refine T_sub (lv2 := []) [] rfl ?_
            refine KC_Vi [vi (x3.1 131 (l1 : Int32).toNatClampNeg), vi (x3.1 132 (l1 : Int32).toNatClampNeg)] [] rfl (dk dtk_X11_choice 55 rfl) kcv_X11_179 rfl kk_120 rfl (kl_120 hq) (Nat.le_of_ble_eq_true rfl) (Nat.le_of_ble_eq_true rfl) (gok_i av_n as_n) rfl h (fun r16 x15 h => ?_)
            exact KE_iret (dk dtk_X11_choice 56 rfl) rfl rfl h
          · have h := h.2 c14
            refine T_aload_n 2 (dk dtk_X11_choice 46 rfl) rfl rfl ?_
            refine T_getR 0 4 120 (dk dtk_X11_choice 47 rfl) kfl_X11_46 kk_0 (kl_0 hq) (by decide) rfl kr_0_4 ?_
            refine T_iload_n 1 (dk dtk_X11_choice 48 rfl) rfl rfl ?_
            refine T_sub (lv2 := []) [] rfl ?_
            refine KC_Vi [vi (x3.1 131 (l1 : Int32).toNatClampNeg)] [] rfl (dk dtk_X11_choice 49 rfl) kcv_X11_176 rfl kk_120 rfl (kl_120 hq) (Nat.le_of_ble_eq_true rfl) (Nat.le_of_ble_eq_true rfl) (gok_i av_n as_n) rfl h (fun r18 x17 h => ?_)
            refine T_goto 132 (dk dtk_X11_choice 50 rfl) (by decide) ?_
            exact KE_iret (dk dtk_X11_choice 56 rfl) rfl rfl h
        · have h := h.2
          have n19 : ∀ k ∈ [(0 : Int32), (1 : Int32), (2 : Int32), (3 : Int32)], ¬ l2 = k := (gno c6 (gno c7 (gno c9 (gno c13 gno0))))
          have h := h n19
          refine T_table 91 133 (dk dtk_X11_choice 23 rfl) (by decide) (gtab_d [(0 : Int32), (1 : Int32), (2 : Int32), (3 : Int32)] (by decide +kernel) n19) (by decide) ?_
          refine T_aload_n 2 (dk dtk_X11_choice 57 rfl) rfl rfl ?_
          refine T_getR 0 4 120 (dk dtk_X11_choice 58 rfl) kfl_X11_46 kk_0 (kl_0 hq) (by decide) rfl kr_0_4 ?_
          refine T_getR 120 12 133 (dk dtk_X11_choice 59 rfl) kfl_X11_183 kk_120 (kl_120 hq) (by decide) rfl kr_120_12 ?_
          refine T_iload_n 3 (dk dtk_X11_choice 60 rfl) rfl rfl ?_
          obtain ⟨h20, h⟩ := h
          refine T_iald 133 84 (dk dtk_X11_choice 61 rfl) kk_133 (kl_133 hq) h20 ?_
          exact KE_iret (dk dtk_X11_choice 62 rfl) rfl rfl h
set_option maxRecDepth 100000 in
theorem dtk_X11_go : dck cX11_go [(0, .aload_n 0, 1), (1, .invokevirtual 160, 3), (4, .aload_n 0, 1), (5, .getfield 53, 3), (8, .getfield 186, 3), (11, .sipush 400, 3), (14, .if_icmp .lt 13, 3), (17, .new 102, 3), (20, .dup, 1), (21, .ldc 189, 2), (23, .invokespecial 191, 3), (26, .athrow, 1), (27, .iload_n 1, 1), (28, .aload_n 0, 1), (29, .getfield 46, 3), (32, .getfield 157, 3), (35, .invokestatic 163, 3), (38, .aload_n 0, 1), (39, .iload_n 1, 1), (40, .invokevirtual 192, 3), (43, .aload_n 0, 1), (44, .getfield 46, 3), (47, .getfield 157, 3), (50, .ireturn, 1)] = true := by decide +kernel
set_option maxRecDepth 100000 in
set_option maxHeartbeats 4000000 in
theorem kg_X11_go_0 {G : kG} {q : kP} {d : Nat} {x : gd} {P : Option gv → gd → Prop} {X : String → gd → Prop} (hq : kV q) (l1 : Int32)
    (h : KE G q (d + 6) zk_X11_needRun 0 [(0, vr 0)] [] x (rv (fun x1 => (((x1.1 160 2) < (400 : Int32) → KE G q (d + 6) zk_X11_needIndex 0 [(0, vi l1), (1, vi (x1.1 120 13))] [] x1 (rv (fun x3 => KT G q (d + 6) zk_X11_doChoice 0 [(0, vr 0), (1, vi l1)] [] x3 (rv (fun x4 => P (some (vi (x4.1 120 13))) x4)))) X) ∧ (¬ ((x1.1 160 2) < (400 : Int32)) → X iSE x1)))) X) :
    KE G q (d + 7) zk_X11_go 0 [(0, vr 0), (1, vi l1)] [] x P X := by
  refine T_aload_n 0 (dk dtk_X11_go 0 rfl) rfl rfl ?_
  refine KD_Vv [] [] rfl (dk dtk_X11_go 1 rfl) kcv_X11_160 rfl kk_0 rfl (kl_0 hq) (Nat.le_of_ble_eq_true rfl) (Nat.le_of_ble_eq_true rfl) (gok_i (av_c (gkr (kl_0 hq)) (av_c rfl av_n)) as_n) rfl h (fun x1 h => ?_)
  refine T_aload_n 0 (dk dtk_X11_go 2 rfl) rfl rfl ?_
  refine T_getR 0 5 160 (dk dtk_X11_go 3 rfl) kfl_X11_53 kk_0 (kl_0 hq) (by decide) rfl kr_0_5 ?_
  refine T_getI 160 2 (dk dtk_X11_go 4 rfl) kfl_X11_186 kk_160 (kl_160 hq) (by decide) rfl ?_
  refine T_sipush (v := 400) (dk dtk_X11_go 5 rfl) (by decide +kernel) ?_
  refine T_icmp_lt 27 (dk dtk_X11_go 6 rfl) (by decide) (fun c2 => ?_) (fun c2 => ?_)
  · have h := h.1 c2
    refine T_iload_n 1 (dk dtk_X11_go 12 rfl) rfl rfl ?_
    refine T_aload_n 0 (dk dtk_X11_go 13 rfl) rfl rfl ?_
    refine T_getR 0 4 120 (dk dtk_X11_go 14 rfl) kfl_X11_46 kk_0 (kl_0 hq) (by decide) rfl kr_0_4 ?_
    refine T_getI 120 13 (dk dtk_X11_go 15 rfl) kfl_X11_157 kk_120 (kl_120 hq) (by decide) rfl ?_
    refine KD_Sv [vi l1, vi (x1.1 120 13)] [] rfl (dk dtk_X11_go 16 rfl) kcs_X11_163 rfl (Nat.le_of_ble_eq_true rfl) (Nat.le_of_ble_eq_true rfl) (gok_i (av_c (gkr (kl_0 hq)) (av_c rfl av_n)) as_n) rfl h (fun x3 h => ?_)
    refine T_aload_n 0 (dk dtk_X11_go 17 rfl) rfl rfl ?_
    refine T_iload_n 1 (dk dtk_X11_go 18 rfl) rfl rfl ?_
    refine T_sub (lv2 := [(0, vr 0)]) [0] rfl ?_
    refine KC_Vv [vi l1] [] rfl (dk dtk_X11_go 19 rfl) kcv_X11_192 rfl kk_0 rfl (kl_0 hq) (Nat.le_of_ble_eq_true rfl) (Nat.le_of_ble_eq_true rfl) (gok_i (av_c (gkr (kl_0 hq)) av_n) as_n) rfl h (fun x4 h => ?_)
    refine T_aload_n 0 (dk dtk_X11_go 20 rfl) rfl rfl ?_
    refine T_getR 0 4 120 (dk dtk_X11_go 21 rfl) kfl_X11_46 kk_0 (kl_0 hq) (by decide) rfl kr_0_4 ?_
    refine T_getI 120 13 (dk dtk_X11_go 22 rfl) kfl_X11_157 kk_120 (kl_120 hq) (by decide) rfl ?_
    exact KE_iret (dk dtk_X11_go 23 rfl) rfl rfl h
  · have h := h.2 c2
    exact T_thr kth_X11_102_189 (dk dtk_X11_go 7 rfl) (dk dtk_X11_go 8 rfl) (dk dtk_X11_go 9 rfl) (dk dtk_X11_go 10 rfl) (dk dtk_X11_go 11 rfl) (by intro z hz; cases hz) (by omega) (Nat.le_of_ble_eq_true rfl) (Or.inr ⟨rfl, _, rfl, h⟩)
set_option maxRecDepth 100000 in
theorem dtk_X11_draw : dck cX11_draw [(0, .aload_n 0, 1), (1, .invokevirtual 160, 3), (4, .iload_n 2, 1), (5, .ifCond .lt 10, 3), (8, .iload_n 2, 1), (9, .sipush 400, 3), (12, .if_icmp .le 13, 3), (15, .new 70, 3), (18, .dup, 1), (19, .ldc 195, 2), (21, .invokespecial 74, 3), (24, .athrow, 1), (25, .iload_n 1, 1), (26, .istore_n 3, 1), (27, .iconst 0, 1), (28, .istore 4, 2), (30, .iconst 0, 1), (31, .istore 5, 2), (33, .iload 5, 2), (35, .iload_n 2, 1), (36, .if_icmp .ge 64, 3), (39, .aload_n 0, 1), (40, .getfield 46, 3), (43, .getfield 157, 3), (46, .ifCond .le 54, 3), (49, .aload_n 0, 1), (50, .getfield 53, 3), (53, .getfield 186, 3), (56, .sipush 400, 3), (59, .if_icmp .ge 41, 3), (62, .iload_n 3, 1), (63, .ldc 197, 2), (65, .imul, 1), (66, .sipush 12345, 3), (69, .iadd, 1), (70, .istore_n 3, 1), (71, .aload_n 0, 1), (72, .iload_n 3, 1), (73, .bipush 16, 2), (75, .iushr, 1), (76, .sipush 32767, 3), (79, .iand, 1), (80, .aload_n 0, 1), (81, .getfield 46, 3), (84, .getfield 157, 3), (87, .irem, 1), (88, .invokevirtual 192, 3), (91, .iinc 4 1, 3), (94, .iinc 5 1, 3), (97, .goto (-64), 3), (100, .iload 4, 2), (102, .ireturn, 1)] = true := by decide +kernel
set_option maxRecDepth 100000 in
set_option maxHeartbeats 4000000 in
theorem kg_X11_draw_0 {G : kG} {q : kP} {d : Nat} {x : gd} {P : Option gv → gd → Prop} {X : String → gd → Prop} (hq : kV q) (l1 : Int32) (l2 : Int32)
    (h : KE G q (d + 6) zk_X11_needRun 0 [(0, vr 0)] [] x (rv (fun x1 => ((l2 < (0 : Int32) → KE G q (d + 7) zk_X11_draw 15 [] [] x1 P X) ∧ (¬ (l2 < (0 : Int32)) → ((l2 ≤ (400 : Int32) → KE G q (d + 7) zk_X11_draw 33 [(0, vr 0), (2, vi l2), (3, vi l1), (4, vi 0), (5, vi 0)] [] x1 P X) ∧ (¬ (l2 ≤ (400 : Int32)) → KE G q (d + 7) zk_X11_draw 15 [] [] x1 P X)))))) X) :
    KE G q (d + 7) zk_X11_draw 0 [(0, vr 0), (1, vi l1), (2, vi l2)] [] x P X := by
  refine T_aload_n 0 (dk dtk_X11_draw 0 rfl) rfl rfl ?_
  refine KD_Vv [] [] rfl (dk dtk_X11_draw 1 rfl) kcv_X11_160 rfl kk_0 rfl (kl_0 hq) (Nat.le_of_ble_eq_true rfl) (Nat.le_of_ble_eq_true rfl) (gok_i (av_c (gkr (kl_0 hq)) (av_c rfl (av_c rfl av_n))) as_n) rfl h (fun x1 h => ?_)
  refine T_iload_n 2 (dk dtk_X11_draw 2 rfl) rfl rfl ?_
  refine T_if_lt 15 (dk dtk_X11_draw 3 rfl) (by decide) (fun c2 => ?_) (fun c2 => ?_)
  · have h := h.1 c2
    exact T_sub [] rfl h
  · have h := h.2 c2
    refine T_iload_n 2 (dk dtk_X11_draw 4 rfl) rfl rfl ?_
    refine T_sipush (v := 400) (dk dtk_X11_draw 5 rfl) (by decide +kernel) ?_
    refine T_icmp_le 25 (dk dtk_X11_draw 6 rfl) (by decide) (fun c3 => ?_) (fun c3 => ?_)
    · have h := h.1 c3
      refine T_iload_n 1 (dk dtk_X11_draw 12 rfl) rfl rfl ?_
      refine T_istore_n (lv2 := [(3, vi l1), (0, vr 0), (1, vi l1), (2, vi l2)]) (dk dtk_X11_draw 13 rfl) rfl (by decide) rfl ?_
      refine T_iconst (v := 0) (dk dtk_X11_draw 14 rfl) (by decide +kernel) ?_
      refine T_istore (lv2 := [(4, vi 0), (3, vi l1), (0, vr 0), (1, vi l1), (2, vi l2)]) (dk dtk_X11_draw 15 rfl) (by decide) rfl ?_
      refine T_iconst (v := 0) (dk dtk_X11_draw 16 rfl) (by decide +kernel) ?_
      refine T_istore (lv2 := [(5, vi 0), (4, vi 0), (3, vi l1), (0, vr 0), (1, vi l1), (2, vi l2)]) (dk dtk_X11_draw 17 rfl) (by decide) rfl ?_
      exact T_sub [3, 5, 2, 1, 0] rfl h
    · have h := h.2 c3
      exact T_sub [] rfl h
set_option maxRecDepth 100000 in
set_option maxHeartbeats 4000000 in
theorem kg_X11_draw_15 {G : kG} {q : kP} {d : Nat} {x : gd} {P : Option gv → gd → Prop} {X : String → gd → Prop} (hq : kV q) 
    (h : X iAE x) :
    KE G q (d + 7) zk_X11_draw 15 [] [] x P X := by
  exact T_thr kth_X11_70_195 (dk dtk_X11_draw 7 rfl) (dk dtk_X11_draw 8 rfl) (dk dtk_X11_draw 9 rfl) (dk dtk_X11_draw 10 rfl) (dk dtk_X11_draw 11 rfl) (by intro z hz; cases hz) (by omega) (Nat.le_of_ble_eq_true rfl) (Or.inr ⟨rfl, _, rfl, h⟩)
set_option maxRecDepth 100000 in
set_option maxHeartbeats 4000000 in
theorem kg_X11_draw_33 {G : kG} {q : kP} {d : Nat} {x : gd} {P : Option gv → gd → Prop} {X : String → gd → Prop} (hq : kV q) (l2 : Int32) (l3 : Int32) (l4 : Int32) (l5 : Int32)
    (h : ((l2 ≤ l5 → P (some (vi l4)) x) ∧ (¬ (l2 ≤ l5) → (((x.1 120 13) ≤ (0 : Int32) → P (some (vi l4)) x) ∧ (¬ ((x.1 120 13) ≤ (0 : Int32)) → (((400 : Int32) ≤ (x.1 160 2) → P (some (vi l4)) x) ∧ (¬ ((400 : Int32) ≤ (x.1 160 2)) → ¬ (x.1 120 13) = 0 ∧ KT G q (d + 6) zk_X11_doChoice 0 [(0, vr 0), (1, vi ((((((l3 * 1103515245) + 12345 : Int32).toUInt32 >>> ((16 : Int32).toUInt32 &&& Int32.toUInt32 31)).toInt32) &&& 32767) - (((((l3 * 1103515245) + 12345 : Int32).toUInt32 >>> ((16 : Int32).toUInt32 &&& Int32.toUInt32 31)).toInt32) &&& 32767) / (x.1 120 13) * (x.1 120 13)))] [] x (rv (fun x5 => KE G q (d + 7) zk_X11_draw 33 [(0, vr 0), (2, vi l2), (3, vi ((l3 * 1103515245) + 12345)), (4, vi (l4 + 1)), (5, vi (l5 + 1))] [] x5 P X))))))))) :
    KE G q (d + 7) zk_X11_draw 33 [(0, vr 0), (2, vi l2), (3, vi l3), (4, vi l4), (5, vi l5)] [] x P X := by
  refine T_iload 4 (dk dtk_X11_draw 18 rfl) rfl ?_
  refine T_iload_n 1 (dk dtk_X11_draw 19 rfl) rfl rfl ?_
  refine T_icmp_ge 100 (dk dtk_X11_draw 20 rfl) (by decide) (fun c1 => ?_) (fun c1 => ?_)
  · have h := h.1 c1
    refine T_iload 3 (dk dtk_X11_draw 50 rfl) rfl ?_
    exact KE_iret (dk dtk_X11_draw 51 rfl) rfl rfl h
  · have h := h.2 c1
    refine T_aload_n 0 (dk dtk_X11_draw 21 rfl) rfl rfl ?_
    refine T_getR 0 4 120 (dk dtk_X11_draw 22 rfl) kfl_X11_46 kk_0 (kl_0 hq) (by decide) rfl kr_0_4 ?_
    refine T_getI 120 13 (dk dtk_X11_draw 23 rfl) kfl_X11_157 kk_120 (kl_120 hq) (by decide) rfl ?_
    refine T_if_le 100 (dk dtk_X11_draw 24 rfl) (by decide) (fun c2 => ?_) (fun c2 => ?_)
    · have h := h.1 c2
      refine T_iload 3 (dk dtk_X11_draw 50 rfl) rfl ?_
      exact KE_iret (dk dtk_X11_draw 51 rfl) rfl rfl h
    · have h := h.2 c2
      refine T_aload_n 0 (dk dtk_X11_draw 25 rfl) rfl rfl ?_
      refine T_getR 0 5 160 (dk dtk_X11_draw 26 rfl) kfl_X11_53 kk_0 (kl_0 hq) (by decide) rfl kr_0_5 ?_
      refine T_getI 160 2 (dk dtk_X11_draw 27 rfl) kfl_X11_186 kk_160 (kl_160 hq) (by decide) rfl ?_
      refine T_sipush (v := 400) (dk dtk_X11_draw 28 rfl) (by decide +kernel) ?_
      refine T_icmp_ge 100 (dk dtk_X11_draw 29 rfl) (by decide) (fun c3 => ?_) (fun c3 => ?_)
      · have h := h.1 c3
        refine T_iload 3 (dk dtk_X11_draw 50 rfl) rfl ?_
        exact KE_iret (dk dtk_X11_draw 51 rfl) rfl rfl h
      · have h := h.2 c3
        refine T_iload_n 2 (dk dtk_X11_draw 30 rfl) rfl rfl ?_
        refine T_ldc (v := 1103515245) (dk dtk_X11_draw 31 rfl) kkc_X11_197 ?_
        refine T_imul (dk dtk_X11_draw 32 rfl) ?_
        refine T_sipush (v := 12345) (dk dtk_X11_draw 33 rfl) (by decide +kernel) ?_
        refine T_iadd (dk dtk_X11_draw 34 rfl) ?_
        refine T_istore_n (lv2 := [(3, vi ((l3 * 1103515245) + 12345)), (0, vr 0), (2, vi l2), (4, vi l4), (5, vi l5)]) (dk dtk_X11_draw 35 rfl) rfl (by decide) rfl ?_
        refine T_aload_n 1 (dk dtk_X11_draw 36 rfl) rfl rfl ?_
        refine T_iload_n 0 (dk dtk_X11_draw 37 rfl) rfl rfl ?_
        refine T_bipush (v := 16) (dk dtk_X11_draw 38 rfl) (by decide +kernel) ?_
        refine T_iushr (dk dtk_X11_draw 39 rfl) ?_
        refine T_sipush (v := 32767) (dk dtk_X11_draw 40 rfl) (by decide +kernel) ?_
        refine T_iand (dk dtk_X11_draw 41 rfl) ?_
        refine T_aload_n 1 (dk dtk_X11_draw 42 rfl) rfl rfl ?_
        refine T_getR 0 4 120 (dk dtk_X11_draw 43 rfl) kfl_X11_46 kk_0 (kl_0 hq) (by decide) rfl kr_0_4 ?_
        refine T_getI 120 13 (dk dtk_X11_draw 44 rfl) kfl_X11_157 kk_120 (kl_120 hq) (by decide) rfl ?_
        obtain ⟨h4, h⟩ := h
        refine T_irem (dk dtk_X11_draw 45 rfl) h4 ?_
        refine KC_Vv [vi ((((((l3 * 1103515245) + 12345 : Int32).toUInt32 >>> ((16 : Int32).toUInt32 &&& Int32.toUInt32 31)).toInt32) &&& 32767) - (((((l3 * 1103515245) + 12345 : Int32).toUInt32 >>> ((16 : Int32).toUInt32 &&& Int32.toUInt32 31)).toInt32) &&& 32767) / (x.1 120 13) * (x.1 120 13))] [] rfl (dk dtk_X11_draw 46 rfl) kcv_X11_192 rfl kk_0 rfl (kl_0 hq) (Nat.le_of_ble_eq_true rfl) (Nat.le_of_ble_eq_true rfl) (gok_i (av_c rfl (av_c (gkr (kl_0 hq)) (av_c rfl (av_c rfl (av_c rfl av_n))))) as_n) rfl h (fun x5 h => ?_)
        refine T_iinc (v := l4 + 1) (lv2 := [(4, vi (l4 + 1)), (3, vi ((l3 * 1103515245) + 12345)), (0, vr 0), (2, vi l2), (5, vi l5)]) 3 (dk dtk_X11_draw 47 rfl) rfl rfl (by decide) rfl ?_
        refine T_iinc (v := l5 + 1) (lv2 := [(5, vi (l5 + 1)), (4, vi (l4 + 1)), (3, vi ((l3 * 1103515245) + 12345)), (0, vr 0), (2, vi l2)]) 4 (dk dtk_X11_draw 48 rfl) rfl rfl (by decide) rfl ?_
        refine T_goto 33 (dk dtk_X11_draw 49 rfl) (by decide) ?_
        exact T_sub [3, 4, 2, 1, 0] rfl h
set_option maxRecDepth 100000 in
theorem dtk_X11_again : dck cX11_again [(0, .aload_n 0, 1), (1, .invokevirtual 160, 3), (4, .iload_n 1, 1), (5, .ifCond .lt 14, 3), (8, .iload_n 1, 1), (9, .aload_n 0, 1), (10, .getfield 53, 3), (13, .getfield 186, 3), (16, .if_icmp .le 13, 3), (19, .new 70, 3), (22, .dup, 1), (23, .ldc 198, 2), (25, .invokespecial 74, 3), (28, .athrow, 1), (29, .aload_n 0, 1), (30, .aload_n 0, 1), (31, .getfield 46, 3), (34, .getfield 200, 3), (37, .invokevirtual 154, 3), (40, .iconst 0, 1), (41, .istore_n 2, 1), (42, .iload_n 2, 1), (43, .iload_n 1, 1), (44, .if_icmp .ge 22, 3), (47, .aload_n 0, 1), (48, .aload_n 0, 1), (49, .getfield 53, 3), (52, .getfield 203, 3), (55, .iload_n 2, 1), (56, .iaload, 1), (57, .invokevirtual 192, 3), (60, .iinc 2 1, 3), (63, .goto (-21), 3), (66, .aload_n 0, 1), (67, .getfield 46, 3), (70, .getfield 157, 3), (73, .ireturn, 1)] = true := by decide +kernel
set_option maxRecDepth 100000 in
set_option maxHeartbeats 4000000 in
theorem kg_X11_again_0 {G : kG} {q : kP} {d : Nat} {x : gd} {P : Option gv → gd → Prop} {X : String → gd → Prop} (hq : kV q) (l1 : Int32)
    (h : KE G q (d + 6) zk_X11_needRun 0 [(0, vr 0)] [] x (rv (fun x1 => ((l1 < (0 : Int32) → KE G q (d + 7) zk_X11_again 19 [] [] x1 P X) ∧ (¬ (l1 < (0 : Int32)) → ((l1 ≤ (x1.1 160 2) → KT G q (d + 6) zk_X11_beginRun 0 [(0, vr 0), (1, vi (x1.1 120 3))] [] x1 (rv (fun x4 => KE G q (d + 7) zk_X11_again 42 [(0, vr 0), (1, vi l1), (2, vi 0)] [] x4 P X))) ∧ (¬ (l1 ≤ (x1.1 160 2)) → KE G q (d + 7) zk_X11_again 19 [] [] x1 P X)))))) X) :
    KE G q (d + 7) zk_X11_again 0 [(0, vr 0), (1, vi l1)] [] x P X := by
  refine T_aload_n 0 (dk dtk_X11_again 0 rfl) rfl rfl ?_
  refine KD_Vv [] [] rfl (dk dtk_X11_again 1 rfl) kcv_X11_160 rfl kk_0 rfl (kl_0 hq) (Nat.le_of_ble_eq_true rfl) (Nat.le_of_ble_eq_true rfl) (gok_i (av_c (gkr (kl_0 hq)) (av_c rfl av_n)) as_n) rfl h (fun x1 h => ?_)
  refine T_iload_n 1 (dk dtk_X11_again 2 rfl) rfl rfl ?_
  refine T_if_lt 19 (dk dtk_X11_again 3 rfl) (by decide) (fun c2 => ?_) (fun c2 => ?_)
  · have h := h.1 c2
    exact T_sub [] rfl h
  · have h := h.2 c2
    refine T_iload_n 1 (dk dtk_X11_again 4 rfl) rfl rfl ?_
    refine T_aload_n 0 (dk dtk_X11_again 5 rfl) rfl rfl ?_
    refine T_getR 0 5 160 (dk dtk_X11_again 6 rfl) kfl_X11_53 kk_0 (kl_0 hq) (by decide) rfl kr_0_5 ?_
    refine T_getI 160 2 (dk dtk_X11_again 7 rfl) kfl_X11_186 kk_160 (kl_160 hq) (by decide) rfl ?_
    refine T_icmp_le 29 (dk dtk_X11_again 8 rfl) (by decide) (fun c3 => ?_) (fun c3 => ?_)
    · have h := h.1 c3
      refine T_aload_n 0 (dk dtk_X11_again 14 rfl) rfl rfl ?_
      refine T_aload_n 0 (dk dtk_X11_again 15 rfl) rfl rfl ?_
      refine T_getR 0 4 120 (dk dtk_X11_again 16 rfl) kfl_X11_46 kk_0 (kl_0 hq) (by decide) rfl kr_0_4 ?_
      refine T_getI 120 3 (dk dtk_X11_again 17 rfl) kfl_X11_200 kk_120 (kl_120 hq) (by decide) rfl ?_
      refine KC_Vv [vi (x1.1 120 3)] [] rfl (dk dtk_X11_again 18 rfl) kcv_X11_154 rfl kk_0 rfl (kl_0 hq) (Nat.le_of_ble_eq_true rfl) (Nat.le_of_ble_eq_true rfl) (gok_i (av_c (gkr (kl_0 hq)) (av_c rfl av_n)) as_n) rfl h (fun x4 h => ?_)
      refine T_iconst (v := 0) (dk dtk_X11_again 19 rfl) (by decide +kernel) ?_
      refine T_istore_n (lv2 := [(2, vi 0), (0, vr 0), (1, vi l1)]) (dk dtk_X11_again 20 rfl) rfl (by decide) rfl ?_
      exact T_sub [1, 2, 0] rfl h
    · have h := h.2 c3
      exact T_sub [] rfl h
set_option maxRecDepth 100000 in
set_option maxHeartbeats 4000000 in
theorem kg_X11_again_19 {G : kG} {q : kP} {d : Nat} {x : gd} {P : Option gv → gd → Prop} {X : String → gd → Prop} (hq : kV q) 
    (h : X iAE x) :
    KE G q (d + 7) zk_X11_again 19 [] [] x P X := by
  exact T_thr kth_X11_70_198 (dk dtk_X11_again 9 rfl) (dk dtk_X11_again 10 rfl) (dk dtk_X11_again 11 rfl) (dk dtk_X11_again 12 rfl) (dk dtk_X11_again 13 rfl) (by intro z hz; cases hz) (by omega) (Nat.le_of_ble_eq_true rfl) (Or.inr ⟨rfl, _, rfl, h⟩)
set_option maxRecDepth 100000 in
set_option maxHeartbeats 4000000 in
theorem kg_X11_again_42 {G : kG} {q : kP} {d : Nat} {x : gd} {P : Option gv → gd → Prop} {X : String → gd → Prop} (hq : kV q) (l1 : Int32) (l2 : Int32)
    (h : ((l1 ≤ l2 → P (some (vi (x.1 120 13))) x) ∧ (¬ (l1 ≤ l2) → vp_in l2 400 ∧ KT G q (d + 6) zk_X11_doChoice 0 [(0, vr 0), (1, vi (x.1 162 (l2 : Int32).toNatClampNeg))] [] x (rv (fun x3 => KE G q (d + 7) zk_X11_again 42 [(0, vr 0), (1, vi l1), (2, vi (l2 + 1))] [] x3 P X))))) :
    KE G q (d + 7) zk_X11_again 42 [(0, vr 0), (1, vi l1), (2, vi l2)] [] x P X := by
  refine T_iload_n 2 (dk dtk_X11_again 21 rfl) rfl rfl ?_
  refine T_iload_n 1 (dk dtk_X11_again 22 rfl) rfl rfl ?_
  refine T_icmp_ge 66 (dk dtk_X11_again 23 rfl) (by decide) (fun c1 => ?_) (fun c1 => ?_)
  · have h := h.1 c1
    refine T_aload_n 0 (dk dtk_X11_again 33 rfl) rfl rfl ?_
    refine T_getR 0 4 120 (dk dtk_X11_again 34 rfl) kfl_X11_46 kk_0 (kl_0 hq) (by decide) rfl kr_0_4 ?_
    refine T_getI 120 13 (dk dtk_X11_again 35 rfl) kfl_X11_157 kk_120 (kl_120 hq) (by decide) rfl ?_
    exact KE_iret (dk dtk_X11_again 36 rfl) rfl rfl h
  · have h := h.2 c1
    refine T_aload_n 0 (dk dtk_X11_again 24 rfl) rfl rfl ?_
    refine T_aload_n 0 (dk dtk_X11_again 25 rfl) rfl rfl ?_
    refine T_getR 0 5 160 (dk dtk_X11_again 26 rfl) kfl_X11_53 kk_0 (kl_0 hq) (by decide) rfl kr_0_5 ?_
    refine T_getR 160 1 162 (dk dtk_X11_again 27 rfl) kfl_X11_203 kk_160 (kl_160 hq) (by decide) rfl kr_160_1 ?_
    refine T_iload_n 2 (dk dtk_X11_again 28 rfl) rfl rfl ?_
    obtain ⟨h2, h⟩ := h
    refine T_iald 162 400 (dk dtk_X11_again 29 rfl) kk_162 (kl_162 hq) h2 ?_
    refine KC_Vv [vi (x.1 162 (l2 : Int32).toNatClampNeg)] [] rfl (dk dtk_X11_again 30 rfl) kcv_X11_192 rfl kk_0 rfl (kl_0 hq) (Nat.le_of_ble_eq_true rfl) (Nat.le_of_ble_eq_true rfl) (gok_i (av_c (gkr (kl_0 hq)) (av_c rfl (av_c rfl av_n))) as_n) rfl h (fun x3 h => ?_)
    refine T_iinc (v := l2 + 1) (lv2 := [(2, vi (l2 + 1)), (0, vr 0), (1, vi l1)]) 2 (dk dtk_X11_again 31 rfl) rfl rfl (by decide) rfl ?_
    refine T_goto 42 (dk dtk_X11_again 32 rfl) (by decide) ?_
    exact T_sub [1, 2, 0] rfl h
set_option maxRecDepth 100000 in
theorem dtk_X11_run : dck cX11_run [(0, .aload_n 0, 1), (1, .invokevirtual 160, 3), (4, .iload_n 1, 1), (5, .bipush 8, 2), (7, .invokestatic 132, 3), (10, .iload_n 1, 1), (11, .tableswitch 113 0 6 #[41, 49, 57, 65, 81, 97, 105], 41), (52, .aload_n 0, 1), (53, .getfield 46, 3), (56, .getfield 200, 3), (59, .ireturn, 1), (60, .aload_n 0, 1), (61, .getfield 53, 3), (64, .getfield 186, 3), (67, .ireturn, 1), (68, .aload_n 0, 1), (69, .getfield 53, 3), (72, .getfield 206, 3), (75, .ireturn, 1), (76, .aload_n 0, 1), (77, .getfield 46, 3), (80, .getfield 157, 3), (83, .ifCond .ne 7, 3), (86, .iconst 1, 1), (87, .goto 4, 3), (90, .iconst 0, 1), (91, .ireturn, 1), (92, .aload_n 0, 1), (93, .getfield 46, 3), (96, .invokevirtual 209, 3), (99, .ifCond .eq 7, 3), (102, .iconst 1, 1), (103, .goto 4, 3), (106, .iconst 0, 1), (107, .ireturn, 1), (108, .aload_n 0, 1), (109, .getfield 53, 3), (112, .invokevirtual 213, 3), (115, .ireturn, 1), (116, .aload_n 0, 1), (117, .getfield 53, 3), (120, .getfield 216, 3), (123, .ireturn, 1), (124, .aload_n 0, 1), (125, .getfield 46, 3), (128, .invokevirtual 219, 3), (131, .ireturn, 1)] = true := by decide +kernel
set_option maxRecDepth 100000 in
set_option maxHeartbeats 4000000 in
theorem kg_X11_run_0 {G : kG} {q : kP} {d : Nat} {x : gd} {P : Option gv → gd → Prop} {X : String → gd → Prop} (hq : kV q) (l1 : Int32)
    (h : KE G q (d + 6) zk_X11_needRun 0 [(0, vr 0)] [] x (rv (fun x1 => KE G q (d + 6) zk_X11_needWhat 0 [(0, vi l1), (1, vi 8)] [] x1 (rv (fun x2 => (((l1 = 0) → P (some (vi (x2.1 120 3))) x2) ∧ ((l1 = 1) → P (some (vi (x2.1 160 2))) x2) ∧ ((l1 = 2) → P (some (vi (x2.1 160 3))) x2) ∧ ((l1 = 3) → ((¬ ((x2.1 120 13) = (0 : Int32)) → P (some (vi 0)) x2) ∧ ((x2.1 120 13) = (0 : Int32) → P (some (vi 1)) x2))) ∧ ((l1 = 4) → KT G q (d + 6) zk_X5_isStuck 0 [(0, vr 120)] [] x2 (ri (fun r10 x9 => ((r10 = (0 : Int32) → P (some (vi 0)) x9) ∧ (¬ (r10 = (0 : Int32)) → P (some (vi 1)) x9))))) ∧ ((l1 = 5) → KT G q (d + 6) zk_X4_races 0 [(0, vr 160)] [] x2 (ri (fun r14 x13 => P (some (vi r14)) x13))) ∧ ((l1 = 6) → P (some (vi (x2.1 160 4))) x2) ∧ ((∀ k ∈ [(0 : Int32), (1 : Int32), (2 : Int32), (3 : Int32), (4 : Int32), (5 : Int32), (6 : Int32)], ¬ l1 = k) → KT G q (d + 6) zk_X5_allLate 0 [(0, vr 120)] [] x2 (ri (fun r18 x17 => P (some (vi r18)) x17)))))) X)) X) :
    KE G q (d + 7) zk_X11_run 0 [(0, vr 0), (1, vi l1)] [] x P X := by
  refine T_aload_n 0 (dk dtk_X11_run 0 rfl) rfl rfl ?_
  refine KD_Vv [] [] rfl (dk dtk_X11_run 1 rfl) kcv_X11_160 rfl kk_0 rfl (kl_0 hq) (Nat.le_of_ble_eq_true rfl) (Nat.le_of_ble_eq_true rfl) (gok_i (av_c (gkr (kl_0 hq)) (av_c rfl av_n)) as_n) rfl h (fun x1 h => ?_)
  refine T_iload_n 1 (dk dtk_X11_run 2 rfl) rfl rfl ?_
  refine T_bipush (v := 8) (dk dtk_X11_run 3 rfl) (by decide +kernel) ?_
  refine KD_Sv [vi l1, vi 8] [] rfl (dk dtk_X11_run 4 rfl) kcs_X11_132 rfl (Nat.le_of_ble_eq_true rfl) (Nat.le_of_ble_eq_true rfl) (gok_i (av_c (gkr (kl_0 hq)) (av_c rfl av_n)) as_n) rfl h (fun x2 h => ?_)
  refine T_iload_n 1 (dk dtk_X11_run 5 rfl) rfl rfl ?_
  by_cases c3 : l1 = 0
  · have h := h.1 c3
    refine T_table 41 52 (dk dtk_X11_run 6 rfl) (by decide) (by rw [c3]; decide +kernel) (by decide) ?_
    refine T_aload_n 0 (dk dtk_X11_run 7 rfl) rfl rfl ?_
    refine T_getR 0 4 120 (dk dtk_X11_run 8 rfl) kfl_X11_46 kk_0 (kl_0 hq) (by decide) rfl kr_0_4 ?_
    refine T_getI 120 3 (dk dtk_X11_run 9 rfl) kfl_X11_200 kk_120 (kl_120 hq) (by decide) rfl ?_
    exact KE_iret (dk dtk_X11_run 10 rfl) rfl rfl h
  · have h := h.2
    by_cases c4 : l1 = 1
    · have h := h.1 c4
      refine T_table 49 60 (dk dtk_X11_run 6 rfl) (by decide) (by rw [c4]; decide +kernel) (by decide) ?_
      refine T_aload_n 0 (dk dtk_X11_run 11 rfl) rfl rfl ?_
      refine T_getR 0 5 160 (dk dtk_X11_run 12 rfl) kfl_X11_53 kk_0 (kl_0 hq) (by decide) rfl kr_0_5 ?_
      refine T_getI 160 2 (dk dtk_X11_run 13 rfl) kfl_X11_186 kk_160 (kl_160 hq) (by decide) rfl ?_
      exact KE_iret (dk dtk_X11_run 14 rfl) rfl rfl h
    · have h := h.2
      by_cases c5 : l1 = 2
      · have h := h.1 c5
        refine T_table 57 68 (dk dtk_X11_run 6 rfl) (by decide) (by rw [c5]; decide +kernel) (by decide) ?_
        refine T_aload_n 0 (dk dtk_X11_run 15 rfl) rfl rfl ?_
        refine T_getR 0 5 160 (dk dtk_X11_run 16 rfl) kfl_X11_53 kk_0 (kl_0 hq) (by decide) rfl kr_0_5 ?_
        refine T_getI 160 3 (dk dtk_X11_run 17 rfl) kfl_X11_206 kk_160 (kl_160 hq) (by decide) rfl ?_
        exact KE_iret (dk dtk_X11_run 18 rfl) rfl rfl h
      · have h := h.2
        by_cases c6 : l1 = 3
        · have h := h.1 c6
          refine T_table 65 76 (dk dtk_X11_run 6 rfl) (by decide) (by rw [c6]; decide +kernel) (by decide) ?_
          refine T_aload_n 0 (dk dtk_X11_run 19 rfl) rfl rfl ?_
          refine T_getR 0 4 120 (dk dtk_X11_run 20 rfl) kfl_X11_46 kk_0 (kl_0 hq) (by decide) rfl kr_0_4 ?_
          refine T_getI 120 13 (dk dtk_X11_run 21 rfl) kfl_X11_157 kk_120 (kl_120 hq) (by decide) rfl ?_
          refine T_if_ne 90 (dk dtk_X11_run 22 rfl) (by decide) (fun c7 => ?_) (fun c7 => ?_)
          · have h := h.1 c7
            refine T_iconst (v := 0) (dk dtk_X11_run 25 rfl) (by decide +kernel) ?_
            exact KE_iret (dk dtk_X11_run 26 rfl) rfl rfl h
          · have h := h.2 c7
            refine T_iconst (v := 1) (dk dtk_X11_run 23 rfl) (by decide +kernel) ?_
            refine T_goto 91 (dk dtk_X11_run 24 rfl) (by decide) ?_
            exact KE_iret (dk dtk_X11_run 26 rfl) rfl rfl h
        · have h := h.2
          by_cases c8 : l1 = 4
          · have h := h.1 c8
            refine T_table 81 92 (dk dtk_X11_run 6 rfl) (by decide) (by rw [c8]; decide +kernel) (by decide) ?_
            refine T_aload_n 0 (dk dtk_X11_run 27 rfl) rfl rfl ?_
            refine T_getR 0 4 120 (dk dtk_X11_run 28 rfl) kfl_X11_46 kk_0 (kl_0 hq) (by decide) rfl kr_0_4 ?_
            refine T_sub (lv2 := []) [] rfl ?_
            refine KC_Vi [] [] rfl (dk dtk_X11_run 29 rfl) kcv_X11_209 rfl kk_120 rfl (kl_120 hq) (Nat.le_of_ble_eq_true rfl) (Nat.le_of_ble_eq_true rfl) (gok_i av_n as_n) rfl h (fun r10 x9 h => ?_)
            refine T_if_eq 106 (dk dtk_X11_run 30 rfl) (by decide) (fun c11 => ?_) (fun c11 => ?_)
            · have h := h.1 c11
              refine T_iconst (v := 0) (dk dtk_X11_run 33 rfl) (by decide +kernel) ?_
              exact KE_iret (dk dtk_X11_run 34 rfl) rfl rfl h
            · have h := h.2 c11
              refine T_iconst (v := 1) (dk dtk_X11_run 31 rfl) (by decide +kernel) ?_
              refine T_goto 107 (dk dtk_X11_run 32 rfl) (by decide) ?_
              exact KE_iret (dk dtk_X11_run 34 rfl) rfl rfl h
          · have h := h.2
            by_cases c12 : l1 = 5
            · have h := h.1 c12
              refine T_table 97 108 (dk dtk_X11_run 6 rfl) (by decide) (by rw [c12]; decide +kernel) (by decide) ?_
              refine T_aload_n 0 (dk dtk_X11_run 35 rfl) rfl rfl ?_
              refine T_getR 0 5 160 (dk dtk_X11_run 36 rfl) kfl_X11_53 kk_0 (kl_0 hq) (by decide) rfl kr_0_5 ?_
              refine T_sub (lv2 := []) [] rfl ?_
              refine KC_Vi [] [] rfl (dk dtk_X11_run 37 rfl) kcv_X11_213 rfl kk_160 rfl (kl_160 hq) (Nat.le_of_ble_eq_true rfl) (Nat.le_of_ble_eq_true rfl) (gok_i av_n as_n) rfl h (fun r14 x13 h => ?_)
              exact KE_iret (dk dtk_X11_run 38 rfl) rfl rfl h
            · have h := h.2
              by_cases c15 : l1 = 6
              · have h := h.1 c15
                refine T_table 105 116 (dk dtk_X11_run 6 rfl) (by decide) (by rw [c15]; decide +kernel) (by decide) ?_
                refine T_aload_n 0 (dk dtk_X11_run 39 rfl) rfl rfl ?_
                refine T_getR 0 5 160 (dk dtk_X11_run 40 rfl) kfl_X11_53 kk_0 (kl_0 hq) (by decide) rfl kr_0_5 ?_
                refine T_getI 160 4 (dk dtk_X11_run 41 rfl) kfl_X11_216 kk_160 (kl_160 hq) (by decide) rfl ?_
                exact KE_iret (dk dtk_X11_run 42 rfl) rfl rfl h
              · have h := h.2
                have n16 : ∀ k ∈ [(0 : Int32), (1 : Int32), (2 : Int32), (3 : Int32), (4 : Int32), (5 : Int32), (6 : Int32)], ¬ l1 = k := (gno c3 (gno c4 (gno c5 (gno c6 (gno c8 (gno c12 (gno c15 gno0)))))))
                have h := h n16
                refine T_table 113 124 (dk dtk_X11_run 6 rfl) (by decide) (gtab_d [(0 : Int32), (1 : Int32), (2 : Int32), (3 : Int32), (4 : Int32), (5 : Int32), (6 : Int32)] (by decide +kernel) n16) (by decide) ?_
                refine T_aload_n 0 (dk dtk_X11_run 43 rfl) rfl rfl ?_
                refine T_getR 0 4 120 (dk dtk_X11_run 44 rfl) kfl_X11_46 kk_0 (kl_0 hq) (by decide) rfl kr_0_4 ?_
                refine T_sub (lv2 := []) [] rfl ?_
                refine KC_Vi [] [] rfl (dk dtk_X11_run 45 rfl) kcv_X11_219 rfl kk_120 rfl (kl_120 hq) (Nat.le_of_ble_eq_true rfl) (Nat.le_of_ble_eq_true rfl) (gok_i av_n as_n) rfl h (fun r18 x17 h => ?_)
                exact KE_iret (dk dtk_X11_run 46 rfl) rfl rfl h
set_option maxRecDepth 100000 in
theorem dtk_X11_cell : dck cX11_cell [(0, .aload_n 0, 1), (1, .invokevirtual 160, 3), (4, .iload_n 1, 1), (5, .aload_n 0, 1), (6, .getfield 28, 3), (9, .getfield 136, 3), (12, .invokestatic 163, 3), (15, .aload_n 0, 1), (16, .getfield 46, 3), (19, .getfield 222, 3), (22, .iload_n 1, 1), (23, .iaload, 1), (24, .ireturn, 1)] = true := by decide +kernel
set_option maxRecDepth 100000 in
set_option maxHeartbeats 4000000 in
theorem kg_X11_cell_0 {G : kG} {q : kP} {d : Nat} {x : gd} {P : Option gv → gd → Prop} {X : String → gd → Prop} (hq : kV q) (l1 : Int32)
    (h : KE G q (d + 6) zk_X11_needRun 0 [(0, vr 0)] [] x (rv (fun x1 => KE G q (d + 6) zk_X11_needIndex 0 [(0, vi l1), (1, vi (x1.1 60 6))] [] x1 (rv (fun x2 => vp_in l1 228 ∧ P (some (vi (x2.1 125 (l1 : Int32).toNatClampNeg))) x2)) X)) X) :
    KE G q (d + 7) zk_X11_cell 0 [(0, vr 0), (1, vi l1)] [] x P X := by
  refine T_aload_n 0 (dk dtk_X11_cell 0 rfl) rfl rfl ?_
  refine KD_Vv [] [] rfl (dk dtk_X11_cell 1 rfl) kcv_X11_160 rfl kk_0 rfl (kl_0 hq) (Nat.le_of_ble_eq_true rfl) (Nat.le_of_ble_eq_true rfl) (gok_i (av_c (gkr (kl_0 hq)) (av_c rfl av_n)) as_n) rfl h (fun x1 h => ?_)
  refine T_iload_n 1 (dk dtk_X11_cell 2 rfl) rfl rfl ?_
  refine T_aload_n 0 (dk dtk_X11_cell 3 rfl) rfl rfl ?_
  refine T_getR 0 2 60 (dk dtk_X11_cell 4 rfl) kfl_X11_28 kk_0 (kl_0 hq) (by decide) rfl kr_0_2 ?_
  refine T_getI 60 6 (dk dtk_X11_cell 5 rfl) kfl_X11_136 kk_60 (kl_60 hq) (by decide) rfl ?_
  refine KD_Sv [vi l1, vi (x1.1 60 6)] [] rfl (dk dtk_X11_cell 6 rfl) kcs_X11_163 rfl (Nat.le_of_ble_eq_true rfl) (Nat.le_of_ble_eq_true rfl) (gok_i (av_c (gkr (kl_0 hq)) (av_c rfl av_n)) as_n) rfl h (fun x2 h => ?_)
  refine T_aload_n 0 (dk dtk_X11_cell 7 rfl) rfl rfl ?_
  refine T_getR 0 4 120 (dk dtk_X11_cell 8 rfl) kfl_X11_46 kk_0 (kl_0 hq) (by decide) rfl kr_0_4 ?_
  refine T_getR 120 4 125 (dk dtk_X11_cell 9 rfl) kfl_X11_222 kk_120 (kl_120 hq) (by decide) rfl kr_120_4 ?_
  refine T_iload_n 1 (dk dtk_X11_cell 10 rfl) rfl rfl ?_
  obtain ⟨h3, h⟩ := h
  refine T_iald 125 228 (dk dtk_X11_cell 11 rfl) kk_125 (kl_125 hq) h3 ?_
  exact KE_iret (dk dtk_X11_cell 12 rfl) rfl rfl h
set_option maxRecDepth 100000 in
theorem dtk_X11_seen : dck cX11_seen [(0, .aload_n 0, 1), (1, .invokevirtual 160, 3), (4, .iload_n 1, 1), (5, .aload_n 0, 1), (6, .getfield 28, 3), (9, .getfield 124, 3), (12, .invokestatic 163, 3), (15, .iload_n 2, 1), (16, .aload_n 0, 1), (17, .getfield 28, 3), (20, .getfield 136, 3), (23, .invokestatic 163, 3), (26, .aload_n 0, 1), (27, .getfield 46, 3), (30, .iload_n 1, 1), (31, .iload_n 2, 1), (32, .invokevirtual 225, 3), (35, .ireturn, 1)] = true := by decide +kernel
set_option maxRecDepth 100000 in
set_option maxHeartbeats 4000000 in
theorem kg_X11_seen_0 {G : kG} {q : kP} {d : Nat} {x : gd} {P : Option gv → gd → Prop} {X : String → gd → Prop} (hq : kV q) (l1 : Int32) (l2 : Int32)
    (h : KE G q (d + 6) zk_X11_needRun 0 [(0, vr 0)] [] x (rv (fun x1 => KE G q (d + 6) zk_X11_needIndex 0 [(0, vi l1), (1, vi (x1.1 60 10))] [] x1 (rv (fun x2 => KE G q (d + 6) zk_X11_needIndex 0 [(0, vi l2), (1, vi (x2.1 60 6))] [] x2 (rv (fun x3 => KT G q (d + 6) zk_X5_seenBy 0 [(0, vr 120), (1, vi l1), (2, vi l2)] [] x3 (ri (fun r5 x4 => P (some (vi r5)) x4)))) X)) X)) X) :
    KE G q (d + 7) zk_X11_seen 0 [(0, vr 0), (1, vi l1), (2, vi l2)] [] x P X := by
  refine T_aload_n 0 (dk dtk_X11_seen 0 rfl) rfl rfl ?_
  refine KD_Vv [] [] rfl (dk dtk_X11_seen 1 rfl) kcv_X11_160 rfl kk_0 rfl (kl_0 hq) (Nat.le_of_ble_eq_true rfl) (Nat.le_of_ble_eq_true rfl) (gok_i (av_c (gkr (kl_0 hq)) (av_c rfl (av_c rfl av_n))) as_n) rfl h (fun x1 h => ?_)
  refine T_iload_n 1 (dk dtk_X11_seen 2 rfl) rfl rfl ?_
  refine T_aload_n 0 (dk dtk_X11_seen 3 rfl) rfl rfl ?_
  refine T_getR 0 2 60 (dk dtk_X11_seen 4 rfl) kfl_X11_28 kk_0 (kl_0 hq) (by decide) rfl kr_0_2 ?_
  refine T_getI 60 10 (dk dtk_X11_seen 5 rfl) kfl_X11_124 kk_60 (kl_60 hq) (by decide) rfl ?_
  refine KD_Sv [vi l1, vi (x1.1 60 10)] [] rfl (dk dtk_X11_seen 6 rfl) kcs_X11_163 rfl (Nat.le_of_ble_eq_true rfl) (Nat.le_of_ble_eq_true rfl) (gok_i (av_c (gkr (kl_0 hq)) (av_c rfl (av_c rfl av_n))) as_n) rfl h (fun x2 h => ?_)
  refine T_iload_n 2 (dk dtk_X11_seen 7 rfl) rfl rfl ?_
  refine T_aload_n 0 (dk dtk_X11_seen 8 rfl) rfl rfl ?_
  refine T_getR 0 2 60 (dk dtk_X11_seen 9 rfl) kfl_X11_28 kk_0 (kl_0 hq) (by decide) rfl kr_0_2 ?_
  refine T_getI 60 6 (dk dtk_X11_seen 10 rfl) kfl_X11_136 kk_60 (kl_60 hq) (by decide) rfl ?_
  refine KD_Sv [vi l2, vi (x2.1 60 6)] [] rfl (dk dtk_X11_seen 11 rfl) kcs_X11_163 rfl (Nat.le_of_ble_eq_true rfl) (Nat.le_of_ble_eq_true rfl) (gok_i (av_c (gkr (kl_0 hq)) (av_c rfl (av_c rfl av_n))) as_n) rfl h (fun x3 h => ?_)
  refine T_aload_n 0 (dk dtk_X11_seen 12 rfl) rfl rfl ?_
  refine T_getR 0 4 120 (dk dtk_X11_seen 13 rfl) kfl_X11_46 kk_0 (kl_0 hq) (by decide) rfl kr_0_4 ?_
  refine T_iload_n 1 (dk dtk_X11_seen 14 rfl) rfl rfl ?_
  refine T_iload_n 2 (dk dtk_X11_seen 15 rfl) rfl rfl ?_
  refine T_sub (lv2 := []) [] rfl ?_
  refine KC_Vi [vi l1, vi l2] [] rfl (dk dtk_X11_seen 16 rfl) kcv_X11_225 rfl kk_120 rfl (kl_120 hq) (Nat.le_of_ble_eq_true rfl) (Nat.le_of_ble_eq_true rfl) (gok_i av_n as_n) rfl h (fun r5 x4 h => ?_)
  exact KE_iret (dk dtk_X11_seen 17 rfl) rfl rfl h
set_option maxRecDepth 100000 in
theorem dtk_X11_lock : dck cX11_lock [(0, .aload_n 0, 1), (1, .invokevirtual 160, 3), (4, .iload_n 1, 1), (5, .aload_n 0, 1), (6, .getfield 28, 3), (9, .getfield 139, 3), (12, .invokestatic 163, 3), (15, .iload_n 2, 1), (16, .iconst 3, 1), (17, .invokestatic 132, 3), (20, .iload_n 2, 1), (21, .lookupswitch 45 #[(0, 27), (1, 36)], 27), (48, .aload_n 0, 1), (49, .getfield 46, 3), (52, .iload_n 1, 1), (53, .invokevirtual 228, 3), (56, .ireturn, 1), (57, .aload_n 0, 1), (58, .getfield 46, 3), (61, .iload_n 1, 1), (62, .invokevirtual 231, 3), (65, .ireturn, 1), (66, .aload_n 0, 1), (67, .getfield 46, 3), (70, .iload_n 1, 1), (71, .invokevirtual 234, 3), (74, .invokestatic 237, 3), (77, .ireturn, 1)] = true := by decide +kernel
set_option maxRecDepth 100000 in
set_option maxHeartbeats 4000000 in
theorem kg_X11_lock_0 {G : kG} {q : kP} {d : Nat} {x : gd} {P : Option gv → gd → Prop} {X : String → gd → Prop} (hq : kV q) (l1 : Int32) (l2 : Int32)
    (h : KE G q (d + 6) zk_X11_needRun 0 [(0, vr 0)] [] x (rv (fun x1 => KE G q (d + 6) zk_X11_needIndex 0 [(0, vi l1), (1, vi (x1.1 60 9))] [] x1 (rv (fun x2 => KE G q (d + 6) zk_X11_needWhat 0 [(0, vi l2), (1, vi 3)] [] x2 (rv (fun x3 => (((l2 = 0) → KT G q (d + 6) zk_X5_holder 0 [(0, vr 120), (1, vi l1)] [] x3 (ri (fun r6 x5 => P (some (vi r6)) x5))) ∧ ((l2 = 1) → KT G q (d + 6) zk_X5_often 0 [(0, vr 120), (1, vi l1)] [] x3 (ri (fun r9 x8 => P (some (vi r9)) x8))) ∧ ((∀ k ∈ [(0 : Int32), (1 : Int32)], ¬ l2 = k) → KT G q (d + 6) zk_X5_waiters 0 [(0, vr 120), (1, vi l1)] [] x3 (ri (fun r12 x11 => (∀ r14 : Int32, P (some (vi r14)) x11))))))) X)) X)) X) :
    KE G q (d + 7) zk_X11_lock 0 [(0, vr 0), (1, vi l1), (2, vi l2)] [] x P X := by
  refine T_aload_n 0 (dk dtk_X11_lock 0 rfl) rfl rfl ?_
  refine KD_Vv [] [] rfl (dk dtk_X11_lock 1 rfl) kcv_X11_160 rfl kk_0 rfl (kl_0 hq) (Nat.le_of_ble_eq_true rfl) (Nat.le_of_ble_eq_true rfl) (gok_i (av_c (gkr (kl_0 hq)) (av_c rfl (av_c rfl av_n))) as_n) rfl h (fun x1 h => ?_)
  refine T_iload_n 1 (dk dtk_X11_lock 2 rfl) rfl rfl ?_
  refine T_aload_n 0 (dk dtk_X11_lock 3 rfl) rfl rfl ?_
  refine T_getR 0 2 60 (dk dtk_X11_lock 4 rfl) kfl_X11_28 kk_0 (kl_0 hq) (by decide) rfl kr_0_2 ?_
  refine T_getI 60 9 (dk dtk_X11_lock 5 rfl) kfl_X11_139 kk_60 (kl_60 hq) (by decide) rfl ?_
  refine KD_Sv [vi l1, vi (x1.1 60 9)] [] rfl (dk dtk_X11_lock 6 rfl) kcs_X11_163 rfl (Nat.le_of_ble_eq_true rfl) (Nat.le_of_ble_eq_true rfl) (gok_i (av_c (gkr (kl_0 hq)) (av_c rfl (av_c rfl av_n))) as_n) rfl h (fun x2 h => ?_)
  refine T_iload_n 2 (dk dtk_X11_lock 7 rfl) rfl rfl ?_
  refine T_iconst (v := 3) (dk dtk_X11_lock 8 rfl) (by decide +kernel) ?_
  refine KD_Sv [vi l2, vi 3] [] rfl (dk dtk_X11_lock 9 rfl) kcs_X11_132 rfl (Nat.le_of_ble_eq_true rfl) (Nat.le_of_ble_eq_true rfl) (gok_i (av_c (gkr (kl_0 hq)) (av_c rfl (av_c rfl av_n))) as_n) rfl h (fun x3 h => ?_)
  refine T_iload_n 2 (dk dtk_X11_lock 10 rfl) rfl rfl ?_
  by_cases c4 : l2 = 0
  · have h := h.1 c4
    refine T_lookup 27 48 (dk dtk_X11_lock 11 rfl) (by decide +kernel) (by rw [c4]; decide +kernel) (by decide) ?_
    refine T_aload_n 0 (dk dtk_X11_lock 12 rfl) rfl rfl ?_
    refine T_getR 0 4 120 (dk dtk_X11_lock 13 rfl) kfl_X11_46 kk_0 (kl_0 hq) (by decide) rfl kr_0_4 ?_
    refine T_iload_n 1 (dk dtk_X11_lock 14 rfl) rfl rfl ?_
    refine T_sub (lv2 := []) [] rfl ?_
    refine KC_Vi [vi l1] [] rfl (dk dtk_X11_lock 15 rfl) kcv_X11_228 rfl kk_120 rfl (kl_120 hq) (Nat.le_of_ble_eq_true rfl) (Nat.le_of_ble_eq_true rfl) (gok_i av_n as_n) rfl h (fun r6 x5 h => ?_)
    exact KE_iret (dk dtk_X11_lock 16 rfl) rfl rfl h
  · have h := h.2
    by_cases c7 : l2 = 1
    · have h := h.1 c7
      refine T_lookup 36 57 (dk dtk_X11_lock 11 rfl) (by decide +kernel) (by rw [c7]; decide +kernel) (by decide) ?_
      refine T_aload_n 0 (dk dtk_X11_lock 17 rfl) rfl rfl ?_
      refine T_getR 0 4 120 (dk dtk_X11_lock 18 rfl) kfl_X11_46 kk_0 (kl_0 hq) (by decide) rfl kr_0_4 ?_
      refine T_iload_n 1 (dk dtk_X11_lock 19 rfl) rfl rfl ?_
      refine T_sub (lv2 := []) [] rfl ?_
      refine KC_Vi [vi l1] [] rfl (dk dtk_X11_lock 20 rfl) kcv_X11_231 rfl kk_120 rfl (kl_120 hq) (Nat.le_of_ble_eq_true rfl) (Nat.le_of_ble_eq_true rfl) (gok_i av_n as_n) rfl h (fun r9 x8 h => ?_)
      exact KE_iret (dk dtk_X11_lock 21 rfl) rfl rfl h
    · have h := h.2
      have n10 : ∀ k ∈ [(0 : Int32), (1 : Int32)], ¬ l2 = k := (gno c4 (gno c7 gno0))
      have h := h n10
      refine T_lookup 45 66 (dk dtk_X11_lock 11 rfl) (by decide +kernel) (glk_d [(0 : Int32), (1 : Int32)] (by decide +kernel) n10) (by decide) ?_
      refine T_aload_n 0 (dk dtk_X11_lock 22 rfl) rfl rfl ?_
      refine T_getR 0 4 120 (dk dtk_X11_lock 23 rfl) kfl_X11_46 kk_0 (kl_0 hq) (by decide) rfl kr_0_4 ?_
      refine T_iload_n 1 (dk dtk_X11_lock 24 rfl) rfl rfl ?_
      refine T_sub (lv2 := []) [] rfl ?_
      refine KC_Vi [vi l1] [] rfl (dk dtk_X11_lock 25 rfl) kcv_X11_234 rfl kk_120 rfl (kl_120 hq) (Nat.le_of_ble_eq_true rfl) (Nat.le_of_ble_eq_true rfl) (gok_i av_n as_n) rfl h (fun r12 x11 h => ?_)
      refine KC_Si (F := fun z y9 => y9 = x11) [vi r12] [] rfl (dk dtk_X11_lock 26 rfl) kcs_X11_237 rfl (Nat.le_of_ble_eq_true rfl) (Nat.le_of_ble_eq_true rfl) (gok_i av_n as_n) rfl (tj_bits r12 (fun r9 => ⟨rfl, _, rfl, r9, rfl, rfl⟩)) (fun r14 x13 h9 => ?_)
      cases h9
      have h := h r14
      exact KE_iret (dk dtk_X11_lock 27 rfl) rfl rfl h
end
section
set_option maxRecDepth 100000 in
theorem dtk_X11_thread : dck cX11_thread [(0, .aload_n 0, 1), (1, .invokevirtual 160, 3), (4, .iload_n 1, 1), (5, .aload_n 0, 1), (6, .getfield 28, 3), (9, .getfield 124, 3), (12, .invokestatic 163, 3), (15, .iload_n 2, 1), (16, .iconst 5, 1), (17, .invokestatic 132, 3), (20, .iload_n 2, 1), (21, .tableswitch 71 0 3 #[31, 41, 51, 62], 31), (52, .aload_n 0, 1), (53, .getfield 46, 3), (56, .iload_n 1, 1), (57, .iconst 0, 1), (58, .invokevirtual 242, 3), (61, .ireturn, 1), (62, .aload_n 0, 1), (63, .getfield 46, 3), (66, .iload_n 1, 1), (67, .iconst 1, 1), (68, .invokevirtual 242, 3), (71, .ireturn, 1), (72, .aload_n 0, 1), (73, .getfield 46, 3), (76, .iload_n 1, 1), (77, .bipush 7, 2), (79, .invokevirtual 242, 3), (82, .ireturn, 1), (83, .aload_n 0, 1), (84, .getfield 46, 3), (87, .iload_n 1, 1), (88, .invokevirtual 245, 3), (91, .ireturn, 1), (92, .aload_n 0, 1), (93, .getfield 46, 3), (96, .iload_n 1, 1), (97, .invokevirtual 248, 3), (100, .ireturn, 1)] = true := by decide +kernel
set_option maxRecDepth 100000 in
set_option maxHeartbeats 4000000 in
theorem kg_X11_thread_0 {G : kG} {q : kP} {d : Nat} {x : gd} {P : Option gv → gd → Prop} {X : String → gd → Prop} (hq : kV q) (l1 : Int32) (l2 : Int32)
    (h : KE G q (d + 6) zk_X11_needRun 0 [(0, vr 0)] [] x (rv (fun x1 => KE G q (d + 6) zk_X11_needIndex 0 [(0, vi l1), (1, vi (x1.1 60 10))] [] x1 (rv (fun x2 => KE G q (d + 6) zk_X11_needWhat 0 [(0, vi l2), (1, vi 5)] [] x2 (rv (fun x3 => (((l2 = 0) → KT G q (d + 6) zk_X5_get 0 [(0, vr 120), (1, vi l1), (2, vi 0)] [] x3 (ri (fun r6 x5 => P (some (vi r6)) x5))) ∧ ((l2 = 1) → KT G q (d + 6) zk_X5_get 0 [(0, vr 120), (1, vi l1), (2, vi 1)] [] x3 (ri (fun r9 x8 => P (some (vi r9)) x8))) ∧ ((l2 = 2) → KT G q (d + 6) zk_X5_get 0 [(0, vr 120), (1, vi l1), (2, vi 7)] [] x3 (ri (fun r12 x11 => P (some (vi r12)) x11))) ∧ ((l2 = 3) → KT G q (d + 6) zk_X5_known 0 [(0, vr 120), (1, vi l1)] [] x3 (ri (fun r15 x14 => P (some (vi r15)) x14))) ∧ ((∀ k ∈ [(0 : Int32), (1 : Int32), (2 : Int32), (3 : Int32)], ¬ l2 = k) → KT G q (d + 6) zk_X5_lineOf 0 [(0, vr 120), (1, vi l1)] [] x3 (ri (fun r18 x17 => P (some (vi r18)) x17)))))) X)) X)) X) :
    KE G q (d + 7) zk_X11_thread 0 [(0, vr 0), (1, vi l1), (2, vi l2)] [] x P X := by
  refine T_aload_n 0 (dk dtk_X11_thread 0 rfl) rfl rfl ?_
  refine KD_Vv [] [] rfl (dk dtk_X11_thread 1 rfl) kcv_X11_160 rfl kk_0 rfl (kl_0 hq) (Nat.le_of_ble_eq_true rfl) (Nat.le_of_ble_eq_true rfl) (gok_i (av_c (gkr (kl_0 hq)) (av_c rfl (av_c rfl av_n))) as_n) rfl h (fun x1 h => ?_)
  refine T_iload_n 1 (dk dtk_X11_thread 2 rfl) rfl rfl ?_
  refine T_aload_n 0 (dk dtk_X11_thread 3 rfl) rfl rfl ?_
  refine T_getR 0 2 60 (dk dtk_X11_thread 4 rfl) kfl_X11_28 kk_0 (kl_0 hq) (by decide) rfl kr_0_2 ?_
  refine T_getI 60 10 (dk dtk_X11_thread 5 rfl) kfl_X11_124 kk_60 (kl_60 hq) (by decide) rfl ?_
  refine KD_Sv [vi l1, vi (x1.1 60 10)] [] rfl (dk dtk_X11_thread 6 rfl) kcs_X11_163 rfl (Nat.le_of_ble_eq_true rfl) (Nat.le_of_ble_eq_true rfl) (gok_i (av_c (gkr (kl_0 hq)) (av_c rfl (av_c rfl av_n))) as_n) rfl h (fun x2 h => ?_)
  refine T_iload_n 2 (dk dtk_X11_thread 7 rfl) rfl rfl ?_
  refine T_iconst (v := 5) (dk dtk_X11_thread 8 rfl) (by decide +kernel) ?_
  refine KD_Sv [vi l2, vi 5] [] rfl (dk dtk_X11_thread 9 rfl) kcs_X11_132 rfl (Nat.le_of_ble_eq_true rfl) (Nat.le_of_ble_eq_true rfl) (gok_i (av_c (gkr (kl_0 hq)) (av_c rfl (av_c rfl av_n))) as_n) rfl h (fun x3 h => ?_)
  refine T_iload_n 2 (dk dtk_X11_thread 10 rfl) rfl rfl ?_
  by_cases c4 : l2 = 0
  · have h := h.1 c4
    refine T_table 31 52 (dk dtk_X11_thread 11 rfl) (by decide) (by rw [c4]; decide +kernel) (by decide) ?_
    refine T_aload_n 0 (dk dtk_X11_thread 12 rfl) rfl rfl ?_
    refine T_getR 0 4 120 (dk dtk_X11_thread 13 rfl) kfl_X11_46 kk_0 (kl_0 hq) (by decide) rfl kr_0_4 ?_
    refine T_iload_n 1 (dk dtk_X11_thread 14 rfl) rfl rfl ?_
    refine T_iconst (v := 0) (dk dtk_X11_thread 15 rfl) (by decide +kernel) ?_
    refine T_sub (lv2 := []) [] rfl ?_
    refine KC_Vi [vi l1, vi 0] [] rfl (dk dtk_X11_thread 16 rfl) kcv_X11_242 rfl kk_120 rfl (kl_120 hq) (Nat.le_of_ble_eq_true rfl) (Nat.le_of_ble_eq_true rfl) (gok_i av_n as_n) rfl h (fun r6 x5 h => ?_)
    exact KE_iret (dk dtk_X11_thread 17 rfl) rfl rfl h
  · have h := h.2
    by_cases c7 : l2 = 1
    · have h := h.1 c7
      refine T_table 41 62 (dk dtk_X11_thread 11 rfl) (by decide) (by rw [c7]; decide +kernel) (by decide) ?_
      refine T_aload_n 0 (dk dtk_X11_thread 18 rfl) rfl rfl ?_
      refine T_getR 0 4 120 (dk dtk_X11_thread 19 rfl) kfl_X11_46 kk_0 (kl_0 hq) (by decide) rfl kr_0_4 ?_
      refine T_iload_n 1 (dk dtk_X11_thread 20 rfl) rfl rfl ?_
      refine T_iconst (v := 1) (dk dtk_X11_thread 21 rfl) (by decide +kernel) ?_
      refine T_sub (lv2 := []) [] rfl ?_
      refine KC_Vi [vi l1, vi 1] [] rfl (dk dtk_X11_thread 22 rfl) kcv_X11_242 rfl kk_120 rfl (kl_120 hq) (Nat.le_of_ble_eq_true rfl) (Nat.le_of_ble_eq_true rfl) (gok_i av_n as_n) rfl h (fun r9 x8 h => ?_)
      exact KE_iret (dk dtk_X11_thread 23 rfl) rfl rfl h
    · have h := h.2
      by_cases c10 : l2 = 2
      · have h := h.1 c10
        refine T_table 51 72 (dk dtk_X11_thread 11 rfl) (by decide) (by rw [c10]; decide +kernel) (by decide) ?_
        refine T_aload_n 0 (dk dtk_X11_thread 24 rfl) rfl rfl ?_
        refine T_getR 0 4 120 (dk dtk_X11_thread 25 rfl) kfl_X11_46 kk_0 (kl_0 hq) (by decide) rfl kr_0_4 ?_
        refine T_iload_n 1 (dk dtk_X11_thread 26 rfl) rfl rfl ?_
        refine T_bipush (v := 7) (dk dtk_X11_thread 27 rfl) (by decide +kernel) ?_
        refine T_sub (lv2 := []) [] rfl ?_
        refine KC_Vi [vi l1, vi 7] [] rfl (dk dtk_X11_thread 28 rfl) kcv_X11_242 rfl kk_120 rfl (kl_120 hq) (Nat.le_of_ble_eq_true rfl) (Nat.le_of_ble_eq_true rfl) (gok_i av_n as_n) rfl h (fun r12 x11 h => ?_)
        exact KE_iret (dk dtk_X11_thread 29 rfl) rfl rfl h
      · have h := h.2
        by_cases c13 : l2 = 3
        · have h := h.1 c13
          refine T_table 62 83 (dk dtk_X11_thread 11 rfl) (by decide) (by rw [c13]; decide +kernel) (by decide) ?_
          refine T_aload_n 0 (dk dtk_X11_thread 30 rfl) rfl rfl ?_
          refine T_getR 0 4 120 (dk dtk_X11_thread 31 rfl) kfl_X11_46 kk_0 (kl_0 hq) (by decide) rfl kr_0_4 ?_
          refine T_iload_n 1 (dk dtk_X11_thread 32 rfl) rfl rfl ?_
          refine T_sub (lv2 := []) [] rfl ?_
          refine KC_Vi [vi l1] [] rfl (dk dtk_X11_thread 33 rfl) kcv_X11_245 rfl kk_120 rfl (kl_120 hq) (Nat.le_of_ble_eq_true rfl) (Nat.le_of_ble_eq_true rfl) (gok_i av_n as_n) rfl h (fun r15 x14 h => ?_)
          exact KE_iret (dk dtk_X11_thread 34 rfl) rfl rfl h
        · have h := h.2
          have n16 : ∀ k ∈ [(0 : Int32), (1 : Int32), (2 : Int32), (3 : Int32)], ¬ l2 = k := (gno c4 (gno c7 (gno c10 (gno c13 gno0))))
          have h := h n16
          refine T_table 71 92 (dk dtk_X11_thread 11 rfl) (by decide) (gtab_d [(0 : Int32), (1 : Int32), (2 : Int32), (3 : Int32)] (by decide +kernel) n16) (by decide) ?_
          refine T_aload_n 0 (dk dtk_X11_thread 35 rfl) rfl rfl ?_
          refine T_getR 0 4 120 (dk dtk_X11_thread 36 rfl) kfl_X11_46 kk_0 (kl_0 hq) (by decide) rfl kr_0_4 ?_
          refine T_iload_n 1 (dk dtk_X11_thread 37 rfl) rfl rfl ?_
          refine T_sub (lv2 := []) [] rfl ?_
          refine KC_Vi [vi l1] [] rfl (dk dtk_X11_thread 38 rfl) kcv_X11_248 rfl kk_120 rfl (kl_120 hq) (Nat.le_of_ble_eq_true rfl) (Nat.le_of_ble_eq_true rfl) (gok_i av_n as_n) rfl h (fun r18 x17 h => ?_)
          exact KE_iret (dk dtk_X11_thread 39 rfl) rfl rfl h
set_option maxRecDepth 100000 in
theorem dtk_X11_local : dck cX11_local [(0, .aload_n 0, 1), (1, .invokevirtual 160, 3), (4, .iload_n 1, 1), (5, .aload_n 0, 1), (6, .getfield 28, 3), (9, .getfield 124, 3), (12, .invokestatic 163, 3), (15, .iload_n 2, 1), (16, .aload_n 0, 1), (17, .getfield 46, 3), (20, .iload_n 1, 1), (21, .invokevirtual 245, 3), (24, .invokestatic 163, 3), (27, .aload_n 0, 1), (28, .getfield 46, 3), (31, .iload_n 1, 1), (32, .bipush 8, 2), (34, .iload_n 2, 1), (35, .iadd, 1), (36, .invokevirtual 242, 3), (39, .ireturn, 1)] = true := by decide +kernel
set_option maxRecDepth 100000 in
set_option maxHeartbeats 4000000 in
theorem kg_X11_local_0 {G : kG} {q : kP} {d : Nat} {x : gd} {P : Option gv → gd → Prop} {X : String → gd → Prop} (hq : kV q) (l1 : Int32) (l2 : Int32)
    (h : KE G q (d + 6) zk_X11_needRun 0 [(0, vr 0)] [] x (rv (fun x1 => KE G q (d + 6) zk_X11_needIndex 0 [(0, vi l1), (1, vi (x1.1 60 10))] [] x1 (rv (fun x2 => KT G q (d + 6) zk_X5_known 0 [(0, vr 120), (1, vi l1)] [] x2 (ri (fun r4 x3 => KE G q (d + 6) zk_X11_needIndex 0 [(0, vi l2), (1, vi r4)] [] x3 (rv (fun x5 => KT G q (d + 6) zk_X5_get 0 [(0, vr 120), (1, vi l1), (2, vi (8 + l2))] [] x5 (ri (fun r7 x6 => P (some (vi r7)) x6)))) X)))) X)) X) :
    KE G q (d + 7) zk_X11_local 0 [(0, vr 0), (1, vi l1), (2, vi l2)] [] x P X := by
  refine T_aload_n 0 (dk dtk_X11_local 0 rfl) rfl rfl ?_
  refine KD_Vv [] [] rfl (dk dtk_X11_local 1 rfl) kcv_X11_160 rfl kk_0 rfl (kl_0 hq) (Nat.le_of_ble_eq_true rfl) (Nat.le_of_ble_eq_true rfl) (gok_i (av_c (gkr (kl_0 hq)) (av_c rfl (av_c rfl av_n))) as_n) rfl h (fun x1 h => ?_)
  refine T_iload_n 1 (dk dtk_X11_local 2 rfl) rfl rfl ?_
  refine T_aload_n 0 (dk dtk_X11_local 3 rfl) rfl rfl ?_
  refine T_getR 0 2 60 (dk dtk_X11_local 4 rfl) kfl_X11_28 kk_0 (kl_0 hq) (by decide) rfl kr_0_2 ?_
  refine T_getI 60 10 (dk dtk_X11_local 5 rfl) kfl_X11_124 kk_60 (kl_60 hq) (by decide) rfl ?_
  refine KD_Sv [vi l1, vi (x1.1 60 10)] [] rfl (dk dtk_X11_local 6 rfl) kcs_X11_163 rfl (Nat.le_of_ble_eq_true rfl) (Nat.le_of_ble_eq_true rfl) (gok_i (av_c (gkr (kl_0 hq)) (av_c rfl (av_c rfl av_n))) as_n) rfl h (fun x2 h => ?_)
  refine T_iload_n 2 (dk dtk_X11_local 7 rfl) rfl rfl ?_
  refine T_aload_n 0 (dk dtk_X11_local 8 rfl) rfl rfl ?_
  refine T_getR 0 4 120 (dk dtk_X11_local 9 rfl) kfl_X11_46 kk_0 (kl_0 hq) (by decide) rfl kr_0_4 ?_
  refine T_iload_n 1 (dk dtk_X11_local 10 rfl) rfl rfl ?_
  refine KC_Vi [vi l1] [vi l2] rfl (dk dtk_X11_local 11 rfl) kcv_X11_245 rfl kk_120 rfl (kl_120 hq) (Nat.le_of_ble_eq_true rfl) (Nat.le_of_ble_eq_true rfl) (gok_i (av_c (gkr (kl_0 hq)) (av_c rfl (av_c rfl av_n))) (as_c rfl as_n)) rfl h (fun r4 x3 h => ?_)
  refine KD_Sv [vi l2, vi r4] [] rfl (dk dtk_X11_local 12 rfl) kcs_X11_163 rfl (Nat.le_of_ble_eq_true rfl) (Nat.le_of_ble_eq_true rfl) (gok_i (av_c (gkr (kl_0 hq)) (av_c rfl (av_c rfl av_n))) as_n) rfl h (fun x5 h => ?_)
  refine T_aload_n 0 (dk dtk_X11_local 13 rfl) rfl rfl ?_
  refine T_getR 0 4 120 (dk dtk_X11_local 14 rfl) kfl_X11_46 kk_0 (kl_0 hq) (by decide) rfl kr_0_4 ?_
  refine T_iload_n 1 (dk dtk_X11_local 15 rfl) rfl rfl ?_
  refine T_bipush (v := 8) (dk dtk_X11_local 16 rfl) (by decide +kernel) ?_
  refine T_iload_n 2 (dk dtk_X11_local 17 rfl) rfl rfl ?_
  refine T_iadd (dk dtk_X11_local 18 rfl) ?_
  refine T_sub (lv2 := []) [] rfl ?_
  refine KC_Vi [vi l1, vi (8 + l2)] [] rfl (dk dtk_X11_local 19 rfl) kcv_X11_242 rfl kk_120 rfl (kl_120 hq) (Nat.le_of_ble_eq_true rfl) (Nat.le_of_ble_eq_true rfl) (gok_i av_n as_n) rfl h (fun r7 x6 h => ?_)
  exact KE_iret (dk dtk_X11_local 20 rfl) rfl rfl h
set_option maxRecDepth 100000 in
theorem dtk_X11_act : dck cX11_act [(0, .aload_n 0, 1), (1, .invokevirtual 160, 3), (4, .iload_n 1, 1), (5, .aload_n 0, 1), (6, .getfield 53, 3), (9, .getfield 206, 3), (12, .invokestatic 163, 3), (15, .iload_n 2, 1), (16, .iconst 5, 1), (17, .invokestatic 132, 3), (20, .iload_n 2, 1), (21, .tableswitch 71 0 3 #[31, 41, 51, 61], 31), (52, .aload_n 0, 1), (53, .getfield 53, 3), (56, .getfield 251, 3), (59, .iload_n 1, 1), (60, .iaload, 1), (61, .ireturn, 1), (62, .aload_n 0, 1), (63, .getfield 53, 3), (66, .getfield 254, 3), (69, .iload_n 1, 1), (70, .iaload, 1), (71, .ireturn, 1), (72, .aload_n 0, 1), (73, .getfield 53, 3), (76, .getfield 257, 3), (79, .iload_n 1, 1), (80, .iaload, 1), (81, .ireturn, 1), (82, .aload_n 0, 1), (83, .getfield 53, 3), (86, .getfield 260, 3), (89, .iload_n 1, 1), (90, .iaload, 1), (91, .ireturn, 1), (92, .aload_n 0, 1), (93, .getfield 53, 3), (96, .getfield 263, 3), (99, .iload_n 1, 1), (100, .iaload, 1), (101, .ireturn, 1)] = true := by decide +kernel
set_option maxRecDepth 100000 in
set_option maxHeartbeats 4000000 in
theorem kg_X11_act_0 {G : kG} {q : kP} {d : Nat} {x : gd} {P : Option gv → gd → Prop} {X : String → gd → Prop} (hq : kV q) (l1 : Int32) (l2 : Int32)
    (h : KE G q (d + 6) zk_X11_needRun 0 [(0, vr 0)] [] x (rv (fun x1 => KE G q (d + 6) zk_X11_needIndex 0 [(0, vi l1), (1, vi (x1.1 160 3))] [] x1 (rv (fun x2 => KE G q (d + 6) zk_X11_needWhat 0 [(0, vi l2), (1, vi 5)] [] x2 (rv (fun x3 => (((l2 = 0) → vp_in l1 400 ∧ P (some (vi (x3.1 166 (l1 : Int32).toNatClampNeg))) x3) ∧ ((l2 = 1) → vp_in l1 400 ∧ P (some (vi (x3.1 167 (l1 : Int32).toNatClampNeg))) x3) ∧ ((l2 = 2) → vp_in l1 400 ∧ P (some (vi (x3.1 168 (l1 : Int32).toNatClampNeg))) x3) ∧ ((l2 = 3) → vp_in l1 400 ∧ P (some (vi (x3.1 169 (l1 : Int32).toNatClampNeg))) x3) ∧ ((∀ k ∈ [(0 : Int32), (1 : Int32), (2 : Int32), (3 : Int32)], ¬ l2 = k) → vp_in l1 400 ∧ P (some (vi (x3.1 170 (l1 : Int32).toNatClampNeg))) x3)))) X)) X)) X) :
    KE G q (d + 7) zk_X11_act 0 [(0, vr 0), (1, vi l1), (2, vi l2)] [] x P X := by
  refine T_aload_n 0 (dk dtk_X11_act 0 rfl) rfl rfl ?_
  refine KD_Vv [] [] rfl (dk dtk_X11_act 1 rfl) kcv_X11_160 rfl kk_0 rfl (kl_0 hq) (Nat.le_of_ble_eq_true rfl) (Nat.le_of_ble_eq_true rfl) (gok_i (av_c (gkr (kl_0 hq)) (av_c rfl (av_c rfl av_n))) as_n) rfl h (fun x1 h => ?_)
  refine T_iload_n 1 (dk dtk_X11_act 2 rfl) rfl rfl ?_
  refine T_aload_n 0 (dk dtk_X11_act 3 rfl) rfl rfl ?_
  refine T_getR 0 5 160 (dk dtk_X11_act 4 rfl) kfl_X11_53 kk_0 (kl_0 hq) (by decide) rfl kr_0_5 ?_
  refine T_getI 160 3 (dk dtk_X11_act 5 rfl) kfl_X11_206 kk_160 (kl_160 hq) (by decide) rfl ?_
  refine KD_Sv [vi l1, vi (x1.1 160 3)] [] rfl (dk dtk_X11_act 6 rfl) kcs_X11_163 rfl (Nat.le_of_ble_eq_true rfl) (Nat.le_of_ble_eq_true rfl) (gok_i (av_c (gkr (kl_0 hq)) (av_c rfl (av_c rfl av_n))) as_n) rfl h (fun x2 h => ?_)
  refine T_iload_n 2 (dk dtk_X11_act 7 rfl) rfl rfl ?_
  refine T_iconst (v := 5) (dk dtk_X11_act 8 rfl) (by decide +kernel) ?_
  refine KD_Sv [vi l2, vi 5] [] rfl (dk dtk_X11_act 9 rfl) kcs_X11_132 rfl (Nat.le_of_ble_eq_true rfl) (Nat.le_of_ble_eq_true rfl) (gok_i (av_c (gkr (kl_0 hq)) (av_c rfl (av_c rfl av_n))) as_n) rfl h (fun x3 h => ?_)
  refine T_iload_n 2 (dk dtk_X11_act 10 rfl) rfl rfl ?_
  by_cases c4 : l2 = 0
  · have h := h.1 c4
    refine T_table 31 52 (dk dtk_X11_act 11 rfl) (by decide) (by rw [c4]; decide +kernel) (by decide) ?_
    refine T_aload_n 0 (dk dtk_X11_act 12 rfl) rfl rfl ?_
    refine T_getR 0 5 160 (dk dtk_X11_act 13 rfl) kfl_X11_53 kk_0 (kl_0 hq) (by decide) rfl kr_0_5 ?_
    refine T_getR 160 5 166 (dk dtk_X11_act 14 rfl) kfl_X11_251 kk_160 (kl_160 hq) (by decide) rfl kr_160_5 ?_
    refine T_iload_n 1 (dk dtk_X11_act 15 rfl) rfl rfl ?_
    obtain ⟨h5, h⟩ := h
    refine T_iald 166 400 (dk dtk_X11_act 16 rfl) kk_166 (kl_166 hq) h5 ?_
    exact KE_iret (dk dtk_X11_act 17 rfl) rfl rfl h
  · have h := h.2
    by_cases c6 : l2 = 1
    · have h := h.1 c6
      refine T_table 41 62 (dk dtk_X11_act 11 rfl) (by decide) (by rw [c6]; decide +kernel) (by decide) ?_
      refine T_aload_n 0 (dk dtk_X11_act 18 rfl) rfl rfl ?_
      refine T_getR 0 5 160 (dk dtk_X11_act 19 rfl) kfl_X11_53 kk_0 (kl_0 hq) (by decide) rfl kr_0_5 ?_
      refine T_getR 160 6 167 (dk dtk_X11_act 20 rfl) kfl_X11_254 kk_160 (kl_160 hq) (by decide) rfl kr_160_6 ?_
      refine T_iload_n 1 (dk dtk_X11_act 21 rfl) rfl rfl ?_
      obtain ⟨h7, h⟩ := h
      refine T_iald 167 400 (dk dtk_X11_act 22 rfl) kk_167 (kl_167 hq) h7 ?_
      exact KE_iret (dk dtk_X11_act 23 rfl) rfl rfl h
    · have h := h.2
      by_cases c8 : l2 = 2
      · have h := h.1 c8
        refine T_table 51 72 (dk dtk_X11_act 11 rfl) (by decide) (by rw [c8]; decide +kernel) (by decide) ?_
        refine T_aload_n 0 (dk dtk_X11_act 24 rfl) rfl rfl ?_
        refine T_getR 0 5 160 (dk dtk_X11_act 25 rfl) kfl_X11_53 kk_0 (kl_0 hq) (by decide) rfl kr_0_5 ?_
        refine T_getR 160 7 168 (dk dtk_X11_act 26 rfl) kfl_X11_257 kk_160 (kl_160 hq) (by decide) rfl kr_160_7 ?_
        refine T_iload_n 1 (dk dtk_X11_act 27 rfl) rfl rfl ?_
        obtain ⟨h9, h⟩ := h
        refine T_iald 168 400 (dk dtk_X11_act 28 rfl) kk_168 (kl_168 hq) h9 ?_
        exact KE_iret (dk dtk_X11_act 29 rfl) rfl rfl h
      · have h := h.2
        by_cases c10 : l2 = 3
        · have h := h.1 c10
          refine T_table 61 82 (dk dtk_X11_act 11 rfl) (by decide) (by rw [c10]; decide +kernel) (by decide) ?_
          refine T_aload_n 0 (dk dtk_X11_act 30 rfl) rfl rfl ?_
          refine T_getR 0 5 160 (dk dtk_X11_act 31 rfl) kfl_X11_53 kk_0 (kl_0 hq) (by decide) rfl kr_0_5 ?_
          refine T_getR 160 8 169 (dk dtk_X11_act 32 rfl) kfl_X11_260 kk_160 (kl_160 hq) (by decide) rfl kr_160_8 ?_
          refine T_iload_n 1 (dk dtk_X11_act 33 rfl) rfl rfl ?_
          obtain ⟨h11, h⟩ := h
          refine T_iald 169 400 (dk dtk_X11_act 34 rfl) kk_169 (kl_169 hq) h11 ?_
          exact KE_iret (dk dtk_X11_act 35 rfl) rfl rfl h
        · have h := h.2
          have n12 : ∀ k ∈ [(0 : Int32), (1 : Int32), (2 : Int32), (3 : Int32)], ¬ l2 = k := (gno c4 (gno c6 (gno c8 (gno c10 gno0))))
          have h := h n12
          refine T_table 71 92 (dk dtk_X11_act 11 rfl) (by decide) (gtab_d [(0 : Int32), (1 : Int32), (2 : Int32), (3 : Int32)] (by decide +kernel) n12) (by decide) ?_
          refine T_aload_n 0 (dk dtk_X11_act 36 rfl) rfl rfl ?_
          refine T_getR 0 5 160 (dk dtk_X11_act 37 rfl) kfl_X11_53 kk_0 (kl_0 hq) (by decide) rfl kr_0_5 ?_
          refine T_getR 160 9 170 (dk dtk_X11_act 38 rfl) kfl_X11_263 kk_160 (kl_160 hq) (by decide) rfl kr_160_9 ?_
          refine T_iload_n 1 (dk dtk_X11_act 39 rfl) rfl rfl ?_
          obtain ⟨h13, h⟩ := h
          refine T_iald 170 400 (dk dtk_X11_act 40 rfl) kk_170 (kl_170 hq) h13 ?_
          exact KE_iret (dk dtk_X11_act 41 rfl) rfl rfl h
set_option maxRecDepth 100000 in
theorem dtk_X11_before : dck cX11_before [(0, .aload_n 0, 1), (1, .invokevirtual 160, 3), (4, .iload_n 1, 1), (5, .aload_n 0, 1), (6, .getfield 53, 3), (9, .getfield 206, 3), (12, .invokestatic 163, 3), (15, .iload_n 2, 1), (16, .aload_n 0, 1), (17, .getfield 53, 3), (20, .getfield 206, 3), (23, .invokestatic 163, 3), (26, .aload_n 0, 1), (27, .getfield 53, 3), (30, .iload_n 1, 1), (31, .iload_n 2, 1), (32, .invokevirtual 266, 3), (35, .ireturn, 1)] = true := by decide +kernel
set_option maxRecDepth 100000 in
set_option maxHeartbeats 4000000 in
theorem kg_X11_before_0 {G : kG} {q : kP} {d : Nat} {x : gd} {P : Option gv → gd → Prop} {X : String → gd → Prop} (hq : kV q) (l1 : Int32) (l2 : Int32)
    (h : KE G q (d + 6) zk_X11_needRun 0 [(0, vr 0)] [] x (rv (fun x1 => KE G q (d + 6) zk_X11_needIndex 0 [(0, vi l1), (1, vi (x1.1 160 3))] [] x1 (rv (fun x2 => KE G q (d + 6) zk_X11_needIndex 0 [(0, vi l2), (1, vi (x2.1 160 3))] [] x2 (rv (fun x3 => KT G q (d + 6) zk_X4_isBefore 0 [(0, vr 160), (1, vi l1), (2, vi l2)] [] x3 (ri (fun r5 x4 => gbool r5 ∧ P (some (vi r5)) x4)))) X)) X)) X) :
    KE G q (d + 7) zk_X11_before 0 [(0, vr 0), (1, vi l1), (2, vi l2)] [] x P X := by
  refine T_aload_n 0 (dk dtk_X11_before 0 rfl) rfl rfl ?_
  refine KD_Vv [] [] rfl (dk dtk_X11_before 1 rfl) kcv_X11_160 rfl kk_0 rfl (kl_0 hq) (Nat.le_of_ble_eq_true rfl) (Nat.le_of_ble_eq_true rfl) (gok_i (av_c (gkr (kl_0 hq)) (av_c rfl (av_c rfl av_n))) as_n) rfl h (fun x1 h => ?_)
  refine T_iload_n 1 (dk dtk_X11_before 2 rfl) rfl rfl ?_
  refine T_aload_n 0 (dk dtk_X11_before 3 rfl) rfl rfl ?_
  refine T_getR 0 5 160 (dk dtk_X11_before 4 rfl) kfl_X11_53 kk_0 (kl_0 hq) (by decide) rfl kr_0_5 ?_
  refine T_getI 160 3 (dk dtk_X11_before 5 rfl) kfl_X11_206 kk_160 (kl_160 hq) (by decide) rfl ?_
  refine KD_Sv [vi l1, vi (x1.1 160 3)] [] rfl (dk dtk_X11_before 6 rfl) kcs_X11_163 rfl (Nat.le_of_ble_eq_true rfl) (Nat.le_of_ble_eq_true rfl) (gok_i (av_c (gkr (kl_0 hq)) (av_c rfl (av_c rfl av_n))) as_n) rfl h (fun x2 h => ?_)
  refine T_iload_n 2 (dk dtk_X11_before 7 rfl) rfl rfl ?_
  refine T_aload_n 0 (dk dtk_X11_before 8 rfl) rfl rfl ?_
  refine T_getR 0 5 160 (dk dtk_X11_before 9 rfl) kfl_X11_53 kk_0 (kl_0 hq) (by decide) rfl kr_0_5 ?_
  refine T_getI 160 3 (dk dtk_X11_before 10 rfl) kfl_X11_206 kk_160 (kl_160 hq) (by decide) rfl ?_
  refine KD_Sv [vi l2, vi (x2.1 160 3)] [] rfl (dk dtk_X11_before 11 rfl) kcs_X11_163 rfl (Nat.le_of_ble_eq_true rfl) (Nat.le_of_ble_eq_true rfl) (gok_i (av_c (gkr (kl_0 hq)) (av_c rfl (av_c rfl av_n))) as_n) rfl h (fun x3 h => ?_)
  refine T_aload_n 0 (dk dtk_X11_before 12 rfl) rfl rfl ?_
  refine T_getR 0 5 160 (dk dtk_X11_before 13 rfl) kfl_X11_53 kk_0 (kl_0 hq) (by decide) rfl kr_0_5 ?_
  refine T_iload_n 1 (dk dtk_X11_before 14 rfl) rfl rfl ?_
  refine T_iload_n 2 (dk dtk_X11_before 15 rfl) rfl rfl ?_
  refine T_sub (lv2 := []) [] rfl ?_
  refine KC_Vi [vi l1, vi l2] [] rfl (dk dtk_X11_before 16 rfl) kcv_X11_266 rfl kk_160 rfl (kl_160 hq) (Nat.le_of_ble_eq_true rfl) (Nat.le_of_ble_eq_true rfl) (gok_i av_n as_n) rfl h (fun r5 x4 h => ?_)
  exact KE_iret (dk dtk_X11_before 17 rfl) rfl h.1.1 h.2
set_option maxRecDepth 100000 in
theorem dtk_X11_race : dck cX11_race [(0, .aload_n 0, 1), (1, .invokevirtual 160, 3), (4, .iload_n 1, 1), (5, .aload_n 0, 1), (6, .getfield 53, 3), (9, .invokevirtual 213, 3), (12, .invokestatic 163, 3), (15, .iload_n 2, 1), (16, .iconst 2, 1), (17, .invokestatic 132, 3), (20, .aload_n 0, 1), (21, .getfield 53, 3), (24, .iload_n 1, 1), (25, .invokevirtual 270, 3), (28, .istore_n 3, 1), (29, .iload_n 2, 1), (30, .iconst 1, 1), (31, .if_icmp .ne 7, 3), (34, .iload_n 3, 1), (35, .goto 12, 3), (38, .aload_n 0, 1), (39, .getfield 53, 3), (42, .iload_n 1, 1), (43, .iload_n 3, 1), (44, .invokevirtual 273, 3), (47, .ireturn, 1)] = true := by decide +kernel
set_option maxRecDepth 100000 in
set_option maxHeartbeats 4000000 in
theorem kg_X11_race_0 {G : kG} {q : kP} {d : Nat} {x : gd} {P : Option gv → gd → Prop} {X : String → gd → Prop} (hq : kV q) (l1 : Int32) (l2 : Int32)
    (h : KE G q (d + 6) zk_X11_needRun 0 [(0, vr 0)] [] x (rv (fun x1 => KT G q (d + 6) zk_X4_races 0 [(0, vr 160)] [] x1 (ri (fun r3 x2 => KE G q (d + 6) zk_X11_needIndex 0 [(0, vi l1), (1, vi r3)] [] x2 (rv (fun x4 => KE G q (d + 6) zk_X11_needWhat 0 [(0, vi l2), (1, vi 2)] [] x4 (rv (fun x5 => KT G q (d + 6) zk_X4_laterOfRace 0 [(0, vr 160), (1, vi l1)] [] x5 (ri (fun r7 x6 => ((¬ (l2 = (1 : Int32)) → KT G q (d + 6) zk_X4_earlierOfRace 0 [(0, vr 160), (1, vi l1), (2, vi r7)] [] x6 (ri (fun r10 x9 => P (some (vi r10)) x9))) ∧ (l2 = (1 : Int32) → P (some (vi r7)) x6)))))) X)) X)))) X) :
    KE G q (d + 7) zk_X11_race 0 [(0, vr 0), (1, vi l1), (2, vi l2)] [] x P X := by
  refine T_aload_n 0 (dk dtk_X11_race 0 rfl) rfl rfl ?_
  refine KD_Vv [] [] rfl (dk dtk_X11_race 1 rfl) kcv_X11_160 rfl kk_0 rfl (kl_0 hq) (Nat.le_of_ble_eq_true rfl) (Nat.le_of_ble_eq_true rfl) (gok_i (av_c (gkr (kl_0 hq)) (av_c rfl (av_c rfl av_n))) as_n) rfl h (fun x1 h => ?_)
  refine T_iload_n 1 (dk dtk_X11_race 2 rfl) rfl rfl ?_
  refine T_aload_n 0 (dk dtk_X11_race 3 rfl) rfl rfl ?_
  refine T_getR 0 5 160 (dk dtk_X11_race 4 rfl) kfl_X11_53 kk_0 (kl_0 hq) (by decide) rfl kr_0_5 ?_
  refine KC_Vi [] [vi l1] rfl (dk dtk_X11_race 5 rfl) kcv_X11_213 rfl kk_160 rfl (kl_160 hq) (Nat.le_of_ble_eq_true rfl) (Nat.le_of_ble_eq_true rfl) (gok_i (av_c (gkr (kl_0 hq)) (av_c rfl (av_c rfl av_n))) (as_c rfl as_n)) rfl h (fun r3 x2 h => ?_)
  refine KD_Sv [vi l1, vi r3] [] rfl (dk dtk_X11_race 6 rfl) kcs_X11_163 rfl (Nat.le_of_ble_eq_true rfl) (Nat.le_of_ble_eq_true rfl) (gok_i (av_c (gkr (kl_0 hq)) (av_c rfl (av_c rfl av_n))) as_n) rfl h (fun x4 h => ?_)
  refine T_iload_n 2 (dk dtk_X11_race 7 rfl) rfl rfl ?_
  refine T_iconst (v := 2) (dk dtk_X11_race 8 rfl) (by decide +kernel) ?_
  refine KD_Sv [vi l2, vi 2] [] rfl (dk dtk_X11_race 9 rfl) kcs_X11_132 rfl (Nat.le_of_ble_eq_true rfl) (Nat.le_of_ble_eq_true rfl) (gok_i (av_c (gkr (kl_0 hq)) (av_c rfl (av_c rfl av_n))) as_n) rfl h (fun x5 h => ?_)
  refine T_aload_n 0 (dk dtk_X11_race 10 rfl) rfl rfl ?_
  refine T_getR 0 5 160 (dk dtk_X11_race 11 rfl) kfl_X11_53 kk_0 (kl_0 hq) (by decide) rfl kr_0_5 ?_
  refine T_iload_n 1 (dk dtk_X11_race 12 rfl) rfl rfl ?_
  refine KC_Vi [vi l1] [] rfl (dk dtk_X11_race 13 rfl) kcv_X11_270 rfl kk_160 rfl (kl_160 hq) (Nat.le_of_ble_eq_true rfl) (Nat.le_of_ble_eq_true rfl) (gok_i (av_c (gkr (kl_0 hq)) (av_c rfl (av_c rfl av_n))) as_n) rfl h (fun r7 x6 h => ?_)
  refine T_istore_n (lv2 := [(3, vi r7), (0, vr 0), (1, vi l1), (2, vi l2)]) (dk dtk_X11_race 14 rfl) rfl (by decide) rfl ?_
  refine T_iload_n 3 (dk dtk_X11_race 15 rfl) rfl rfl ?_
  refine T_iconst (v := 1) (dk dtk_X11_race 16 rfl) (by decide +kernel) ?_
  refine T_icmp_ne 38 (dk dtk_X11_race 17 rfl) (by decide) (fun c8 => ?_) (fun c8 => ?_)
  · have h := h.1 c8
    refine T_aload_n 1 (dk dtk_X11_race 20 rfl) rfl rfl ?_
    refine T_getR 0 5 160 (dk dtk_X11_race 21 rfl) kfl_X11_53 kk_0 (kl_0 hq) (by decide) rfl kr_0_5 ?_
    refine T_iload_n 2 (dk dtk_X11_race 22 rfl) rfl rfl ?_
    refine T_iload_n 0 (dk dtk_X11_race 23 rfl) rfl rfl ?_
    refine T_sub (lv2 := []) [] rfl ?_
    refine KC_Vi [vi l1, vi r7] [] rfl (dk dtk_X11_race 24 rfl) kcv_X11_273 rfl kk_160 rfl (kl_160 hq) (Nat.le_of_ble_eq_true rfl) (Nat.le_of_ble_eq_true rfl) (gok_i av_n as_n) rfl h (fun r10 x9 h => ?_)
    exact KE_iret (dk dtk_X11_race 25 rfl) rfl rfl h
  · have h := h.2 c8
    refine T_iload_n 0 (dk dtk_X11_race 18 rfl) rfl rfl ?_
    refine T_goto 47 (dk dtk_X11_race 19 rfl) (by decide) ?_
    exact KE_iret (dk dtk_X11_race 25 rfl) rfl rfl h
set_option maxRecDepth 100000 in
theorem dtk_X11_linear : dck cX11_linear [(0, .aload_n 0, 1), (1, .invokevirtual 160, 3), (4, .iload_n 1, 1), (5, .ifCond .lt 8, 3), (8, .iload_n 1, 1), (9, .iconst 3, 1), (10, .if_icmp .le 14, 3), (13, .new 70, 3), (16, .dup, 1), (17, .ldc_w 276, 3), (20, .invokespecial 74, 3), (23, .athrow, 1), (24, .aload_n 0, 1), (25, .getfield 53, 3), (28, .getfield 216, 3), (31, .bipush 12, 2), (33, .if_icmp .le 5, 3), (36, .iconst (-1), 1), (37, .ireturn, 1), (38, .aload_n 0, 1), (39, .getfield 280, 3), (42, .ifnonnull 14, 3), (45, .aload_n 0, 1), (46, .new 278, 3), (49, .dup, 1), (50, .invokespecial 284, 3), (53, .putfield 280, 3), (56, .aload_n 0, 1), (57, .getfield 280, 3), (60, .aload_n 0, 1), (61, .getfield 53, 3), (64, .invokevirtual 285, 3), (67, .aload_n 0, 1), (68, .getfield 280, 3), (71, .iload_n 1, 1), (72, .invokevirtual 289, 3), (75, .istore_n 2, 1), (76, .iload_n 2, 1), (77, .iconst (-1), 1), (78, .if_icmp .ne 7, 3), (81, .iconst 1, 1), (82, .goto 7, 3), (85, .bipush (-2), 2), (87, .iload_n 2, 1), (88, .isub, 1), (89, .ireturn, 1)] = true := by decide +kernel
set_option maxRecDepth 100000 in
theorem dtk_X11_attempt : dck cX11_attempt [(0, .aload_n 0, 1), (1, .invokevirtual 148, 3), (4, .iload_n 1, 1), (5, .invokestatic 151, 3), (8, .iload_n 2, 1), (9, .iconst 1, 1), (10, .if_icmp .lt 10, 3), (13, .iload_n 2, 1), (14, .sipush 3000, 3), (17, .if_icmp .le 14, 3), (20, .new 70, 3), (23, .dup, 1), (24, .ldc_w 292, 3), (27, .invokespecial 74, 3), (30, .athrow, 1), (31, .aload_n 0, 1), (32, .getfield 294, 3), (35, .ifnonnull 18, 3), (38, .aload_n 0, 1), (39, .new 298, 3), (42, .dup, 1), (43, .aload_n 0, 1), (44, .getfield 28, 3), (47, .invokespecial 300, 3), (50, .putfield 294, 3), (53, .aload_n 0, 1), (54, .getfield 59, 3), (57, .iload_n 1, 1), (58, .aaload, 1), (59, .ifnonnull 16, 3), (62, .aload_n 0, 1), (63, .getfield 59, 3), (66, .iload_n 1, 1), (67, .new 57, 3), (70, .dup, 1), (71, .invokespecial 301, 3), (74, .aastore, 1), (75, .aload_n 0, 1), (76, .getfield 294, 3), (79, .iload_n 1, 1), (80, .iload_n 2, 1), (81, .aload_n 0, 1), (82, .getfield 59, 3), (85, .iload_n 1, 1), (86, .aaload, 1), (87, .invokevirtual 302, 3), (90, .aload_n 0, 1), (91, .getfield 59, 3), (94, .iload_n 1, 1), (95, .aaload, 1), (96, .getfield 306, 3), (99, .ireturn, 1)] = true := by decide +kernel
set_option maxRecDepth 100000 in
theorem dtk_X11_tried : dck cX11_tried [(0, .iload_n 1, 1), (1, .invokestatic 151, 3), (4, .iload_n 2, 1), (5, .bipush 6, 2), (7, .invokestatic 132, 3), (10, .aload_n 0, 1), (11, .iload_n 1, 1), (12, .invokevirtual 309, 3), (15, .ifCond .ne 5, 3), (18, .iconst 0, 1), (19, .ireturn, 1), (20, .aload_n 0, 1), (21, .getfield 59, 3), (24, .iload_n 1, 1), (25, .aaload, 1), (26, .astore_n 3, 1), (27, .iload_n 2, 1), (28, .tableswitch 69 0 4 #[36, 41, 54, 59, 64], 36), (64, .aload_n 3, 1), (65, .getfield 306, 3), (68, .ireturn, 1), (69, .aload_n 3, 1), (70, .getfield 313, 3), (73, .ifCond .eq 7, 3), (76, .iconst 1, 1), (77, .goto 4, 3), (80, .iconst 0, 1), (81, .ireturn, 1), (82, .aload_n 3, 1), (83, .getfield 316, 3), (86, .ireturn, 1), (87, .aload_n 3, 1), (88, .getfield 319, 3), (91, .ireturn, 1), (92, .aload_n 3, 1), (93, .getfield 322, 3), (96, .ireturn, 1), (97, .aload_n 3, 1), (98, .getfield 325, 3), (101, .ireturn, 1)] = true := by decide +kernel
set_option maxRecDepth 100000 in
set_option maxHeartbeats 4000000 in
theorem kg_X11_tried_0 {G : kG} {q : kP} {d : Nat} {x : gd} {P : Option gv → gd → Prop} {X : String → gd → Prop} (hq : kV q) (l1 : Int32) (l2 : Int32)
    (h : KE G q (d + 6) zk_X11_needWay 0 [(0, vi l1)] [] x (rv (fun x1 => KE G q (d + 6) zk_X11_needWhat 0 [(0, vi l2), (1, vi 6)] [] x1 (rv (fun x2 => KT G q (d + 6) zk_X11_wasTried 0 [(0, vr 0), (1, vi l1)] [] x2 (ri (fun r4 x3 => ((¬ (r4 = (0 : Int32)) → vp_in l1 2 ∧ (∀ u7, u7 = (kf q).1 7 (l1 : Int32).toNatClampNeg → ∃ c8, u7 = some c8 ∧ kiT q c8 ∧ (((l2 = 0) → P (some (vi (x3.1 c8 0))) x3) ∧ ((l2 = 1) → (((x3.1 c8 1) = (0 : Int32) → P (some (vi 0)) x3) ∧ (¬ ((x3.1 c8 1) = (0 : Int32)) → P (some (vi 1)) x3))) ∧ ((l2 = 2) → P (some (vi (x3.1 c8 2))) x3) ∧ ((l2 = 3) → P (some (vi (x3.1 c8 3))) x3) ∧ ((l2 = 4) → P (some (vi (x3.1 c8 4))) x3) ∧ ((∀ k ∈ [(0 : Int32), (1 : Int32), (2 : Int32), (3 : Int32), (4 : Int32)], ¬ l2 = k) → P (some (vi (x3.1 c8 5))) x3)))) ∧ (r4 = (0 : Int32) → P (some (vi 0)) x3)))))) X)) X) :
    KE G q (d + 7) zk_X11_tried 0 [(0, vr 0), (1, vi l1), (2, vi l2)] [] x P X := by
  refine T_iload_n 1 (dk dtk_X11_tried 0 rfl) rfl rfl ?_
  refine KD_Sv [vi l1] [] rfl (dk dtk_X11_tried 1 rfl) kcs_X11_151 rfl (Nat.le_of_ble_eq_true rfl) (Nat.le_of_ble_eq_true rfl) (gok_i (av_c (gkr (kl_0 hq)) (av_c rfl (av_c rfl av_n))) as_n) rfl h (fun x1 h => ?_)
  refine T_iload_n 2 (dk dtk_X11_tried 2 rfl) rfl rfl ?_
  refine T_bipush (v := 6) (dk dtk_X11_tried 3 rfl) (by decide +kernel) ?_
  refine KD_Sv [vi l2, vi 6] [] rfl (dk dtk_X11_tried 4 rfl) kcs_X11_132 rfl (Nat.le_of_ble_eq_true rfl) (Nat.le_of_ble_eq_true rfl) (gok_i (av_c (gkr (kl_0 hq)) (av_c rfl (av_c rfl av_n))) as_n) rfl h (fun x2 h => ?_)
  refine T_aload_n 0 (dk dtk_X11_tried 5 rfl) rfl rfl ?_
  refine T_iload_n 1 (dk dtk_X11_tried 6 rfl) rfl rfl ?_
  refine KC_Vi [vi l1] [] rfl (dk dtk_X11_tried 7 rfl) kcv_X11_309 rfl kk_0 rfl (kl_0 hq) (Nat.le_of_ble_eq_true rfl) (Nat.le_of_ble_eq_true rfl) (gok_i (av_c (gkr (kl_0 hq)) (av_c rfl (av_c rfl av_n))) as_n) rfl h (fun r4 x3 h => ?_)
  refine T_if_ne 20 (dk dtk_X11_tried 8 rfl) (by decide) (fun c5 => ?_) (fun c5 => ?_)
  · have h := h.1 c5
    refine T_aload_n 0 (dk dtk_X11_tried 11 rfl) rfl rfl ?_
    refine T_getR 0 6 7 (dk dtk_X11_tried 12 rfl) kfl_X11_59 kk_0 (kl_0 hq) (by decide) rfl kr_0_6 ?_
    refine T_iload_n 1 (dk dtk_X11_tried 13 rfl) rfl rfl ?_
    obtain ⟨h6, h⟩ := h
    obtain ⟨u7, eu7⟩ : ∃ z, z = (kf q).1 7 (l1 : Int32).toNatClampNeg := ⟨_, rfl⟩
    have h := h u7 eu7
    refine T_aaldT 7 2 (dk dtk_X11_tried 14 rfl) kk_7 (kl_7 hq) h6 ?_
    rw [← eu7]
    obtain ⟨c8, rfl, g9, h⟩ := h
    refine T_astore_n (lv2 := [(3, vr c8), (0, vr 0), (1, vi l1), (2, vi l2)]) (dk dtk_X11_tried 15 rfl) rfl (by decide) rfl ?_
    refine T_iload_n 3 (dk dtk_X11_tried 16 rfl) rfl rfl ?_
    by_cases c10 : l2 = 0
    · have h := h.1 c10
      refine T_table 36 64 (dk dtk_X11_tried 17 rfl) (by decide) (by rw [c10]; decide +kernel) (by decide) ?_
      refine T_aload_n 0 (dk dtk_X11_tried 18 rfl) rfl rfl ?_
      refine T_getI c8 0 (dk dtk_X11_tried 19 rfl) kfl_X11_306 (kk_T0 g9) (kl_T0 hq g9) (by decide) rfl ?_
      exact KE_iret (dk dtk_X11_tried 20 rfl) rfl rfl h
    · have h := h.2
      by_cases c11 : l2 = 1
      · have h := h.1 c11
        refine T_table 41 69 (dk dtk_X11_tried 17 rfl) (by decide) (by rw [c11]; decide +kernel) (by decide) ?_
        refine T_aload_n 0 (dk dtk_X11_tried 21 rfl) rfl rfl ?_
        refine T_getI c8 1 (dk dtk_X11_tried 22 rfl) kfl_X11_313 (kk_T0 g9) (kl_T0 hq g9) (by decide) rfl ?_
        refine T_if_eq 80 (dk dtk_X11_tried 23 rfl) (by decide) (fun c12 => ?_) (fun c12 => ?_)
        · have h := h.1 c12
          refine T_iconst (v := 0) (dk dtk_X11_tried 26 rfl) (by decide +kernel) ?_
          exact KE_iret (dk dtk_X11_tried 27 rfl) rfl rfl h
        · have h := h.2 c12
          refine T_iconst (v := 1) (dk dtk_X11_tried 24 rfl) (by decide +kernel) ?_
          refine T_goto 81 (dk dtk_X11_tried 25 rfl) (by decide) ?_
          exact KE_iret (dk dtk_X11_tried 27 rfl) rfl rfl h
      · have h := h.2
        by_cases c13 : l2 = 2
        · have h := h.1 c13
          refine T_table 54 82 (dk dtk_X11_tried 17 rfl) (by decide) (by rw [c13]; decide +kernel) (by decide) ?_
          refine T_aload_n 0 (dk dtk_X11_tried 28 rfl) rfl rfl ?_
          refine T_getI c8 2 (dk dtk_X11_tried 29 rfl) kfl_X11_316 (kk_T0 g9) (kl_T0 hq g9) (by decide) rfl ?_
          exact KE_iret (dk dtk_X11_tried 30 rfl) rfl rfl h
        · have h := h.2
          by_cases c14 : l2 = 3
          · have h := h.1 c14
            refine T_table 59 87 (dk dtk_X11_tried 17 rfl) (by decide) (by rw [c14]; decide +kernel) (by decide) ?_
            refine T_aload_n 0 (dk dtk_X11_tried 31 rfl) rfl rfl ?_
            refine T_getI c8 3 (dk dtk_X11_tried 32 rfl) kfl_X11_319 (kk_T0 g9) (kl_T0 hq g9) (by decide) rfl ?_
            exact KE_iret (dk dtk_X11_tried 33 rfl) rfl rfl h
          · have h := h.2
            by_cases c15 : l2 = 4
            · have h := h.1 c15
              refine T_table 64 92 (dk dtk_X11_tried 17 rfl) (by decide) (by rw [c15]; decide +kernel) (by decide) ?_
              refine T_aload_n 0 (dk dtk_X11_tried 34 rfl) rfl rfl ?_
              refine T_getI c8 4 (dk dtk_X11_tried 35 rfl) kfl_X11_322 (kk_T0 g9) (kl_T0 hq g9) (by decide) rfl ?_
              exact KE_iret (dk dtk_X11_tried 36 rfl) rfl rfl h
            · have h := h.2
              have n16 : ∀ k ∈ [(0 : Int32), (1 : Int32), (2 : Int32), (3 : Int32), (4 : Int32)], ¬ l2 = k := (gno c10 (gno c11 (gno c13 (gno c14 (gno c15 gno0)))))
              have h := h n16
              refine T_table 69 97 (dk dtk_X11_tried 17 rfl) (by decide) (gtab_d [(0 : Int32), (1 : Int32), (2 : Int32), (3 : Int32), (4 : Int32)] (by decide +kernel) n16) (by decide) ?_
              refine T_aload_n 0 (dk dtk_X11_tried 37 rfl) rfl rfl ?_
              refine T_getI c8 5 (dk dtk_X11_tried 38 rfl) kfl_X11_325 (kk_T0 g9) (kl_T0 hq g9) (by decide) rfl ?_
              exact KE_iret (dk dtk_X11_tried 39 rfl) rfl rfl h
  · have h := h.2 c5
    refine T_iconst (v := 0) (dk dtk_X11_tried 9 rfl) (by decide +kernel) ?_
    exact KE_iret (dk dtk_X11_tried 10 rfl) rfl rfl h
set_option maxRecDepth 100000 in
theorem dtk_X11_outcome : dck cX11_outcome [(0, .iload_n 1, 1), (1, .invokestatic 151, 3), (4, .iload_n 2, 1), (5, .aload_n 0, 1), (6, .iload_n 1, 1), (7, .invokevirtual 309, 3), (10, .ifCond .eq 15, 3), (13, .aload_n 0, 1), (14, .getfield 59, 3), (17, .iload_n 1, 1), (18, .aaload, 1), (19, .getfield 319, 3), (22, .goto 4, 3), (25, .iconst 0, 1), (26, .invokestatic 163, 3), (29, .iload_n 3, 1), (30, .aload_n 0, 1), (31, .getfield 28, 3), (34, .getfield 136, 3), (37, .invokestatic 163, 3), (40, .aload_n 0, 1), (41, .getfield 59, 3), (44, .iload_n 1, 1), (45, .aaload, 1), (46, .iload_n 2, 1), (47, .iload_n 3, 1), (48, .invokevirtual 328, 3), (51, .ireturn, 1)] = true := by decide +kernel
set_option maxRecDepth 100000 in
set_option maxHeartbeats 4000000 in
theorem kg_X11_outcome_0 {G : kG} {q : kP} {d : Nat} {x : gd} {P : Option gv → gd → Prop} {X : String → gd → Prop} (hq : kV q) (l1 : Int32) (l2 : Int32) (l3 : Int32)
    (h : KE G q (d + 6) zk_X11_needWay 0 [(0, vi l1)] [] x (rv (fun x1 => KT G q (d + 6) zk_X11_wasTried 0 [(0, vr 0), (1, vi l1)] [] x1 (ri (fun r3 x2 => ((r3 = (0 : Int32) → KE G q (d + 7) zk_X11_outcome 26 [(0, vr 0), (1, vi l1), (2, vi l2), (3, vi l3)] [vi 0, vi l2] x2 P X) ∧ (¬ (r3 = (0 : Int32)) → vp_in l1 2 ∧ (∀ u6, u6 = (kf q).1 7 (l1 : Int32).toNatClampNeg → ∃ c7, u6 = some c7 ∧ kiT q c7 ∧ KE G q (d + 7) zk_X11_outcome 26 [(0, vr 0), (1, vi l1), (2, vi l2), (3, vi l3)] [vi (x2.1 c7 3), vi l2] x2 P X))))))) X) :
    KE G q (d + 7) zk_X11_outcome 0 [(0, vr 0), (1, vi l1), (2, vi l2), (3, vi l3)] [] x P X := by
  refine T_iload_n 1 (dk dtk_X11_outcome 0 rfl) rfl rfl ?_
  refine KD_Sv [vi l1] [] rfl (dk dtk_X11_outcome 1 rfl) kcs_X11_151 rfl (Nat.le_of_ble_eq_true rfl) (Nat.le_of_ble_eq_true rfl) (gok_i (av_c (gkr (kl_0 hq)) (av_c rfl (av_c rfl (av_c rfl av_n)))) as_n) rfl h (fun x1 h => ?_)
  refine T_iload_n 2 (dk dtk_X11_outcome 2 rfl) rfl rfl ?_
  refine T_aload_n 0 (dk dtk_X11_outcome 3 rfl) rfl rfl ?_
  refine T_iload_n 1 (dk dtk_X11_outcome 4 rfl) rfl rfl ?_
  refine KC_Vi [vi l1] [vi l2] rfl (dk dtk_X11_outcome 5 rfl) kcv_X11_309 rfl kk_0 rfl (kl_0 hq) (Nat.le_of_ble_eq_true rfl) (Nat.le_of_ble_eq_true rfl) (gok_i (av_c (gkr (kl_0 hq)) (av_c rfl (av_c rfl (av_c rfl av_n)))) (as_c rfl as_n)) rfl h (fun r3 x2 h => ?_)
  refine T_if_eq 25 (dk dtk_X11_outcome 6 rfl) (by decide) (fun c4 => ?_) (fun c4 => ?_)
  · have h := h.1 c4
    refine T_iconst (v := 0) (dk dtk_X11_outcome 13 rfl) (by decide +kernel) ?_
    exact h
  · have h := h.2 c4
    refine T_aload_n 0 (dk dtk_X11_outcome 7 rfl) rfl rfl ?_
    refine T_getR 0 6 7 (dk dtk_X11_outcome 8 rfl) kfl_X11_59 kk_0 (kl_0 hq) (by decide) rfl kr_0_6 ?_
    refine T_iload_n 1 (dk dtk_X11_outcome 9 rfl) rfl rfl ?_
    obtain ⟨h5, h⟩ := h
    obtain ⟨u6, eu6⟩ : ∃ z, z = (kf q).1 7 (l1 : Int32).toNatClampNeg := ⟨_, rfl⟩
    have h := h u6 eu6
    refine T_aaldT 7 2 (dk dtk_X11_outcome 10 rfl) kk_7 (kl_7 hq) h5 ?_
    rw [← eu6]
    obtain ⟨c7, rfl, g8, h⟩ := h
    refine T_getI c7 3 (dk dtk_X11_outcome 11 rfl) kfl_X11_319 (kk_T0 g8) (kl_T0 hq g8) (by decide) rfl ?_
    refine T_goto 26 (dk dtk_X11_outcome 12 rfl) (by decide) ?_
    exact h
set_option maxRecDepth 100000 in
set_option maxHeartbeats 4000000 in
theorem kg_X11_outcome_26 {G : kG} {q : kP} {d : Nat} {x : gd} {P : Option gv → gd → Prop} {X : String → gd → Prop} (hq : kV q) (l1 : Int32) (l2 : Int32) (l3 : Int32) (s0 : Int32) (s1 : Int32)
    (h : KE G q (d + 6) zk_X11_needIndex 0 [(0, vi s1), (1, vi s0)] [] x (rv (fun x1 => KE G q (d + 6) zk_X11_needIndex 0 [(0, vi l3), (1, vi (x1.1 60 6))] [] x1 (rv (fun x2 => vp_in l1 2 ∧ (∀ u4, u4 = (kf q).1 7 (l1 : Int32).toNatClampNeg → ∃ c5, u4 = some c5 ∧ kiT q c5 ∧ KT G q (d + 6) zk_X10_valueOf 0 [(0, vr c5), (1, vi l2), (2, vi l3)] [] x2 (ri (fun r8 x7 => P (some (vi r8)) x7))))) X)) X) :
    KE G q (d + 7) zk_X11_outcome 26 [(0, vr 0), (1, vi l1), (2, vi l2), (3, vi l3)] [vi s0, vi s1] x P X := by
  refine KD_Sv [vi s1, vi s0] [] rfl (dk dtk_X11_outcome 14 rfl) kcs_X11_163 rfl (Nat.le_of_ble_eq_true rfl) (Nat.le_of_ble_eq_true rfl) (gok_i (av_c (gkr (kl_0 hq)) (av_c rfl (av_c rfl (av_c rfl av_n)))) as_n) rfl h (fun x1 h => ?_)
  refine T_iload_n 3 (dk dtk_X11_outcome 15 rfl) rfl rfl ?_
  refine T_aload_n 0 (dk dtk_X11_outcome 16 rfl) rfl rfl ?_
  refine T_getR 0 2 60 (dk dtk_X11_outcome 17 rfl) kfl_X11_28 kk_0 (kl_0 hq) (by decide) rfl kr_0_2 ?_
  refine T_getI 60 6 (dk dtk_X11_outcome 18 rfl) kfl_X11_136 kk_60 (kl_60 hq) (by decide) rfl ?_
  refine KD_Sv [vi l3, vi (x1.1 60 6)] [] rfl (dk dtk_X11_outcome 19 rfl) kcs_X11_163 rfl (Nat.le_of_ble_eq_true rfl) (Nat.le_of_ble_eq_true rfl) (gok_i (av_c (gkr (kl_0 hq)) (av_c rfl (av_c rfl (av_c rfl av_n)))) as_n) rfl h (fun x2 h => ?_)
  refine T_aload_n 0 (dk dtk_X11_outcome 20 rfl) rfl rfl ?_
  refine T_getR 0 6 7 (dk dtk_X11_outcome 21 rfl) kfl_X11_59 kk_0 (kl_0 hq) (by decide) rfl kr_0_6 ?_
  refine T_iload_n 1 (dk dtk_X11_outcome 22 rfl) rfl rfl ?_
  obtain ⟨h3, h⟩ := h
  obtain ⟨u4, eu4⟩ : ∃ z, z = (kf q).1 7 (l1 : Int32).toNatClampNeg := ⟨_, rfl⟩
  have h := h u4 eu4
  refine T_aaldT 7 2 (dk dtk_X11_outcome 23 rfl) kk_7 (kl_7 hq) h3 ?_
  rw [← eu4]
  refine T_iload_n 2 (dk dtk_X11_outcome 24 rfl) rfl rfl ?_
  refine T_iload_n 3 (dk dtk_X11_outcome 25 rfl) rfl rfl ?_
  obtain ⟨c5, rfl, g6, h⟩ := h
  refine T_sub (lv2 := []) [] rfl ?_
  refine KC_Vi [vi l2, vi l3] [] rfl (dk dtk_X11_outcome 26 rfl) kcv_X11_328 rfl (kk_T0 g6) rfl (kl_T0 hq g6) (Nat.le_of_ble_eq_true rfl) (Nat.le_of_ble_eq_true rfl) (gok_i av_n as_n) rfl h (fun r8 x7 h => ?_)
  exact KE_iret (dk dtk_X11_outcome 27 rfl) rfl rfl h
set_option maxRecDepth 100000 in
theorem dtk_X11_finding : dck cX11_finding [(0, .iload_n 1, 1), (1, .invokestatic 151, 3), (4, .iload_n 2, 1), (5, .invokestatic 331, 3), (8, .aload_n 0, 1), (9, .iload_n 1, 1), (10, .iload_n 2, 1), (11, .invokevirtual 334, 3), (14, .istore_n 3, 1), (15, .iload_n 3, 1), (16, .iconst (-1), 1), (17, .if_icmp .ne 7, 3), (20, .iconst (-1), 1), (21, .goto 14, 3), (24, .aload_n 0, 1), (25, .getfield 59, 3), (28, .iload_n 1, 1), (29, .aaload, 1), (30, .getfield 337, 3), (33, .iload_n 3, 1), (34, .iaload, 1), (35, .ireturn, 1)] = true := by decide +kernel
set_option maxRecDepth 100000 in
set_option maxHeartbeats 4000000 in
theorem kg_X11_finding_0 {G : kG} {q : kP} {d : Nat} {x : gd} {P : Option gv → gd → Prop} {X : String → gd → Prop} (hq : kV q) (l1 : Int32) (l2 : Int32)
    (h : KE G q (d + 6) zk_X11_needWay 0 [(0, vi l1)] [] x (rv (fun x1 => KE G q (d + 6) zk_X11_needFinding 0 [(0, vi l2)] [] x1 (rv (fun x2 => KT G q (d + 6) zk_X11_firstState 0 [(0, vr 0), (1, vi l1), (2, vi l2)] [] x2 (ri (fun r4 x3 => ((¬ (r4 = (-1 : Int32)) → vp_in l1 2 ∧ (∀ u7, u7 = (kf q).1 7 (l1 : Int32).toNatClampNeg → ∃ c8, u7 = some c8 ∧ kiT q c8 ∧ vp_in r4 3000 ∧ P (some (vi (x3.1 (c8 + 12) (r4 : Int32).toNatClampNeg))) x3)) ∧ (r4 = (-1 : Int32) → P (some (vi (-1))) x3)))))) X)) X) :
    KE G q (d + 7) zk_X11_finding 0 [(0, vr 0), (1, vi l1), (2, vi l2)] [] x P X := by
  refine T_iload_n 1 (dk dtk_X11_finding 0 rfl) rfl rfl ?_
  refine KD_Sv [vi l1] [] rfl (dk dtk_X11_finding 1 rfl) kcs_X11_151 rfl (Nat.le_of_ble_eq_true rfl) (Nat.le_of_ble_eq_true rfl) (gok_i (av_c (gkr (kl_0 hq)) (av_c rfl (av_c rfl av_n))) as_n) rfl h (fun x1 h => ?_)
  refine T_iload_n 2 (dk dtk_X11_finding 2 rfl) rfl rfl ?_
  refine KD_Sv [vi l2] [] rfl (dk dtk_X11_finding 3 rfl) kcs_X11_331 rfl (Nat.le_of_ble_eq_true rfl) (Nat.le_of_ble_eq_true rfl) (gok_i (av_c (gkr (kl_0 hq)) (av_c rfl (av_c rfl av_n))) as_n) rfl h (fun x2 h => ?_)
  refine T_aload_n 0 (dk dtk_X11_finding 4 rfl) rfl rfl ?_
  refine T_iload_n 1 (dk dtk_X11_finding 5 rfl) rfl rfl ?_
  refine T_iload_n 2 (dk dtk_X11_finding 6 rfl) rfl rfl ?_
  refine T_sub (lv2 := [(0, vr 0), (1, vi l1)]) [0, 1] rfl ?_
  refine KC_Vi [vi l1, vi l2] [] rfl (dk dtk_X11_finding 7 rfl) kcv_X11_334 rfl kk_0 rfl (kl_0 hq) (Nat.le_of_ble_eq_true rfl) (Nat.le_of_ble_eq_true rfl) (gok_i (av_c (gkr (kl_0 hq)) (av_c rfl av_n)) as_n) rfl h (fun r4 x3 h => ?_)
  refine T_istore_n (lv2 := [(3, vi r4), (0, vr 0), (1, vi l1)]) (dk dtk_X11_finding 8 rfl) rfl (by decide) rfl ?_
  refine T_iload_n 0 (dk dtk_X11_finding 9 rfl) rfl rfl ?_
  refine T_iconst (v := (-1)) (dk dtk_X11_finding 10 rfl) (by decide +kernel) ?_
  refine T_icmp_ne 24 (dk dtk_X11_finding 11 rfl) (by decide) (fun c5 => ?_) (fun c5 => ?_)
  · have h := h.1 c5
    refine T_aload_n 1 (dk dtk_X11_finding 14 rfl) rfl rfl ?_
    refine T_getR 0 6 7 (dk dtk_X11_finding 15 rfl) kfl_X11_59 kk_0 (kl_0 hq) (by decide) rfl kr_0_6 ?_
    refine T_iload_n 2 (dk dtk_X11_finding 16 rfl) rfl rfl ?_
    obtain ⟨h6, h⟩ := h
    obtain ⟨u7, eu7⟩ : ∃ z, z = (kf q).1 7 (l1 : Int32).toNatClampNeg := ⟨_, rfl⟩
    have h := h u7 eu7
    refine T_aaldT 7 2 (dk dtk_X11_finding 17 rfl) kk_7 (kl_7 hq) h6 ?_
    rw [← eu7]
    obtain ⟨c8, rfl, g9, h⟩ := h
    refine T_getR c8 11 (c8 + 12) (dk dtk_X11_finding 18 rfl) kfl_X11_337 (kk_T0 g9) (kl_T0 hq g9) (by decide) rfl (kr_T_11 g9) ?_
    refine T_iload_n 0 (dk dtk_X11_finding 19 rfl) rfl rfl ?_
    obtain ⟨h10, h⟩ := h
    refine T_iald (c8 + 12) 3000 (dk dtk_X11_finding 20 rfl) (kk_T12 g9) (kl_T12 hq g9) h10 ?_
    exact KE_iret (dk dtk_X11_finding 21 rfl) rfl rfl h
  · have h := h.2 c5
    refine T_iconst (v := (-1)) (dk dtk_X11_finding 12 rfl) (by decide +kernel) ?_
    refine T_goto 35 (dk dtk_X11_finding 13 rfl) (by decide) ?_
    exact KE_iret (dk dtk_X11_finding 21 rfl) rfl rfl h
set_option maxRecDepth 100000 in
theorem dtk_X11_show : dck cX11_show [(0, .iload_n 1, 1), (1, .invokestatic 151, 3), (4, .iload_n 2, 1), (5, .invokestatic 331, 3), (8, .aload_n 0, 1), (9, .iload_n 1, 1), (10, .iload_n 2, 1), (11, .invokevirtual 334, 3), (14, .istore_n 3, 1), (15, .iload_n 3, 1), (16, .iconst (-1), 1), (17, .if_icmp .ne 14, 3), (20, .new 102, 3), (23, .dup, 1), (24, .ldc_w 340, 3), (27, .invokespecial 191, 3), (30, .athrow, 1), (31, .aload_n 0, 1), (32, .getfield 59, 3), (35, .iload_n 1, 1), (36, .aaload, 1), (37, .getfield 337, 3), (40, .iload_n 3, 1), (41, .iaload, 1), (42, .istore 4, 2), (44, .iload 4, 2), (46, .sipush 400, 3), (49, .if_icmp .le 14, 3), (52, .new 102, 3), (55, .dup, 1), (56, .ldc_w 342, 3), (59, .invokespecial 191, 3), (62, .athrow, 1), (63, .aload_n 0, 1), (64, .getfield 59, 3), (67, .iload_n 1, 1), (68, .aaload, 1), (69, .iload_n 3, 1), (70, .aload_n 0, 1), (71, .getfield 53, 3), (74, .getfield 203, 3), (77, .invokevirtual 344, 3), (80, .aload_n 0, 1), (81, .iload_n 1, 1), (82, .invokevirtual 154, 3), (85, .iconst 0, 1), (86, .istore 5, 2), (88, .iload 5, 2), (90, .iload 4, 2), (92, .if_icmp .ge 23, 3), (95, .aload_n 0, 1), (96, .aload_n 0, 1), (97, .getfield 53, 3), (100, .getfield 203, 3), (103, .iload 5, 2), (105, .iaload, 1), (106, .invokevirtual 192, 3), (109, .iinc 5 1, 3), (112, .goto (-24), 3), (115, .iload 4, 2), (117, .ireturn, 1)] = true := by decide +kernel
set_option maxRecDepth 100000 in
set_option maxHeartbeats 4000000 in
theorem kg_X11_show_0 {G : kG} {q : kP} {d : Nat} {x : gd} {P : Option gv → gd → Prop} {X : String → gd → Prop} (hq : kV q) (l1 : Int32) (l2 : Int32)
    (h : KE G q (d + 6) zk_X11_needWay 0 [(0, vi l1)] [] x (rv (fun x1 => KE G q (d + 6) zk_X11_needFinding 0 [(0, vi l2)] [] x1 (rv (fun x2 => KT G q (d + 6) zk_X11_firstState 0 [(0, vr 0), (1, vi l1), (2, vi l2)] [] x2 (ri (fun r4 x3 => ((¬ (r4 = (-1 : Int32)) → vp_in l1 2 ∧ (∀ u7, u7 = (kf q).1 7 (l1 : Int32).toNatClampNeg → ∃ c8, u7 = some c8 ∧ kiT q c8 ∧ vp_in r4 3000 ∧ (((x3.1 (c8 + 12) (r4 : Int32).toNatClampNeg) ≤ (400 : Int32) → vp_in l1 2 ∧ (∀ u13, u13 = (kf q).1 7 (l1 : Int32).toNatClampNeg → ∃ c14, u13 = some c14 ∧ kiT q c14 ∧ KT G q (d + 6) zk_X10_pathTo 0 [(0, vr c14), (1, vi r4), (2, vr 162)] [] x3 (rv (fun x16 => KT G q (d + 6) zk_X11_beginRun 0 [(0, vr 0), (1, vi l1)] [] x16 (rv (fun x17 => KE G q (d + 7) zk_X11_show 88 [(0, vr 0), (4, vi (x3.1 (c8 + 12) (r4 : Int32).toNatClampNeg)), (5, vi 0)] [] x17 P X)))))) ∧ (¬ ((x3.1 (c8 + 12) (r4 : Int32).toNatClampNeg) ≤ (400 : Int32)) → X iSE x3)))) ∧ (r4 = (-1 : Int32) → X iSE x3)))))) X)) X) :
    KE G q (d + 7) zk_X11_show 0 [(0, vr 0), (1, vi l1), (2, vi l2)] [] x P X := by
  refine T_iload_n 1 (dk dtk_X11_show 0 rfl) rfl rfl ?_
  refine KD_Sv [vi l1] [] rfl (dk dtk_X11_show 1 rfl) kcs_X11_151 rfl (Nat.le_of_ble_eq_true rfl) (Nat.le_of_ble_eq_true rfl) (gok_i (av_c (gkr (kl_0 hq)) (av_c rfl (av_c rfl av_n))) as_n) rfl h (fun x1 h => ?_)
  refine T_iload_n 2 (dk dtk_X11_show 2 rfl) rfl rfl ?_
  refine KD_Sv [vi l2] [] rfl (dk dtk_X11_show 3 rfl) kcs_X11_331 rfl (Nat.le_of_ble_eq_true rfl) (Nat.le_of_ble_eq_true rfl) (gok_i (av_c (gkr (kl_0 hq)) (av_c rfl (av_c rfl av_n))) as_n) rfl h (fun x2 h => ?_)
  refine T_aload_n 0 (dk dtk_X11_show 4 rfl) rfl rfl ?_
  refine T_iload_n 1 (dk dtk_X11_show 5 rfl) rfl rfl ?_
  refine T_iload_n 2 (dk dtk_X11_show 6 rfl) rfl rfl ?_
  refine T_sub (lv2 := [(0, vr 0), (1, vi l1)]) [0, 1] rfl ?_
  refine KC_Vi [vi l1, vi l2] [] rfl (dk dtk_X11_show 7 rfl) kcv_X11_334 rfl kk_0 rfl (kl_0 hq) (Nat.le_of_ble_eq_true rfl) (Nat.le_of_ble_eq_true rfl) (gok_i (av_c (gkr (kl_0 hq)) (av_c rfl av_n)) as_n) rfl h (fun r4 x3 h => ?_)
  refine T_istore_n (lv2 := [(3, vi r4), (0, vr 0), (1, vi l1)]) (dk dtk_X11_show 8 rfl) rfl (by decide) rfl ?_
  refine T_iload_n 0 (dk dtk_X11_show 9 rfl) rfl rfl ?_
  refine T_iconst (v := (-1)) (dk dtk_X11_show 10 rfl) (by decide +kernel) ?_
  refine T_icmp_ne 31 (dk dtk_X11_show 11 rfl) (by decide) (fun c5 => ?_) (fun c5 => ?_)
  · have h := h.1 c5
    refine T_aload_n 1 (dk dtk_X11_show 17 rfl) rfl rfl ?_
    refine T_getR 0 6 7 (dk dtk_X11_show 18 rfl) kfl_X11_59 kk_0 (kl_0 hq) (by decide) rfl kr_0_6 ?_
    refine T_iload_n 2 (dk dtk_X11_show 19 rfl) rfl rfl ?_
    obtain ⟨h6, h⟩ := h
    obtain ⟨u7, eu7⟩ : ∃ z, z = (kf q).1 7 (l1 : Int32).toNatClampNeg := ⟨_, rfl⟩
    have h := h u7 eu7
    refine T_aaldT 7 2 (dk dtk_X11_show 20 rfl) kk_7 (kl_7 hq) h6 ?_
    rw [← eu7]
    obtain ⟨c8, rfl, g9, h⟩ := h
    refine T_getR c8 11 (c8 + 12) (dk dtk_X11_show 21 rfl) kfl_X11_337 (kk_T0 g9) (kl_T0 hq g9) (by decide) rfl (kr_T_11 g9) ?_
    refine T_iload_n 0 (dk dtk_X11_show 22 rfl) rfl rfl ?_
    obtain ⟨h10, h⟩ := h
    refine T_iald (c8 + 12) 3000 (dk dtk_X11_show 23 rfl) (kk_T12 g9) (kl_T12 hq g9) h10 ?_
    refine T_istore (lv2 := [(4, vi (x3.1 (c8 + 12) (r4 : Int32).toNatClampNeg)), (3, vi r4), (0, vr 0), (1, vi l1)]) (dk dtk_X11_show 24 rfl) (by decide) rfl ?_
    refine T_iload 0 (dk dtk_X11_show 25 rfl) rfl ?_
    refine T_sipush (v := 400) (dk dtk_X11_show 26 rfl) (by decide +kernel) ?_
    refine T_icmp_le 63 (dk dtk_X11_show 27 rfl) (by decide) (fun c11 => ?_) (fun c11 => ?_)
    · have h := h.1 c11
      refine T_aload_n 2 (dk dtk_X11_show 33 rfl) rfl rfl ?_
      refine T_getR 0 6 7 (dk dtk_X11_show 34 rfl) kfl_X11_59 kk_0 (kl_0 hq) (by decide) rfl kr_0_6 ?_
      refine T_iload_n 3 (dk dtk_X11_show 35 rfl) rfl rfl ?_
      obtain ⟨h12, h⟩ := h
      obtain ⟨u13, eu13⟩ : ∃ z, z = (kf q).1 7 (l1 : Int32).toNatClampNeg := ⟨_, rfl⟩
      have h := h u13 eu13
      refine T_aaldT 7 2 (dk dtk_X11_show 36 rfl) kk_7 (kl_7 hq) h12 ?_
      rw [← eu13]
      refine T_iload_n 1 (dk dtk_X11_show 37 rfl) rfl rfl ?_
      refine T_aload_n 2 (dk dtk_X11_show 38 rfl) rfl rfl ?_
      refine T_getR 0 5 160 (dk dtk_X11_show 39 rfl) kfl_X11_53 kk_0 (kl_0 hq) (by decide) rfl kr_0_5 ?_
      refine T_getR 160 1 162 (dk dtk_X11_show 40 rfl) kfl_X11_203 kk_160 (kl_160 hq) (by decide) rfl kr_160_1 ?_
      obtain ⟨c14, rfl, g15, h⟩ := h
      refine T_sub (lv2 := [(4, vi (x3.1 (c8 + 12) (r4 : Int32).toNatClampNeg)), (0, vr 0), (1, vi l1)]) [0, 2, 3] rfl ?_
      refine KC_Vv [vi r4, vr 162] [] rfl (dk dtk_X11_show 41 rfl) kcv_X11_344 rfl (kk_T0 g15) rfl (kl_T0 hq g15) (Nat.le_of_ble_eq_true rfl) (Nat.le_of_ble_eq_true rfl) (gok_i (av_c rfl (av_c (gkr (kl_0 hq)) (av_c rfl av_n))) as_n) rfl h (fun x16 h => ?_)
      refine T_aload_n 1 (dk dtk_X11_show 42 rfl) rfl rfl ?_
      refine T_iload_n 2 (dk dtk_X11_show 43 rfl) rfl rfl ?_
      refine T_sub (lv2 := [(4, vi (x3.1 (c8 + 12) (r4 : Int32).toNatClampNeg)), (0, vr 0)]) [0, 1] rfl ?_
      refine KC_Vv [vi l1] [] rfl (dk dtk_X11_show 44 rfl) kcv_X11_154 rfl kk_0 rfl (kl_0 hq) (Nat.le_of_ble_eq_true rfl) (Nat.le_of_ble_eq_true rfl) (gok_i (av_c rfl (av_c (gkr (kl_0 hq)) av_n)) as_n) rfl h (fun x17 h => ?_)
      refine T_iconst (v := 0) (dk dtk_X11_show 45 rfl) (by decide +kernel) ?_
      refine T_istore (lv2 := [(5, vi 0), (4, vi (x3.1 (c8 + 12) (r4 : Int32).toNatClampNeg)), (0, vr 0)]) (dk dtk_X11_show 46 rfl) (by decide) rfl ?_
      exact T_sub [2, 1, 0] rfl h
    · have h := h.2 c11
      exact T_thrW kth_X11_102_342 (dk dtk_X11_show 28 rfl) (dk dtk_X11_show 29 rfl) (dk dtk_X11_show 30 rfl) (dk dtk_X11_show 31 rfl) (dk dtk_X11_show 32 rfl) (by intro z hz; cases hz) (by omega) (Nat.le_of_ble_eq_true rfl) (Or.inr ⟨rfl, _, rfl, h⟩)
  · have h := h.2 c5
    exact T_thrW kth_X11_102_340 (dk dtk_X11_show 12 rfl) (dk dtk_X11_show 13 rfl) (dk dtk_X11_show 14 rfl) (dk dtk_X11_show 15 rfl) (dk dtk_X11_show 16 rfl) (by intro z hz; cases hz) (by omega) (Nat.le_of_ble_eq_true rfl) (Or.inr ⟨rfl, _, rfl, h⟩)
set_option maxRecDepth 100000 in
set_option maxHeartbeats 4000000 in
theorem kg_X11_show_88 {G : kG} {q : kP} {d : Nat} {x : gd} {P : Option gv → gd → Prop} {X : String → gd → Prop} (hq : kV q) (l4 : Int32) (l5 : Int32)
    (h : ((l4 ≤ l5 → P (some (vi l4)) x) ∧ (¬ (l4 ≤ l5) → vp_in l5 400 ∧ KT G q (d + 6) zk_X11_doChoice 0 [(0, vr 0), (1, vi (x.1 162 (l5 : Int32).toNatClampNeg))] [] x (rv (fun x3 => KE G q (d + 7) zk_X11_show 88 [(0, vr 0), (4, vi l4), (5, vi (l5 + 1))] [] x3 P X))))) :
    KE G q (d + 7) zk_X11_show 88 [(0, vr 0), (4, vi l4), (5, vi l5)] [] x P X := by
  refine T_iload 2 (dk dtk_X11_show 47 rfl) rfl ?_
  refine T_iload 1 (dk dtk_X11_show 48 rfl) rfl ?_
  refine T_icmp_ge 115 (dk dtk_X11_show 49 rfl) (by decide) (fun c1 => ?_) (fun c1 => ?_)
  · have h := h.1 c1
    refine T_iload 1 (dk dtk_X11_show 59 rfl) rfl ?_
    exact KE_iret (dk dtk_X11_show 60 rfl) rfl rfl h
  · have h := h.2 c1
    refine T_aload_n 0 (dk dtk_X11_show 50 rfl) rfl rfl ?_
    refine T_aload_n 0 (dk dtk_X11_show 51 rfl) rfl rfl ?_
    refine T_getR 0 5 160 (dk dtk_X11_show 52 rfl) kfl_X11_53 kk_0 (kl_0 hq) (by decide) rfl kr_0_5 ?_
    refine T_getR 160 1 162 (dk dtk_X11_show 53 rfl) kfl_X11_203 kk_160 (kl_160 hq) (by decide) rfl kr_160_1 ?_
    refine T_iload 2 (dk dtk_X11_show 54 rfl) rfl ?_
    obtain ⟨h2, h⟩ := h
    refine T_iald 162 400 (dk dtk_X11_show 55 rfl) kk_162 (kl_162 hq) h2 ?_
    refine KC_Vv [vi (x.1 162 (l5 : Int32).toNatClampNeg)] [] rfl (dk dtk_X11_show 56 rfl) kcv_X11_192 rfl kk_0 rfl (kl_0 hq) (Nat.le_of_ble_eq_true rfl) (Nat.le_of_ble_eq_true rfl) (gok_i (av_c (gkr (kl_0 hq)) (av_c rfl (av_c rfl av_n))) as_n) rfl h (fun x3 h => ?_)
    refine T_iinc (v := l5 + 1) (lv2 := [(5, vi (l5 + 1)), (0, vr 0), (4, vi l4)]) 2 (dk dtk_X11_show 57 rfl) rfl rfl (by decide) rfl ?_
    refine T_goto 88 (dk dtk_X11_show 58 rfl) (by decide) ?_
    exact T_sub [1, 2, 0] rfl h
set_option maxRecDepth 100000 in
theorem dtk_X11_common : dck cX11_common [(0, .iload_n 1, 1), (1, .invokestatic 151, 3), (4, .iload_n 2, 1), (5, .aload_n 0, 1), (6, .getfield 110, 3), (9, .ifCond .eq 13, 3), (12, .aload_n 0, 1), (13, .getfield 28, 3), (16, .getfield 136, 3), (19, .goto 4, 3), (22, .iconst 0, 1), (23, .invokestatic 163, 3), (26, .aload_n 0, 1), (27, .iload_n 1, 1), (28, .invokevirtual 309, 3), (31, .ifCond .eq 17, 3), (34, .aload_n 0, 1), (35, .getfield 59, 3), (38, .iload_n 1, 1), (39, .aaload, 1), (40, .getfield 348, 3), (43, .iload_n 2, 1), (44, .iaload, 1), (45, .goto 14, 3), (48, .iconst 1, 1), (49, .aload_n 0, 1), (50, .getfield 28, 3), (53, .getfield 139, 3), (56, .ishl, 1), (57, .iconst 1, 1), (58, .isub, 1), (59, .ireturn, 1)] = true := by decide +kernel
set_option maxRecDepth 100000 in
set_option maxHeartbeats 4000000 in
theorem kg_X11_common_0 {G : kG} {q : kP} {d : Nat} {x : gd} {P : Option gv → gd → Prop} {X : String → gd → Prop} (hq : kV q) (l1 : Int32) (l2 : Int32)
    (h : KE G q (d + 6) zk_X11_needWay 0 [(0, vi l1)] [] x (rv (fun x1 => (((x1.1 0 9) = (0 : Int32) → KE G q (d + 7) zk_X11_common 23 [(0, vr 0), (1, vi l1), (2, vi l2)] [vi 0, vi l2] x1 P X) ∧ (¬ ((x1.1 0 9) = (0 : Int32)) → KE G q (d + 7) zk_X11_common 23 [(0, vr 0), (1, vi l1), (2, vi l2)] [vi (x1.1 60 6), vi l2] x1 P X)))) X) :
    KE G q (d + 7) zk_X11_common 0 [(0, vr 0), (1, vi l1), (2, vi l2)] [] x P X := by
  refine T_iload_n 1 (dk dtk_X11_common 0 rfl) rfl rfl ?_
  refine KD_Sv [vi l1] [] rfl (dk dtk_X11_common 1 rfl) kcs_X11_151 rfl (Nat.le_of_ble_eq_true rfl) (Nat.le_of_ble_eq_true rfl) (gok_i (av_c (gkr (kl_0 hq)) (av_c rfl (av_c rfl av_n))) as_n) rfl h (fun x1 h => ?_)
  refine T_iload_n 2 (dk dtk_X11_common 2 rfl) rfl rfl ?_
  refine T_aload_n 0 (dk dtk_X11_common 3 rfl) rfl rfl ?_
  refine T_getI 0 9 (dk dtk_X11_common 4 rfl) kfl_X11_110 kk_0 (kl_0 hq) (by decide) rfl ?_
  refine T_if_eq 22 (dk dtk_X11_common 5 rfl) (by decide) (fun c2 => ?_) (fun c2 => ?_)
  · have h := h.1 c2
    refine T_iconst (v := 0) (dk dtk_X11_common 10 rfl) (by decide +kernel) ?_
    exact h
  · have h := h.2 c2
    refine T_aload_n 0 (dk dtk_X11_common 6 rfl) rfl rfl ?_
    refine T_getR 0 2 60 (dk dtk_X11_common 7 rfl) kfl_X11_28 kk_0 (kl_0 hq) (by decide) rfl kr_0_2 ?_
    refine T_getI 60 6 (dk dtk_X11_common 8 rfl) kfl_X11_136 kk_60 (kl_60 hq) (by decide) rfl ?_
    refine T_goto 23 (dk dtk_X11_common 9 rfl) (by decide) ?_
    exact h
set_option maxRecDepth 100000 in
set_option maxHeartbeats 4000000 in
theorem kg_X11_common_23 {G : kG} {q : kP} {d : Nat} {x : gd} {P : Option gv → gd → Prop} {X : String → gd → Prop} (hq : kV q) (l1 : Int32) (l2 : Int32) (s0 : Int32) (s1 : Int32)
    (h : KE G q (d + 6) zk_X11_needIndex 0 [(0, vi s1), (1, vi s0)] [] x (rv (fun x1 => KT G q (d + 6) zk_X11_wasTried 0 [(0, vr 0), (1, vi l1)] [] x1 (ri (fun r3 x2 => ((r3 = (0 : Int32) → P (some (vi ((1 <<< ((x2.1 60 9) &&& 31 : Int32)) - 1))) x2) ∧ (¬ (r3 = (0 : Int32)) → vp_in l1 2 ∧ (∀ u6, u6 = (kf q).1 7 (l1 : Int32).toNatClampNeg → ∃ c7, u6 = some c7 ∧ kiT q c7 ∧ vp_in l2 24 ∧ P (some (vi (x2.1 (c7 + 8) (l2 : Int32).toNatClampNeg))) x2))))))) X) :
    KE G q (d + 7) zk_X11_common 23 [(0, vr 0), (1, vi l1), (2, vi l2)] [vi s0, vi s1] x P X := by
  refine KD_Sv [vi s1, vi s0] [] rfl (dk dtk_X11_common 11 rfl) kcs_X11_163 rfl (Nat.le_of_ble_eq_true rfl) (Nat.le_of_ble_eq_true rfl) (gok_i (av_c (gkr (kl_0 hq)) (av_c rfl (av_c rfl av_n))) as_n) rfl h (fun x1 h => ?_)
  refine T_aload_n 0 (dk dtk_X11_common 12 rfl) rfl rfl ?_
  refine T_iload_n 1 (dk dtk_X11_common 13 rfl) rfl rfl ?_
  refine KC_Vi [vi l1] [] rfl (dk dtk_X11_common 14 rfl) kcv_X11_309 rfl kk_0 rfl (kl_0 hq) (Nat.le_of_ble_eq_true rfl) (Nat.le_of_ble_eq_true rfl) (gok_i (av_c (gkr (kl_0 hq)) (av_c rfl (av_c rfl av_n))) as_n) rfl h (fun r3 x2 h => ?_)
  refine T_if_eq 48 (dk dtk_X11_common 15 rfl) (by decide) (fun c4 => ?_) (fun c4 => ?_)
  · have h := h.1 c4
    refine T_iconst (v := 1) (dk dtk_X11_common 24 rfl) (by decide +kernel) ?_
    refine T_aload_n 0 (dk dtk_X11_common 25 rfl) rfl rfl ?_
    refine T_getR 0 2 60 (dk dtk_X11_common 26 rfl) kfl_X11_28 kk_0 (kl_0 hq) (by decide) rfl kr_0_2 ?_
    refine T_getI 60 9 (dk dtk_X11_common 27 rfl) kfl_X11_139 kk_60 (kl_60 hq) (by decide) rfl ?_
    refine T_ishl (dk dtk_X11_common 28 rfl) ?_
    refine T_iconst (v := 1) (dk dtk_X11_common 29 rfl) (by decide +kernel) ?_
    refine T_isub (dk dtk_X11_common 30 rfl) ?_
    exact KE_iret (dk dtk_X11_common 31 rfl) rfl rfl h
  · have h := h.2 c4
    refine T_aload_n 0 (dk dtk_X11_common 16 rfl) rfl rfl ?_
    refine T_getR 0 6 7 (dk dtk_X11_common 17 rfl) kfl_X11_59 kk_0 (kl_0 hq) (by decide) rfl kr_0_6 ?_
    refine T_iload_n 1 (dk dtk_X11_common 18 rfl) rfl rfl ?_
    obtain ⟨h5, h⟩ := h
    obtain ⟨u6, eu6⟩ : ∃ z, z = (kf q).1 7 (l1 : Int32).toNatClampNeg := ⟨_, rfl⟩
    have h := h u6 eu6
    refine T_aaldT 7 2 (dk dtk_X11_common 19 rfl) kk_7 (kl_7 hq) h5 ?_
    rw [← eu6]
    obtain ⟨c7, rfl, g8, h⟩ := h
    refine T_getR c7 7 (c7 + 8) (dk dtk_X11_common 20 rfl) kfl_X11_348 (kk_T0 g8) (kl_T0 hq g8) (by decide) rfl (kr_T_7 g8) ?_
    refine T_iload_n 2 (dk dtk_X11_common 21 rfl) rfl rfl ?_
    obtain ⟨h9, h⟩ := h
    refine T_iald (c7 + 8) 24 (dk dtk_X11_common 22 rfl) (kk_T8 g8) (kl_T8 hq g8) h9 ?_
    refine T_goto 59 (dk dtk_X11_common 23 rfl) (by decide) ?_
    exact KE_iret (dk dtk_X11_common 31 rfl) rfl rfl h
set_option maxRecDepth 100000 in
theorem dtk_X11_ring : dck cX11_ring [(0, .iload_n 1, 1), (1, .invokestatic 151, 3), (4, .aload_n 0, 1), (5, .iload_n 1, 1), (6, .invokevirtual 309, 3), (9, .ifCond .eq 15, 3), (12, .aload_n 0, 1), (13, .getfield 59, 3), (16, .iload_n 1, 1), (17, .aaload, 1), (18, .invokevirtual 351, 3), (21, .goto 4, 3), (24, .iconst 0, 1), (25, .ireturn, 1)] = true := by decide +kernel
set_option maxRecDepth 100000 in
set_option maxHeartbeats 4000000 in
theorem kg_X11_ring_0 {G : kG} {q : kP} {d : Nat} {x : gd} {P : Option gv → gd → Prop} {X : String → gd → Prop} (hq : kV q) (l1 : Int32)
    (h : KE G q (d + 6) zk_X11_needWay 0 [(0, vi l1)] [] x (rv (fun x1 => KT G q (d + 6) zk_X11_wasTried 0 [(0, vr 0), (1, vi l1)] [] x1 (ri (fun r3 x2 => ((r3 = (0 : Int32) → P (some (vi 0)) x2) ∧ (¬ (r3 = (0 : Int32)) → vp_in l1 2 ∧ (∀ u6, u6 = (kf q).1 7 (l1 : Int32).toNatClampNeg → ∃ c7, u6 = some c7 ∧ kiT q c7 ∧ KT G q (d + 6) zk_X10_shortestRing 0 [(0, vr c7)] [] x2 (ri (fun r10 x9 => P (some (vi r10)) x9))))))))) X) :
    KE G q (d + 7) zk_X11_ring 0 [(0, vr 0), (1, vi l1)] [] x P X := by
  refine T_iload_n 1 (dk dtk_X11_ring 0 rfl) rfl rfl ?_
  refine KD_Sv [vi l1] [] rfl (dk dtk_X11_ring 1 rfl) kcs_X11_151 rfl (Nat.le_of_ble_eq_true rfl) (Nat.le_of_ble_eq_true rfl) (gok_i (av_c (gkr (kl_0 hq)) (av_c rfl av_n)) as_n) rfl h (fun x1 h => ?_)
  refine T_aload_n 0 (dk dtk_X11_ring 2 rfl) rfl rfl ?_
  refine T_iload_n 1 (dk dtk_X11_ring 3 rfl) rfl rfl ?_
  refine KC_Vi [vi l1] [] rfl (dk dtk_X11_ring 4 rfl) kcv_X11_309 rfl kk_0 rfl (kl_0 hq) (Nat.le_of_ble_eq_true rfl) (Nat.le_of_ble_eq_true rfl) (gok_i (av_c (gkr (kl_0 hq)) (av_c rfl av_n)) as_n) rfl h (fun r3 x2 h => ?_)
  refine T_if_eq 24 (dk dtk_X11_ring 5 rfl) (by decide) (fun c4 => ?_) (fun c4 => ?_)
  · have h := h.1 c4
    refine T_iconst (v := 0) (dk dtk_X11_ring 12 rfl) (by decide +kernel) ?_
    exact KE_iret (dk dtk_X11_ring 13 rfl) rfl rfl h
  · have h := h.2 c4
    refine T_aload_n 0 (dk dtk_X11_ring 6 rfl) rfl rfl ?_
    refine T_getR 0 6 7 (dk dtk_X11_ring 7 rfl) kfl_X11_59 kk_0 (kl_0 hq) (by decide) rfl kr_0_6 ?_
    refine T_iload_n 1 (dk dtk_X11_ring 8 rfl) rfl rfl ?_
    obtain ⟨h5, h⟩ := h
    obtain ⟨u6, eu6⟩ : ∃ z, z = (kf q).1 7 (l1 : Int32).toNatClampNeg := ⟨_, rfl⟩
    have h := h u6 eu6
    refine T_aaldT 7 2 (dk dtk_X11_ring 9 rfl) kk_7 (kl_7 hq) h5 ?_
    rw [← eu6]
    obtain ⟨c7, rfl, g8, h⟩ := h
    refine T_sub (lv2 := []) [] rfl ?_
    refine KC_Vi [] [] rfl (dk dtk_X11_ring 10 rfl) kcv_X11_351 rfl (kk_T0 g8) rfl (kl_T0 hq g8) (Nat.le_of_ble_eq_true rfl) (Nat.le_of_ble_eq_true rfl) (gok_i av_n as_n) rfl h (fun r10 x9 h => ?_)
    refine T_goto 25 (dk dtk_X11_ring 11 rfl) (by decide) ?_
    exact KE_iret (dk dtk_X11_ring 13 rfl) rfl rfl h
end
section
set_option maxRecDepth 100000 in
theorem dtk_X11_alike : dck cX11_alike [(0, .aload_n 0, 1), (1, .iconst 0, 1), (2, .invokevirtual 309, 3), (5, .ifCond .eq 35, 3), (8, .aload_n 0, 1), (9, .iconst 1, 1), (10, .invokevirtual 309, 3), (13, .ifCond .eq 27, 3), (16, .aload_n 0, 1), (17, .getfield 59, 3), (20, .iconst 0, 1), (21, .aaload, 1), (22, .getfield 313, 3), (25, .ifCond .ne 15, 3), (28, .aload_n 0, 1), (29, .getfield 59, 3), (32, .iconst 1, 1), (33, .aaload, 1), (34, .getfield 313, 3), (37, .ifCond .eq 5, 3), (40, .iconst (-1), 1), (41, .ireturn, 1), (42, .aload_n 0, 1), (43, .getfield 59, 3), (46, .iconst 0, 1), (47, .aaload, 1), (48, .aload_n 0, 1), (49, .getfield 59, 3), (52, .iconst 1, 1), (53, .aaload, 1), (54, .aload_n 0, 1), (55, .getfield 28, 3), (58, .getfield 136, 3), (61, .invokevirtual 354, 3), (64, .ifCond .eq 7, 3), (67, .iconst 1, 1), (68, .goto 4, 3), (71, .iconst 0, 1), (72, .ireturn, 1)] = true := by decide +kernel
set_option maxRecDepth 100000 in
set_option maxHeartbeats 4000000 in
theorem kg_X11_alike_0 {G : kG} {q : kP} {d : Nat} {x : gd} {P : Option gv → gd → Prop} (hq : kV q) 
    (h : KT G q d zk_X11_wasTried 0 [(0, vr 0), (1, vi 0)] [] x (ri (fun r2 x1 => ((r2 = (0 : Int32) → P (some (vi (-1))) x1) ∧ (¬ (r2 = (0 : Int32)) → KT G q d zk_X11_wasTried 0 [(0, vr 0), (1, vi 1)] [] x1 (ri (fun r5 x4 => ((r5 = (0 : Int32) → P (some (vi (-1))) x4) ∧ (¬ (r5 = (0 : Int32)) → vp_in 0 2 ∧ (∀ u8, u8 = (kf q).1 7 (0 : Int32).toNatClampNeg → ∃ c9, u8 = some c9 ∧ kiT q c9 ∧ ((¬ ((x4.1 c9 1) = (0 : Int32)) → P (some (vi (-1))) x4) ∧ ((x4.1 c9 1) = (0 : Int32) → vp_in 1 2 ∧ (∀ u13, u13 = (kf q).1 7 (1 : Int32).toNatClampNeg → ∃ c14, u13 = some c14 ∧ kiT q c14 ∧ (((x4.1 c14 1) = (0 : Int32) → vp_in 0 2 ∧ (∀ u18, u18 = (kf q).1 7 (0 : Int32).toNatClampNeg → vp_in 1 2 ∧ (∀ u20, u20 = (kf q).1 7 (1 : Int32).toNatClampNeg → ∃ c21, u20 = some c21 ∧ kiT q c21 ∧ ∃ c23, u18 = some c23 ∧ kiT q c23 ∧ KT G q d zk_X10_sameOutcomes 0 [(0, vr c23), (1, vr c21), (2, vi (x4.1 60 6))] [] x4 (ri (fun r26 x25 => ((r26 = (0 : Int32) → P (some (vi 0)) x25) ∧ (¬ (r26 = (0 : Int32)) → P (some (vi 1)) x25))))))) ∧ (¬ ((x4.1 c14 1) = (0 : Int32)) → P (some (vi (-1))) x4))))))))))))))) :
    KT G q (d + 1) zk_X11_alike 0 [(0, vr 0)] [] x P := by
  refine T_aload_n 0 (dk dtk_X11_alike 0 rfl) rfl rfl ?_
  refine T_iconst (v := 0) (dk dtk_X11_alike 1 rfl) (by decide +kernel) ?_
  refine KC_Vi [vi 0] [] rfl (dk dtk_X11_alike 2 rfl) kcv_X11_309 rfl kk_0 rfl (kl_0 hq) (Nat.le_of_ble_eq_true rfl) (Nat.le_of_ble_eq_true rfl) (gok_i (av_c (gkr (kl_0 hq)) av_n) as_n) rfl h (fun r2 x1 h => ?_)
  refine T_if_eq 40 (dk dtk_X11_alike 3 rfl) (by decide) (fun c3 => ?_) (fun c3 => ?_)
  · have h := h.1 c3
    refine T_iconst (v := (-1)) (dk dtk_X11_alike 20 rfl) (by decide +kernel) ?_
    exact KT_iret (dk dtk_X11_alike 21 rfl) rfl rfl h
  · have h := h.2 c3
    refine T_aload_n 0 (dk dtk_X11_alike 4 rfl) rfl rfl ?_
    refine T_iconst (v := 1) (dk dtk_X11_alike 5 rfl) (by decide +kernel) ?_
    refine KC_Vi [vi 1] [] rfl (dk dtk_X11_alike 6 rfl) kcv_X11_309 rfl kk_0 rfl (kl_0 hq) (Nat.le_of_ble_eq_true rfl) (Nat.le_of_ble_eq_true rfl) (gok_i (av_c (gkr (kl_0 hq)) av_n) as_n) rfl h (fun r5 x4 h => ?_)
    refine T_if_eq 40 (dk dtk_X11_alike 7 rfl) (by decide) (fun c6 => ?_) (fun c6 => ?_)
    · have h := h.1 c6
      refine T_iconst (v := (-1)) (dk dtk_X11_alike 20 rfl) (by decide +kernel) ?_
      exact KT_iret (dk dtk_X11_alike 21 rfl) rfl rfl h
    · have h := h.2 c6
      refine T_aload_n 0 (dk dtk_X11_alike 8 rfl) rfl rfl ?_
      refine T_getR 0 6 7 (dk dtk_X11_alike 9 rfl) kfl_X11_59 kk_0 (kl_0 hq) (by decide) rfl kr_0_6 ?_
      refine T_iconst (v := 0) (dk dtk_X11_alike 10 rfl) (by decide +kernel) ?_
      obtain ⟨h7, h⟩ := h
      obtain ⟨u8, eu8⟩ : ∃ z, z = (kf q).1 7 (0 : Int32).toNatClampNeg := ⟨_, rfl⟩
      have h := h u8 eu8
      refine T_aaldT 7 2 (dk dtk_X11_alike 11 rfl) kk_7 (kl_7 hq) h7 ?_
      rw [← eu8]
      obtain ⟨c9, rfl, g10, h⟩ := h
      refine T_getI c9 1 (dk dtk_X11_alike 12 rfl) kfl_X11_313 (kk_T0 g10) (kl_T0 hq g10) (by decide) rfl ?_
      refine T_if_ne 40 (dk dtk_X11_alike 13 rfl) (by decide) (fun c11 => ?_) (fun c11 => ?_)
      · have h := h.1 c11
        refine T_iconst (v := (-1)) (dk dtk_X11_alike 20 rfl) (by decide +kernel) ?_
        exact KT_iret (dk dtk_X11_alike 21 rfl) rfl rfl h
      · have h := h.2 c11
        refine T_aload_n 0 (dk dtk_X11_alike 14 rfl) rfl rfl ?_
        refine T_getR 0 6 7 (dk dtk_X11_alike 15 rfl) kfl_X11_59 kk_0 (kl_0 hq) (by decide) rfl kr_0_6 ?_
        refine T_iconst (v := 1) (dk dtk_X11_alike 16 rfl) (by decide +kernel) ?_
        obtain ⟨h12, h⟩ := h
        obtain ⟨u13, eu13⟩ : ∃ z, z = (kf q).1 7 (1 : Int32).toNatClampNeg := ⟨_, rfl⟩
        have h := h u13 eu13
        refine T_aaldT 7 2 (dk dtk_X11_alike 17 rfl) kk_7 (kl_7 hq) h12 ?_
        rw [← eu13]
        obtain ⟨c14, rfl, g15, h⟩ := h
        refine T_getI c14 1 (dk dtk_X11_alike 18 rfl) kfl_X11_313 (kk_T0 g15) (kl_T0 hq g15) (by decide) rfl ?_
        refine T_if_eq 42 (dk dtk_X11_alike 19 rfl) (by decide) (fun c16 => ?_) (fun c16 => ?_)
        · have h := h.1 c16
          refine T_aload_n 0 (dk dtk_X11_alike 22 rfl) rfl rfl ?_
          refine T_getR 0 6 7 (dk dtk_X11_alike 23 rfl) kfl_X11_59 kk_0 (kl_0 hq) (by decide) rfl kr_0_6 ?_
          refine T_iconst (v := 0) (dk dtk_X11_alike 24 rfl) (by decide +kernel) ?_
          obtain ⟨h17, h⟩ := h
          obtain ⟨u18, eu18⟩ : ∃ z, z = (kf q).1 7 (0 : Int32).toNatClampNeg := ⟨_, rfl⟩
          have h := h u18 eu18
          refine T_aaldT 7 2 (dk dtk_X11_alike 25 rfl) kk_7 (kl_7 hq) h17 ?_
          rw [← eu18]
          refine T_aload_n 0 (dk dtk_X11_alike 26 rfl) rfl rfl ?_
          refine T_getR 0 6 7 (dk dtk_X11_alike 27 rfl) kfl_X11_59 kk_0 (kl_0 hq) (by decide) rfl kr_0_6 ?_
          refine T_iconst (v := 1) (dk dtk_X11_alike 28 rfl) (by decide +kernel) ?_
          obtain ⟨h19, h⟩ := h
          obtain ⟨u20, eu20⟩ : ∃ z, z = (kf q).1 7 (1 : Int32).toNatClampNeg := ⟨_, rfl⟩
          have h := h u20 eu20
          refine T_aaldT 7 2 (dk dtk_X11_alike 29 rfl) kk_7 (kl_7 hq) h19 ?_
          rw [← eu20]
          refine T_aload_n 0 (dk dtk_X11_alike 30 rfl) rfl rfl ?_
          refine T_getR 0 2 60 (dk dtk_X11_alike 31 rfl) kfl_X11_28 kk_0 (kl_0 hq) (by decide) rfl kr_0_2 ?_
          refine T_getI 60 6 (dk dtk_X11_alike 32 rfl) kfl_X11_136 kk_60 (kl_60 hq) (by decide) rfl ?_
          obtain ⟨c21, rfl, g22, h⟩ := h
          obtain ⟨c23, rfl, g24, h⟩ := h
          refine T_sub (lv2 := []) [] rfl ?_
          refine KC_Vi [vr c21, vi (x4.1 60 6)] [] rfl (dk dtk_X11_alike 33 rfl) kcv_X11_354 rfl (kk_T0 g24) rfl (kl_T0 hq g24) (Nat.le_of_ble_eq_true rfl) (Nat.le_of_ble_eq_true rfl) (gok_i av_n as_n) rfl h (fun r26 x25 h => ?_)
          refine T_if_eq 71 (dk dtk_X11_alike 34 rfl) (by decide) (fun c27 => ?_) (fun c27 => ?_)
          · have h := h.1 c27
            refine T_iconst (v := 0) (dk dtk_X11_alike 37 rfl) (by decide +kernel) ?_
            exact KT_iret (dk dtk_X11_alike 38 rfl) rfl rfl h
          · have h := h.2 c27
            refine T_iconst (v := 1) (dk dtk_X11_alike 35 rfl) (by decide +kernel) ?_
            refine T_goto 72 (dk dtk_X11_alike 36 rfl) (by decide) ?_
            exact KT_iret (dk dtk_X11_alike 38 rfl) rfl rfl h
        · have h := h.2 c16
          refine T_iconst (v := (-1)) (dk dtk_X11_alike 20 rfl) (by decide +kernel) ?_
          exact KT_iret (dk dtk_X11_alike 21 rfl) rfl rfl h
set_option maxRecDepth 100000 in
theorem dtk_X11_forgetAll : dck cX11_forgetAll [(0, .aload_n 0, 1), (1, .iconst 0, 1), (2, .putfield 110, 3), (5, .aload_n 0, 1), (6, .iconst 0, 1), (7, .putfield 358, 3), (10, .iconst 0, 1), (11, .istore_n 1, 1), (12, .iload_n 1, 1), (13, .iconst 2, 1), (14, .if_icmp .ge 28, 3), (17, .aload_n 0, 1), (18, .getfield 59, 3), (21, .iload_n 1, 1), (22, .aaload, 1), (23, .ifnull 13, 3), (26, .aload_n 0, 1), (27, .getfield 59, 3), (30, .iload_n 1, 1), (31, .aaload, 1), (32, .iconst 0, 1), (33, .putfield 306, 3), (36, .iinc 1 1, 3), (39, .goto (-27), 3), (42, .return_, 1)] = true := by decide +kernel
set_option maxRecDepth 100000 in
set_option maxHeartbeats 4000000 in
theorem kg_X11_forgetAll_0 {G : kG} {q : kP} {d : Nat} {x : gd} {P : Option gv → gd → Prop} (hq : kV q) 
    (h : (∀ x1 : gd, x1 = si x 0 9 0 → (∀ x2 : gd, x2 = si x1 0 10 0 → KT G q d zk_X11_forgetAll 12 [(0, vr 0), (1, vi 0)] [] x2 P))) :
    KT G q d zk_X11_forgetAll 0 [(0, vr 0)] [] x P := by
  refine T_aload_n 0 (dk dtk_X11_forgetAll 0 rfl) rfl rfl ?_
  refine T_iconst (v := 0) (dk dtk_X11_forgetAll 1 rfl) (by decide +kernel) ?_
  obtain ⟨x1, ex1⟩ : ∃ z, z = si x 0 9 0 := ⟨_, rfl⟩
  have h := h x1 ex1
  refine T_putI 0 9 (dk dtk_X11_forgetAll 2 rfl) kfl_X11_110 kk_0 (kl_0 hq) (by decide) rfl ⟨rfl, rfl⟩ ?_
  rw [← ex1]
  refine T_aload_n 0 (dk dtk_X11_forgetAll 3 rfl) rfl rfl ?_
  refine T_iconst (v := 0) (dk dtk_X11_forgetAll 4 rfl) (by decide +kernel) ?_
  obtain ⟨x2, ex2⟩ : ∃ z, z = si x1 0 10 0 := ⟨_, rfl⟩
  have h := h x2 ex2
  refine T_putI 0 10 (dk dtk_X11_forgetAll 5 rfl) kfl_X11_358 kk_0 (kl_0 hq) (by decide) rfl ⟨rfl, rfl⟩ ?_
  rw [← ex2]
  refine T_iconst (v := 0) (dk dtk_X11_forgetAll 6 rfl) (by decide +kernel) ?_
  refine T_istore_n (lv2 := [(1, vi 0), (0, vr 0)]) (dk dtk_X11_forgetAll 7 rfl) rfl (by decide) rfl ?_
  exact T_sub [1, 0] rfl h
set_option maxRecDepth 100000 in
set_option maxHeartbeats 4000000 in
theorem kg_X11_forgetAll_12 {G : kG} {q : kP} {d : Nat} {x : gd} {P : Option gv → gd → Prop} (hq : kV q) (l1 : Int32)
    (h : (((2 : Int32) ≤ l1 → P none x) ∧ (¬ ((2 : Int32) ≤ l1) → vp_in l1 2 ∧ (∀ u3, u3 = (kf q).1 7 (l1 : Int32).toNatClampNeg → ((u3 = none → KT G q d zk_X11_forgetAll 12 [(0, vr 0), (1, vi (l1 + 1))] [] x P) ∧ (∀ c5, u3 = some c5 → vp_in l1 2 ∧ (∀ u7, u7 = (kf q).1 7 (l1 : Int32).toNatClampNeg → ∃ c8, u7 = some c8 ∧ kiT q c8 ∧ (∀ x10 : gd, x10 = si x c8 0 0 → KT G q d zk_X11_forgetAll 12 [(0, vr 0), (1, vi (l1 + 1))] [] x10 P)))))))) :
    KT G q d zk_X11_forgetAll 12 [(0, vr 0), (1, vi l1)] [] x P := by
  refine T_iload_n 1 (dk dtk_X11_forgetAll 8 rfl) rfl rfl ?_
  refine T_iconst (v := 2) (dk dtk_X11_forgetAll 9 rfl) (by decide +kernel) ?_
  refine T_icmp_ge 42 (dk dtk_X11_forgetAll 10 rfl) (by decide) (fun c1 => ?_) (fun c1 => ?_)
  · have h := h.1 c1
    exact KT_vret (dk dtk_X11_forgetAll 24 rfl) rfl h
  · have h := h.2 c1
    refine T_aload_n 0 (dk dtk_X11_forgetAll 11 rfl) rfl rfl ?_
    refine T_getR 0 6 7 (dk dtk_X11_forgetAll 12 rfl) kfl_X11_59 kk_0 (kl_0 hq) (by decide) rfl kr_0_6 ?_
    refine T_iload_n 1 (dk dtk_X11_forgetAll 13 rfl) rfl rfl ?_
    obtain ⟨h2, h⟩ := h
    obtain ⟨u3, eu3⟩ : ∃ z, z = (kf q).1 7 (l1 : Int32).toNatClampNeg := ⟨_, rfl⟩
    have h := h u3 eu3
    refine T_aaldT 7 2 (dk dtk_X11_forgetAll 14 rfl) kk_7 (kl_7 hq) h2 ?_
    rw [← eu3]
    refine T_ifnull 36 (dk dtk_X11_forgetAll 15 rfl) (by decide) (fun c4 => ?_) (fun c5 c4 => ?_)
    · have h := h.1 c4
      refine T_iinc (v := l1 + 1) (lv2 := [(1, vi (l1 + 1)), (0, vr 0)]) 1 (dk dtk_X11_forgetAll 22 rfl) rfl rfl (by decide) rfl ?_
      refine T_goto 12 (dk dtk_X11_forgetAll 23 rfl) (by decide) ?_
      exact T_sub [1, 0] rfl h
    · have h := h.2 c5 c4
      refine T_aload_n 0 (dk dtk_X11_forgetAll 16 rfl) rfl rfl ?_
      refine T_getR 0 6 7 (dk dtk_X11_forgetAll 17 rfl) kfl_X11_59 kk_0 (kl_0 hq) (by decide) rfl kr_0_6 ?_
      refine T_iload_n 1 (dk dtk_X11_forgetAll 18 rfl) rfl rfl ?_
      obtain ⟨h6, h⟩ := h
      obtain ⟨u7, eu7⟩ : ∃ z, z = (kf q).1 7 (l1 : Int32).toNatClampNeg := ⟨_, rfl⟩
      have h := h u7 eu7
      refine T_aaldT 7 2 (dk dtk_X11_forgetAll 19 rfl) kk_7 (kl_7 hq) h6 ?_
      rw [← eu7]
      refine T_iconst (v := 0) (dk dtk_X11_forgetAll 20 rfl) (by decide +kernel) ?_
      obtain ⟨c8, rfl, g9, h⟩ := h
      obtain ⟨x10, ex10⟩ : ∃ z, z = si x c8 0 0 := ⟨_, rfl⟩
      have h := h x10 ex10
      refine T_putI c8 0 (dk dtk_X11_forgetAll 21 rfl) kfl_X11_306 (kk_T0 g9) (kl_T0 hq g9) (by decide) rfl ⟨rfl, rfl⟩ ?_
      rw [← ex10]
      refine T_iinc (v := l1 + 1) (lv2 := [(1, vi (l1 + 1)), (0, vr 0)]) 1 (dk dtk_X11_forgetAll 22 rfl) rfl rfl (by decide) rfl ?_
      refine T_goto 12 (dk dtk_X11_forgetAll 23 rfl) (by decide) ?_
      exact T_sub [1, 0] rfl h
set_option maxRecDepth 100000 in
theorem dtk_X11_beginRun : dck cX11_beginRun [(0, .aload_n 0, 1), (1, .getfield 46, 3), (4, .iload_n 1, 1), (5, .invokevirtual 361, 3), (8, .aload_n 0, 1), (9, .getfield 46, 3), (12, .invokevirtual 364, 3), (15, .aload_n 0, 1), (16, .getfield 53, 3), (19, .invokevirtual 367, 3), (22, .aload_n 0, 1), (23, .iconst 1, 1), (24, .putfield 358, 3), (27, .return_, 1)] = true := by decide +kernel
set_option maxRecDepth 100000 in
set_option maxHeartbeats 4000000 in
theorem kg_X11_beginRun_0 {G : kG} {q : kP} {d : Nat} {x : gd} {P : Option gv → gd → Prop} (hq : kV q) (l1 : Int32)
    (h : KT G q d zk_X5_reset 0 [(0, vr 120), (1, vi l1)] [] x (rv (fun x1 => KT G q d zk_X5_listChoices 0 [(0, vr 120)] [] x1 (rv (fun x2 => KT G q d zk_X4_clear 0 [(0, vr 160)] [] x2 (rv (fun x3 => (∀ x4 : gd, x4 = si x3 0 10 1 → P none x4)))))))) :
    KT G q (d + 1) zk_X11_beginRun 0 [(0, vr 0), (1, vi l1)] [] x P := by
  refine T_aload_n 0 (dk dtk_X11_beginRun 0 rfl) rfl rfl ?_
  refine T_getR 0 4 120 (dk dtk_X11_beginRun 1 rfl) kfl_X11_46 kk_0 (kl_0 hq) (by decide) rfl kr_0_4 ?_
  refine T_iload_n 1 (dk dtk_X11_beginRun 2 rfl) rfl rfl ?_
  refine T_sub (lv2 := [(0, vr 0)]) [0] rfl ?_
  refine KC_Vv [vi l1] [] rfl (dk dtk_X11_beginRun 3 rfl) kcv_X11_361 rfl kk_120 rfl (kl_120 hq) (Nat.le_of_ble_eq_true rfl) (Nat.le_of_ble_eq_true rfl) (gok_i (av_c (gkr (kl_0 hq)) av_n) as_n) rfl h (fun x1 h => ?_)
  refine T_aload_n 0 (dk dtk_X11_beginRun 4 rfl) rfl rfl ?_
  refine T_getR 0 4 120 (dk dtk_X11_beginRun 5 rfl) kfl_X11_46 kk_0 (kl_0 hq) (by decide) rfl kr_0_4 ?_
  refine KC_Vv [] [] rfl (dk dtk_X11_beginRun 6 rfl) kcv_X11_364 rfl kk_120 rfl (kl_120 hq) (Nat.le_of_ble_eq_true rfl) (Nat.le_of_ble_eq_true rfl) (gok_i (av_c (gkr (kl_0 hq)) av_n) as_n) rfl h (fun x2 h => ?_)
  refine T_aload_n 0 (dk dtk_X11_beginRun 7 rfl) rfl rfl ?_
  refine T_getR 0 5 160 (dk dtk_X11_beginRun 8 rfl) kfl_X11_53 kk_0 (kl_0 hq) (by decide) rfl kr_0_5 ?_
  refine KC_Vv [] [] rfl (dk dtk_X11_beginRun 9 rfl) kcv_X11_367 rfl kk_160 rfl (kl_160 hq) (Nat.le_of_ble_eq_true rfl) (Nat.le_of_ble_eq_true rfl) (gok_i (av_c (gkr (kl_0 hq)) av_n) as_n) rfl h (fun x3 h => ?_)
  refine T_aload_n 0 (dk dtk_X11_beginRun 10 rfl) rfl rfl ?_
  refine T_iconst (v := 1) (dk dtk_X11_beginRun 11 rfl) (by decide +kernel) ?_
  obtain ⟨x4, ex4⟩ : ∃ z, z = si x3 0 10 1 := ⟨_, rfl⟩
  have h := h x4 ex4
  refine T_putI 0 10 (dk dtk_X11_beginRun 12 rfl) kfl_X11_358 kk_0 (kl_0 hq) (by decide) rfl ⟨rfl, rfl⟩ ?_
  rw [← ex4]
  exact KT_vret (dk dtk_X11_beginRun 13 rfl) rfl h
set_option maxRecDepth 100000 in
theorem dtk_X11_doChoice : dck cX11_doChoice [(0, .iload_n 1, 1), (1, .ifCond .lt 27, 3), (4, .iload_n 1, 1), (5, .aload_n 0, 1), (6, .getfield 46, 3), (9, .getfield 157, 3), (12, .if_icmp .ge 16, 3), (15, .aload_n 0, 1), (16, .getfield 53, 3), (19, .getfield 186, 3), (22, .sipush 400, 3), (25, .if_icmp .lt 4, 3), (28, .return_, 1), (29, .aload_n 0, 1), (30, .getfield 46, 3), (33, .iload_n 1, 1), (34, .invokevirtual 370, 3), (37, .aload_n 0, 1), (38, .getfield 53, 3), (41, .iload_n 1, 1), (42, .aload_n 0, 1), (43, .getfield 46, 3), (46, .getfield 373, 3), (49, .invokevirtual 377, 3), (52, .aload_n 0, 1), (53, .getfield 46, 3), (56, .invokevirtual 364, 3), (59, .return_, 1)] = true := by decide +kernel
set_option maxRecDepth 100000 in
set_option maxHeartbeats 4000000 in
theorem kg_X11_doChoice_0 {G : kG} {q : kP} {d : Nat} {x : gd} {P : Option gv → gd → Prop} (hq : kV q) (l1 : Int32)
    (h : ((l1 < (0 : Int32) → P none x) ∧ (¬ (l1 < (0 : Int32)) → (((x.1 120 13) ≤ l1 → P none x) ∧ (¬ ((x.1 120 13) ≤ l1) → (((x.1 160 2) < (400 : Int32) → KT G q d zk_X5_perform 0 [(0, vr 120), (1, vi l1)] [] x (rv (fun x4 => KT G q d zk_X4_note 0 [(0, vr 160), (1, vi l1), (2, vr 140)] [] x4 (rv (fun x5 => KT G q d zk_X5_listChoices 0 [(0, vr 120)] [] x5 (rv (fun x6 => P none x6))))))) ∧ (¬ ((x.1 160 2) < (400 : Int32)) → P none x))))))) :
    KT G q (d + 1) zk_X11_doChoice 0 [(0, vr 0), (1, vi l1)] [] x P := by
  refine T_iload_n 1 (dk dtk_X11_doChoice 0 rfl) rfl rfl ?_
  refine T_if_lt 28 (dk dtk_X11_doChoice 1 rfl) (by decide) (fun c1 => ?_) (fun c1 => ?_)
  · have h := h.1 c1
    exact KT_vret (dk dtk_X11_doChoice 12 rfl) rfl h
  · have h := h.2 c1
    refine T_iload_n 1 (dk dtk_X11_doChoice 2 rfl) rfl rfl ?_
    refine T_aload_n 0 (dk dtk_X11_doChoice 3 rfl) rfl rfl ?_
    refine T_getR 0 4 120 (dk dtk_X11_doChoice 4 rfl) kfl_X11_46 kk_0 (kl_0 hq) (by decide) rfl kr_0_4 ?_
    refine T_getI 120 13 (dk dtk_X11_doChoice 5 rfl) kfl_X11_157 kk_120 (kl_120 hq) (by decide) rfl ?_
    refine T_icmp_ge 28 (dk dtk_X11_doChoice 6 rfl) (by decide) (fun c2 => ?_) (fun c2 => ?_)
    · have h := h.1 c2
      exact KT_vret (dk dtk_X11_doChoice 12 rfl) rfl h
    · have h := h.2 c2
      refine T_aload_n 0 (dk dtk_X11_doChoice 7 rfl) rfl rfl ?_
      refine T_getR 0 5 160 (dk dtk_X11_doChoice 8 rfl) kfl_X11_53 kk_0 (kl_0 hq) (by decide) rfl kr_0_5 ?_
      refine T_getI 160 2 (dk dtk_X11_doChoice 9 rfl) kfl_X11_186 kk_160 (kl_160 hq) (by decide) rfl ?_
      refine T_sipush (v := 400) (dk dtk_X11_doChoice 10 rfl) (by decide +kernel) ?_
      refine T_icmp_lt 29 (dk dtk_X11_doChoice 11 rfl) (by decide) (fun c3 => ?_) (fun c3 => ?_)
      · have h := h.1 c3
        refine T_aload_n 0 (dk dtk_X11_doChoice 13 rfl) rfl rfl ?_
        refine T_getR 0 4 120 (dk dtk_X11_doChoice 14 rfl) kfl_X11_46 kk_0 (kl_0 hq) (by decide) rfl kr_0_4 ?_
        refine T_iload_n 1 (dk dtk_X11_doChoice 15 rfl) rfl rfl ?_
        refine KC_Vv [vi l1] [] rfl (dk dtk_X11_doChoice 16 rfl) kcv_X11_370 rfl kk_120 rfl (kl_120 hq) (Nat.le_of_ble_eq_true rfl) (Nat.le_of_ble_eq_true rfl) (gok_i (av_c (gkr (kl_0 hq)) (av_c rfl av_n)) as_n) rfl h (fun x4 h => ?_)
        refine T_aload_n 0 (dk dtk_X11_doChoice 17 rfl) rfl rfl ?_
        refine T_getR 0 5 160 (dk dtk_X11_doChoice 18 rfl) kfl_X11_53 kk_0 (kl_0 hq) (by decide) rfl kr_0_5 ?_
        refine T_iload_n 1 (dk dtk_X11_doChoice 19 rfl) rfl rfl ?_
        refine T_aload_n 0 (dk dtk_X11_doChoice 20 rfl) rfl rfl ?_
        refine T_getR 0 4 120 (dk dtk_X11_doChoice 21 rfl) kfl_X11_46 kk_0 (kl_0 hq) (by decide) rfl kr_0_4 ?_
        refine T_getR 120 2 140 (dk dtk_X11_doChoice 22 rfl) kfl_X11_373 kk_120 (kl_120 hq) (by decide) rfl kr_120_2 ?_
        refine T_sub (lv2 := [(0, vr 0)]) [0] rfl ?_
        refine KC_Vv [vi l1, vr 140] [] rfl (dk dtk_X11_doChoice 23 rfl) kcv_X11_377 rfl kk_160 rfl (kl_160 hq) (Nat.le_of_ble_eq_true rfl) (Nat.le_of_ble_eq_true rfl) (gok_i (av_c (gkr (kl_0 hq)) av_n) as_n) rfl h (fun x5 h => ?_)
        refine T_aload_n 0 (dk dtk_X11_doChoice 24 rfl) rfl rfl ?_
        refine T_getR 0 4 120 (dk dtk_X11_doChoice 25 rfl) kfl_X11_46 kk_0 (kl_0 hq) (by decide) rfl kr_0_4 ?_
        refine T_sub (lv2 := []) [] rfl ?_
        refine KC_Vv [] [] rfl (dk dtk_X11_doChoice 26 rfl) kcv_X11_364 rfl kk_120 rfl (kl_120 hq) (Nat.le_of_ble_eq_true rfl) (Nat.le_of_ble_eq_true rfl) (gok_i av_n as_n) rfl h (fun x6 h => ?_)
        exact KT_vret (dk dtk_X11_doChoice 27 rfl) rfl h
      · have h := h.2 c3
        exact KT_vret (dk dtk_X11_doChoice 12 rfl) rfl h
set_option maxRecDepth 100000 in
theorem dtk_X11_wasTried : dck cX11_wasTried [(0, .aload_n 0, 1), (1, .getfield 59, 3), (4, .iload_n 1, 1), (5, .aaload, 1), (6, .ifnull 19, 3), (9, .aload_n 0, 1), (10, .getfield 59, 3), (13, .iload_n 1, 1), (14, .aaload, 1), (15, .getfield 306, 3), (18, .ifCond .le 7, 3), (21, .iconst 1, 1), (22, .goto 4, 3), (25, .iconst 0, 1), (26, .ireturn, 1)] = true := by decide +kernel
set_option maxRecDepth 100000 in
set_option maxHeartbeats 4000000 in
theorem kg_X11_wasTried_0 {G : kG} {q : kP} {d : Nat} {x : gd} {P : Option gv → gd → Prop} (hq : kV q) (l1 : Int32)
    (h : vp_in l1 2 ∧ (∀ u2, u2 = (kf q).1 7 (l1 : Int32).toNatClampNeg → ((u2 = none → P (some (vi 0)) x) ∧ (∀ c4, u2 = some c4 → vp_in l1 2 ∧ (∀ u6, u6 = (kf q).1 7 (l1 : Int32).toNatClampNeg → ∃ c7, u6 = some c7 ∧ kiT q c7 ∧ (((x.1 c7 0) ≤ (0 : Int32) → P (some (vi 0)) x) ∧ (¬ ((x.1 c7 0) ≤ (0 : Int32)) → P (some (vi 1)) x))))))) :
    KT G q d zk_X11_wasTried 0 [(0, vr 0), (1, vi l1)] [] x P := by
  refine T_aload_n 0 (dk dtk_X11_wasTried 0 rfl) rfl rfl ?_
  refine T_getR 0 6 7 (dk dtk_X11_wasTried 1 rfl) kfl_X11_59 kk_0 (kl_0 hq) (by decide) rfl kr_0_6 ?_
  refine T_iload_n 1 (dk dtk_X11_wasTried 2 rfl) rfl rfl ?_
  obtain ⟨h1, h⟩ := h
  obtain ⟨u2, eu2⟩ : ∃ z, z = (kf q).1 7 (l1 : Int32).toNatClampNeg := ⟨_, rfl⟩
  have h := h u2 eu2
  refine T_aaldT 7 2 (dk dtk_X11_wasTried 3 rfl) kk_7 (kl_7 hq) h1 ?_
  rw [← eu2]
  refine T_ifnull 25 (dk dtk_X11_wasTried 4 rfl) (by decide) (fun c3 => ?_) (fun c4 c3 => ?_)
  · have h := h.1 c3
    refine T_iconst (v := 0) (dk dtk_X11_wasTried 13 rfl) (by decide +kernel) ?_
    exact KT_iret (dk dtk_X11_wasTried 14 rfl) rfl rfl h
  · have h := h.2 c4 c3
    refine T_aload_n 0 (dk dtk_X11_wasTried 5 rfl) rfl rfl ?_
    refine T_getR 0 6 7 (dk dtk_X11_wasTried 6 rfl) kfl_X11_59 kk_0 (kl_0 hq) (by decide) rfl kr_0_6 ?_
    refine T_iload_n 1 (dk dtk_X11_wasTried 7 rfl) rfl rfl ?_
    obtain ⟨h5, h⟩ := h
    obtain ⟨u6, eu6⟩ : ∃ z, z = (kf q).1 7 (l1 : Int32).toNatClampNeg := ⟨_, rfl⟩
    have h := h u6 eu6
    refine T_aaldT 7 2 (dk dtk_X11_wasTried 8 rfl) kk_7 (kl_7 hq) h5 ?_
    rw [← eu6]
    obtain ⟨c7, rfl, g8, h⟩ := h
    refine T_getI c7 0 (dk dtk_X11_wasTried 9 rfl) kfl_X11_306 (kk_T0 g8) (kl_T0 hq g8) (by decide) rfl ?_
    refine T_if_le 25 (dk dtk_X11_wasTried 10 rfl) (by decide) (fun c9 => ?_) (fun c9 => ?_)
    · have h := h.1 c9
      refine T_iconst (v := 0) (dk dtk_X11_wasTried 13 rfl) (by decide +kernel) ?_
      exact KT_iret (dk dtk_X11_wasTried 14 rfl) rfl rfl h
    · have h := h.2 c9
      refine T_iconst (v := 1) (dk dtk_X11_wasTried 11 rfl) (by decide +kernel) ?_
      refine T_goto 26 (dk dtk_X11_wasTried 12 rfl) (by decide) ?_
      exact KT_iret (dk dtk_X11_wasTried 14 rfl) rfl rfl h
set_option maxRecDepth 100000 in
theorem dtk_X11_firstState : dck cX11_firstState [(0, .aload_n 0, 1), (1, .iload_n 1, 1), (2, .invokevirtual 309, 3), (5, .ifCond .eq 17, 3), (8, .aload_n 0, 1), (9, .getfield 59, 3), (12, .iload_n 1, 1), (13, .aaload, 1), (14, .getfield 381, 3), (17, .iload_n 2, 1), (18, .iaload, 1), (19, .goto 4, 3), (22, .iconst (-1), 1), (23, .ireturn, 1)] = true := by decide +kernel
set_option maxRecDepth 100000 in
set_option maxHeartbeats 4000000 in
theorem kg_X11_firstState_0 {G : kG} {q : kP} {d : Nat} {x : gd} {P : Option gv → gd → Prop} (hq : kV q) (l1 : Int32) (l2 : Int32)
    (h : KT G q d zk_X11_wasTried 0 [(0, vr 0), (1, vi l1)] [] x (ri (fun r2 x1 => ((r2 = (0 : Int32) → P (some (vi (-1))) x1) ∧ (¬ (r2 = (0 : Int32)) → vp_in l1 2 ∧ (∀ u5, u5 = (kf q).1 7 (l1 : Int32).toNatClampNeg → ∃ c6, u5 = some c6 ∧ kiT q c6 ∧ vp_in l2 11 ∧ P (some (vi (x1.1 (c6 + 7) (l2 : Int32).toNatClampNeg))) x1)))))) :
    KT G q (d + 1) zk_X11_firstState 0 [(0, vr 0), (1, vi l1), (2, vi l2)] [] x P := by
  refine T_aload_n 0 (dk dtk_X11_firstState 0 rfl) rfl rfl ?_
  refine T_iload_n 1 (dk dtk_X11_firstState 1 rfl) rfl rfl ?_
  refine KC_Vi [vi l1] [] rfl (dk dtk_X11_firstState 2 rfl) kcv_X11_309 rfl kk_0 rfl (kl_0 hq) (Nat.le_of_ble_eq_true rfl) (Nat.le_of_ble_eq_true rfl) (gok_i (av_c (gkr (kl_0 hq)) (av_c rfl (av_c rfl av_n))) as_n) rfl h (fun r2 x1 h => ?_)
  refine T_if_eq 22 (dk dtk_X11_firstState 3 rfl) (by decide) (fun c3 => ?_) (fun c3 => ?_)
  · have h := h.1 c3
    refine T_iconst (v := (-1)) (dk dtk_X11_firstState 12 rfl) (by decide +kernel) ?_
    exact KT_iret (dk dtk_X11_firstState 13 rfl) rfl rfl h
  · have h := h.2 c3
    refine T_aload_n 0 (dk dtk_X11_firstState 4 rfl) rfl rfl ?_
    refine T_getR 0 6 7 (dk dtk_X11_firstState 5 rfl) kfl_X11_59 kk_0 (kl_0 hq) (by decide) rfl kr_0_6 ?_
    refine T_iload_n 1 (dk dtk_X11_firstState 6 rfl) rfl rfl ?_
    obtain ⟨h4, h⟩ := h
    obtain ⟨u5, eu5⟩ : ∃ z, z = (kf q).1 7 (l1 : Int32).toNatClampNeg := ⟨_, rfl⟩
    have h := h u5 eu5
    refine T_aaldT 7 2 (dk dtk_X11_firstState 7 rfl) kk_7 (kl_7 hq) h4 ?_
    rw [← eu5]
    obtain ⟨c6, rfl, g7, h⟩ := h
    refine T_getR c6 6 (c6 + 7) (dk dtk_X11_firstState 8 rfl) kfl_X11_381 (kk_T0 g7) (kl_T0 hq g7) (by decide) rfl (kr_T_6 g7) ?_
    refine T_iload_n 2 (dk dtk_X11_firstState 9 rfl) rfl rfl ?_
    obtain ⟨h8, h⟩ := h
    refine T_iald (c6 + 7) 11 (dk dtk_X11_firstState 10 rfl) (kk_T7 g7) (kl_T7 hq g7) h8 ?_
    refine T_goto 23 (dk dtk_X11_firstState 11 rfl) (by decide) ?_
    exact KT_iret (dk dtk_X11_firstState 13 rfl) rfl rfl h
set_option maxRecDepth 100000 in
theorem dtk_X11_needCompiled : dck cX11_needCompiled [(0, .aload_n 0, 1), (1, .getfield 110, 3), (4, .ifCond .ne 14, 3), (7, .new 102, 3), (10, .dup, 1), (11, .ldc_w 384, 3), (14, .invokespecial 191, 3), (17, .athrow, 1), (18, .return_, 1)] = true := by decide +kernel
set_option maxRecDepth 100000 in
set_option maxHeartbeats 4000000 in
theorem kg_X11_needCompiled_0 {G : kG} {q : kP} {d : Nat} {x : gd} {P : Option gv → gd → Prop} {X : String → gd → Prop} (hq : kV q) 
    (h : ((¬ ((x.1 0 9) = (0 : Int32)) → P none x) ∧ ((x.1 0 9) = (0 : Int32) → X iSE x))) :
    KE G q (d + 6) zk_X11_needCompiled 0 [(0, vr 0)] [] x P X := by
  refine T_aload_n 0 (dk dtk_X11_needCompiled 0 rfl) rfl rfl ?_
  refine T_getI 0 9 (dk dtk_X11_needCompiled 1 rfl) kfl_X11_110 kk_0 (kl_0 hq) (by decide) rfl ?_
  refine T_if_ne 18 (dk dtk_X11_needCompiled 2 rfl) (by decide) (fun c1 => ?_) (fun c1 => ?_)
  · have h := h.1 c1
    exact KE_vret (dk dtk_X11_needCompiled 8 rfl) rfl h
  · have h := h.2 c1
    exact T_thrW kth_X11_102_384 (dk dtk_X11_needCompiled 3 rfl) (dk dtk_X11_needCompiled 4 rfl) (dk dtk_X11_needCompiled 5 rfl) (dk dtk_X11_needCompiled 6 rfl) (dk dtk_X11_needCompiled 7 rfl) (by intro z hz; cases hz) (by omega) (Nat.le_of_ble_eq_true rfl) (Or.inr ⟨rfl, _, rfl, h⟩)
set_option maxRecDepth 100000 in
theorem dtk_X11_needRun : dck cX11_needRun [(0, .aload_n 0, 1), (1, .getfield 358, 3), (4, .ifCond .ne 14, 3), (7, .new 102, 3), (10, .dup, 1), (11, .ldc_w 386, 3), (14, .invokespecial 191, 3), (17, .athrow, 1), (18, .return_, 1)] = true := by decide +kernel
set_option maxRecDepth 100000 in
set_option maxHeartbeats 4000000 in
theorem kg_X11_needRun_0 {G : kG} {q : kP} {d : Nat} {x : gd} {P : Option gv → gd → Prop} {X : String → gd → Prop} (hq : kV q) 
    (h : ((¬ ((x.1 0 10) = (0 : Int32)) → P none x) ∧ ((x.1 0 10) = (0 : Int32) → X iSE x))) :
    KE G q (d + 6) zk_X11_needRun 0 [(0, vr 0)] [] x P X := by
  refine T_aload_n 0 (dk dtk_X11_needRun 0 rfl) rfl rfl ?_
  refine T_getI 0 10 (dk dtk_X11_needRun 1 rfl) kfl_X11_358 kk_0 (kl_0 hq) (by decide) rfl ?_
  refine T_if_ne 18 (dk dtk_X11_needRun 2 rfl) (by decide) (fun c1 => ?_) (fun c1 => ?_)
  · have h := h.1 c1
    exact KE_vret (dk dtk_X11_needRun 8 rfl) rfl h
  · have h := h.2 c1
    exact T_thrW kth_X11_102_386 (dk dtk_X11_needRun 3 rfl) (dk dtk_X11_needRun 4 rfl) (dk dtk_X11_needRun 5 rfl) (dk dtk_X11_needRun 6 rfl) (dk dtk_X11_needRun 7 rfl) (by intro z hz; cases hz) (by omega) (Nat.le_of_ble_eq_true rfl) (Or.inr ⟨rfl, _, rfl, h⟩)
set_option maxRecDepth 100000 in
theorem dtk_X11_needWay : dck cX11_needWay [(0, .iload_n 0, 1), (1, .ifCond .lt 8, 3), (4, .iload_n 0, 1), (5, .iconst 2, 1), (6, .if_icmp .lt 14, 3), (9, .new 70, 3), (12, .dup, 1), (13, .ldc_w 388, 3), (16, .invokespecial 74, 3), (19, .athrow, 1), (20, .return_, 1)] = true := by decide +kernel
set_option maxRecDepth 100000 in
set_option maxHeartbeats 4000000 in
theorem kg_X11_needWay_0 {G : kG} {q : kP} {d : Nat} {x : gd} {P : Option gv → gd → Prop} {X : String → gd → Prop} (hq : kV q) (l0 : Int32)
    (h : ((l0 < (0 : Int32) → KE G q (d + 6) zk_X11_needWay 9 [] [] x P X) ∧ (¬ (l0 < (0 : Int32)) → ((l0 < (2 : Int32) → P none x) ∧ (¬ (l0 < (2 : Int32)) → KE G q (d + 6) zk_X11_needWay 9 [] [] x P X))))) :
    KE G q (d + 6) zk_X11_needWay 0 [(0, vi l0)] [] x P X := by
  refine T_iload_n 0 (dk dtk_X11_needWay 0 rfl) rfl rfl ?_
  refine T_if_lt 9 (dk dtk_X11_needWay 1 rfl) (by decide) (fun c1 => ?_) (fun c1 => ?_)
  · have h := h.1 c1
    exact T_sub [] rfl h
  · have h := h.2 c1
    refine T_iload_n 0 (dk dtk_X11_needWay 2 rfl) rfl rfl ?_
    refine T_iconst (v := 2) (dk dtk_X11_needWay 3 rfl) (by decide +kernel) ?_
    refine T_icmp_lt 20 (dk dtk_X11_needWay 4 rfl) (by decide) (fun c2 => ?_) (fun c2 => ?_)
    · have h := h.1 c2
      exact KE_vret (dk dtk_X11_needWay 10 rfl) rfl h
    · have h := h.2 c2
      exact T_sub [] rfl h
set_option maxRecDepth 100000 in
set_option maxHeartbeats 4000000 in
theorem kg_X11_needWay_9 {G : kG} {q : kP} {d : Nat} {x : gd} {P : Option gv → gd → Prop} {X : String → gd → Prop} (hq : kV q) 
    (h : X iAE x) :
    KE G q (d + 6) zk_X11_needWay 9 [] [] x P X := by
  exact T_thrW kth_X11_70_388 (dk dtk_X11_needWay 5 rfl) (dk dtk_X11_needWay 6 rfl) (dk dtk_X11_needWay 7 rfl) (dk dtk_X11_needWay 8 rfl) (dk dtk_X11_needWay 9 rfl) (by intro z hz; cases hz) (by omega) (Nat.le_of_ble_eq_true rfl) (Or.inr ⟨rfl, _, rfl, h⟩)
set_option maxRecDepth 100000 in
theorem dtk_X11_needFinding : dck cX11_needFinding [(0, .iload_n 0, 1), (1, .ifCond .lt 9, 3), (4, .iload_n 0, 1), (5, .bipush 11, 2), (7, .if_icmp .lt 14, 3), (10, .new 70, 3), (13, .dup, 1), (14, .ldc_w 340, 3), (17, .invokespecial 74, 3), (20, .athrow, 1), (21, .return_, 1)] = true := by decide +kernel
set_option maxRecDepth 100000 in
set_option maxHeartbeats 4000000 in
theorem kg_X11_needFinding_0 {G : kG} {q : kP} {d : Nat} {x : gd} {P : Option gv → gd → Prop} {X : String → gd → Prop} (hq : kV q) (l0 : Int32)
    (h : ((l0 < (0 : Int32) → KE G q (d + 6) zk_X11_needFinding 10 [] [] x P X) ∧ (¬ (l0 < (0 : Int32)) → ((l0 < (11 : Int32) → P none x) ∧ (¬ (l0 < (11 : Int32)) → KE G q (d + 6) zk_X11_needFinding 10 [] [] x P X))))) :
    KE G q (d + 6) zk_X11_needFinding 0 [(0, vi l0)] [] x P X := by
  refine T_iload_n 0 (dk dtk_X11_needFinding 0 rfl) rfl rfl ?_
  refine T_if_lt 10 (dk dtk_X11_needFinding 1 rfl) (by decide) (fun c1 => ?_) (fun c1 => ?_)
  · have h := h.1 c1
    exact T_sub [] rfl h
  · have h := h.2 c1
    refine T_iload_n 0 (dk dtk_X11_needFinding 2 rfl) rfl rfl ?_
    refine T_bipush (v := 11) (dk dtk_X11_needFinding 3 rfl) (by decide +kernel) ?_
    refine T_icmp_lt 21 (dk dtk_X11_needFinding 4 rfl) (by decide) (fun c2 => ?_) (fun c2 => ?_)
    · have h := h.1 c2
      exact KE_vret (dk dtk_X11_needFinding 10 rfl) rfl h
    · have h := h.2 c2
      exact T_sub [] rfl h
set_option maxRecDepth 100000 in
set_option maxHeartbeats 4000000 in
theorem kg_X11_needFinding_10 {G : kG} {q : kP} {d : Nat} {x : gd} {P : Option gv → gd → Prop} {X : String → gd → Prop} (hq : kV q) 
    (h : X iAE x) :
    KE G q (d + 6) zk_X11_needFinding 10 [] [] x P X := by
  exact T_thrW kth_X11_70_340 (dk dtk_X11_needFinding 5 rfl) (dk dtk_X11_needFinding 6 rfl) (dk dtk_X11_needFinding 7 rfl) (dk dtk_X11_needFinding 8 rfl) (dk dtk_X11_needFinding 9 rfl) (by intro z hz; cases hz) (by omega) (Nat.le_of_ble_eq_true rfl) (Or.inr ⟨rfl, _, rfl, h⟩)
set_option maxRecDepth 100000 in
theorem dtk_X11_needIndex : dck cX11_needIndex [(0, .iload_n 0, 1), (1, .ifCond .lt 8, 3), (4, .iload_n 0, 1), (5, .iload_n 1, 1), (6, .if_icmp .lt 14, 3), (9, .new 127, 3), (12, .dup, 1), (13, .ldc_w 390, 3), (16, .invokespecial 131, 3), (19, .athrow, 1), (20, .return_, 1)] = true := by decide +kernel
set_option maxRecDepth 100000 in
set_option maxHeartbeats 4000000 in
theorem kg_X11_needIndex_0 {G : kG} {q : kP} {d : Nat} {x : gd} {P : Option gv → gd → Prop} {X : String → gd → Prop} (hq : kV q) (l0 : Int32) (l1 : Int32)
    (h : ((l0 < (0 : Int32) → KE G q (d + 6) zk_X11_needIndex 9 [] [] x P X) ∧ (¬ (l0 < (0 : Int32)) → ((l0 < l1 → P none x) ∧ (¬ (l0 < l1) → KE G q (d + 6) zk_X11_needIndex 9 [] [] x P X))))) :
    KE G q (d + 6) zk_X11_needIndex 0 [(0, vi l0), (1, vi l1)] [] x P X := by
  refine T_iload_n 0 (dk dtk_X11_needIndex 0 rfl) rfl rfl ?_
  refine T_if_lt 9 (dk dtk_X11_needIndex 1 rfl) (by decide) (fun c1 => ?_) (fun c1 => ?_)
  · have h := h.1 c1
    exact T_sub [] rfl h
  · have h := h.2 c1
    refine T_iload_n 0 (dk dtk_X11_needIndex 2 rfl) rfl rfl ?_
    refine T_iload_n 1 (dk dtk_X11_needIndex 3 rfl) rfl rfl ?_
    refine T_icmp_lt 20 (dk dtk_X11_needIndex 4 rfl) (by decide) (fun c2 => ?_) (fun c2 => ?_)
    · have h := h.1 c2
      exact KE_vret (dk dtk_X11_needIndex 10 rfl) rfl h
    · have h := h.2 c2
      exact T_sub [] rfl h
set_option maxRecDepth 100000 in
set_option maxHeartbeats 4000000 in
theorem kg_X11_needIndex_9 {G : kG} {q : kP} {d : Nat} {x : gd} {P : Option gv → gd → Prop} {X : String → gd → Prop} (hq : kV q) 
    (h : X iOE x) :
    KE G q (d + 6) zk_X11_needIndex 9 [] [] x P X := by
  exact T_thrW kth_X11_127_390 (dk dtk_X11_needIndex 5 rfl) (dk dtk_X11_needIndex 6 rfl) (dk dtk_X11_needIndex 7 rfl) (dk dtk_X11_needIndex 8 rfl) (dk dtk_X11_needIndex 9 rfl) (by intro z hz; cases hz) (by omega) (Nat.le_of_ble_eq_true rfl) (Or.inr ⟨rfl, _, rfl, h⟩)
set_option maxRecDepth 100000 in
theorem dtk_X11_needWhat : dck cX11_needWhat [(0, .iload_n 0, 1), (1, .ifCond .lt 8, 3), (4, .iload_n 0, 1), (5, .iload_n 1, 1), (6, .if_icmp .lt 13, 3), (9, .new 127, 3), (12, .dup, 1), (13, .ldc 129, 2), (15, .invokespecial 131, 3), (18, .athrow, 1), (19, .return_, 1)] = true := by decide +kernel
set_option maxRecDepth 100000 in
set_option maxHeartbeats 4000000 in
theorem kg_X11_needWhat_0 {G : kG} {q : kP} {d : Nat} {x : gd} {P : Option gv → gd → Prop} {X : String → gd → Prop} (hq : kV q) (l0 : Int32) (l1 : Int32)
    (h : ((l0 < (0 : Int32) → KE G q (d + 6) zk_X11_needWhat 9 [] [] x P X) ∧ (¬ (l0 < (0 : Int32)) → ((l0 < l1 → P none x) ∧ (¬ (l0 < l1) → KE G q (d + 6) zk_X11_needWhat 9 [] [] x P X))))) :
    KE G q (d + 6) zk_X11_needWhat 0 [(0, vi l0), (1, vi l1)] [] x P X := by
  refine T_iload_n 0 (dk dtk_X11_needWhat 0 rfl) rfl rfl ?_
  refine T_if_lt 9 (dk dtk_X11_needWhat 1 rfl) (by decide) (fun c1 => ?_) (fun c1 => ?_)
  · have h := h.1 c1
    exact T_sub [] rfl h
  · have h := h.2 c1
    refine T_iload_n 0 (dk dtk_X11_needWhat 2 rfl) rfl rfl ?_
    refine T_iload_n 1 (dk dtk_X11_needWhat 3 rfl) rfl rfl ?_
    refine T_icmp_lt 19 (dk dtk_X11_needWhat 4 rfl) (by decide) (fun c2 => ?_) (fun c2 => ?_)
    · have h := h.1 c2
      exact KE_vret (dk dtk_X11_needWhat 10 rfl) rfl h
    · have h := h.2 c2
      exact T_sub [] rfl h
set_option maxRecDepth 100000 in
set_option maxHeartbeats 4000000 in
theorem kg_X11_needWhat_9 {G : kG} {q : kP} {d : Nat} {x : gd} {P : Option gv → gd → Prop} {X : String → gd → Prop} (hq : kV q) 
    (h : X iOE x) :
    KE G q (d + 6) zk_X11_needWhat 9 [] [] x P X := by
  exact T_thr kth_X11_127_129 (dk dtk_X11_needWhat 5 rfl) (dk dtk_X11_needWhat 6 rfl) (dk dtk_X11_needWhat 7 rfl) (dk dtk_X11_needWhat 8 rfl) (dk dtk_X11_needWhat 9 rfl) (by intro z hz; cases hz) (by omega) (Nat.le_of_ble_eq_true rfl) (Or.inr ⟨rfl, _, rfl, h⟩)
end
section
/-! rows that make, fused; what was made stays in order -/
theorem gokv_le {L L' : List Nat} (h : ∀ c ∈ L, c ∈ L') {v : gv} (hv : gokv L v = true) : gokv L' v = true := by
  rcases v with a | a | a
  · rfl
  · rfl
  · cases a with
    | none => rfl
    | some c =>
      have hv : (L.elem c || decide (900 ≤ c ∧ c < 905)) = true := hv
      show (L'.elem c || decide (900 ≤ c ∧ c < 905)) = true
      rcases Bool.or_eq_true _ _ ▸ hv with h1 | h1
      · rw [List.elem_iff.mpr (h c (List.elem_iff.mp h1)), Bool.true_or]
      · rw [h1, Bool.or_true]
theorem gok_le {L L' : List Nat} (h : ∀ c ∈ L, c ∈ L') {lv : List (Nat × gv)} {st : List gv} (hk : gok L lv st = true) : gok L' lv st = true := by
  have h1 := (Bool.and_eq_true _ _ ▸ hk).1
  have h2 := (Bool.and_eq_true _ _ ▸ hk).2
  refine gok_i (List.all_eq_true.mpr fun v hv => gokv_le h (List.all_eq_true.mp h1 v hv)) (List.all_eq_true.mpr fun v hv => gokv_le h (List.all_eq_true.mp h2 v hv))
theorem gok_l {L : List Nat} {lv : List (Nat × gv)} {st : List gv} (hk : gok L lv st = true) : lv.all (fun q => gokv L q.2) = true := (Bool.and_eq_true _ _ ▸ hk).1
theorem gok_s {L : List Nat} {lv : List (Nat × gv)} {st : List gv} (hk : gok L lv st = true) : st.all (gokv L) = true := (Bool.and_eq_true _ _ ▸ hk).2
theorem kmd_le {q q' : kP} {c : Nat} (h : kle q q') (hm : kmd q c) : kmd q' c := by
  rcases hm with g | ⟨e, g⟩ | ⟨e, g⟩ | ⟨e, g⟩ | ⟨e, g⟩ | ⟨k, hk, g⟩ | ⟨k, hk, g⟩ | ⟨k, hk, g⟩
  · exact Or.inl g
  · exact Or.inr (Or.inl ⟨h.2.1.1 e, g⟩)
  · exact Or.inr (Or.inr (Or.inl ⟨h.2.1.2.1 e, g⟩))
  · exact Or.inr (Or.inr (Or.inr (Or.inl ⟨h.2.1.2.2.1 e, g⟩)))
  · exact Or.inr (Or.inr (Or.inr (Or.inr (Or.inl ⟨h.2.1.2.2.2 e, g⟩))))
  · exact Or.inr (Or.inr (Or.inr (Or.inr (Or.inr (Or.inl ⟨k, Nat.lt_of_lt_of_le hk h.2.2.1.1, g⟩)))))
  · exact Or.inr (Or.inr (Or.inr (Or.inr (Or.inr (Or.inr (Or.inl ⟨k, Nat.lt_of_lt_of_le hk h.2.2.1.2.1, g⟩))))))
  · exact Or.inr (Or.inr (Or.inr (Or.inr (Or.inr (Or.inr (Or.inr ⟨k, Nat.lt_of_lt_of_le hk h.2.2.1.2.2, g⟩))))))
/-! each is more than before -/
theorem kKn_le (q : kP) : kle q (kKn q) := ⟨fun c h => List.mem_append_left _ h, ⟨id, id, id, id⟩, ⟨Nat.le_succ _, Nat.le_refl _, Nat.le_refl _⟩,
  by show q.ce + 1 + (q.kn + q.o0 + q.o1 + (cond q.hi 30 0) + (cond q.ex 30 0) + (cond q.t0 30 0) + cond q.t1 30 0) ≤ q.ce + (q.kn + 1 + q.o0 + q.o1 + (cond q.hi 30 0) + (cond q.ex 30 0) + (cond q.t0 30 0) + cond q.t1 30 0); omega,
  by show q.sl + 228 + (228 * q.kn + 24 * q.o0 + 24 * q.o1 + (cond q.hi 400 0) + (cond q.ex 20000 0) + (cond q.t0 20000 0) + cond q.t1 20000 0) ≤ q.sl + (228 * (q.kn + 1) + 24 * q.o0 + 24 * q.o1 + (cond q.hi 400 0) + (cond q.ex 20000 0) + (cond q.t0 20000 0) + cond q.t1 20000 0); omega⟩
theorem kO0_le (q : kP) : kle q (kO0 q) := ⟨fun c h => List.mem_append_left _ h, ⟨id, id, id, id⟩, ⟨Nat.le_refl _, Nat.le_succ _, Nat.le_refl _⟩,
  by show q.ce + 1 + (q.kn + q.o0 + q.o1 + (cond q.hi 30 0) + (cond q.ex 30 0) + (cond q.t0 30 0) + cond q.t1 30 0) ≤ q.ce + (q.kn + (q.o0 + 1) + q.o1 + (cond q.hi 30 0) + (cond q.ex 30 0) + (cond q.t0 30 0) + cond q.t1 30 0); omega,
  by show q.sl + 24 + (228 * q.kn + 24 * q.o0 + 24 * q.o1 + (cond q.hi 400 0) + (cond q.ex 20000 0) + (cond q.t0 20000 0) + cond q.t1 20000 0) ≤ q.sl + (228 * q.kn + 24 * (q.o0 + 1) + 24 * q.o1 + (cond q.hi 400 0) + (cond q.ex 20000 0) + (cond q.t0 20000 0) + cond q.t1 20000 0); omega⟩
theorem kO1_le (q : kP) : kle q (kO1 q) := ⟨fun c h => List.mem_append_left _ h, ⟨id, id, id, id⟩, ⟨Nat.le_refl _, Nat.le_refl _, Nat.le_succ _⟩,
  by show q.ce + 1 + (q.kn + q.o0 + q.o1 + (cond q.hi 30 0) + (cond q.ex 30 0) + (cond q.t0 30 0) + cond q.t1 30 0) ≤ q.ce + (q.kn + q.o0 + (q.o1 + 1) + (cond q.hi 30 0) + (cond q.ex 30 0) + (cond q.t0 30 0) + cond q.t1 30 0); omega,
  by show q.sl + 24 + (228 * q.kn + 24 * q.o0 + 24 * q.o1 + (cond q.hi 400 0) + (cond q.ex 20000 0) + (cond q.t0 20000 0) + cond q.t1 20000 0) ≤ q.sl + (228 * q.kn + 24 * q.o0 + 24 * (q.o1 + 1) + (cond q.hi 400 0) + (cond q.ex 20000 0) + (cond q.t0 20000 0) + cond q.t1 20000 0); omega⟩
theorem kEt_le (q : kP) (o : Nat) : kle q (kEt q o) := kle_rf q
theorem kHi_le {q : kP} (h : q.hi = false) : kle q (kHi q) := ⟨fun c h => List.mem_append_left _ h, ⟨fun _ => rfl, id, id, id⟩, ⟨Nat.le_refl _, Nat.le_refl _, Nat.le_refl _⟩,
  by unfold wC; rw [h]; show q.ce + 22 + (q.kn + q.o0 + q.o1 + 0 + (cond q.ex 30 0) + (cond q.t0 30 0) + cond q.t1 30 0) ≤ q.ce + (q.kn + q.o0 + q.o1 + 30 + (cond q.ex 30 0) + (cond q.t0 30 0) + cond q.t1 30 0); omega,
  by unfold wS; rw [h]; show q.sl + 286 + (228 * q.kn + 24 * q.o0 + 24 * q.o1 + 0 + (cond q.ex 20000 0) + (cond q.t0 20000 0) + cond q.t1 20000 0) ≤ q.sl + (228 * q.kn + 24 * q.o0 + 24 * q.o1 + 400 + (cond q.ex 20000 0) + (cond q.t0 20000 0) + cond q.t1 20000 0); omega⟩
theorem kEx_le {q : kP} (h : q.ex = false) : kle q (kEx q) := ⟨fun c h => List.mem_append_left _ h, ⟨id, fun _ => rfl, id, id⟩, ⟨Nat.le_refl _, Nat.le_refl _, Nat.le_refl _⟩,
  by unfold wC; rw [h]; show q.ce + 12 + (q.kn + q.o0 + q.o1 + (cond q.hi 30 0) + 0 + (cond q.t0 30 0) + cond q.t1 30 0) ≤ q.ce + (q.kn + q.o0 + q.o1 + (cond q.hi 30 0) + 30 + (cond q.t0 30 0) + cond q.t1 30 0); omega,
  by unfold wS; rw [h]; show q.sl + 14716 + (228 * q.kn + 24 * q.o0 + 24 * q.o1 + (cond q.hi 400 0) + 0 + (cond q.t0 20000 0) + cond q.t1 20000 0) ≤ q.sl + (228 * q.kn + 24 * q.o0 + 24 * q.o1 + (cond q.hi 400 0) + 20000 + (cond q.t0 20000 0) + cond q.t1 20000 0); omega⟩
theorem kT0_le {q : kP} (h : q.t0 = false) : kle q (kT0 q) := ⟨fun c h => List.mem_append_left _ h, ⟨id, id, fun _ => rfl, id⟩, ⟨Nat.le_refl _, Nat.le_refl _, Nat.le_refl _⟩,
  by unfold wC; rw [h]; show q.ce + 9 + (q.kn + q.o0 + q.o1 + (cond q.hi 30 0) + (cond q.ex 30 0) + 0 + cond q.t1 30 0) ≤ q.ce + (q.kn + q.o0 + q.o1 + (cond q.hi 30 0) + (cond q.ex 30 0) + 30 + cond q.t1 30 0); omega,
  by unfold wS; rw [h]; show q.sl + 15055 + (228 * q.kn + 24 * q.o0 + 24 * q.o1 + (cond q.hi 400 0) + (cond q.ex 20000 0) + 0 + cond q.t1 20000 0) ≤ q.sl + (228 * q.kn + 24 * q.o0 + 24 * q.o1 + (cond q.hi 400 0) + (cond q.ex 20000 0) + 20000 + cond q.t1 20000 0); omega⟩
theorem kT1_le {q : kP} (h : q.t1 = false) : kle q (kT1 q) := ⟨fun c h => List.mem_append_left _ h, ⟨id, id, id, fun _ => rfl⟩, ⟨Nat.le_refl _, Nat.le_refl _, Nat.le_refl _⟩,
  by unfold wC; rw [h]; show q.ce + 9 + (q.kn + q.o0 + q.o1 + (cond q.hi 30 0) + (cond q.ex 30 0) + (cond q.t0 30 0) + 0) ≤ q.ce + (q.kn + q.o0 + q.o1 + (cond q.hi 30 0) + (cond q.ex 30 0) + (cond q.t0 30 0) + 30); omega,
  by unfold wS; rw [h]; show q.sl + 15055 + (228 * q.kn + 24 * q.o0 + 24 * q.o1 + (cond q.hi 400 0) + (cond q.ex 20000 0) + (cond q.t0 20000 0) + 0) ≤ q.sl + (228 * q.kn + 24 * q.o0 + 24 * q.o1 + (cond q.hi 400 0) + (cond q.ex 20000 0) + (cond q.t0 20000 0) + 20000); omega⟩
/-! and in order -/
theorem kKn_U {q : kP} (hu : kU q) (he : q.ex = true) (hk : q.kn < 3000) : kU (kKn q) := by
  obtain ⟨⟨v1, v2, v3, v4, v5, v6, v7, v8⟩, hm, ⟨z1, z2, z3⟩, ht, b1, b2, b3⟩ := hu
  have L : ∀ {c}, c ∈ q.L → c ∈ (kKn q).L := fun h => List.mem_append_left _ h
  refine ⟨⟨fun c h => L (v1 c h), fun e c h => L (v2 e c h), fun e c h => L (v3 e c h), fun e c h => L (v4 e c h), fun e c h => L (v5 e c h), fun k hk => ?_, fun k hk => L (v7 k hk), fun k hk => L (v8 k hk)⟩, fun c hc => ?_, ⟨fun e => ?_, z2, z3⟩, fun o e => kle_T (kKn_le q) (ht o e), ?_, b2, b3⟩
  · have hk : k < q.kn + 1 := hk
    by_cases e : k < q.kn
    · exact L (v6 k e)
    · rw [show k = q.kn by omega]; exact List.mem_append_right _ (List.mem_singleton.mpr rfl)
  · rcases List.mem_append.mp hc with g | g
    · exact kmd_le (kKn_le q) (hm c g)
    · exact Or.inr (Or.inr (Or.inr (Or.inr (Or.inr (Or.inl ⟨q.kn, Nat.lt_succ_self _, List.mem_singleton.mp g⟩)))))
  · have e : q.ex = false := e
    rw [he] at e; cases e
  · show q.kn + 1 ≤ 3000
    omega
theorem kO0_U {q : kP} (hu : kU q) (he : q.t0 = true) (hk : q.o0 < 3000) : kU (kO0 q) := by
  obtain ⟨⟨v1, v2, v3, v4, v5, v6, v7, v8⟩, hm, ⟨z1, z2, z3⟩, ht, b1, b2, b3⟩ := hu
  have L : ∀ {c}, c ∈ q.L → c ∈ (kO0 q).L := fun h => List.mem_append_left _ h
  refine ⟨⟨fun c h => L (v1 c h), fun e c h => L (v2 e c h), fun e c h => L (v3 e c h), fun e c h => L (v4 e c h), fun e c h => L (v5 e c h), fun k hk => L (v6 k hk), fun k hk => ?_, fun k hk => L (v8 k hk)⟩, fun c hc => ?_, ⟨z1, fun e => ?_, z3⟩, fun o e => kle_T (kO0_le q) (ht o e), b1, ?_, b3⟩
  · have hk : k < q.o0 + 1 := hk
    by_cases e : k < q.o0
    · exact L (v7 k e)
    · rw [show k = q.o0 by omega]; exact List.mem_append_right _ (List.mem_singleton.mpr rfl)
  · rcases List.mem_append.mp hc with g | g
    · exact kmd_le (kO0_le q) (hm c g)
    · exact Or.inr (Or.inr (Or.inr (Or.inr (Or.inr (Or.inr (Or.inl ⟨q.o0, Nat.lt_succ_self _, List.mem_singleton.mp g⟩))))))
  · have e : q.t0 = false := e
    rw [he] at e; cases e
  · show q.o0 + 1 ≤ 3000
    omega
theorem kO1_U {q : kP} (hu : kU q) (he : q.t1 = true) (hk : q.o1 < 3000) : kU (kO1 q) := by
  obtain ⟨⟨v1, v2, v3, v4, v5, v6, v7, v8⟩, hm, ⟨z1, z2, z3⟩, ht, b1, b2, b3⟩ := hu
  have L : ∀ {c}, c ∈ q.L → c ∈ (kO1 q).L := fun h => List.mem_append_left _ h
  refine ⟨⟨fun c h => L (v1 c h), fun e c h => L (v2 e c h), fun e c h => L (v3 e c h), fun e c h => L (v4 e c h), fun e c h => L (v5 e c h), fun k hk => L (v6 k hk), fun k hk => L (v7 k hk), fun k hk => ?_⟩, fun c hc => ?_, ⟨z1, z2, fun e => ?_⟩, fun o e => kle_T (kO1_le q) (ht o e), b1, b2, ?_⟩
  · have hk : k < q.o1 + 1 := hk
    by_cases e : k < q.o1
    · exact L (v8 k e)
    · rw [show k = q.o1 by omega]; exact List.mem_append_right _ (List.mem_singleton.mpr rfl)
  · rcases List.mem_append.mp hc with g | g
    · exact kmd_le (kO1_le q) (hm c g)
    · exact Or.inr (Or.inr (Or.inr (Or.inr (Or.inr (Or.inr (Or.inr ⟨q.o1, Nat.lt_succ_self _, List.mem_singleton.mp g⟩))))))
  · have e : q.t1 = false := e
    rw [he] at e; cases e
  · show q.o1 + 1 ≤ 3000
    omega
theorem kEt_U {q : kP} {o : Nat} (hu : kU q) (he : q.ex = true) (ho : kiT q o) : kU (kEt q o) := by
  obtain ⟨hv, hm, ⟨z1, z2, z3⟩, ht, hb⟩ := hu
  refine ⟨hv, hm, ⟨fun e => ?_, z2, z3⟩, fun o' e => ?_, hb⟩
  · have e : q.ex = false := e
    rw [he] at e; cases e
  · have e : some o = some o' := e
    cases e; exact ho
theorem kHi_U {q : kP} (hu : kU q) (h0 : q.hi = false) : kU (kHi q) := by
  obtain ⟨⟨v1, v2, v3, v4, v5, v6, v7, v8⟩, hm, hz, ht, hb⟩ := hu
  have L : ∀ {c}, c ∈ q.L → c ∈ (kHi q).L := fun h => List.mem_append_left _ h
  refine ⟨⟨fun c h => L (v1 c h), fun e c h => List.mem_append_right _ ((by decide +kernel : ∀ c ∈ klH, c ∈ 180 :: news_180) c h), fun e c h => L (v3 e c h), fun e c h => L (v4 e c h), fun e c h => L (v5 e c h), fun k hk => L (v6 k hk), fun k hk => L (v7 k hk), fun k hk => L (v8 k hk)⟩, fun c hc => ?_, hz, fun o e => kle_T (kHi_le h0) (ht o e), hb⟩
  rcases List.mem_append.mp hc with g | g
  · exact kmd_le (kHi_le h0) (hm c g)
  · exact Or.inr (Or.inl ⟨rfl, (by decide +kernel : ∀ c ∈ 180 :: news_180, c ∈ klH) c g⟩)
theorem kEx_U {q : kP} (hu : kU q) (h0 : q.ex = false) : kU (kEx q) := by
  obtain ⟨⟨v1, v2, v3, v4, v5, v6, v7, v8⟩, hm, hz, ht, hb⟩ := hu
  have L : ∀ {c}, c ∈ q.L → c ∈ (kEx q).L := fun h => List.mem_append_left _ h
  refine ⟨⟨fun c h => L (v1 c h), fun e c h => L (v2 e c h), fun e c h => List.mem_append_right _ ((by decide +kernel : ∀ c ∈ klE, c ∈ 200 :: news_200) c h), fun e c h => L (v4 e c h), fun e c h => L (v5 e c h), fun k hk => L (v6 k hk), fun k hk => L (v7 k hk), fun k hk => L (v8 k hk)⟩, fun c hc => ?_, ⟨fun _ => hz.1 h0, hz.2⟩, fun o e => kle_T (kEx_le h0) (ht o e), hb⟩
  rcases List.mem_append.mp hc with g | g
  · exact kmd_le (kEx_le h0) (hm c g)
  · exact Or.inr (Or.inr (Or.inl ⟨rfl, (by decide +kernel : ∀ c ∈ 200 :: news_200, c ∈ klE) c g⟩))
theorem kT0_U {q : kP} (hu : kU q) (h0 : q.t0 = false) : kU (kT0 q) := by
  obtain ⟨⟨v1, v2, v3, v4, v5, v6, v7, v8⟩, hm, hz, ht, hb⟩ := hu
  have L : ∀ {c}, c ∈ q.L → c ∈ (kT0 q).L := fun h => List.mem_append_left _ h
  refine ⟨⟨fun c h => L (v1 c h), fun e c h => L (v2 e c h), fun e c h => L (v3 e c h), fun e c h => List.mem_append_right _ ((by decide +kernel : ∀ c ∈ klA, c ∈ 260 :: news_260) c h), fun e c h => L (v5 e c h), fun k hk => L (v6 k hk), fun k hk => L (v7 k hk), fun k hk => L (v8 k hk)⟩, fun c hc => ?_, ⟨hz.1, fun _ => hz.2.1 h0, hz.2.2⟩, fun o e => kle_T (kT0_le h0) (ht o e), hb⟩
  rcases List.mem_append.mp hc with g | g
  · exact kmd_le (kT0_le h0) (hm c g)
  · exact Or.inr (Or.inr (Or.inr (Or.inl ⟨rfl, (by decide +kernel : ∀ c ∈ 260 :: news_260, c ∈ klA) c g⟩)))
theorem kT1_U {q : kP} (hu : kU q) (h0 : q.t1 = false) : kU (kT1 q) := by
  obtain ⟨⟨v1, v2, v3, v4, v5, v6, v7, v8⟩, hm, hz, ht, hb⟩ := hu
  have L : ∀ {c}, c ∈ q.L → c ∈ (kT1 q).L := fun h => List.mem_append_left _ h
  refine ⟨⟨fun c h => L (v1 c h), fun e c h => L (v2 e c h), fun e c h => L (v3 e c h), fun e c h => L (v4 e c h), fun e c h => List.mem_append_right _ ((by decide +kernel : ∀ c ∈ klB, c ∈ 280 :: news_280) c h), fun k hk => L (v6 k hk), fun k hk => L (v7 k hk), fun k hk => L (v8 k hk)⟩, fun c hc => ?_, ⟨hz.1, hz.2.1, fun _ => hz.2.2 h0⟩, fun o e => kle_T (kT1_le h0) (ht o e), hb⟩
  rcases List.mem_append.mp hc with g | g
  · exact kmd_le (kT1_le h0) (hm c g)
  · exact Or.inr (Or.inr (Or.inr (Or.inr (Or.inl ⟨rfl, (by decide +kernel : ∀ c ∈ 280 :: news_280, c ∈ klB) c g⟩))))
/-! what is not made -/
theorem kmd_no {q : kP} {c : Nat} (h1 : c ∉ kl0) (h2 : q.hi = true → c ∉ klH) (h3 : q.ex = true → c ∉ klE) (h4 : q.t0 = true → c ∉ klA) (h5 : q.t1 = true → c ∉ klB) (h6 : c < 1000 + 0 ∨ 1000 + q.kn ≤ c) (h7 : c < 4000 ∨ 4000 + q.o0 ≤ c) (h8 : c < 7000 ∨ 7000 + q.o1 ≤ c) : ¬ kmd q c := by
  rintro (g | ⟨e, g⟩ | ⟨e, g⟩ | ⟨e, g⟩ | ⟨e, g⟩ | ⟨k, hk, g⟩ | ⟨k, hk, g⟩ | ⟨k, hk, g⟩)
  · exact h1 g
  · exact h2 e g
  · exact h3 e g
  · exact h4 e g
  · exact h5 e g
  · omega
  · omega
  · omega
theorem kl_far {c : Nat} (h : 1000 ≤ c) : c ∉ kl0 ∧ c ∉ klH ∧ c ∉ klE ∧ c ∉ klA ∧ c ∉ klB := by
  have b : ∀ l : List Nat, l.all (fun k => decide (k < 1000)) = true → c ∉ l := fun l hl hc => by
    have := of_decide_eq_true (List.all_eq_true.mp hl c hc)
    omega
  exact ⟨b _ (by decide +kernel), b _ (by decide +kernel), b _ (by decide +kernel), b _ (by decide +kernel), b _ (by decide +kernel)⟩
theorem aI_W : Cond.arrayClass .int ∈ W0 := W0_in (tp_1 (List.mem_of_getElem? (i := 82) (by decide +kernel))) rfl
def oM (q : kP) (o : Nat) : Nat := if o = 260 then q.o0 else q.o1
def oC (q : kP) (o : Nat) : Nat := if o = 260 then 4000 + q.o0 else 7000 + q.o1
def kOr (q : kP) (o : Nat) : kP := if o = 260 then kO0 q else kO1 q
theorem kOr_le (q : kP) (o : Nat) : kle q (kOr q o) := by
  unfold kOr; split
  · exact kO0_le q
  · exact kO1_le q
theorem kOr_U {q : kP} {o : Nat} (hu : kU q) (ho : kiT q o) (hk : oM q o < 3000) : kU (kOr q o) := by
  rcases ho with ⟨rfl, h⟩ | ⟨rfl, h⟩
  · exact kO0_U hu h hk
  · exact kO1_U hu h hk
section KFU
variable {G : kG} {d : Nat} {y : gy} {pc : Nat} {lv : List (Nat × gv)} {st : List gv} {x : gd} {q : kP} {Q : gr → gd → gf → Prop}
theorem T_krow {i : Int32} (hd1 : decode y.2.1 pc = .ok (.newarray .int, 2)) (hd2 : decode y.2.1 (pc + 2) = .ok (.aastore, 1)) (hu : kU q) (he : q.ex = true) (hi : i.toNatClampNeg = q.kn) (hin : vp_in i 3000) (hok : gok (kf q).2.1 lv st = true)
    (k : T (kE G) d y (pc + 3) lv st (znew x (1000 + q.kn)) (kf (kKn q)) Q) : T (kE G) d y pc lv (vi 228 :: vi i :: vr 203 :: st) x (kf q) Q := by
  have hk : q.kn < 3000 := by
    have h0 : ¬ i < 0 := fun z => hin (Or.inl z)
    have h1 : ¬ 3000 ≤ i.toNatClampNeg := fun z => hin (Or.inr z)
    omega
  obtain ⟨n0, nH, nE, nA, nB⟩ := kl_far (c := 1000 + q.kn) (by omega)
  have fr := kU_fr hu (c := 1000 + q.kn) (kmd_no n0 (fun _ => nH) (fun _ => nE) (fun _ => nA) (fun _ => nB) (by omega) (by omega) (by omega))
  have hK : kK (1000 + q.kn) = .inr (.int, 228) := by unfold kK; rw [if_neg (by omega), if_neg (by omega), if_pos (by omega)]
  have l203 : 203 ∈ (kf q).2.1 := kl_203 hu.1 he
  refine T_newI (1000 + q.kn) hd1 rfl (Or.inl rfl) aI_W hK (by decide) (by decide) (by decide) fr.1 (by omega) fr.2 (gok_i (gok_l hok) (as_c rfl (as_c (gkr l203) (gok_s hok)))) ?_
  refine T_aastA 203 (1000 + q.kn) (n := 3000) (n9 := 228) hd2 kk_203 (List.mem_append_left _ l203) hK (List.mem_append_right _ (List.mem_singleton.mpr rfl)) hin ?_
  refine T_refs (f2 := kf (kKn q)) rfl (fun c hc j g1 g2 => ?_) k
  show kR (kKn q) c j = (if c = 203 ∧ j = i.toNatClampNeg then some (1000 + q.kn) else if c = 1000 + q.kn then none else kR q c j)
  by_cases e1 : c = 1000 + q.kn
  · subst e1
    exact absurd (g2 _ _ hK) (by decide)
  by_cases e2 : c = 203
  · subst e2
    show (if j < q.kn + 1 then some (1000 + j) else none) = (if (203 : Nat) = 203 ∧ j = i.toNatClampNeg then some (1000 + q.kn) else if (203 : Nat) = 1000 + q.kn then none else (if j < q.kn then some (1000 + j) else none))
    by_cases e3 : j = q.kn
    · rw [if_pos (show j < q.kn + 1 by omega), if_pos ⟨rfl, e3.trans hi.symm⟩, e3]
    · by_cases e4 : j < q.kn
      · rw [if_pos (show j < q.kn + 1 by omega), if_neg (fun z => e3 (z.2.trans hi)), if_neg e1, if_pos e4]
      · rw [if_neg (show ¬ j < q.kn + 1 by omega), if_neg (fun z => e3 (z.2.trans hi)), if_neg e1, if_neg e4]
  · rw [if_neg (fun z => e2 z.1), if_neg e1]
    unfold kR
    rw [if_neg e2, if_neg e2]; rfl
theorem T_orow {i : Int32} {o : Nat} (hd1 : decode y.2.1 pc = .ok (.newarray .int, 2)) (hd2 : decode y.2.1 (pc + 2) = .ok (.aastore, 1)) (hu : kU q) (ho : kiT q o) (hi : i.toNatClampNeg = oM q o) (hin : vp_in i 3000) (hok : gok (kf q).2.1 lv st = true)
    (k : T (kE G) d y (pc + 3) lv st (znew x (oC q o)) (kf (kOr q o)) Q) : T (kE G) d y pc lv (vi 24 :: vi i :: vr (o + 13) :: st) x (kf q) Q := by
  have hk : oM q o < 3000 := by
    have h1 : ¬ 3000 ≤ i.toNatClampNeg := fun z => hin (Or.inr z)
    omega
  have l13 : (o + 13) ∈ (kf q).2.1 := kl_T13 hu.1 ho
  have hub := hu.2.2.2.2
  rcases ho with ⟨rfl, h⟩ | ⟨rfl, h⟩
  · have hk : q.o0 < 3000 := hk
    have hi : i.toNatClampNeg = q.o0 := hi
    have k : T (kE G) d y (pc + 3) lv st (znew x (4000 + q.o0)) (kf (kO0 q)) Q := k
    obtain ⟨n0, nH, nE, nA, nB⟩ := kl_far (c := 4000 + q.o0) (by omega)
    have fr := kU_fr hu (c := 4000 + q.o0) (kmd_no n0 (fun _ => nH) (fun _ => nE) (fun _ => nA) (fun _ => nB) (by omega) (by omega) (by omega))
    have hK : kK (4000 + q.o0) = .inr (.int, 24) := by unfold kK; rw [if_neg (by omega), if_neg (by omega), if_neg (by omega)]
    refine T_newI (4000 + q.o0) hd1 rfl (Or.inl rfl) aI_W hK (by decide) (by decide) (by decide) fr.1 (by omega) fr.2 (gok_i (gok_l hok) (as_c rfl (as_c (gkr l13) (gok_s hok)))) ?_
    refine T_aastA 273 (4000 + q.o0) (n := 3000) (n9 := 24) hd2 rfl (List.mem_append_left _ l13) hK (List.mem_append_right _ (List.mem_singleton.mpr rfl)) hin ?_
    refine T_refs (f2 := kf (kO0 q)) rfl (fun c hc j g1 g2 => ?_) k
    show kR (kO0 q) c j = (if c = 273 ∧ j = i.toNatClampNeg then some (4000 + q.o0) else if c = 4000 + q.o0 then none else kR q c j)
    by_cases e1 : c = 4000 + q.o0
    · subst e1
      exact absurd (g2 _ _ hK) (by decide)
    by_cases e2 : c = 273
    · subst e2
      show (if j < q.o0 + 1 then some (4000 + j) else none) = (if (273 : Nat) = 273 ∧ j = i.toNatClampNeg then some (4000 + q.o0) else if (273 : Nat) = 4000 + q.o0 then none else (if j < q.o0 then some (4000 + j) else none))
      by_cases e3 : j = q.o0
      · rw [if_pos (show j < q.o0 + 1 by omega), if_pos ⟨rfl, e3.trans hi.symm⟩, e3]
      · by_cases e4 : j < q.o0
        · rw [if_pos (show j < q.o0 + 1 by omega), if_neg (fun z => e3 (z.2.trans hi)), if_neg e1, if_pos e4]
        · rw [if_neg (show ¬ j < q.o0 + 1 by omega), if_neg (fun z => e3 (z.2.trans hi)), if_neg e1, if_neg e4]
    · rw [if_neg (fun z => e2 z.1), if_neg e1]
      unfold kR
      rw [if_neg e2, if_neg e2]; rfl
  · have hk : q.o1 < 3000 := hk
    have hi : i.toNatClampNeg = q.o1 := hi
    have k : T (kE G) d y (pc + 3) lv st (znew x (7000 + q.o1)) (kf (kO1 q)) Q := k
    obtain ⟨n0, nH, nE, nA, nB⟩ := kl_far (c := 7000 + q.o1) (by omega)
    have fr := kU_fr hu (c := 7000 + q.o1) (kmd_no n0 (fun _ => nH) (fun _ => nE) (fun _ => nA) (fun _ => nB) (by omega) (by omega) (by omega))
    have hK : kK (7000 + q.o1) = .inr (.int, 24) := by unfold kK; rw [if_neg (by omega), if_neg (by omega), if_neg (by omega)]
    refine T_newI (7000 + q.o1) hd1 rfl (Or.inl rfl) aI_W hK (by decide) (by decide) (by decide) fr.1 (by omega) fr.2 (gok_i (gok_l hok) (as_c rfl (as_c (gkr l13) (gok_s hok)))) ?_
    refine T_aastA 293 (7000 + q.o1) (n := 3000) (n9 := 24) hd2 rfl (List.mem_append_left _ l13) hK (List.mem_append_right _ (List.mem_singleton.mpr rfl)) hin ?_
    refine T_refs (f2 := kf (kO1 q)) rfl (fun c hc j g1 g2 => ?_) k
    show kR (kO1 q) c j = (if c = 293 ∧ j = i.toNatClampNeg then some (7000 + q.o1) else if c = 7000 + q.o1 then none else kR q c j)
    by_cases e1 : c = 7000 + q.o1
    · subst e1
      exact absurd (g2 _ _ hK) (by decide)
    by_cases e2 : c = 293
    · subst e2
      show (if j < q.o1 + 1 then some (7000 + j) else none) = (if (293 : Nat) = 293 ∧ j = i.toNatClampNeg then some (7000 + q.o1) else if (293 : Nat) = 7000 + q.o1 then none else (if j < q.o1 then some (7000 + j) else none))
      by_cases e3 : j = q.o1
      · rw [if_pos (show j < q.o1 + 1 by omega), if_pos ⟨rfl, e3.trans hi.symm⟩, e3]
      · by_cases e4 : j < q.o1
        · rw [if_pos (show j < q.o1 + 1 by omega), if_neg (fun z => e3 (z.2.trans hi)), if_neg e1, if_pos e4]
        · rw [if_neg (show ¬ j < q.o1 + 1 by omega), if_neg (fun z => e3 (z.2.trans hi)), if_neg e1, if_neg e4]
    · rw [if_neg (fun z => e2 z.1), if_neg e1]
      unfold kR
      rw [if_neg e2, if_neg e2]; rfl
theorem T_sett {o : Nat} (hd : decode zk_X2_explore.2.1 pc = .ok (.putfield 44, 3)) (hu : kU q) (he : q.ex = true)
    (k : T (kE G) d zk_X2_explore (pc + 3) lv st x (kf (kEt q o)) Q) : T (kE G) d zk_X2_explore pc lv (vr o :: vr 200 :: st) x (kf q) Q := by
  refine T_putR 200 7 o hd kfl_X2_44 kk_200 (kl_200 hu.1 he) (by decide) rfl (fun _ => ⟨rfl, rfl⟩) ?_
  refine T_refs (f2 := kf (kEt q o)) rfl (fun c hc j g1 g2 => ?_) k
  show kR (kEt q o) c j = (if c = 200 ∧ j = 7 then some o else kR q c j)
  by_cases e : c = 200 ∧ j = 7
  · obtain ⟨rfl, rfl⟩ := e
    rfl
  · rw [if_neg e]
    unfold kR
    rw [if_neg e, if_neg e]; rfl
theorem fr_H (hu : kU q) (h : q.hi = false) : ∀ c ∈ 180 :: news_180, c ∉ (kf q).2.1 ∧ NR (kf q) c := fun c hc =>
  kU_fr hu (kmd_no ((by decide +kernel : ∀ c ∈ 180 :: news_180, c ∉ kl0) c hc) (fun e => by rw [h] at e; cases e) (fun _ => (by decide +kernel : ∀ c ∈ 180 :: news_180, c ∉ klE) c hc) (fun _ => (by decide +kernel : ∀ c ∈ 180 :: news_180, c ∉ klA) c hc) (fun _ => (by decide +kernel : ∀ c ∈ 180 :: news_180, c ∉ klB) c hc) (Or.inl ((by decide +kernel : ∀ c ∈ 180 :: news_180, c < 1000) c hc)) (Or.inl ((by decide +kernel : ∀ c ∈ 180 :: news_180, c < 4000) c hc)) (Or.inl ((by decide +kernel : ∀ c ∈ 180 :: news_180, c < 7000) c hc)))
theorem fr_E (hu : kU q) (h : q.ex = false) : ∀ c ∈ 200 :: news_200, c ∉ (kf q).2.1 ∧ NR (kf q) c := fun c hc =>
  kU_fr hu (kmd_no ((by decide +kernel : ∀ c ∈ 200 :: news_200, c ∉ kl0) c hc) (fun _ => (by decide +kernel : ∀ c ∈ 200 :: news_200, c ∉ klH) c hc) (fun e => by rw [h] at e; cases e) (fun _ => (by decide +kernel : ∀ c ∈ 200 :: news_200, c ∉ klA) c hc) (fun _ => (by decide +kernel : ∀ c ∈ 200 :: news_200, c ∉ klB) c hc) (Or.inl ((by decide +kernel : ∀ c ∈ 200 :: news_200, c < 1000) c hc)) (Or.inl ((by decide +kernel : ∀ c ∈ 200 :: news_200, c < 4000) c hc)) (Or.inl ((by decide +kernel : ∀ c ∈ 200 :: news_200, c < 7000) c hc)))
theorem fr_A (hu : kU q) (h : q.t0 = false) : ∀ c ∈ 260 :: news_260, c ∉ (kf q).2.1 ∧ NR (kf q) c := fun c hc =>
  kU_fr hu (kmd_no ((by decide +kernel : ∀ c ∈ 260 :: news_260, c ∉ kl0) c hc) (fun _ => (by decide +kernel : ∀ c ∈ 260 :: news_260, c ∉ klH) c hc) (fun _ => (by decide +kernel : ∀ c ∈ 260 :: news_260, c ∉ klE) c hc) (fun e => by rw [h] at e; cases e) (fun _ => (by decide +kernel : ∀ c ∈ 260 :: news_260, c ∉ klB) c hc) (Or.inl ((by decide +kernel : ∀ c ∈ 260 :: news_260, c < 1000) c hc)) (Or.inl ((by decide +kernel : ∀ c ∈ 260 :: news_260, c < 4000) c hc)) (Or.inl ((by decide +kernel : ∀ c ∈ 260 :: news_260, c < 7000) c hc)))
theorem fr_B (hu : kU q) (h : q.t1 = false) : ∀ c ∈ 280 :: news_280, c ∉ (kf q).2.1 ∧ NR (kf q) c := fun c hc =>
  kU_fr hu (kmd_no ((by decide +kernel : ∀ c ∈ 280 :: news_280, c ∉ kl0) c hc) (fun _ => (by decide +kernel : ∀ c ∈ 280 :: news_280, c ∉ klH) c hc) (fun _ => (by decide +kernel : ∀ c ∈ 280 :: news_280, c ∉ klE) c hc) (fun _ => (by decide +kernel : ∀ c ∈ 280 :: news_280, c ∉ klA) c hc) (fun e => by rw [h] at e; cases e) (Or.inl ((by decide +kernel : ∀ c ∈ 280 :: news_280, c < 1000) c hc)) (Or.inl ((by decide +kernel : ∀ c ∈ 280 :: news_280, c < 4000) c hc)) (Or.inl ((by decide +kernel : ∀ c ∈ 280 :: news_280, c < 7000) c hc)))
theorem T_mkH (hu : kU q) (h0 : q.hi = false) (hok : gok (kf q).2.1 lv [vr 0] = true)
    (k : T (kE G) (d + 2) zk_X11_linear 56 lv [] (xops (znew x 180) ops_180) (kf (kHi q)) Q) : T (kE G) (d + 2) zk_X11_linear 46 lv [vr 0] x (kf q) Q := by
  have fr := fr_H hu h0
  have f0 := fr 180 List.mem_cons_self
  have l0 : 0 ∈ (kf q).2.1 := kl_0 hu.1
  refine T_newO 180 (dk dtk_X11_linear 23 rfl) kn_X11_278 kk_180 f0.1 (Or.inl (by decide)) f0.2 hok ?_
  refine T_dup (dk dtk_X11_linear 24 rfl) rfl ?_
  have l1 : 180 ∈ (fnew (kf q) 180 13).2.1 := List.mem_append_right _ (List.mem_singleton.mpr rfl)
  have ho1 : gok (fnew (kf q) 180 13).2.1 lv [vr 180, vr 0] = true := gok_i (gok_l (gok_le (fun c hc => List.mem_append_left _ hc) hok)) (as_c (gkr l1) (as_c (gkr (List.mem_append_left _ l0)) as_n))
  have hfr : ∀ c ∈ news_180, c ∉ (fnew (kf q) 180 13).2.1 ∧ NR (fnew (kf q) 180 13) c := ops_fr (l := [oN_ 180 13]) (N := 180 :: news_180) fr (by decide +kernel)
  refine T_callI [] [vr 180, vr 0] (d + 1) rfl (dk dtk_X11_linear 25 rfl) kci_X11_284 rfl (by omega) (Nat.le_of_ble_eq_true rfl) (Nat.le_of_ble_eq_true rfl) ho1 (kc_180 (d := d) l1 hfr ⟨rfl, ?_⟩)
  refine T_putR 0 8 180 (dk dtk_X11_linear 26 rfl) kfl_X11_280 kk_0 (ops_in (List.mem_append_left _ l0)) (by decide) rfl (fun _ => ⟨rfl, rfl⟩) ?_
  exact T_refs kHi_2 (fun c hc j g1 g2 => kHi_r rfl (Or.inr trivial) g1 g2) k
theorem T_mkE (hu : kU q) (h0 : q.ex = false) (hok : gok (kf q).2.1 lv [vr 0] = true) (hl0 : lv[0]? = some (0, vr 0))
    (k : T (kE G) (d + 4) zk_X11_attempt 53 lv [] (xops (znew x 200) ops_200) (kf (kEx q)) Q) : T (kE G) (d + 4) zk_X11_attempt 39 lv [vr 0] x (kf q) Q := by
  have fr := fr_E hu h0
  have f0 := fr 200 List.mem_cons_self
  have l0 : 0 ∈ (kf q).2.1 := kl_0 hu.1
  have l60 : 60 ∈ (kf q).2.1 := kl_60 hu.1
  refine T_newO 200 (dk dtk_X11_attempt 19 rfl) kn_X11_298 kk_200 f0.1 (Or.inl (by decide)) f0.2 hok ?_
  refine T_dup (dk dtk_X11_attempt 20 rfl) rfl ?_
  refine T_aload_n 0 (dk dtk_X11_attempt 21 rfl) rfl hl0 ?_
  refine T_getR 0 2 60 (dk dtk_X11_attempt 22 rfl) kfl_X11_28 kk_0 (List.mem_append_left _ l0) (by decide) rfl (show (if (0 : Nat) = 200 then none else kR q 0 2) = some 60 from rfl) ?_
  have l1 : 200 ∈ (fnew (kf q) 200 10).2.1 := List.mem_append_right _ (List.mem_singleton.mpr rfl)
  have ho1 : gok (fnew (kf q) 200 10).2.1 lv [vr 200, vr 0] = true := gok_i (gok_l (gok_le (fun c hc => List.mem_append_left _ hc) hok)) (as_c (gkr l1) (as_c (gkr (List.mem_append_left _ l0)) as_n))
  have hfr : ∀ c ∈ news_200, c ∉ (fnew (kf q) 200 10).2.1 ∧ NR (fnew (kf q) 200 10) c := ops_fr (l := [oN_ 200 10]) (N := 200 :: news_200) fr (by decide +kernel)
  refine T_callI [vr 60] [vr 200, vr 0] (d + 3) rfl (dk dtk_X11_attempt 23 rfl) kci_X11_300 rfl (by omega) (Nat.le_of_ble_eq_true rfl) (Nat.le_of_ble_eq_true rfl) ho1 (kc_200 (d := d) l1 (List.mem_append_left _ l60) hfr (show (if (60 : Nat) = 200 then none else kR q 60 0) = some 80 from rfl) ⟨rfl, ?_⟩)
  refine T_putR 0 7 200 (dk dtk_X11_attempt 24 rfl) kfl_X11_294 kk_0 (ops_in (List.mem_append_left _ l0)) (by decide) rfl (fun _ => ⟨rfl, rfl⟩) ?_
  exact T_refs kEx_2 (fun c hc j g1 g2 => kEx_r (hu.2.2.1.1 h0).1 (hu.2.2.1.1 h0).2 g1 g2) k
theorem T_mkT0 {i : Int32} (hu : kU q) (h0 : q.t0 = false) (hi : i.toNatClampNeg = 0) (hin : vp_in i 2) (hok : gok (kf q).2.1 lv [vi i, vr 7] = true)
    (k : T (kE G) (d + 2) zk_X11_attempt 75 lv [] (xops (znew x 260) ops_260) (kf (kT0 q)) Q) : T (kE G) (d + 2) zk_X11_attempt 67 lv [vi i, vr 7] x (kf q) Q := by
  have fr := fr_A hu h0
  have f0 := fr 260 List.mem_cons_self
  have l7 : 7 ∈ (kf q).2.1 := kl_7 hu.1
  refine T_newO 260 (dk dtk_X11_attempt 33 rfl) kn_X11_57 rfl f0.1 (Or.inl (by decide)) f0.2 hok ?_
  refine T_dup (dk dtk_X11_attempt 34 rfl) rfl ?_
  have l1 : 260 ∈ (fnew (kf q) 260 14).2.1 := List.mem_append_right _ (List.mem_singleton.mpr rfl)
  have ho1 : gok (fnew (kf q) 260 14).2.1 lv [vr 260, vi i, vr 7] = true := gok_i (gok_l (gok_le (fun c hc => List.mem_append_left _ hc) hok)) (as_c (gkr l1) (as_c rfl (as_c (gkr (List.mem_append_left _ l7)) as_n)))
  have hfr : ∀ c ∈ news_260, c ∉ (fnew (kf q) 260 14).2.1 ∧ NR (fnew (kf q) 260 14) c := ops_fr (l := [oN_ 260 14]) (N := 260 :: news_260) fr (by decide +kernel)
  refine T_callI [] [vr 260, vi i, vr 7] (d + 1) rfl (dk dtk_X11_attempt 35 rfl) kci_X11_301 rfl (by omega) (Nat.le_of_ble_eq_true rfl) (Nat.le_of_ble_eq_true rfl) ho1 (kc_260 (d := d) l1 hfr ⟨rfl, ?_⟩)
  refine T_aastT 7 260 (n := 2) (dk dtk_X11_attempt 36 rfl) kk_7 (ops_in (List.mem_append_left _ l7)) rfl (ops_in l1) hin ?_
  rw [hi]
  exact T_refs kT0_2 (fun c hc j g1 g2 => kT0_r (hu.2.2.1.2.1 h0) (Or.inr trivial) g1 g2) k
theorem T_mkT1 {i : Int32} (hu : kU q) (h0 : q.t1 = false) (hi : i.toNatClampNeg = 1) (hin : vp_in i 2) (hok : gok (kf q).2.1 lv [vi i, vr 7] = true)
    (k : T (kE G) (d + 2) zk_X11_attempt 75 lv [] (xops (znew x 280) ops_280) (kf (kT1 q)) Q) : T (kE G) (d + 2) zk_X11_attempt 67 lv [vi i, vr 7] x (kf q) Q := by
  have fr := fr_B hu h0
  have f0 := fr 280 List.mem_cons_self
  have l7 : 7 ∈ (kf q).2.1 := kl_7 hu.1
  refine T_newO 280 (dk dtk_X11_attempt 33 rfl) kn_X11_57 rfl f0.1 (Or.inl (by decide)) f0.2 hok ?_
  refine T_dup (dk dtk_X11_attempt 34 rfl) rfl ?_
  have l1 : 280 ∈ (fnew (kf q) 280 14).2.1 := List.mem_append_right _ (List.mem_singleton.mpr rfl)
  have ho1 : gok (fnew (kf q) 280 14).2.1 lv [vr 280, vi i, vr 7] = true := gok_i (gok_l (gok_le (fun c hc => List.mem_append_left _ hc) hok)) (as_c (gkr l1) (as_c rfl (as_c (gkr (List.mem_append_left _ l7)) as_n)))
  have hfr : ∀ c ∈ news_280, c ∉ (fnew (kf q) 280 14).2.1 ∧ NR (fnew (kf q) 280 14) c := ops_fr (l := [oN_ 280 14]) (N := 280 :: news_280) fr (by decide +kernel)
  refine T_callI [] [vr 280, vi i, vr 7] (d + 1) rfl (dk dtk_X11_attempt 35 rfl) kci_X11_301 rfl (by omega) (Nat.le_of_ble_eq_true rfl) (Nat.le_of_ble_eq_true rfl) ho1 (kc_280 (d := d) l1 hfr ⟨rfl, ?_⟩)
  refine T_aastT 7 280 (n := 2) (dk dtk_X11_attempt 36 rfl) kk_7 (ops_in (List.mem_append_left _ l7)) rfl (ops_in l1) hin ?_
  rw [hi]
  exact T_refs kT1_2 (fun c hc j g1 g2 => kT1_r (hu.2.2.1.2.2 h0) (Or.inr trivial) g1 g2) k
/-! makers: an end, with the shape that it leaves -/
def kmq (P : Option gv → gd → kP → Prop) (X : String → gd → kP → Prop) : gr → gd → gf → Prop := fun o x f => ∃ q, (f = kf q ∧ ∃ v, o = .inl v ∧ P v x q) ∨ (f = gth (kf q) ∧ ∃ c, o = .inr c ∧ X c x q)
abbrev KM (G : kG) (q : kP) (d : Nat) (y : gy) (pc : Nat) (lv : List (Nat × gv)) (st : List gv) (x : gd) (P : Option gv → gd → kP → Prop) (X : String → gd → kP → Prop) : Prop := T (kE G) d y pc lv st x (kf q) (kmq P X)
/-- no answer: the shape is in order, and more than before -/
def rm (q0 : kP) (F : gd → kP → Prop) : Option gv → gd → kP → Prop := fun v x q => v = none ∧ kU q ∧ kle q0 q ∧ F x q
variable {P P' : Option gv → gd → kP → Prop} {X X' : String → gd → kP → Prop} {z : gy}
theorem KM_iret {v : Int32} {ty : FieldType} (hd : decode y.2.1 pc = .ok (.ireturn, 1)) (hr : y.2.2.2.1 = some ty) (hn : narrow ty (.int v) = .int v) (hQ : P (some (vi v)) x q) : KM G q d y pc lv [vi v] x P X := T_iret hd hr hn ⟨q, Or.inl ⟨rfl, _, rfl, hQ⟩⟩
theorem KM_vret (hd : decode y.2.1 pc = .ok (.return_, 1)) (hr : y.2.2.2.1 = none) (hQ : P none x q) : KM G q d y pc lv [] x P X := T_vret hd hr ⟨q, Or.inl ⟨rfl, _, rfl, hQ⟩⟩
theorem KM_Vv {idx n c ci : Nat} {sl : List Bool} {F : gd → kP → Prop} (As rest : List gv) (hst : st = As.reverse ++ vr c :: rest) (hd : decode y.2.1 pc = .ok (.invokevirtual idx, 3)) (hM : gMv y.1.cls idx z n) (hn : As.length = n) (hK : kK c = .inl (ci, sl)) (hcl : (vwCl[ci]?).map (fun r => r.1) = some z.1.cls) (hc : c ∈ (kf q).2.1) (hfit : gsz (vr c :: As) ≤ z.2.2.1) (hcat : gsz rest ≤ 8) (hok : gok (kf q).2.1 lv rest = true) (hy : y.2.2.2.2 = [])
    (k : KM G q d z 0 (glv 0 (vr c :: As)) [] x (rm q F) X) (kk : ∀ x1 q1, kU q1 → kle q q1 → F x1 q1 → KM G q1 (d + 1) y (pc + 3) lv rest x1 P X) : KM G q (d + 1) y pc lv st x P X := by
  refine T_callV (E := kE G) As rest d hst hd hM hn hK hcl hc (Nat.le_refl _) hfit hcat hok (by rw [hy]; intro z hz; cases hz) ?_
  refine T_mono k (fun o x' f' w => ?_)
  obtain ⟨q', ⟨rfl, v, rfl, rfl, hU, hL, hF⟩ | ⟨rfl, s, rfl, hX⟩⟩ := w
  · exact kk x' q' hU hL hF
  · exact ⟨q', Or.inr ⟨rfl, s, rfl, hX⟩⟩
theorem KN_Vv {idx n c ci : Nat} {sl : List Bool} {F : gd → Prop} (As rest : List gv) (hst : st = As.reverse ++ vr c :: rest) (hd : decode y.2.1 pc = .ok (.invokevirtual idx, 3)) (hM : gMv y.1.cls idx z n) (hn : As.length = n) (hK : kK c = .inl (ci, sl)) (hcl : (vwCl[ci]?).map (fun r => r.1) = some z.1.cls) (hc : c ∈ (kf q).2.1) (hfit : gsz (vr c :: As) ≤ z.2.2.1) (hcat : gsz rest ≤ 8) (hok : gok (kf q).2.1 lv rest = true) (hy : y.2.2.2.2 = [])
    (k : KE G q d z 0 (glv 0 (vr c :: As)) [] x (rv F) (fun c9 x9 => X c9 x9 q)) (kk : ∀ x1, F x1 → KM G q (d + 1) y (pc + 3) lv rest x1 P X) : KM G q (d + 1) y pc lv st x P X := by
  refine T_callV (E := kE G) As rest d hst hd hM hn hK hcl hc (Nat.le_refl _) hfit hcat hok (by rw [hy]; intro z hz; cases hz) ?_
  refine T_mono k (fun o x' f' w => ?_)
  rcases w with ⟨rfl, v, rfl, rfl, hF⟩ | ⟨rfl, s, rfl, hX⟩
  · exact kk x' hF
  · exact ⟨q, Or.inr ⟨rfl, s, rfl, hX⟩⟩
theorem KN_Sv {idx n : Nat} {F : gd → Prop} (As rest : List gv) (hst : st = As.reverse ++ rest) (hd : decode y.2.1 pc = .ok (.invokestatic idx, 3)) (hM : gMs y.1.cls idx z n) (hn : As.length = n) (hfit : gsz As ≤ z.2.2.1) (hcat : gsz rest ≤ 8) (hok : gok (kf q).2.1 lv rest = true) (hy : y.2.2.2.2 = [])
    (k : KE G q d z 0 (glv 0 As) [] x (rv F) (fun c9 x9 => X c9 x9 q)) (kk : ∀ x1, F x1 → KM G q (d + 1) y (pc + 3) lv rest x1 P X) : KM G q (d + 1) y pc lv st x P X := by
  refine T_callS (E := kE G) As rest d hst hd hM hn (Nat.le_refl _) hfit hcat hok (by rw [hy]; intro z hz; cases hz) ?_
  refine T_mono k (fun o x' f' w => ?_)
  rcases w with ⟨rfl, v, rfl, rfl, hF⟩ | ⟨rfl, s, rfl, hX⟩
  · exact kk x' hF
  · exact ⟨q, Or.inr ⟨rfl, s, rfl, hX⟩⟩
end KFU
/-! a caught exception: one cell more was made -/
def kTh (q : kP) : kP := kmk q.hi q.ex q.t0 q.t1 q.et q.kn q.o0 q.o1 q.L (q.ce + 1) (q.sl + 6)
theorem kTh_U {q : kP} (h : kU q) : kU (kTh q) := h
def gcatch (E : gE) (d : Nat) (y : gy) (pc : Nat) (lv : List (Nat × gv)) (st : List gv) (hpc : Nat) (Q : gr → gd → gf → Prop) (o : gr) (x : gd) (f : gf) : Prop := match o with
  | .inl v => T E d y pc lv (v.toList ++ st) x f Q
  | .inr X => X = iSE ∧ T E d y hpc lv [] x f Q
section GCA
variable {E : gE} {d : Nat} {y : gy} {pc : Nat} {lv : List (Nat × gv)} {st : List gv} {x : gd} {f : gf} {Q : gr → gd → gf → Prop}
theorem T_catchV {z : gy} {c ci idx n : Nat} {sl : List Bool} (As rest : List gv) (d1 : Nat) (hst : st = As.reverse ++ vr c :: rest) (hd : decode y.2.1 pc = .ok (.invokevirtual idx, 3)) (hM : gMv y.1.cls idx z n) (hn : As.length = n) (hK : E.2.2.2.1 c = .inl (ci, sl)) (hcl : (vwCl[ci]?).map (fun r => r.1) = some z.1.cls) (hc : c ∈ f.2.1) (hd1 : d1 + 1 ≤ d)
    (hfit : gsz (vr c :: As) ≤ z.2.2.1) (hcat : gsz rest ≤ 8) (hok : gok f.2.1 lv rest = true) (hz : z.2.2.2.2 = []) (e9 : ExceptionTableEntry) (htab : tableOf y.2.2.2.2 = [e9]) (hcov : covers e9 pc = true) (h0 : e9.catchType ≠ 0) (hlink : Cond.classLink y.1.cls e9.catchType iSE ∈ W0) {n3 : Fin 4} {i3 : Nat} (hi3 : (n3 : Nat) = i3) (hd2 : decode y.2.1 e9.handlerPc = .ok (.astore_n n3, 1)) (hn3 : i3 < y.2.2.1) (h9 : gst1 i3 lv = lv)
    (k : T E d1 z 0 (glv 0 (vr c :: As)) [] x f (gcatch E d y (pc + 3) lv rest (e9.handlerPc + 1) Q)) : T E d y pc lv st x f Q := by
  obtain ⟨⟨m1, m2, m3, m4, m5⟩, m6, m7, m8⟩ := hM
  obtain ⟨o1, x1, f1, hk, hle, hw1⟩ := k
  have hlv : lv.all (fun q => gokv f.2.1 q.2) = true := (Bool.and_eq_true _ _ ▸ hok).1
  have hrs : rest.all (gokv f.2.1) = true := (Bool.and_eq_true _ _ ▸ hok).2
  have hrun : ∀ (p : Program) (e : Env) (R : Room) (s : State) (m : MethodId) (args : Array Value) (below : List Frame) (meth : Method) (c0 : Code) (A : Nat → Prop) (H : Heap) (locs : List Loc) (cells slots : Nat) (ls : Array Slot) (ad : Nat → Nat), gC E d y p R s m args meth c0 A → gP E x f ad A H → va_S A s.heap H locs → lv_has ls y.2.2.1 (glc ad lv) → cells + (f1.2.2.1 - f.2.2.1) ≤ R.cells → slots + (f1.2.2.2 - f.2.2.2) ≤ R.slots →
      vx_Run p E.1 e R s m args below meth c0 H locs cells slots (f1.2.2.1 - f.2.2.1) (f1.2.2.2 - f.2.2.2) (F0 m pc ls (st.map (gcv ad))) (rest.map (gcv ad)) (gQc E (gA f ad H.size) f ad o1 x1 f1 ((vr c :: As).map (gcv ad)).toArray) (gXC E (gA f ad H.size) f ad o1 x1 f1) (gA f ad H.size) := by
    intro p e R s m args below meth c0 A H locs cells slots ls ad C hP hS hl hc1 hs1
    obtain ⟨i, hi0, hi⟩ := gwl_at (E := E) (x := x) (ad := ad) hc
    rw [gce_obj hK] at hi
    have hr9 : ∃ r : vw_C, vwCl[ci]? = some r ∧ r.1 = z.1.cls := by
      cases h9 : vwCl[ci]? with
      | none => rw [h9] at hcl; cases hcl
      | some r => rw [h9] at hcl; exact ⟨r, rfl, Option.some.inj hcl⟩
    obtain ⟨r, hr1, hr2⟩ := hr9
    have hrec := va_recv C.2.2.2.1.1 hP.1.1 hr1 hi
    rw [hr2] at hrec
    have hG : GoodIn W0 (wsV y.1.cls idx z.1.cls z.1 (gws z)) := by
      intro w hw
      rcases List.mem_append.mp hw with h | h
      · refine W0_good w ?_
        simp only [List.mem_cons, List.not_mem_nil, or_false] at h
        rcases h with rfl | rfl | rfl | rfl
        · exact m1
        · exact m2
        · exact m3
        · exact m4
      · exact gwsz m5 w h
    have hroom : 8 + (z.2.2.1 + 11) + 41 * d1 ≤ R.locals := by
      have hq := C.2.2.1.2
      omega
    have hstk : st.map (gcv ad) = (As.map (gcv ad)).reverse ++ Value.ref (ad c) :: rest.map (gcv ad) := by
      rw [hst, List.map_append, List.map_reverse]
      rfl
    exact vx_runV (As := As.map (gcv ad)) (C := z.1.cls) (b := ad c) (Pc := va_Pc ((vr c :: As).map (gcv ad)) (gst E x f ad H.size)) ⟨C.1.1, C.1.2.1, C.1.2.2.1, C.1.2.2.2.1, C.1.2.2.2.2⟩ (gM_of C.2.2.2.1.2.2.2 m7 hfit hw1 ad H.size)
      (cwV (bytes := z.2.1) (maxL := z.2.2.1) (ret := z.2.2.2.1) (ws' := W0) n C.1.2.2.2.2 hG (by rw [gws, gcw, hz]) rfl rfl ⟨rfl, m6⟩ ⟨Nat.le_trans hd1 C.2.2.1.1, hroom⟩) ⟨gst_blind, hrec, fun U hU hW => ⟨rfl, gst_in C hP hS hU hW⟩⟩ rfl (by rw [List.length_map]; exact hn) hl.1 hstk (lv_room (by rw [gsz_c]; exact hcat)) hd ⟨hc1, hs1⟩
  cases o1 with
  | inl v =>
    obtain ⟨o, x', f', hQ, hle2, hw2⟩ := hk
    refine ⟨o, x', f', hQ, gle_tr hle hle2, ?_⟩
    intro p e R s m args below meth c0 A H locs cells slots ls ad C hP hS hl hc hs T9 hT X
    have a1 := hle.2.1
    have a2 := hle.2.2
    have b1 := hle2.2.1
    have b2 := hle2.2.2
    rcases hrun p e R s m args below meth c0 A H locs cells slots ls ad C hP hS hl (by omega) (by omega) T9 hT X with ⟨v', st₀, t, T', L, h0, X', hL, e1, e2, ⟨ad1, hex, ⟨v2, ev1, ev2⟩, hP1, hF⟩, stp⟩ | ⟨q, st₀, t, T', L, X0, ce, h0, X', hL, e1, e2, ⟨ad1, hex, hn, -⟩, -⟩
    · cases ev1
      cases ev2
      have hin := gA_in (sz := H.size) hP (fun q hq => C.2.2.2.2 q (Nat.le_trans hS.1 hq))
      obtain ⟨k1, k2, k3⟩ := vx_keep h0 e1 hS (fun q _ h => hin q h) hin hL hF
      have hP2 : gP E x1 f1 ad1 A T'.heap := by rw [e1]; exact gP_w hP1 hin
      have hl2 : lv_has ls y.2.2.1 (glc ad1 lv) := by rw [glc_live hex hlv]; exact hl
      have hw3 := hw2 p e R s m args below meth c0 A T'.heap (locs ++ L) (cells + (f1.2.2.1 - f.2.2.1)) (slots + (f1.2.2.2 - f.2.2.2)) ls ad1 C hP2 k3 hl2 (by omega) (by omega)
      rw [List.map_append, gst_live hex hrs] at hw3
      have hv : (v.toList).map (gcv ad1) = (v.map (gcv ad1)).toList := by cases v <;> rfl
      rw [hv] at hw3
      rw [show cells + (f1.2.2.1 - f.2.2.1) + (f'.2.2.1 - f1.2.2.1) = cells + (f'.2.2.1 - f.2.2.1) by omega, show slots + (f1.2.2.2 - f.2.2.2) + (f'.2.2.2 - f1.2.2.2) = slots + (f'.2.2.2 - f.2.2.2) by omega] at hw3
      obtain ⟨t2, s1, s2⟩ := hw3 T' rfl X'
      refine ⟨t2, stp t2 s1, vx_MQ_mono s2 (fun _ _ _ _ q => ?_) (fun _ _ _ q => ?_)⟩
      · obtain ⟨ad2, g1, g2⟩ := q; exact ⟨ad2, gex_tr hle hex g1, g2⟩
      · obtain ⟨ad2, g1, g2⟩ := q; exact ⟨ad2, gex_tr hle hex g1, g2⟩
    · cases hn
  | inr X1 =>
    obtain ⟨rfl, o, x', f', hQ, hle2, hw2⟩ := hk
    refine ⟨o, x', f', hQ, gle_tr hle hle2, ?_⟩
    intro p e R s m args below meth c0 A H locs cells slots ls ad C hP hS hl hc hs T9 hT X
    have a1 := hle.2.1
    have a2 := hle.2.2
    have b1 := hle2.2.1
    have b2 := hle2.2.2
    rcases hrun p e R s m args below meth c0 A H locs cells slots ls ad C hP hS hl (by omega) (by omega) T9 hT X with ⟨v', st₀, t, T', L, h0, X', hL, e1, e2, ⟨ad1, hex, ⟨v2, ev1, -⟩, -⟩, -⟩ | ⟨q, st₀, t, T', L, X0, ce, h00, X', hL, e1, e2, ⟨ad1, hex, hn, hP1, hF⟩, hce, hcv, hcl, stp⟩
    · cases ev1
    · cases hn
      have hin := gA_in (sz := H.size) hP (fun q hq => C.2.2.2.2 q (Nat.le_trans hS.1 hq))
      obtain ⟨k1, k2, k3⟩ := vx_keep h00 e1 hS (fun q _ h => hin q h) hin hL hF
      have hP2 : gP E x1 f1 ad1 A T'.heap := by rw [e1]; exact gP_w hP1 hin
      have hl2 : lv_has ls y.2.2.1 (glc ad1 lv) := by rw [glc_live hex hlv]; exact hl
      have hw3 := fun (ls2 : Array Slot) (hl3 : lv_has ls2 y.2.2.1 (glc ad1 lv)) => hw2 p e R s m args below meth c0 A T'.heap (locs ++ L) (cells + (f1.2.2.1 - f.2.2.1)) (slots + (f1.2.2.2 - f.2.2.2)) ls2 ad1 C hP2 k3 hl3 (by omega) (by omega)
      rw [show cells + (f1.2.2.1 - f.2.2.1) + (f'.2.2.1 - f1.2.2.1) = cells + (f'.2.2.1 - f.2.2.1) by omega, show slots + (f1.2.2.2 - f.2.2.2) + (f'.2.2.2 - f1.2.2.2) = slots + (f'.2.2.2 - f.2.2.2) by omega] at hw3
      have hfl : (i3, Value.ref q) :: (glc ad1 lv).filter (fun q => !(q.1 == i3) && !(q.1 + 1 == i3 && q.2.category == 2)) = (i3, Value.ref q) :: glc ad1 lv := by
        have := gst1_c (ad := ad1) (i := i3) (v := vi 0) (lv := lv) rfl
        rw [h9] at this
        have h5 := (List.cons.inj this).2
        rw [h5]; rfl
      have hcat9 := vx_catch (own := y.1.cls) (name := iSE) (E := iSE) (ce := ce) (q := q) (pc := pc) (ls := ls) (rest := rest.map (gcv ad)) C.1.2.2.2.1 [] e9 [] (by rw [C.2.1.2.2.1, htab]; rfl) (fun z hz => nomatch hz) hcov h0 (C.1.2.2.2.2 _ hlink) (show (Cond.castable iSE iSE).before args s = true from C.2.2.2.1.2.1.2.1 (.castable iSE iSE) (by decide)) (by rw [e1]; exact hce) hcv hcl (lv_astore_n (x := q) C.1.1 C.1.2.1 hd2 hi3 hl2 hn3 hfl (fun ls2 hl3 => hw3 ls2 ⟨hl3.1, hl3.2.1, fun z hz => hl3.2.2 z (List.mem_cons_of_mem _ hz)⟩))
      obtain ⟨t2, s1, s2⟩ := hcat9 T' rfl X'
      refine ⟨t2, stp.trans s1, vx_MQ_mono s2 (fun _ _ _ _ q => ?_) (fun _ _ _ q => ?_)⟩
      · obtain ⟨ad2, g1, g2⟩ := q; exact ⟨ad2, gex_tr hle hex g1, g2⟩
      · obtain ⟨ad2, g1, g2⟩ := q; exact ⟨ad2, gex_tr hle hex g1, g2⟩
end GCA
section KCA
variable {G : kG} {d : Nat} {z : gy} {pc : Nat} {lv : List (Nat × gv)} {st : List gv} {x : gd} {q : kP} {P : Option gv → gd → kP → Prop} {X : String → gd → kP → Prop} {Q : gr → gd → gf → Prop}
def kce : ExceptionTableEntry := ⟨15, 38, 41, 102⟩
theorem kce_l : Cond.classLink RX11 102 iSE ∈ W0 := W0_in (tp_3 (List.mem_of_getElem? (i := 104) (by decide +kernel))) rfl
theorem KH_Vv {idx n c ci : Nat} {sl : List Bool} {F : gd → Prop} {y : gy} (As rest : List gv) (hst : st = As.reverse ++ vr c :: rest) (hd : decode y.2.1 pc = .ok (.invokevirtual idx, 3)) (hM : gMv y.1.cls idx z n) (hn : As.length = n) (hK : kK c = .inl (ci, sl)) (hcl : (vwCl[ci]?).map (fun r => r.1) = some z.1.cls) (hc : c ∈ (kf q).2.1) (hfit : gsz (vr c :: As) ≤ z.2.2.1) (hcat : gsz rest ≤ 8) (hok : gok (kf q).2.1 lv rest = true) (hy : ∀ z ∈ tableOf y.2.2.2.2, covers z pc = false)
    (k : KT G q d z 0 (glv 0 (vr c :: As)) [] x (rv F)) (kk : ∀ x1, F x1 → T (kE G) (d + 1) y (pc + 3) lv rest x1 (kf q) Q) : T (kE G) (d + 1) y pc lv st x (kf q) Q :=
  T_callV As rest d hst hd hM hn hK hcl hc (Nat.le_refl _) hfit hcat hok hy (T_mono k (fun o x' f' w => by obtain ⟨rfl, v, rfl, rfl, hr⟩ := w; exact kk x' hr))
theorem KH_Vi {idx n c ci : Nat} {sl : List Bool} {F : Int32 → gd → Prop} {y : gy} (As rest : List gv) (hst : st = As.reverse ++ vr c :: rest) (hd : decode y.2.1 pc = .ok (.invokevirtual idx, 3)) (hM : gMv y.1.cls idx z n) (hn : As.length = n) (hK : kK c = .inl (ci, sl)) (hcl : (vwCl[ci]?).map (fun r => r.1) = some z.1.cls) (hc : c ∈ (kf q).2.1) (hfit : gsz (vr c :: As) ≤ z.2.2.1) (hcat : gsz rest ≤ 8) (hok : gok (kf q).2.1 lv rest = true) (hy : ∀ z ∈ tableOf y.2.2.2.2, covers z pc = false)
    (k : KT G q d z 0 (glv 0 (vr c :: As)) [] x (ri F)) (kk : ∀ r x1, F r x1 → T (kE G) (d + 1) y (pc + 3) lv (vi r :: rest) x1 (kf q) Q) : T (kE G) (d + 1) y pc lv st x (kf q) Q :=
  T_callV As rest d hst hd hM hn hK hcl hc (Nat.le_refl _) hfit hcat hok hy (T_mono k (fun o x' f' w => by obtain ⟨rfl, v, rfl, r, rfl, hr⟩ := w; exact kk r x' hr))
theorem KJ_Vi {idx n c ci : Nat} {sl : List Bool} {F : Int32 → gd → Prop} (As rest : List gv) (hst : st = As.reverse ++ vr c :: rest) (hd : decode zk_X11_compile.2.1 pc = .ok (.invokevirtual idx, 3)) (hM : gMv RX11 idx z n) (hn : As.length = n) (hK : kK c = .inl (ci, sl)) (hcl : (vwCl[ci]?).map (fun r => r.1) = some z.1.cls) (hc : c ∈ (kf q).2.1) (hfit : gsz (vr c :: As) ≤ z.2.2.1) (hcat : gsz rest ≤ 8) (hok : gok (kf q).2.1 lv rest = true) (hz : z.2.2.2.2 = []) (hcov : covers kce pc = true) (h9 : gst1 3 lv = lv)
    (k : KT G q d z 0 (glv 0 (vr c :: As)) [] x (ri F)) (kk : ∀ r x1, F r x1 → KM G q (d + 1) zk_X11_compile (pc + 3) lv (vi r :: rest) x1 P X) : KM G q (d + 1) zk_X11_compile pc lv st x P X :=
  T_catchV (y := zk_X11_compile) As rest d hst hd hM hn hK hcl hc (Nat.le_refl _) hfit hcat hok hz kce rfl hcov (by decide) kce_l rfl (dk dtk_X11_compile 21 rfl) (by decide) h9 (T_mono k (fun o x' f' w => by obtain ⟨rfl, v, rfl, r, rfl, hr⟩ := w; exact kk r x' hr))
theorem KJ_cat {idx n c ci : Nat} {sl : List Bool} {F : gd → Prop} (As rest : List gv) (hst : st = As.reverse ++ vr c :: rest) (hd : decode zk_X11_compile.2.1 pc = .ok (.invokevirtual idx, 3)) (hM : gMv RX11 idx z n) (hn : As.length = n) (hK : kK c = .inl (ci, sl)) (hcl : (vwCl[ci]?).map (fun r => r.1) = some z.1.cls) (hc : c ∈ (kf q).2.1) (hfit : gsz (vr c :: As) ≤ z.2.2.1) (hcat : gsz rest ≤ 8) (hok : gok (kf q).2.1 lv rest = true) (hz : z.2.2.2.2 = []) (hcov : covers kce pc = true) (h9 : gst1 3 lv = lv)
    (k : KE G q d z 0 (glv 0 (vr c :: As)) [] x (rv F) (fun c9 x9 => c9 = iSE ∧ KM G (kTh q) (d + 1) zk_X11_compile 42 lv [] x9 P X)) (kk : ∀ x1, F x1 → KM G q (d + 1) zk_X11_compile (pc + 3) lv rest x1 P X) : KM G q (d + 1) zk_X11_compile pc lv st x P X :=
  T_catchV (y := zk_X11_compile) As rest d hst hd hM hn hK hcl hc (Nat.le_refl _) hfit hcat hok hz kce rfl hcov (by decide) kce_l rfl (dk dtk_X11_compile 21 rfl) (by decide) h9 (T_mono k (fun o x' f' w => by
    rcases w with ⟨rfl, v, rfl, rfl, hr⟩ | ⟨rfl, s, rfl, rfl, hk⟩
    · exact kk x' hr
    · exact ⟨rfl, hk⟩))
end KCA
end
section
set_option maxRecDepth 100000 in
set_option maxHeartbeats 4000000 in
theorem kg_X10_insertOutcome_0 {G : kG} {q : kP} {d : Nat} {x : gd} {P : Option gv → gd → kP → Prop} {X : String → gd → kP → Prop} (hu : kU q) {o : Nat} (ho : kiT q o) {a2 n2 : Nat} (ka2 : kK a2 = .inr (.int, n2)) (ma2 : a2 ∈ (kf q).2.1) (l1 : Int32) (l3 : Int32)
    (h : (((x.1 o 3) < (3000 : Int32) → vp_in (x.1 o 3) 3000 ∧ (∀ u3, u3 = (kf q).1 (o + 13) (x.1 o 3 : Int32).toNatClampNeg → ((u3 = none → (x.1 o 3 : Int32).toNatClampNeg = oM q o ∧ vp_in (x.1 o 3) 3000 ∧ (∀ q6 x7, q6 = kOr q o → x7 = znew x (oC q o) → kU q6 → kle q q6 → KM G q6 (d + 2) zk_X10_insertOutcome 36 [(0, vr o), (1, vi l1), (2, vr a2), (3, vi l3)] [] x7 P X)) ∧ (∀ c5, u3 = some c5 → KM G q (d + 2) zk_X10_insertOutcome 36 [(0, vr o), (1, vi l1), (2, vr a2), (3, vi l3)] [] x P X)))) ∧ (¬ ((x.1 o 3) < (3000 : Int32)) → P none x q))) :
    KM G q (d + 2) zk_X10_insertOutcome 0 [(0, vr o), (1, vi l1), (2, vr a2), (3, vi l3)] [] x P X := by
  have hq := hu.1
  refine T_aload_n 0 (dk dtk_X10_insertOutcome 0 rfl) rfl rfl ?_
  refine T_getI o 3 (dk dtk_X10_insertOutcome 1 rfl) kfl_X10_51 (kk_T0 ho) (kl_T0 hq ho) (by decide) rfl ?_
  refine T_sipush (v := 3000) (dk dtk_X10_insertOutcome 2 rfl) (by decide +kernel) ?_
  refine T_icmp_lt 11 (dk dtk_X10_insertOutcome 3 rfl) (by decide) (fun c1 => ?_) (fun c1 => ?_)
  · have h := h.1 c1
    refine T_aload_n 0 (dk dtk_X10_insertOutcome 5 rfl) rfl rfl ?_
    refine T_getR o 12 (o + 13) (dk dtk_X10_insertOutcome 6 rfl) kfl_X10_33 (kk_T0 ho) (kl_T0 hq ho) (by decide) rfl (kr_T_12 ho) ?_
    refine T_aload_n 0 (dk dtk_X10_insertOutcome 7 rfl) rfl rfl ?_
    refine T_getI o 3 (dk dtk_X10_insertOutcome 8 rfl) kfl_X10_51 (kk_T0 ho) (kl_T0 hq ho) (by decide) rfl ?_
    obtain ⟨h2, h⟩ := h
    obtain ⟨u3, eu3⟩ : ∃ z, z = (kf q).1 (o + 13) (x.1 o 3 : Int32).toNatClampNeg := ⟨_, rfl⟩
    have h := h u3 eu3
    refine T_aaldI (o + 13) 3000 (dk dtk_X10_insertOutcome 9 rfl) (kk_T13 ho) (kl_T13 hq ho) h2 ?_
    rw [← eu3]
    refine T_ifnonnull 36 (dk dtk_X10_insertOutcome 10 rfl) (by decide) (fun c5 c4 => ?_) (fun c4 => ?_)
    · have h := h.2 c5 c4
      exact h
    · have h := h.1 c4
      refine T_aload_n 0 (dk dtk_X10_insertOutcome 11 rfl) rfl rfl ?_
      refine T_getR o 12 (o + 13) (dk dtk_X10_insertOutcome 12 rfl) kfl_X10_33 (kk_T0 ho) (kl_T0 hq ho) (by decide) rfl (kr_T_12 ho) ?_
      refine T_aload_n 0 (dk dtk_X10_insertOutcome 13 rfl) rfl rfl ?_
      refine T_getI o 3 (dk dtk_X10_insertOutcome 14 rfl) kfl_X10_51 (kk_T0 ho) (kl_T0 hq ho) (by decide) rfl ?_
      refine T_bipush (v := 24) (dk dtk_X10_insertOutcome 15 rfl) (by decide +kernel) ?_
      obtain ⟨hi9, hin9, h⟩ := h
      obtain ⟨q6, eq6⟩ : ∃ z, z = kOr q o := ⟨_, rfl⟩
      obtain ⟨x7, ex7⟩ : ∃ z, z = znew x (oC q o) := ⟨_, rfl⟩
      have hu2 : kU q6 := by rw [eq6]; exact kOr_U hu ho (hi9 ▸ vp_lt hin9)
      have hle : kle q q6 := by rw [eq6]; exact kOr_le _ _
      have h := h q6 x7 eq6 ex7 hu2 hle
      refine T_orow (dk dtk_X10_insertOutcome 16 rfl) (dk dtk_X10_insertOutcome 17 rfl) hu ho hi9 hin9 (gok_i (av_c (gkr (kl_T0 hq ho)) (av_c rfl (av_c (gkr ma2) (av_c rfl av_n)))) as_n) ?_
      rw [← eq6, ← ex7]
      have hu := hu2
      have hq := hu.1
      have ho := kle_T hle ho
      have ma2 := hle.1 _ ma2
      exact h
  · have h := h.2 c1
    exact KM_vret (dk dtk_X10_insertOutcome 4 rfl) rfl h
set_option maxRecDepth 100000 in
set_option maxHeartbeats 4000000 in
theorem kg_X10_insertOutcome_36 {G : kG} {q : kP} {d : Nat} {x : gd} {P : Option gv → gd → kP → Prop} {X : String → gd → kP → Prop} (hu : kU q) {o : Nat} (ho : kiT q o) {a2 n2 : Nat} (ka2 : kK a2 = .inr (.int, n2)) (ma2 : a2 ∈ (kf q).2.1) (l1 : Int32) (l3 : Int32)
    (h : vp_in (x.1 o 3) 3000 ∧ (∀ u2, u2 = (kf q).1 (o + 13) (x.1 o 3 : Int32).toNatClampNeg → ∃ c3, u2 = some c3 ∧ kK c3 = .inr (.int, 24) ∧ c3 ∈ (kf q).2.1 ∧ ¬ (0 : Int32) < 0 ∧ ¬ (0 : Int32) < 0 ∧ ¬ l3 < 0 ∧ (0 : Int32).toNatClampNeg + (l3 : Int32).toNatClampNeg ≤ n2 ∧ (0 : Int32).toNatClampNeg + (l3 : Int32).toNatClampNeg ≤ 24 ∧ (∀ x11 : gd, x11 = scp x a2 c3 (0 : Int32).toNatClampNeg (0 : Int32).toNatClampNeg (l3 : Int32).toNatClampNeg → ¬ l1 < 0 ∧ ¬ (l1 + 1) < 0 ∧ ¬ ((x11.1 o 3) - l1) < 0 ∧ (l1 : Int32).toNatClampNeg + ((x11.1 o 3) - l1 : Int32).toNatClampNeg ≤ 3000 ∧ (l1 + 1 : Int32).toNatClampNeg + ((x11.1 o 3) - l1 : Int32).toNatClampNeg ≤ 3000 ∧ (∀ x17 : gd, x17 = scp x11 (o + 14) (o + 14) (l1 : Int32).toNatClampNeg (l1 + 1 : Int32).toNatClampNeg ((x11.1 o 3) - l1 : Int32).toNatClampNeg → vp_in l1 3000 ∧ (∀ x19 : gd, x19 = si x17 (o + 14) (l1 : Int32).toNatClampNeg (x17.1 o 3) → (∀ x20 : gd, x20 = si x19 o 3 ((x19.1 o 3) + 1) → P none x20 q)))))) :
    KM G q (d + 2) zk_X10_insertOutcome 36 [(0, vr o), (1, vi l1), (2, vr a2), (3, vi l3)] [] x P X := by
  have hq := hu.1
  refine T_aload_n 2 (dk dtk_X10_insertOutcome 18 rfl) rfl rfl ?_
  refine T_iconst (v := 0) (dk dtk_X10_insertOutcome 19 rfl) (by decide +kernel) ?_
  refine T_aload_n 0 (dk dtk_X10_insertOutcome 20 rfl) rfl rfl ?_
  refine T_getR o 12 (o + 13) (dk dtk_X10_insertOutcome 21 rfl) kfl_X10_33 (kk_T0 ho) (kl_T0 hq ho) (by decide) rfl (kr_T_12 ho) ?_
  refine T_aload_n 0 (dk dtk_X10_insertOutcome 22 rfl) rfl rfl ?_
  refine T_getI o 3 (dk dtk_X10_insertOutcome 23 rfl) kfl_X10_51 (kk_T0 ho) (kl_T0 hq ho) (by decide) rfl ?_
  obtain ⟨h1, h⟩ := h
  obtain ⟨u2, eu2⟩ : ∃ z, z = (kf q).1 (o + 13) (x.1 o 3 : Int32).toNatClampNeg := ⟨_, rfl⟩
  have h := h u2 eu2
  refine T_aaldI (o + 13) 3000 (dk dtk_X10_insertOutcome 24 rfl) (kk_T13 ho) (kl_T13 hq ho) h1 ?_
  rw [← eu2]
  refine T_iconst (v := 0) (dk dtk_X10_insertOutcome 25 rfl) (by decide +kernel) ?_
  refine T_iload_n 3 (dk dtk_X10_insertOutcome 26 rfl) rfl rfl ?_
  obtain ⟨c3, rfl, g4, g5, h⟩ := h
  refine T_sub (lv2 := [(0, vr o), (1, vi l1)]) [0, 1] rfl ?_
  obtain ⟨h6, h7, h8, h9, h10, h⟩ := h
  obtain ⟨x11, ex11⟩ : ∃ z, z = scp x a2 c3 (0 : Int32).toNatClampNeg (0 : Int32).toNatClampNeg (l3 : Int32).toNatClampNeg := ⟨_, rfl⟩
  have h := h x11 ex11
  refine T_copy a2 c3 n2 24 (dk dtk_X10_insertOutcome 27 rfl) kcy_X10_78 ka2 ma2 g4 g5 (by omega) (Nat.le_of_ble_eq_true rfl) h6 h7 h8 h9 h10 ?_
  rw [← ex11]
  refine T_aload_n 0 (dk dtk_X10_insertOutcome 28 rfl) rfl rfl ?_
  refine T_getR o 13 (o + 14) (dk dtk_X10_insertOutcome 29 rfl) kfl_X10_37 (kk_T0 ho) (kl_T0 hq ho) (by decide) rfl (kr_T_13 ho) ?_
  refine T_iload_n 1 (dk dtk_X10_insertOutcome 30 rfl) rfl rfl ?_
  refine T_aload_n 0 (dk dtk_X10_insertOutcome 31 rfl) rfl rfl ?_
  refine T_getR o 13 (o + 14) (dk dtk_X10_insertOutcome 32 rfl) kfl_X10_37 (kk_T0 ho) (kl_T0 hq ho) (by decide) rfl (kr_T_13 ho) ?_
  refine T_iload_n 1 (dk dtk_X10_insertOutcome 33 rfl) rfl rfl ?_
  refine T_iconst (v := 1) (dk dtk_X10_insertOutcome 34 rfl) (by decide +kernel) ?_
  refine T_iadd (dk dtk_X10_insertOutcome 35 rfl) ?_
  refine T_aload_n 0 (dk dtk_X10_insertOutcome 36 rfl) rfl rfl ?_
  refine T_getI o 3 (dk dtk_X10_insertOutcome 37 rfl) kfl_X10_51 (kk_T0 ho) (kl_T0 hq ho) (by decide) rfl ?_
  refine T_iload_n 1 (dk dtk_X10_insertOutcome 38 rfl) rfl rfl ?_
  refine T_isub (dk dtk_X10_insertOutcome 39 rfl) ?_
  obtain ⟨h12, h13, h14, h15, h16, h⟩ := h
  obtain ⟨x17, ex17⟩ : ∃ z, z = scp x11 (o + 14) (o + 14) (l1 : Int32).toNatClampNeg (l1 + 1 : Int32).toNatClampNeg ((x11.1 o 3) - l1 : Int32).toNatClampNeg := ⟨_, rfl⟩
  have h := h x17 ex17
  refine T_copy (o + 14) (o + 14) 3000 3000 (dk dtk_X10_insertOutcome 40 rfl) kcy_X10_78 (kk_T14 ho) (kl_T14 hq ho) (kk_T14 ho) (kl_T14 hq ho) (by omega) (Nat.le_of_ble_eq_true rfl) h12 h13 h14 h15 h16 ?_
  rw [← ex17]
  refine T_aload_n 0 (dk dtk_X10_insertOutcome 41 rfl) rfl rfl ?_
  refine T_getR o 13 (o + 14) (dk dtk_X10_insertOutcome 42 rfl) kfl_X10_37 (kk_T0 ho) (kl_T0 hq ho) (by decide) rfl (kr_T_13 ho) ?_
  refine T_iload_n 1 (dk dtk_X10_insertOutcome 43 rfl) rfl rfl ?_
  refine T_aload_n 0 (dk dtk_X10_insertOutcome 44 rfl) rfl rfl ?_
  refine T_getI o 3 (dk dtk_X10_insertOutcome 45 rfl) kfl_X10_51 (kk_T0 ho) (kl_T0 hq ho) (by decide) rfl ?_
  obtain ⟨h18, h⟩ := h
  obtain ⟨x19, ex19⟩ : ∃ z, z = si x17 (o + 14) (l1 : Int32).toNatClampNeg (x17.1 o 3) := ⟨_, rfl⟩
  have h := h x19 ex19
  refine T_iast (o + 14) 3000 (dk dtk_X10_insertOutcome 46 rfl) (kk_T14 ho) (kl_T14 hq ho) h18 ?_
  rw [← ex19]
  refine T_aload_n 0 (dk dtk_X10_insertOutcome 47 rfl) rfl rfl ?_
  refine T_dup (dk dtk_X10_insertOutcome 48 rfl) rfl ?_
  refine T_getI o 3 (dk dtk_X10_insertOutcome 49 rfl) kfl_X10_51 (kk_T0 ho) (kl_T0 hq ho) (by decide) rfl ?_
  refine T_iconst (v := 1) (dk dtk_X10_insertOutcome 50 rfl) (by decide +kernel) ?_
  refine T_iadd (dk dtk_X10_insertOutcome 51 rfl) ?_
  obtain ⟨x20, ex20⟩ : ∃ z, z = si x19 o 3 ((x19.1 o 3) + 1) := ⟨_, rfl⟩
  have h := h x20 ex20
  refine T_putI o 3 (dk dtk_X10_insertOutcome 52 rfl) kfl_X10_51 (kk_T0 ho) (kl_T0 hq ho) (by decide) rfl ⟨rfl, rfl⟩ ?_
  rw [← ex20]
  exact KM_vret (dk dtk_X10_insertOutcome 53 rfl) rfl h
set_option maxRecDepth 100000 in
set_option maxHeartbeats 4000000 in
theorem kg_X10_addOutcome_0 {G : kG} {q : kP} {d : Nat} {x : gd} {P : Option gv → gd → kP → Prop} {X : String → gd → kP → Prop} (hu : kU q) {o : Nat} (ho : kiT q o) {a1 n1 : Nat} (ka1 : kK a1 = .inr (.int, n1)) (ma1 : a1 ∈ (kf q).2.1) (l2 : Int32)
    (h : KM G q (d + 1) zk_X10_addOutcome 11 [(0, vr o), (1, vr a1), (2, vi l2), (3, vi 0), (4, vi (x.1 o 3)), (5, vi 0)] [] x P X) :
    KM G q (d + 1) zk_X10_addOutcome 0 [(0, vr o), (1, vr a1), (2, vi l2)] [] x P X := by
  have hq := hu.1
  refine T_iconst (v := 0) (dk dtk_X10_addOutcome 0 rfl) (by decide +kernel) ?_
  refine T_istore_n (lv2 := [(3, vi 0), (0, vr o), (1, vr a1), (2, vi l2)]) (dk dtk_X10_addOutcome 1 rfl) rfl (by decide) rfl ?_
  refine T_aload_n 1 (dk dtk_X10_addOutcome 2 rfl) rfl rfl ?_
  refine T_getI o 3 (dk dtk_X10_addOutcome 3 rfl) kfl_X10_51 (kk_T0 ho) (kl_T0 hq ho) (by decide) rfl ?_
  refine T_istore (lv2 := [(4, vi (x.1 o 3)), (3, vi 0), (0, vr o), (1, vr a1), (2, vi l2)]) (dk dtk_X10_addOutcome 4 rfl) (by decide) rfl ?_
  refine T_iconst (v := 0) (dk dtk_X10_addOutcome 5 rfl) (by decide +kernel) ?_
  refine T_istore (lv2 := [(5, vi 0), (4, vi (x.1 o 3)), (3, vi 0), (0, vr o), (1, vr a1), (2, vi l2)]) (dk dtk_X10_addOutcome 6 rfl) (by decide) rfl ?_
  exact T_sub [3, 4, 5, 2, 1, 0] rfl h
set_option maxRecDepth 100000 in
set_option maxHeartbeats 4000000 in
theorem kg_X10_addOutcome_11 {G : kG} {q : kP} {d : Nat} {x : gd} {P : Option gv → gd → kP → Prop} {X : String → gd → kP → Prop} (hu : kU q) {o : Nat} (ho : kiT q o) {a1 n1 : Nat} (ka1 : kK a1 = .inr (.int, n1)) (ma1 : a1 ∈ (kf q).2.1) (l2 : Int32) (l3 : Int32) (l4 : Int32) (l5 : Int32)
    (h : (((3000 : Int32) ≤ l5 → KM G q (d + 1) zk_X10_addOutcome 81 [(0, vr o), (1, vr a1), (2, vi l2), (3, vi l3)] [] x P X) ∧ (¬ ((3000 : Int32) ≤ l5) → ((l4 ≤ l3 → KM G q (d + 1) zk_X10_addOutcome 81 [(0, vr o), (1, vr a1), (2, vi l2), (3, vi l3)] [] x P X) ∧ (¬ (l4 ≤ l3) → ¬ (2 : Int32) = 0 ∧ vp_in ((l3 + l4) / 2) 3000 ∧ vp_in (x.1 (o + 14) ((l3 + l4) / 2 : Int32).toNatClampNeg) 3000 ∧ (∀ u6, u6 = (kf q).1 (o + 13) (x.1 (o + 14) ((l3 + l4) / 2 : Int32).toNatClampNeg : Int32).toNatClampNeg → ∃ c7, u6 = some c7 ∧ kK c7 = .inr (.int, 24) ∧ c7 ∈ (kf q).2.1 ∧ KT G q d zk_X10_order 0 [(0, vr c7), (1, vr a1), (2, vi l2)] [] x (ri (fun r11 x10 => ((¬ (r11 = (0 : Int32)) → (((0 : Int32) ≤ r11 → KM G q (d + 1) zk_X10_addOutcome 11 [(0, vr o), (1, vr a1), (2, vi l2), (3, vi l3), (4, vi ((l3 + l4) / 2)), (5, vi (l5 + 1))] [] x10 P X) ∧ (¬ ((0 : Int32) ≤ r11) → KM G q (d + 1) zk_X10_addOutcome 11 [(0, vr o), (1, vr a1), (2, vi l2), (3, vi (((l3 + l4) / 2) + 1)), (4, vi l4), (5, vi (l5 + 1))] [] x10 P X))) ∧ (r11 = (0 : Int32) → P none x10 q)))))))))) :
    KM G q (d + 1) zk_X10_addOutcome 11 [(0, vr o), (1, vr a1), (2, vi l2), (3, vi l3), (4, vi l4), (5, vi l5)] [] x P X := by
  have hq := hu.1
  refine T_iload 5 (dk dtk_X10_addOutcome 7 rfl) rfl ?_
  refine T_sipush (v := 3000) (dk dtk_X10_addOutcome 8 rfl) (by decide +kernel) ?_
  refine T_icmp_ge 81 (dk dtk_X10_addOutcome 9 rfl) (by decide) (fun c1 => ?_) (fun c1 => ?_)
  · have h := h.1 c1
    exact T_sub [0, 1, 2, 3] rfl h
  · have h := h.2 c1
    refine T_iload_n 3 (dk dtk_X10_addOutcome 10 rfl) rfl rfl ?_
    refine T_iload 4 (dk dtk_X10_addOutcome 11 rfl) rfl ?_
    refine T_icmp_ge 81 (dk dtk_X10_addOutcome 12 rfl) (by decide) (fun c2 => ?_) (fun c2 => ?_)
    · have h := h.1 c2
      exact T_sub [0, 1, 2, 3] rfl h
    · have h := h.2 c2
      refine T_iload_n 3 (dk dtk_X10_addOutcome 13 rfl) rfl rfl ?_
      refine T_iload 4 (dk dtk_X10_addOutcome 14 rfl) rfl ?_
      refine T_iadd (dk dtk_X10_addOutcome 15 rfl) ?_
      refine T_iconst (v := 2) (dk dtk_X10_addOutcome 16 rfl) (by decide +kernel) ?_
      obtain ⟨h3, h⟩ := h
      refine T_idiv (dk dtk_X10_addOutcome 17 rfl) h3 ?_
      refine T_istore (lv2 := [(6, vi ((l3 + l4) / 2)), (0, vr o), (1, vr a1), (2, vi l2), (3, vi l3), (4, vi l4), (5, vi l5)]) (dk dtk_X10_addOutcome 18 rfl) (by decide) rfl ?_
      refine T_aload_n 1 (dk dtk_X10_addOutcome 19 rfl) rfl rfl ?_
      refine T_getR o 12 (o + 13) (dk dtk_X10_addOutcome 20 rfl) kfl_X10_33 (kk_T0 ho) (kl_T0 hq ho) (by decide) rfl (kr_T_12 ho) ?_
      refine T_aload_n 1 (dk dtk_X10_addOutcome 21 rfl) rfl rfl ?_
      refine T_getR o 13 (o + 14) (dk dtk_X10_addOutcome 22 rfl) kfl_X10_37 (kk_T0 ho) (kl_T0 hq ho) (by decide) rfl (kr_T_13 ho) ?_
      refine T_iload 0 (dk dtk_X10_addOutcome 23 rfl) rfl ?_
      obtain ⟨h4, h⟩ := h
      refine T_iald (o + 14) 3000 (dk dtk_X10_addOutcome 24 rfl) (kk_T14 ho) (kl_T14 hq ho) h4 ?_
      obtain ⟨h5, h⟩ := h
      obtain ⟨u6, eu6⟩ : ∃ z, z = (kf q).1 (o + 13) (x.1 (o + 14) ((l3 + l4) / 2 : Int32).toNatClampNeg : Int32).toNatClampNeg := ⟨_, rfl⟩
      have h := h u6 eu6
      refine T_aaldI (o + 13) 3000 (dk dtk_X10_addOutcome 25 rfl) (kk_T13 ho) (kl_T13 hq ho) h5 ?_
      rw [← eu6]
      refine T_aload_n 2 (dk dtk_X10_addOutcome 26 rfl) rfl rfl ?_
      refine T_iload_n 3 (dk dtk_X10_addOutcome 27 rfl) rfl rfl ?_
      obtain ⟨c7, rfl, g8, g9, h⟩ := h
      refine KC_Si [vr c7, vr a1, vi l2] [] rfl (dk dtk_X10_addOutcome 28 rfl) kcs_X10_70 rfl (Nat.le_of_ble_eq_true rfl) (Nat.le_of_ble_eq_true rfl) (gok_i (av_c rfl (av_c (gkr (kl_T0 hq ho)) (av_c (gkr ma1) (av_c rfl (av_c rfl (av_c rfl (av_c rfl av_n))))))) as_n) rfl h (fun r11 x10 h => ?_)
      refine T_istore (lv2 := [(7, vi r11), (6, vi ((l3 + l4) / 2)), (0, vr o), (1, vr a1), (2, vi l2), (3, vi l3), (4, vi l4), (5, vi l5)]) (dk dtk_X10_addOutcome 29 rfl) (by decide) rfl ?_
      refine T_iload 0 (dk dtk_X10_addOutcome 30 rfl) rfl ?_
      refine T_if_ne 58 (dk dtk_X10_addOutcome 31 rfl) (by decide) (fun c12 => ?_) (fun c12 => ?_)
      · have h := h.1 c12
        refine T_iload 0 (dk dtk_X10_addOutcome 33 rfl) rfl ?_
        refine T_if_ge 71 (dk dtk_X10_addOutcome 34 rfl) (by decide) (fun c13 => ?_) (fun c13 => ?_)
        · have h := h.1 c13
          refine T_iload 1 (dk dtk_X10_addOutcome 40 rfl) rfl ?_
          refine T_istore (lv2 := [(4, vi ((l3 + l4) / 2)), (7, vi r11), (6, vi ((l3 + l4) / 2)), (0, vr o), (1, vr a1), (2, vi l2), (3, vi l3), (5, vi l5)]) (dk dtk_X10_addOutcome 41 rfl) (by decide) rfl ?_
          refine T_iinc (v := l5 + 1) (lv2 := [(5, vi (l5 + 1)), (4, vi ((l3 + l4) / 2)), (7, vi r11), (6, vi ((l3 + l4) / 2)), (0, vr o), (1, vr a1), (2, vi l2), (3, vi l3)]) 7 (dk dtk_X10_addOutcome 42 rfl) rfl rfl (by decide) rfl ?_
          refine T_goto 11 (dk dtk_X10_addOutcome 43 rfl) (by decide) ?_
          exact T_sub [4, 5, 6, 7, 1, 0] rfl h
        · have h := h.2 c13
          refine T_iload 1 (dk dtk_X10_addOutcome 35 rfl) rfl ?_
          refine T_iconst (v := 1) (dk dtk_X10_addOutcome 36 rfl) (by decide +kernel) ?_
          refine T_iadd (dk dtk_X10_addOutcome 37 rfl) ?_
          refine T_istore_n (lv2 := [(3, vi (((l3 + l4) / 2) + 1)), (7, vi r11), (6, vi ((l3 + l4) / 2)), (0, vr o), (1, vr a1), (2, vi l2), (4, vi l4), (5, vi l5)]) (dk dtk_X10_addOutcome 38 rfl) rfl (by decide) rfl ?_
          refine T_goto 75 (dk dtk_X10_addOutcome 39 rfl) (by decide) ?_
          refine T_iinc (v := l5 + 1) (lv2 := [(5, vi (l5 + 1)), (3, vi (((l3 + l4) / 2) + 1)), (7, vi r11), (6, vi ((l3 + l4) / 2)), (0, vr o), (1, vr a1), (2, vi l2), (4, vi l4)]) 7 (dk dtk_X10_addOutcome 42 rfl) rfl rfl (by decide) rfl ?_
          refine T_goto 11 (dk dtk_X10_addOutcome 43 rfl) (by decide) ?_
          exact T_sub [4, 5, 6, 1, 7, 0] rfl h
      · have h := h.2 c12
        exact KM_vret (dk dtk_X10_addOutcome 32 rfl) rfl h
set_option maxRecDepth 100000 in
set_option maxHeartbeats 4000000 in
theorem kg_X10_addOutcome_81 {G : kG} {q : kP} {d : Nat} {x : gd} {P : Option gv → gd → kP → Prop} {X : String → gd → kP → Prop} (hu : kU q) {o : Nat} (ho : kiT q o) {a1 n1 : Nat} (ka1 : kK a1 = .inr (.int, n1)) (ma1 : a1 ∈ (kf q).2.1) (l2 : Int32) (l3 : Int32)
    (h : KM G q d zk_X10_insertOutcome 0 [(0, vr o), (1, vi l3), (2, vr a1), (3, vi l2)] [] x (rm q (fun x1 q2 => P none x1 q2)) X) :
    KM G q (d + 1) zk_X10_addOutcome 81 [(0, vr o), (1, vr a1), (2, vi l2), (3, vi l3)] [] x P X := by
  have hq := hu.1
  refine T_aload_n 0 (dk dtk_X10_addOutcome 44 rfl) rfl rfl ?_
  refine T_iload_n 3 (dk dtk_X10_addOutcome 45 rfl) rfl rfl ?_
  refine T_aload_n 1 (dk dtk_X10_addOutcome 46 rfl) rfl rfl ?_
  refine T_iload_n 2 (dk dtk_X10_addOutcome 47 rfl) rfl rfl ?_
  refine T_sub (lv2 := []) [] rfl ?_
  refine KM_Vv [vi l3, vr a1, vi l2] [] rfl (dk dtk_X10_addOutcome 48 rfl) kcv_X10_74 rfl (kk_T0 ho) rfl (kl_T0 hq ho) (Nat.le_of_ble_eq_true rfl) (Nat.le_of_ble_eq_true rfl) (gok_i av_n as_n) rfl h (fun x1 q2 hu hle h => ?_)
  have hq := hu.1
  have ho := kle_T hle ho
  have ma1 := hle.1 _ ma1
  exact KM_vret (dk dtk_X10_addOutcome 49 rfl) rfl h
set_option maxRecDepth 100000 in
set_option maxHeartbeats 4000000 in
theorem kg_X2_keep_0 {G : kG} {q : kP} {d : Nat} {x : gd} {P : Option gv → gd → kP → Prop} {X : String → gd → kP → Prop} (hu : kU q) (he : q.ex = true) (l1 : Int32) (l2 : Int32)
    (h : (∀ u1, u1 = (kf q).1 200 7 → ∃ c2, u1 = some c2 ∧ kiT q c2 ∧ (((x.1 c2 0) < (3000 : Int32) → vp_in (x.1 c2 0) 3000 ∧ (∀ u6, u6 = (kf q).1 203 (x.1 c2 0 : Int32).toNatClampNeg → ((u6 = none → (x.1 c2 0 : Int32).toNatClampNeg = q.kn ∧ vp_in (x.1 c2 0) 3000 ∧ (∀ q9 x10, q9 = kKn q → x10 = znew x (1000 + q.kn) → kU q9 → kle q q9 → KM G q9 (d + 2) zk_X2_keep 36 [(0, vr 200), (1, vi l1), (2, vi l2), (3, vi (x.1 c2 0))] [] x10 P X)) ∧ (∀ c8, u6 = some c8 → KM G q (d + 2) zk_X2_keep 36 [(0, vr 200), (1, vi l1), (2, vi l2), (3, vi (x.1 c2 0))] [] x P X)))) ∧ (¬ ((x.1 c2 0) < (3000 : Int32)) → P none x q)))) :
    KM G q (d + 2) zk_X2_keep 0 [(0, vr 200), (1, vi l1), (2, vi l2)] [] x P X := by
  have hq := hu.1
  refine T_aload_n 0 (dk dtk_X2_keep 0 rfl) rfl rfl ?_
  obtain ⟨u1, eu1⟩ : ∃ z, z = (kf q).1 200 7 := ⟨_, rfl⟩
  have h := h u1 eu1
  refine T_getO 200 7 (dk dtk_X2_keep 1 rfl) kfl_X2_44 kk_200 (kl_200 hq he) (by decide) rfl ?_
  rw [← eu1]
  obtain ⟨c2, rfl, g3, h⟩ := h
  refine T_getI c2 0 (dk dtk_X2_keep 2 rfl) kfl_X2_73 (kk_T0 g3) (kl_T0 hq g3) (by decide) rfl ?_
  refine T_istore_n (lv2 := [(3, vi (x.1 c2 0)), (0, vr 200), (1, vi l1), (2, vi l2)]) (dk dtk_X2_keep 3 rfl) rfl (by decide) rfl ?_
  refine T_iload_n 0 (dk dtk_X2_keep 4 rfl) rfl rfl ?_
  refine T_sipush (v := 3000) (dk dtk_X2_keep 5 rfl) (by decide +kernel) ?_
  refine T_icmp_lt 16 (dk dtk_X2_keep 6 rfl) (by decide) (fun c4 => ?_) (fun c4 => ?_)
  · have h := h.1 c4
    refine T_aload_n 1 (dk dtk_X2_keep 8 rfl) rfl rfl ?_
    refine T_getR 200 2 203 (dk dtk_X2_keep 9 rfl) kfl_X2_26 kk_200 (kl_200 hq he) (by decide) rfl kr_200_2 ?_
    refine T_iload_n 0 (dk dtk_X2_keep 10 rfl) rfl rfl ?_
    obtain ⟨h5, h⟩ := h
    obtain ⟨u6, eu6⟩ : ∃ z, z = (kf q).1 203 (x.1 c2 0 : Int32).toNatClampNeg := ⟨_, rfl⟩
    have h := h u6 eu6
    refine T_aaldI 203 3000 (dk dtk_X2_keep 11 rfl) kk_203 (kl_203 hq he) h5 ?_
    rw [← eu6]
    refine T_ifnonnull 36 (dk dtk_X2_keep 12 rfl) (by decide) (fun c8 c7 => ?_) (fun c7 => ?_)
    · have h := h.2 c8 c7
      exact T_sub [1, 2, 3, 0] rfl h
    · have h := h.1 c7
      refine T_aload_n 1 (dk dtk_X2_keep 13 rfl) rfl rfl ?_
      refine T_getR 200 2 203 (dk dtk_X2_keep 14 rfl) kfl_X2_26 kk_200 (kl_200 hq he) (by decide) rfl kr_200_2 ?_
      refine T_iload_n 0 (dk dtk_X2_keep 15 rfl) rfl rfl ?_
      refine T_sipush (v := 228) (dk dtk_X2_keep 16 rfl) (by decide +kernel) ?_
      obtain ⟨hi9, hin9, h⟩ := h
      obtain ⟨q9, eq9⟩ : ∃ z, z = kKn q := ⟨_, rfl⟩
      obtain ⟨x10, ex10⟩ : ∃ z, z = znew x (1000 + q.kn) := ⟨_, rfl⟩
      have hu2 : kU q9 := by rw [eq9]; exact kKn_U hu he (hi9 ▸ vp_lt hin9)
      have hle : kle q q9 := by rw [eq9]; exact kKn_le _
      have h := h q9 x10 eq9 ex10 hu2 hle
      refine T_krow (dk dtk_X2_keep 17 rfl) (dk dtk_X2_keep 18 rfl) hu he hi9 hin9 (gok_i (av_c rfl (av_c (gkr (kl_200 hq he)) (av_c rfl (av_c rfl av_n)))) as_n) ?_
      rw [← eq9, ← ex10]
      have hu := hu2
      have hq := hu.1
      have g3 := kle_T hle g3
      have he := hle.2.1.2.1 he
      exact T_sub [1, 2, 3, 0] rfl h
  · have h := h.2 c4
    exact KM_vret (dk dtk_X2_keep 7 rfl) rfl h
set_option maxRecDepth 100000 in
set_option maxHeartbeats 4000000 in
theorem kg_X2_keep_36 {G : kG} {q : kP} {d : Nat} {x : gd} {P : Option gv → gd → kP → Prop} {X : String → gd → kP → Prop} (hu : kU q) (he : q.ex = true) (l1 : Int32) (l2 : Int32) (l3 : Int32)
    (h : vp_in l3 3000 ∧ (∀ u2, u2 = (kf q).1 203 (l3 : Int32).toNatClampNeg → ∃ c3, u2 = some c3 ∧ kK c3 = .inr (.int, 228) ∧ c3 ∈ (kf q).2.1 ∧ ¬ (0 : Int32) < 0 ∧ ¬ (0 : Int32) < 0 ∧ ¬ (x.1 220 5) < 0 ∧ (0 : Int32).toNatClampNeg + (x.1 220 5 : Int32).toNatClampNeg ≤ 228 ∧ (0 : Int32).toNatClampNeg + (x.1 220 5 : Int32).toNatClampNeg ≤ 228 ∧ (∀ x11 : gd, x11 = scp x 225 c3 (0 : Int32).toNatClampNeg (0 : Int32).toNatClampNeg (x.1 220 5 : Int32).toNatClampNeg → vp_in l3 3000 ∧ (∀ x13 : gd, x13 = si x11 204 (l3 : Int32).toNatClampNeg (x11.1 200 6) → vp_in (x13.1 200 5) 8192 ∧ (∀ x15 : gd, x15 = si x13 205 (x13.1 200 5 : Int32).toNatClampNeg (l3 + 1) → (∀ u16, u16 = (kf q).1 200 7 → ∃ c17, u16 = some c17 ∧ kiT q c17 ∧ KT G q (d + 1) zk_X10_addState 0 [(0, vr c17), (1, vi l1), (2, vi l2)] [] x15 (rv (fun x19 => P none x19 q)))))))) :
    KM G q (d + 2) zk_X2_keep 36 [(0, vr 200), (1, vi l1), (2, vi l2), (3, vi l3)] [] x P X := by
  have hq := hu.1
  refine T_aload_n 0 (dk dtk_X2_keep 19 rfl) rfl rfl ?_
  refine T_getR 200 1 220 (dk dtk_X2_keep 20 rfl) kfl_X2_20 kk_200 (kl_200 hq he) (by decide) rfl kr_200_1 ?_
  refine T_getR 220 4 225 (dk dtk_X2_keep 21 rfl) kfl_X2_106 kk_220 (kl_220 hq he) (by decide) rfl kr_220_4 ?_
  refine T_iconst (v := 0) (dk dtk_X2_keep 22 rfl) (by decide +kernel) ?_
  refine T_aload_n 0 (dk dtk_X2_keep 23 rfl) rfl rfl ?_
  refine T_getR 200 2 203 (dk dtk_X2_keep 24 rfl) kfl_X2_26 kk_200 (kl_200 hq he) (by decide) rfl kr_200_2 ?_
  refine T_iload_n 3 (dk dtk_X2_keep 25 rfl) rfl rfl ?_
  obtain ⟨h1, h⟩ := h
  obtain ⟨u2, eu2⟩ : ∃ z, z = (kf q).1 203 (l3 : Int32).toNatClampNeg := ⟨_, rfl⟩
  have h := h u2 eu2
  refine T_aaldI 203 3000 (dk dtk_X2_keep 26 rfl) kk_203 (kl_203 hq he) h1 ?_
  rw [← eu2]
  refine T_iconst (v := 0) (dk dtk_X2_keep 27 rfl) (by decide +kernel) ?_
  refine T_aload_n 0 (dk dtk_X2_keep 28 rfl) rfl rfl ?_
  refine T_getR 200 1 220 (dk dtk_X2_keep 29 rfl) kfl_X2_20 kk_200 (kl_200 hq he) (by decide) rfl kr_200_1 ?_
  refine T_getI 220 5 (dk dtk_X2_keep 30 rfl) kfl_X2_109 kk_220 (kl_220 hq he) (by decide) rfl ?_
  obtain ⟨c3, rfl, g4, g5, h⟩ := h
  obtain ⟨h6, h7, h8, h9, h10, h⟩ := h
  obtain ⟨x11, ex11⟩ : ∃ z, z = scp x 225 c3 (0 : Int32).toNatClampNeg (0 : Int32).toNatClampNeg (x.1 220 5 : Int32).toNatClampNeg := ⟨_, rfl⟩
  have h := h x11 ex11
  refine T_copy 225 c3 228 228 (dk dtk_X2_keep 31 rfl) kcy_X2_112 kk_225 (kl_225 hq he) g4 g5 (by omega) (Nat.le_of_ble_eq_true rfl) h6 h7 h8 h9 h10 ?_
  rw [← ex11]
  refine T_aload_n 0 (dk dtk_X2_keep 32 rfl) rfl rfl ?_
  refine T_getR 200 3 204 (dk dtk_X2_keep 33 rfl) kfl_X2_30 kk_200 (kl_200 hq he) (by decide) rfl kr_200_3 ?_
  refine T_iload_n 3 (dk dtk_X2_keep 34 rfl) rfl rfl ?_
  refine T_aload_n 0 (dk dtk_X2_keep 35 rfl) rfl rfl ?_
  refine T_getI 200 6 (dk dtk_X2_keep 36 rfl) kfl_X2_122 kk_200 (kl_200 hq he) (by decide) rfl ?_
  obtain ⟨h12, h⟩ := h
  obtain ⟨x13, ex13⟩ : ∃ z, z = si x11 204 (l3 : Int32).toNatClampNeg (x11.1 200 6) := ⟨_, rfl⟩
  have h := h x13 ex13
  refine T_iast 204 3000 (dk dtk_X2_keep 37 rfl) kk_204 (kl_204 hq he) h12 ?_
  rw [← ex13]
  refine T_aload_n 0 (dk dtk_X2_keep 38 rfl) rfl rfl ?_
  refine T_getR 200 4 205 (dk dtk_X2_keep 39 rfl) kfl_X2_33 kk_200 (kl_200 hq he) (by decide) rfl kr_200_4 ?_
  refine T_aload_n 0 (dk dtk_X2_keep 40 rfl) rfl rfl ?_
  refine T_getI 200 5 (dk dtk_X2_keep 41 rfl) kfl_X2_124 kk_200 (kl_200 hq he) (by decide) rfl ?_
  refine T_iload_n 3 (dk dtk_X2_keep 42 rfl) rfl rfl ?_
  refine T_iconst (v := 1) (dk dtk_X2_keep 43 rfl) (by decide +kernel) ?_
  refine T_iadd (dk dtk_X2_keep 44 rfl) ?_
  obtain ⟨h14, h⟩ := h
  obtain ⟨x15, ex15⟩ : ∃ z, z = si x13 205 (x13.1 200 5 : Int32).toNatClampNeg (l3 + 1) := ⟨_, rfl⟩
  have h := h x15 ex15
  refine T_iast 205 8192 (dk dtk_X2_keep 45 rfl) kk_205 (kl_205 hq he) h14 ?_
  rw [← ex15]
  refine T_aload_n 0 (dk dtk_X2_keep 46 rfl) rfl rfl ?_
  obtain ⟨u16, eu16⟩ : ∃ z, z = (kf q).1 200 7 := ⟨_, rfl⟩
  have h := h u16 eu16
  refine T_getO 200 7 (dk dtk_X2_keep 47 rfl) kfl_X2_44 kk_200 (kl_200 hq he) (by decide) rfl ?_
  rw [← eu16]
  refine T_iload_n 1 (dk dtk_X2_keep 48 rfl) rfl rfl ?_
  refine T_iload_n 2 (dk dtk_X2_keep 49 rfl) rfl rfl ?_
  obtain ⟨c17, rfl, g18, h⟩ := h
  refine T_sub (lv2 := []) [] rfl ?_
  refine KC_Vv [vi l1, vi l2] [] rfl (dk dtk_X2_keep 50 rfl) kcv_X2_131 rfl (kk_T0 g18) rfl (kl_T0 hq g18) (Nat.le_of_ble_eq_true rfl) (Nat.le_of_ble_eq_true rfl) (gok_i av_n as_n) rfl h (fun x19 h => ?_)
  exact KM_vret (dk dtk_X2_keep 51 rfl) rfl h
set_option maxRecDepth 100000 in
set_option maxHeartbeats 4000000 in
theorem kg_X2_addState_0 {G : kG} {q : kP} {d : Nat} {x : gd} {P : Option gv → gd → kP → Prop} {X : String → gd → kP → Prop} (hu : kU q) (he : q.ex = true) (l1 : Int32) (l2 : Int32) (l3 : Int32)
    (h : KT G q d zk_X2_isKept 0 [(0, vr 200)] [] x (ri (fun r2 x1 => ((r2 = (0 : Int32) → (∀ u4, u4 = (kf q).1 200 7 → ∃ c5, u4 = some c5 ∧ kiT q c5 ∧ (((x1.1 c5 0) < l3 → KM G q d zk_X2_keep 0 [(0, vr 200), (1, vi l1), (2, vi l2)] [] x1 (rm q (fun x8 q9 => P none x8 q9)) X) ∧ (¬ ((x1.1 c5 0) < l3) → (∀ u10, u10 = (kf q).1 200 7 → ∃ c11, u10 = some c11 ∧ kiT q c11 ∧ (∀ x13 : gd, x13 = si x1 c11 1 1 → P none x13 q)))))) ∧ (¬ (r2 = (0 : Int32)) → P none x1 q))))) :
    KM G q (d + 1) zk_X2_addState 0 [(0, vr 200), (1, vi l1), (2, vi l2), (3, vi l3)] [] x P X := by
  have hq := hu.1
  refine T_aload_n 0 (dk dtk_X2_addState 0 rfl) rfl rfl ?_
  refine KC_Vi [] [] rfl (dk dtk_X2_addState 1 rfl) kcv_X2_98 rfl kk_200 rfl (kl_200 hq he) (Nat.le_of_ble_eq_true rfl) (Nat.le_of_ble_eq_true rfl) (gok_i (av_c (gkr (kl_200 hq he)) (av_c rfl (av_c rfl (av_c rfl av_n)))) as_n) rfl h (fun r2 x1 h => ?_)
  refine T_if_eq 8 (dk dtk_X2_addState 2 rfl) (by decide) (fun c3 => ?_) (fun c3 => ?_)
  · have h := h.1 c3
    refine T_aload_n 0 (dk dtk_X2_addState 4 rfl) rfl rfl ?_
    obtain ⟨u4, eu4⟩ : ∃ z, z = (kf q).1 200 7 := ⟨_, rfl⟩
    have h := h u4 eu4
    refine T_getO 200 7 (dk dtk_X2_addState 5 rfl) kfl_X2_44 kk_200 (kl_200 hq he) (by decide) rfl ?_
    rw [← eu4]
    obtain ⟨c5, rfl, g6, h⟩ := h
    refine T_getI c5 0 (dk dtk_X2_addState 6 rfl) kfl_X2_73 (kk_T0 g6) (kl_T0 hq g6) (by decide) rfl ?_
    refine T_iload_n 3 (dk dtk_X2_addState 7 rfl) rfl rfl ?_
    refine T_icmp_lt 30 (dk dtk_X2_addState 8 rfl) (by decide) (fun c7 => ?_) (fun c7 => ?_)
    · have h := h.1 c7
      refine T_aload_n 0 (dk dtk_X2_addState 14 rfl) rfl rfl ?_
      refine T_iload_n 1 (dk dtk_X2_addState 15 rfl) rfl rfl ?_
      refine T_iload_n 2 (dk dtk_X2_addState 16 rfl) rfl rfl ?_
      refine T_sub (lv2 := []) [] rfl ?_
      refine KM_Vv [vi l1, vi l2] [] rfl (dk dtk_X2_addState 17 rfl) kcv_X2_102 rfl kk_200 rfl (kl_200 hq he) (Nat.le_of_ble_eq_true rfl) (Nat.le_of_ble_eq_true rfl) (gok_i av_n as_n) rfl h (fun x8 q9 hu hle h => ?_)
      have hq := hu.1
      have g6 := kle_T hle g6
      have he := hle.2.1.2.1 he
      exact KM_vret (dk dtk_X2_addState 18 rfl) rfl h
    · have h := h.2 c7
      refine T_aload_n 0 (dk dtk_X2_addState 9 rfl) rfl rfl ?_
      obtain ⟨u10, eu10⟩ : ∃ z, z = (kf q).1 200 7 := ⟨_, rfl⟩
      have h := h u10 eu10
      refine T_getO 200 7 (dk dtk_X2_addState 10 rfl) kfl_X2_44 kk_200 (kl_200 hq he) (by decide) rfl ?_
      rw [← eu10]
      refine T_iconst (v := 1) (dk dtk_X2_addState 11 rfl) (by decide +kernel) ?_
      obtain ⟨c11, rfl, g12, h⟩ := h
      obtain ⟨x13, ex13⟩ : ∃ z, z = si x1 c11 1 1 := ⟨_, rfl⟩
      have h := h x13 ex13
      refine T_putI c11 1 (dk dtk_X2_addState 12 rfl) kfl_X2_91 (kk_T0 g12) (kl_T0 hq g12) (by decide) rfl ⟨rfl, rfl⟩ ?_
      rw [← ex13]
      refine T_goto 36 (dk dtk_X2_addState 13 rfl) (by decide) ?_
      exact KM_vret (dk dtk_X2_addState 18 rfl) rfl h
  · have h := h.2 c3
    exact KM_vret (dk dtk_X2_addState 3 rfl) rfl h
set_option maxRecDepth 100000 in
set_option maxHeartbeats 4000000 in
theorem kg_X2_inspectEnd_0 {G : kG} {q : kP} {d : Nat} {x : gd} {P : Option gv → gd → kP → Prop} {X : String → gd → kP → Prop} (hu : kU q) (he : q.ex = true) (l1 : Int32)
    (h : (∀ u1, u1 = (kf q).1 200 7 → ∃ c2, u1 = some c2 ∧ kiT q c2 ∧ (∀ x4 : gd, x4 = si x c2 2 ((x.1 c2 2) + 1) → (∀ u5, u5 = (kf q).1 200 7 → ∃ c6, u5 = some c6 ∧ kiT q c6 ∧ KM G q d zk_X10_addOutcome 0 [(0, vr c6), (1, vr 225), (2, vi (x4.1 60 6))] [] x4 (rm q (fun x8 q9 => KT G q9 d zk_X5_anyGoing 0 [(0, vr 220)] [] x8 (ri (fun r11 x10 => ((r11 = (0 : Int32) → KM G q9 (d + 1) zk_X2_inspectEnd 57 [(0, vr 200), (1, vi l1), (2, vi 0)] [] x10 P X) ∧ (¬ (r11 = (0 : Int32)) → (∀ u13, u13 = (kf q9).1 200 7 → ∃ c14, u13 = some c14 ∧ kiT q9 c14 ∧ KT G q9 d zk_X10_find 0 [(0, vr c14), (1, vi 8), (2, vi l1)] [] x10 (rv (fun x16 => P none x16 q9))))))))) X)))) :
    KM G q (d + 1) zk_X2_inspectEnd 0 [(0, vr 200), (1, vi l1)] [] x P X := by
  have hq := hu.1
  refine T_aload_n 0 (dk dtk_X2_inspectEnd 0 rfl) rfl rfl ?_
  obtain ⟨u1, eu1⟩ : ∃ z, z = (kf q).1 200 7 := ⟨_, rfl⟩
  have h := h u1 eu1
  refine T_getO 200 7 (dk dtk_X2_inspectEnd 1 rfl) kfl_X2_44 kk_200 (kl_200 hq he) (by decide) rfl ?_
  rw [← eu1]
  refine T_dup (dk dtk_X2_inspectEnd 2 rfl) rfl ?_
  obtain ⟨c2, rfl, g3, h⟩ := h
  refine T_getI c2 2 (dk dtk_X2_inspectEnd 3 rfl) kfl_X2_158 (kk_T0 g3) (kl_T0 hq g3) (by decide) rfl ?_
  refine T_iconst (v := 1) (dk dtk_X2_inspectEnd 4 rfl) (by decide +kernel) ?_
  refine T_iadd (dk dtk_X2_inspectEnd 5 rfl) ?_
  obtain ⟨x4, ex4⟩ : ∃ z, z = si x c2 2 ((x.1 c2 2) + 1) := ⟨_, rfl⟩
  have h := h x4 ex4
  refine T_putI c2 2 (dk dtk_X2_inspectEnd 6 rfl) kfl_X2_158 (kk_T0 g3) (kl_T0 hq g3) (by decide) rfl ⟨rfl, rfl⟩ ?_
  rw [← ex4]
  refine T_aload_n 0 (dk dtk_X2_inspectEnd 7 rfl) rfl rfl ?_
  obtain ⟨u5, eu5⟩ : ∃ z, z = (kf q).1 200 7 := ⟨_, rfl⟩
  have h := h u5 eu5
  refine T_getO 200 7 (dk dtk_X2_inspectEnd 8 rfl) kfl_X2_44 kk_200 (kl_200 hq he) (by decide) rfl ?_
  rw [← eu5]
  refine T_aload_n 0 (dk dtk_X2_inspectEnd 9 rfl) rfl rfl ?_
  refine T_getR 200 1 220 (dk dtk_X2_inspectEnd 10 rfl) kfl_X2_20 kk_200 (kl_200 hq he) (by decide) rfl kr_200_1 ?_
  refine T_getR 220 4 225 (dk dtk_X2_inspectEnd 11 rfl) kfl_X2_106 kk_220 (kl_220 hq he) (by decide) rfl kr_220_4 ?_
  refine T_aload_n 0 (dk dtk_X2_inspectEnd 12 rfl) rfl rfl ?_
  refine T_getR 200 0 60 (dk dtk_X2_inspectEnd 13 rfl) kfl_X2_9 kk_200 (kl_200 hq he) (by decide) rfl kr_200_0 ?_
  refine T_getI 60 6 (dk dtk_X2_inspectEnd 14 rfl) kfl_X2_161 kk_60 (kl_60 hq) (by decide) rfl ?_
  obtain ⟨c6, rfl, g7, h⟩ := h
  refine KM_Vv [vr 225, vi (x4.1 60 6)] [] rfl (dk dtk_X2_inspectEnd 15 rfl) kcv_X2_164 rfl (kk_T0 g7) rfl (kl_T0 hq g7) (Nat.le_of_ble_eq_true rfl) (Nat.le_of_ble_eq_true rfl) (gok_i (av_c (gkr (kl_200 hq he)) (av_c rfl av_n)) as_n) rfl h (fun x8 q9 hu hle h => ?_)
  have hq := hu.1
  have g3 := kle_T hle g3
  have g7 := kle_T hle g7
  have he := hle.2.1.2.1 he
  refine T_aload_n 0 (dk dtk_X2_inspectEnd 16 rfl) rfl rfl ?_
  refine T_getR 200 1 220 (dk dtk_X2_inspectEnd 17 rfl) kfl_X2_20 kk_200 (kl_200 hq he) (by decide) rfl kr_200_1 ?_
  refine KC_Vi [] [] rfl (dk dtk_X2_inspectEnd 18 rfl) kcv_X2_167 rfl kk_220 rfl (kl_220 hq he) (Nat.le_of_ble_eq_true rfl) (Nat.le_of_ble_eq_true rfl) (gok_i (av_c (gkr (kl_200 hq he)) (av_c rfl av_n)) as_n) rfl h (fun r11 x10 h => ?_)
  refine T_if_eq 55 (dk dtk_X2_inspectEnd 19 rfl) (by decide) (fun c12 => ?_) (fun c12 => ?_)
  · have h := h.1 c12
    refine T_iconst (v := 0) (dk dtk_X2_inspectEnd 26 rfl) (by decide +kernel) ?_
    refine T_istore_n (lv2 := [(2, vi 0), (0, vr 200), (1, vi l1)]) (dk dtk_X2_inspectEnd 27 rfl) rfl (by decide) rfl ?_
    exact T_sub [1, 2, 0] rfl h
  · have h := h.2 c12
    refine T_aload_n 0 (dk dtk_X2_inspectEnd 20 rfl) rfl rfl ?_
    obtain ⟨u13, eu13⟩ : ∃ z, z = (kf q9).1 200 7 := ⟨_, rfl⟩
    have h := h u13 eu13
    refine T_getO 200 7 (dk dtk_X2_inspectEnd 21 rfl) kfl_X2_44 kk_200 (kl_200 hq he) (by decide) rfl ?_
    rw [← eu13]
    refine T_bipush (v := 8) (dk dtk_X2_inspectEnd 22 rfl) (by decide +kernel) ?_
    refine T_iload_n 1 (dk dtk_X2_inspectEnd 23 rfl) rfl rfl ?_
    obtain ⟨c14, rfl, g15, h⟩ := h
    refine T_sub (lv2 := []) [] rfl ?_
    refine KC_Vv [vi 8, vi l1] [] rfl (dk dtk_X2_inspectEnd 24 rfl) kcv_X2_146 rfl (kk_T0 g15) rfl (kl_T0 hq g15) (Nat.le_of_ble_eq_true rfl) (Nat.le_of_ble_eq_true rfl) (gok_i av_n as_n) rfl h (fun x16 h => ?_)
    exact KM_vret (dk dtk_X2_inspectEnd 25 rfl) rfl h
set_option maxRecDepth 100000 in
set_option maxHeartbeats 4000000 in
theorem kg_X2_inspectEnd_57 {G : kG} {q : kP} {d : Nat} {x : gd} {P : Option gv → gd → kP → Prop} {X : String → gd → kP → Prop} (hu : kU q) (he : q.ex = true) (l1 : Int32) (l2 : Int32)
    (h : (((x.1 60 16) ≤ l2 → P none x q) ∧ (¬ ((x.1 60 16) ≤ l2) → vp_in l2 4 ∧ KT G q d zk_X2_isFalse 0 [(0, vr 200), (1, vi (x.1 78 (l2 : Int32).toNatClampNeg))] [] x (ri (fun r4 x3 => ((r4 = (0 : Int32) → KM G q (d + 1) zk_X2_inspectEnd 57 [(0, vr 200), (1, vi l1), (2, vi (l2 + 1))] [] x3 P X) ∧ (¬ (r4 = (0 : Int32)) → (∀ u6, u6 = (kf q).1 200 7 → ∃ c7, u6 = some c7 ∧ kiT q c7 ∧ KT G q d zk_X10_find 0 [(0, vr c7), (1, vi (4 + l2)), (2, vi l1)] [] x3 (rv (fun x9 => KM G q (d + 1) zk_X2_inspectEnd 57 [(0, vr 200), (1, vi l1), (2, vi (l2 + 1))] [] x9 P X)))))))))) :
    KM G q (d + 1) zk_X2_inspectEnd 57 [(0, vr 200), (1, vi l1), (2, vi l2)] [] x P X := by
  have hq := hu.1
  refine T_iload_n 2 (dk dtk_X2_inspectEnd 28 rfl) rfl rfl ?_
  refine T_aload_n 0 (dk dtk_X2_inspectEnd 29 rfl) rfl rfl ?_
  refine T_getR 200 0 60 (dk dtk_X2_inspectEnd 30 rfl) kfl_X2_9 kk_200 (kl_200 hq he) (by decide) rfl kr_200_0 ?_
  refine T_getI 60 16 (dk dtk_X2_inspectEnd 31 rfl) kfl_X2_170 kk_60 (kl_60 hq) (by decide) rfl ?_
  refine T_icmp_ge 101 (dk dtk_X2_inspectEnd 32 rfl) (by decide) (fun c1 => ?_) (fun c1 => ?_)
  · have h := h.1 c1
    exact KM_vret (dk dtk_X2_inspectEnd 50 rfl) rfl h
  · have h := h.2 c1
    refine T_aload_n 0 (dk dtk_X2_inspectEnd 33 rfl) rfl rfl ?_
    refine T_aload_n 0 (dk dtk_X2_inspectEnd 34 rfl) rfl rfl ?_
    refine T_getR 200 0 60 (dk dtk_X2_inspectEnd 35 rfl) kfl_X2_9 kk_200 (kl_200 hq he) (by decide) rfl kr_200_0 ?_
    refine T_getR 60 17 78 (dk dtk_X2_inspectEnd 36 rfl) kfl_X2_173 kk_60 (kl_60 hq) (by decide) rfl kr_60_17 ?_
    refine T_iload_n 2 (dk dtk_X2_inspectEnd 37 rfl) rfl rfl ?_
    obtain ⟨h2, h⟩ := h
    refine T_iald 78 4 (dk dtk_X2_inspectEnd 38 rfl) kk_78 (kl_78 hq) h2 ?_
    refine KC_Vi [vi (x.1 78 (l2 : Int32).toNatClampNeg)] [] rfl (dk dtk_X2_inspectEnd 39 rfl) kcv_X2_142 rfl kk_200 rfl (kl_200 hq he) (Nat.le_of_ble_eq_true rfl) (Nat.le_of_ble_eq_true rfl) (gok_i (av_c (gkr (kl_200 hq he)) (av_c rfl (av_c rfl av_n))) as_n) rfl h (fun r4 x3 h => ?_)
    refine T_if_eq 95 (dk dtk_X2_inspectEnd 40 rfl) (by decide) (fun c5 => ?_) (fun c5 => ?_)
    · have h := h.1 c5
      refine T_iinc (v := l2 + 1) (lv2 := [(2, vi (l2 + 1)), (0, vr 200), (1, vi l1)]) 2 (dk dtk_X2_inspectEnd 48 rfl) rfl rfl (by decide) rfl ?_
      refine T_goto 57 (dk dtk_X2_inspectEnd 49 rfl) (by decide) ?_
      exact T_sub [1, 2, 0] rfl h
    · have h := h.2 c5
      refine T_aload_n 0 (dk dtk_X2_inspectEnd 41 rfl) rfl rfl ?_
      obtain ⟨u6, eu6⟩ : ∃ z, z = (kf q).1 200 7 := ⟨_, rfl⟩
      have h := h u6 eu6
      refine T_getO 200 7 (dk dtk_X2_inspectEnd 42 rfl) kfl_X2_44 kk_200 (kl_200 hq he) (by decide) rfl ?_
      rw [← eu6]
      refine T_iconst (v := 4) (dk dtk_X2_inspectEnd 43 rfl) (by decide +kernel) ?_
      refine T_iload_n 2 (dk dtk_X2_inspectEnd 44 rfl) rfl rfl ?_
      refine T_iadd (dk dtk_X2_inspectEnd 45 rfl) ?_
      refine T_iload_n 1 (dk dtk_X2_inspectEnd 46 rfl) rfl rfl ?_
      obtain ⟨c7, rfl, g8, h⟩ := h
      refine KC_Vv [vi (4 + l2), vi l1] [] rfl (dk dtk_X2_inspectEnd 47 rfl) kcv_X2_146 rfl (kk_T0 g8) rfl (kl_T0 hq g8) (Nat.le_of_ble_eq_true rfl) (Nat.le_of_ble_eq_true rfl) (gok_i (av_c (gkr (kl_200 hq he)) (av_c rfl (av_c rfl av_n))) as_n) rfl h (fun x9 h => ?_)
      refine T_iinc (v := l2 + 1) (lv2 := [(2, vi (l2 + 1)), (0, vr 200), (1, vi l1)]) 2 (dk dtk_X2_inspectEnd 48 rfl) rfl rfl (by decide) rfl ?_
      refine T_goto 57 (dk dtk_X2_inspectEnd 49 rfl) (by decide) ?_
      exact T_sub [1, 2, 0] rfl h
set_option maxRecDepth 100000 in
set_option maxHeartbeats 4000000 in
theorem kg_X2_inspect_0 {G : kG} {q : kP} {d : Nat} {x : gd} {P : Option gv → gd → kP → Prop} {X : String → gd → kP → Prop} (hu : kU q) (he : q.ex = true) (l1 : Int32)
    (h : (∀ u1, u1 = (kf q).1 200 7 → ∃ c2, u1 = some c2 ∧ kiT q c2 ∧ (∀ x4 : gd, x4 = si x c2 5 ((x.1 c2 5) + (x.1 220 13)) → KM G q (d + 1) zk_X2_inspect 21 [(0, vr 200), (1, vi l1), (2, vi 0)] [] x4 P X))) :
    KM G q (d + 1) zk_X2_inspect 0 [(0, vr 200), (1, vi l1)] [] x P X := by
  have hq := hu.1
  refine T_aload_n 0 (dk dtk_X2_inspect 0 rfl) rfl rfl ?_
  obtain ⟨u1, eu1⟩ : ∃ z, z = (kf q).1 200 7 := ⟨_, rfl⟩
  have h := h u1 eu1
  refine T_getO 200 7 (dk dtk_X2_inspect 1 rfl) kfl_X2_44 kk_200 (kl_200 hq he) (by decide) rfl ?_
  rw [← eu1]
  refine T_dup (dk dtk_X2_inspect 2 rfl) rfl ?_
  obtain ⟨c2, rfl, g3, h⟩ := h
  refine T_getI c2 5 (dk dtk_X2_inspect 3 rfl) kfl_X2_133 (kk_T0 g3) (kl_T0 hq g3) (by decide) rfl ?_
  refine T_aload_n 0 (dk dtk_X2_inspect 4 rfl) rfl rfl ?_
  refine T_getR 200 1 220 (dk dtk_X2_inspect 5 rfl) kfl_X2_20 kk_200 (kl_200 hq he) (by decide) rfl kr_200_1 ?_
  refine T_getI 220 13 (dk dtk_X2_inspect 6 rfl) kfl_X2_88 kk_220 (kl_220 hq he) (by decide) rfl ?_
  refine T_iadd (dk dtk_X2_inspect 7 rfl) ?_
  obtain ⟨x4, ex4⟩ : ∃ z, z = si x c2 5 ((x.1 c2 5) + (x.1 220 13)) := ⟨_, rfl⟩
  have h := h x4 ex4
  refine T_putI c2 5 (dk dtk_X2_inspect 8 rfl) kfl_X2_133 (kk_T0 g3) (kl_T0 hq g3) (by decide) rfl ⟨rfl, rfl⟩ ?_
  rw [← ex4]
  refine T_iconst (v := 0) (dk dtk_X2_inspect 9 rfl) (by decide +kernel) ?_
  refine T_istore_n (lv2 := [(2, vi 0), (0, vr 200), (1, vi l1)]) (dk dtk_X2_inspect 10 rfl) rfl (by decide) rfl ?_
  exact T_sub [1, 2, 0] rfl h
set_option maxRecDepth 100000 in
set_option maxHeartbeats 4000000 in
theorem kg_X2_inspect_21 {G : kG} {q : kP} {d : Nat} {x : gd} {P : Option gv → gd → kP → Prop} {X : String → gd → kP → Prop} (hu : kU q) (he : q.ex = true) (l1 : Int32) (l2 : Int32)
    (h : (((x.1 60 14) ≤ l2 → ((¬ ((x.1 220 13) = (0 : Int32)) → KM G q (d + 1) zk_X2_inspect 78 [(0, vr 200), (1, vi l1)] [] x P X) ∧ ((x.1 220 13) = (0 : Int32) → KM G q d zk_X2_inspectEnd 0 [(0, vr 200), (1, vi l1)] [] x (rm q (fun x3 q4 => KM G q4 (d + 1) zk_X2_inspect 78 [(0, vr 200), (1, vi l1)] [] x3 P X)) X))) ∧ (¬ ((x.1 60 14) ≤ l2) → vp_in l2 4 ∧ KT G q d zk_X2_isFalse 0 [(0, vr 200), (1, vi (x.1 76 (l2 : Int32).toNatClampNeg))] [] x (ri (fun r7 x6 => ((r7 = (0 : Int32) → KM G q (d + 1) zk_X2_inspect 21 [(0, vr 200), (1, vi l1), (2, vi (l2 + 1))] [] x6 P X) ∧ (¬ (r7 = (0 : Int32)) → (∀ u9, u9 = (kf q).1 200 7 → ∃ c10, u9 = some c10 ∧ kiT q c10 ∧ KT G q d zk_X10_find 0 [(0, vr c10), (1, vi l2), (2, vi l1)] [] x6 (rv (fun x12 => KM G q (d + 1) zk_X2_inspect 21 [(0, vr 200), (1, vi l1), (2, vi (l2 + 1))] [] x12 P X)))))))))) :
    KM G q (d + 1) zk_X2_inspect 21 [(0, vr 200), (1, vi l1), (2, vi l2)] [] x P X := by
  have hq := hu.1
  refine T_iload_n 2 (dk dtk_X2_inspect 11 rfl) rfl rfl ?_
  refine T_aload_n 0 (dk dtk_X2_inspect 12 rfl) rfl rfl ?_
  refine T_getR 200 0 60 (dk dtk_X2_inspect 13 rfl) kfl_X2_9 kk_200 (kl_200 hq he) (by decide) rfl kr_200_0 ?_
  refine T_getI 60 14 (dk dtk_X2_inspect 14 rfl) kfl_X2_136 kk_60 (kl_60 hq) (by decide) rfl ?_
  refine T_icmp_ge 63 (dk dtk_X2_inspect 15 rfl) (by decide) (fun c1 => ?_) (fun c1 => ?_)
  · have h := h.1 c1
    refine T_aload_n 0 (dk dtk_X2_inspect 31 rfl) rfl rfl ?_
    refine T_getR 200 1 220 (dk dtk_X2_inspect 32 rfl) kfl_X2_20 kk_200 (kl_200 hq he) (by decide) rfl kr_200_1 ?_
    refine T_getI 220 13 (dk dtk_X2_inspect 33 rfl) kfl_X2_88 kk_220 (kl_220 hq he) (by decide) rfl ?_
    refine T_if_ne 78 (dk dtk_X2_inspect 34 rfl) (by decide) (fun c2 => ?_) (fun c2 => ?_)
    · have h := h.1 c2
      exact T_sub [0, 1] rfl h
    · have h := h.2 c2
      refine T_aload_n 0 (dk dtk_X2_inspect 35 rfl) rfl rfl ?_
      refine T_iload_n 1 (dk dtk_X2_inspect 36 rfl) rfl rfl ?_
      refine T_sub (lv2 := [(0, vr 200), (1, vi l1)]) [0, 1] rfl ?_
      refine KM_Vv [vi l1] [] rfl (dk dtk_X2_inspect 37 rfl) kcv_X2_149 rfl kk_200 rfl (kl_200 hq he) (Nat.le_of_ble_eq_true rfl) (Nat.le_of_ble_eq_true rfl) (gok_i (av_c (gkr (kl_200 hq he)) (av_c rfl av_n)) as_n) rfl h (fun x3 q4 hu hle h => ?_)
      have hq := hu.1
      have he := hle.2.1.2.1 he
      exact h
  · have h := h.2 c1
    refine T_aload_n 0 (dk dtk_X2_inspect 16 rfl) rfl rfl ?_
    refine T_aload_n 0 (dk dtk_X2_inspect 17 rfl) rfl rfl ?_
    refine T_getR 200 0 60 (dk dtk_X2_inspect 18 rfl) kfl_X2_9 kk_200 (kl_200 hq he) (by decide) rfl kr_200_0 ?_
    refine T_getR 60 15 76 (dk dtk_X2_inspect 19 rfl) kfl_X2_139 kk_60 (kl_60 hq) (by decide) rfl kr_60_15 ?_
    refine T_iload_n 2 (dk dtk_X2_inspect 20 rfl) rfl rfl ?_
    obtain ⟨h5, h⟩ := h
    refine T_iald 76 4 (dk dtk_X2_inspect 21 rfl) kk_76 (kl_76 hq) h5 ?_
    refine KC_Vi [vi (x.1 76 (l2 : Int32).toNatClampNeg)] [] rfl (dk dtk_X2_inspect 22 rfl) kcv_X2_142 rfl kk_200 rfl (kl_200 hq he) (Nat.le_of_ble_eq_true rfl) (Nat.le_of_ble_eq_true rfl) (gok_i (av_c (gkr (kl_200 hq he)) (av_c rfl (av_c rfl av_n))) as_n) rfl h (fun r7 x6 h => ?_)
    refine T_if_eq 57 (dk dtk_X2_inspect 23 rfl) (by decide) (fun c8 => ?_) (fun c8 => ?_)
    · have h := h.1 c8
      refine T_iinc (v := l2 + 1) (lv2 := [(2, vi (l2 + 1)), (0, vr 200), (1, vi l1)]) 2 (dk dtk_X2_inspect 29 rfl) rfl rfl (by decide) rfl ?_
      refine T_goto 21 (dk dtk_X2_inspect 30 rfl) (by decide) ?_
      exact T_sub [1, 2, 0] rfl h
    · have h := h.2 c8
      refine T_aload_n 0 (dk dtk_X2_inspect 24 rfl) rfl rfl ?_
      obtain ⟨u9, eu9⟩ : ∃ z, z = (kf q).1 200 7 := ⟨_, rfl⟩
      have h := h u9 eu9
      refine T_getO 200 7 (dk dtk_X2_inspect 25 rfl) kfl_X2_44 kk_200 (kl_200 hq he) (by decide) rfl ?_
      rw [← eu9]
      refine T_iload_n 2 (dk dtk_X2_inspect 26 rfl) rfl rfl ?_
      refine T_iload_n 1 (dk dtk_X2_inspect 27 rfl) rfl rfl ?_
      obtain ⟨c10, rfl, g11, h⟩ := h
      refine KC_Vv [vi l2, vi l1] [] rfl (dk dtk_X2_inspect 28 rfl) kcv_X2_146 rfl (kk_T0 g11) rfl (kl_T0 hq g11) (Nat.le_of_ble_eq_true rfl) (Nat.le_of_ble_eq_true rfl) (gok_i (av_c (gkr (kl_200 hq he)) (av_c rfl (av_c rfl av_n))) as_n) rfl h (fun x12 h => ?_)
      refine T_iinc (v := l2 + 1) (lv2 := [(2, vi (l2 + 1)), (0, vr 200), (1, vi l1)]) 2 (dk dtk_X2_inspect 29 rfl) rfl rfl (by decide) rfl ?_
      refine T_goto 21 (dk dtk_X2_inspect 30 rfl) (by decide) ?_
      exact T_sub [1, 2, 0] rfl h
set_option maxRecDepth 100000 in
set_option maxHeartbeats 4000000 in
theorem kg_X2_inspect_78 {G : kG} {q : kP} {d : Nat} {x : gd} {P : Option gv → gd → kP → Prop} {X : String → gd → kP → Prop} (hu : kU q) (he : q.ex = true) (l1 : Int32)
    (h : KT G q d zk_X5_anyFailed 0 [(0, vr 220)] [] x (ri (fun r2 x1 => ((r2 = (0 : Int32) → KM G q (d + 1) zk_X2_inspect 98 [(0, vr 200), (1, vi l1)] [] x1 P X) ∧ (¬ (r2 = (0 : Int32)) → (∀ u4, u4 = (kf q).1 200 7 → ∃ c5, u4 = some c5 ∧ kiT q c5 ∧ KT G q d zk_X10_find 0 [(0, vr c5), (1, vi 9), (2, vi l1)] [] x1 (rv (fun x7 => KM G q (d + 1) zk_X2_inspect 98 [(0, vr 200), (1, vi l1)] [] x7 P X)))))))) :
    KM G q (d + 1) zk_X2_inspect 78 [(0, vr 200), (1, vi l1)] [] x P X := by
  have hq := hu.1
  refine T_aload_n 0 (dk dtk_X2_inspect 38 rfl) rfl rfl ?_
  refine T_getR 200 1 220 (dk dtk_X2_inspect 39 rfl) kfl_X2_20 kk_200 (kl_200 hq he) (by decide) rfl kr_200_1 ?_
  refine KC_Vi [] [] rfl (dk dtk_X2_inspect 40 rfl) kcv_X2_152 rfl kk_220 rfl (kl_220 hq he) (Nat.le_of_ble_eq_true rfl) (Nat.le_of_ble_eq_true rfl) (gok_i (av_c (gkr (kl_200 hq he)) (av_c rfl av_n)) as_n) rfl h (fun r2 x1 h => ?_)
  refine T_if_eq 98 (dk dtk_X2_inspect 41 rfl) (by decide) (fun c3 => ?_) (fun c3 => ?_)
  · have h := h.1 c3
    exact h
  · have h := h.2 c3
    refine T_aload_n 0 (dk dtk_X2_inspect 42 rfl) rfl rfl ?_
    obtain ⟨u4, eu4⟩ : ∃ z, z = (kf q).1 200 7 := ⟨_, rfl⟩
    have h := h u4 eu4
    refine T_getO 200 7 (dk dtk_X2_inspect 43 rfl) kfl_X2_44 kk_200 (kl_200 hq he) (by decide) rfl ?_
    rw [← eu4]
    refine T_bipush (v := 9) (dk dtk_X2_inspect 44 rfl) (by decide +kernel) ?_
    refine T_iload_n 1 (dk dtk_X2_inspect 45 rfl) rfl rfl ?_
    obtain ⟨c5, rfl, g6, h⟩ := h
    refine KC_Vv [vi 9, vi l1] [] rfl (dk dtk_X2_inspect 46 rfl) kcv_X2_146 rfl (kk_T0 g6) rfl (kl_T0 hq g6) (Nat.le_of_ble_eq_true rfl) (Nat.le_of_ble_eq_true rfl) (gok_i (av_c (gkr (kl_200 hq he)) (av_c rfl av_n)) as_n) rfl h (fun x7 h => ?_)
    exact h
set_option maxRecDepth 100000 in
set_option maxHeartbeats 4000000 in
theorem kg_X2_inspect_98 {G : kG} {q : kP} {d : Nat} {x : gd} {P : Option gv → gd → kP → Prop} {X : String → gd → kP → Prop} (hu : kU q) (he : q.ex = true) (l1 : Int32)
    (h : KT G q d zk_X2_isRacing 0 [(0, vr 200)] [] x (ri (fun r2 x1 => ((r2 = (0 : Int32) → P none x1 q) ∧ (¬ (r2 = (0 : Int32)) → (∀ u4, u4 = (kf q).1 200 7 → ∃ c5, u4 = some c5 ∧ kiT q c5 ∧ KT G q d zk_X10_find 0 [(0, vr c5), (1, vi 10), (2, vi l1)] [] x1 (rv (fun x7 => P none x7 q)))))))) :
    KM G q (d + 1) zk_X2_inspect 98 [(0, vr 200), (1, vi l1)] [] x P X := by
  have hq := hu.1
  refine T_aload_n 0 (dk dtk_X2_inspect 47 rfl) rfl rfl ?_
  refine KC_Vi [] [] rfl (dk dtk_X2_inspect 48 rfl) kcv_X2_155 rfl kk_200 rfl (kl_200 hq he) (Nat.le_of_ble_eq_true rfl) (Nat.le_of_ble_eq_true rfl) (gok_i (av_c (gkr (kl_200 hq he)) (av_c rfl av_n)) as_n) rfl h (fun r2 x1 h => ?_)
  refine T_if_eq 115 (dk dtk_X2_inspect 49 rfl) (by decide) (fun c3 => ?_) (fun c3 => ?_)
  · have h := h.1 c3
    exact KM_vret (dk dtk_X2_inspect 55 rfl) rfl h
  · have h := h.2 c3
    refine T_aload_n 0 (dk dtk_X2_inspect 50 rfl) rfl rfl ?_
    obtain ⟨u4, eu4⟩ : ∃ z, z = (kf q).1 200 7 := ⟨_, rfl⟩
    have h := h u4 eu4
    refine T_getO 200 7 (dk dtk_X2_inspect 51 rfl) kfl_X2_44 kk_200 (kl_200 hq he) (by decide) rfl ?_
    rw [← eu4]
    refine T_bipush (v := 10) (dk dtk_X2_inspect 52 rfl) (by decide +kernel) ?_
    refine T_iload_n 1 (dk dtk_X2_inspect 53 rfl) rfl rfl ?_
    obtain ⟨c5, rfl, g6, h⟩ := h
    refine T_sub (lv2 := []) [] rfl ?_
    refine KC_Vv [vi 10, vi l1] [] rfl (dk dtk_X2_inspect 54 rfl) kcv_X2_146 rfl (kk_T0 g6) rfl (kl_T0 hq g6) (Nat.le_of_ble_eq_true rfl) (Nat.le_of_ble_eq_true rfl) (gok_i av_n as_n) rfl h (fun x7 h => ?_)
    exact KM_vret (dk dtk_X2_inspect 55 rfl) rfl h
set_option maxRecDepth 100000 in
set_option maxHeartbeats 4000000 in
theorem kg_X2_explore_0 {G : kG} {q : kP} {d : Nat} {x : gd} {P : Option gv → gd → kP → Prop} {X : String → gd → kP → Prop} (hu : kU q) (he : q.ex = true) {a3 : Nat} (ha3 : kiT q a3) (l1 : Int32) (l2 : Int32)
    (h : (∀ q1, q1 = kEt q a3 → kU q1 → kle q q1 → (∀ u2, u2 = (kf q1).1 200 7 → ∃ c3, u2 = some c3 ∧ kiT q1 c3 ∧ KT G q1 d zk_X10_clear 0 [(0, vr c3), (1, vi ((1 <<< ((x.1 60 9) &&& 31 : Int32)) - 1))] [] x (rv (fun x5 => (∀ x6 : gd, x6 = sfl x5 205 0 8192 → KT G q1 d zk_X5_reset 0 [(0, vr 220), (1, vi l1)] [] x6 (rv (fun x7 => KM G q1 d zk_X2_addState 0 [(0, vr 200), (1, vi (-1)), (2, vi (-1)), (3, vi l2)] [] x7 (rm q1 (fun x8 q9 => KM G q9 (d + 1) zk_X2_explore 49 [(0, vr 200), (2, vi l2), (4, vi 0)] [] x8 P X)) X)))))))) :
    KM G q (d + 1) zk_X2_explore 0 [(0, vr 200), (1, vi l1), (2, vi l2), (3, vr a3)] [] x P X := by
  have hq := hu.1
  refine T_aload_n 0 (dk dtk_X2_explore 0 rfl) rfl rfl ?_
  refine T_aload_n 3 (dk dtk_X2_explore 1 rfl) rfl rfl ?_
  obtain ⟨q1, eq1⟩ : ∃ z, z = kEt q a3 := ⟨_, rfl⟩
  have hu2 : kU q1 := by rw [eq1]; exact kEt_U hu he ha3
  have hle : kle q q1 := by rw [eq1]; exact kEt_le _ _
  have h := h q1 eq1 hu2 hle
  refine T_sett (dk dtk_X2_explore 2 rfl) hu he ?_
  rw [← eq1]
  have hu := hu2
  have hq := hu.1
  have ha3 := kle_T hle ha3
  have he := hle.2.1.2.1 he
  refine T_aload_n 0 (dk dtk_X2_explore 3 rfl) rfl rfl ?_
  obtain ⟨u2, eu2⟩ : ∃ z, z = (kf q1).1 200 7 := ⟨_, rfl⟩
  have h := h u2 eu2
  refine T_getO 200 7 (dk dtk_X2_explore 4 rfl) kfl_X2_44 kk_200 (kl_200 hq he) (by decide) rfl ?_
  rw [← eu2]
  refine T_iconst (v := 1) (dk dtk_X2_explore 5 rfl) (by decide +kernel) ?_
  refine T_aload_n 0 (dk dtk_X2_explore 6 rfl) rfl rfl ?_
  refine T_getR 200 0 60 (dk dtk_X2_explore 7 rfl) kfl_X2_9 kk_200 (kl_200 hq he) (by decide) rfl kr_200_0 ?_
  refine T_getI 60 9 (dk dtk_X2_explore 8 rfl) kfl_X2_48 kk_60 (kl_60 hq) (by decide) rfl ?_
  refine T_ishl (dk dtk_X2_explore 9 rfl) ?_
  refine T_iconst (v := 1) (dk dtk_X2_explore 10 rfl) (by decide +kernel) ?_
  refine T_isub (dk dtk_X2_explore 11 rfl) ?_
  obtain ⟨c3, rfl, g4, h⟩ := h
  refine T_sub (lv2 := [(0, vr 200), (1, vi l1), (2, vi l2)]) [0, 1, 2] rfl ?_
  refine KC_Vv [vi ((1 <<< ((x.1 60 9) &&& 31 : Int32)) - 1)] [] rfl (dk dtk_X2_explore 12 rfl) kcv_X2_54 rfl (kk_T0 g4) rfl (kl_T0 hq g4) (Nat.le_of_ble_eq_true rfl) (Nat.le_of_ble_eq_true rfl) (gok_i (av_c (gkr (kl_200 hq he)) (av_c rfl (av_c rfl av_n))) as_n) rfl h (fun x5 h => ?_)
  refine T_aload_n 0 (dk dtk_X2_explore 13 rfl) rfl rfl ?_
  refine T_getR 200 4 205 (dk dtk_X2_explore 14 rfl) kfl_X2_33 kk_200 (kl_200 hq he) (by decide) rfl kr_200_4 ?_
  refine T_iconst (v := 0) (dk dtk_X2_explore 15 rfl) (by decide +kernel) ?_
  refine KC_Sv (F := fun z => z = sfl x5 205 0 8192) [vr 205, vi 0] [] rfl (dk dtk_X2_explore 16 rfl) kcs_X2_60 rfl (Nat.le_of_ble_eq_true rfl) (Nat.le_of_ble_eq_true rfl) (gok_i (av_c (gkr (kl_200 hq he)) (av_c rfl (av_c rfl av_n))) as_n) rfl (tj_fill 205 8192 0 kk_205 (kl_205 hq he) (by decide) ⟨rfl, none, rfl, rfl, rfl⟩) (fun x6 ex6 => ?_)
  have h := h x6 ex6
  refine T_aload_n 0 (dk dtk_X2_explore 17 rfl) rfl rfl ?_
  refine T_getR 200 1 220 (dk dtk_X2_explore 18 rfl) kfl_X2_20 kk_200 (kl_200 hq he) (by decide) rfl kr_200_1 ?_
  refine T_iload_n 1 (dk dtk_X2_explore 19 rfl) rfl rfl ?_
  refine T_sub (lv2 := [(0, vr 200), (2, vi l2)]) [0, 2] rfl ?_
  refine KC_Vv [vi l1] [] rfl (dk dtk_X2_explore 20 rfl) kcv_X2_66 rfl kk_220 rfl (kl_220 hq he) (Nat.le_of_ble_eq_true rfl) (Nat.le_of_ble_eq_true rfl) (gok_i (av_c (gkr (kl_200 hq he)) (av_c rfl av_n)) as_n) rfl h (fun x7 h => ?_)
  refine T_aload_n 0 (dk dtk_X2_explore 21 rfl) rfl rfl ?_
  refine T_iconst (v := (-1)) (dk dtk_X2_explore 22 rfl) (by decide +kernel) ?_
  refine T_iconst (v := (-1)) (dk dtk_X2_explore 23 rfl) (by decide +kernel) ?_
  refine T_iload_n 1 (dk dtk_X2_explore 24 rfl) rfl rfl ?_
  refine KM_Vv [vi (-1), vi (-1), vi l2] [] rfl (dk dtk_X2_explore 25 rfl) kcv_X2_69 rfl kk_200 rfl (kl_200 hq he) (Nat.le_of_ble_eq_true rfl) (Nat.le_of_ble_eq_true rfl) (gok_i (av_c (gkr (kl_200 hq he)) (av_c rfl av_n)) as_n) rfl h (fun x8 q9 hu hle h => ?_)
  have hq := hu.1
  have ha3 := kle_T hle ha3
  have g4 := kle_T hle g4
  have he := hle.2.1.2.1 he
  refine T_iconst (v := 0) (dk dtk_X2_explore 26 rfl) (by decide +kernel) ?_
  refine T_istore (lv2 := [(4, vi 0), (0, vr 200), (2, vi l2)]) (dk dtk_X2_explore 27 rfl) (by decide) rfl ?_
  exact T_sub [1, 2, 0] rfl h
set_option maxRecDepth 100000 in
set_option maxHeartbeats 4000000 in
theorem kg_X2_explore_49 {G : kG} {q : kP} {d : Nat} {x : gd} {P : Option gv → gd → kP → Prop} {X : String → gd → kP → Prop} (hu : kU q) (he : q.ex = true) {a3 : Nat} (ha3 : kiT q a3) (l2 : Int32) (l4 : Int32)
    (h : (∀ u1, u1 = (kf q).1 200 7 → ∃ c2, u1 = some c2 ∧ kiT q c2 ∧ (((x.1 c2 0) ≤ l4 → P none x q) ∧ (¬ ((x.1 c2 0) ≤ l4) → (((3000 : Int32) ≤ l4 → P none x q) ∧ (¬ ((3000 : Int32) ≤ l4) → KT G q d zk_X2_recall 0 [(0, vr 200), (1, vi l4)] [] x (rv (fun x6 => KT G q d zk_X5_listChoices 0 [(0, vr 220)] [] x6 (rv (fun x7 => KT G q d zk_X2_inspectActs 0 [(0, vr 200)] [] x7 (rv (fun x8 => KM G q d zk_X2_inspect 0 [(0, vr 200), (1, vi l4)] [] x8 (rm q (fun x9 q10 => KM G q10 (d + 1) zk_X2_explore 95 [(0, vr 200), (2, vi l2), (4, vi l4), (5, vi 0)] [] x9 P X)) X)))))))))))) :
    KM G q (d + 1) zk_X2_explore 49 [(0, vr 200), (2, vi l2), (4, vi l4)] [] x P X := by
  have hq := hu.1
  refine T_iload 2 (dk dtk_X2_explore 28 rfl) rfl ?_
  refine T_aload_n 0 (dk dtk_X2_explore 29 rfl) rfl rfl ?_
  obtain ⟨u1, eu1⟩ : ∃ z, z = (kf q).1 200 7 := ⟨_, rfl⟩
  have h := h u1 eu1
  refine T_getO 200 7 (dk dtk_X2_explore 30 rfl) kfl_X2_44 kk_200 (kl_200 hq he) (by decide) rfl ?_
  rw [← eu1]
  obtain ⟨c2, rfl, g3, h⟩ := h
  refine T_getI c2 0 (dk dtk_X2_explore 31 rfl) kfl_X2_73 (kk_T0 g3) (kl_T0 hq g3) (by decide) rfl ?_
  refine T_icmp_ge 153 (dk dtk_X2_explore 32 rfl) (by decide) (fun c4 => ?_) (fun c4 => ?_)
  · have h := h.1 c4
    exact KM_vret (dk dtk_X2_explore 74 rfl) rfl h
  · have h := h.2 c4
    refine T_iload 2 (dk dtk_X2_explore 33 rfl) rfl ?_
    refine T_sipush (v := 3000) (dk dtk_X2_explore 34 rfl) (by decide +kernel) ?_
    refine T_icmp_ge 153 (dk dtk_X2_explore 35 rfl) (by decide) (fun c5 => ?_) (fun c5 => ?_)
    · have h := h.1 c5
      exact KM_vret (dk dtk_X2_explore 74 rfl) rfl h
    · have h := h.2 c5
      refine T_aload_n 0 (dk dtk_X2_explore 36 rfl) rfl rfl ?_
      refine T_iload 2 (dk dtk_X2_explore 37 rfl) rfl ?_
      refine KC_Vv [vi l4] [] rfl (dk dtk_X2_explore 38 rfl) kcv_X2_76 rfl kk_200 rfl (kl_200 hq he) (Nat.le_of_ble_eq_true rfl) (Nat.le_of_ble_eq_true rfl) (gok_i (av_c (gkr (kl_200 hq he)) (av_c rfl (av_c rfl av_n))) as_n) rfl h (fun x6 h => ?_)
      refine T_aload_n 0 (dk dtk_X2_explore 39 rfl) rfl rfl ?_
      refine T_getR 200 1 220 (dk dtk_X2_explore 40 rfl) kfl_X2_20 kk_200 (kl_200 hq he) (by decide) rfl kr_200_1 ?_
      refine KC_Vv [] [] rfl (dk dtk_X2_explore 41 rfl) kcv_X2_79 rfl kk_220 rfl (kl_220 hq he) (Nat.le_of_ble_eq_true rfl) (Nat.le_of_ble_eq_true rfl) (gok_i (av_c (gkr (kl_200 hq he)) (av_c rfl (av_c rfl av_n))) as_n) rfl h (fun x7 h => ?_)
      refine T_aload_n 0 (dk dtk_X2_explore 42 rfl) rfl rfl ?_
      refine KC_Vv [] [] rfl (dk dtk_X2_explore 43 rfl) kcv_X2_82 rfl kk_200 rfl (kl_200 hq he) (Nat.le_of_ble_eq_true rfl) (Nat.le_of_ble_eq_true rfl) (gok_i (av_c (gkr (kl_200 hq he)) (av_c rfl (av_c rfl av_n))) as_n) rfl h (fun x8 h => ?_)
      refine T_aload_n 0 (dk dtk_X2_explore 44 rfl) rfl rfl ?_
      refine T_iload 2 (dk dtk_X2_explore 45 rfl) rfl ?_
      refine KM_Vv [vi l4] [] rfl (dk dtk_X2_explore 46 rfl) kcv_X2_85 rfl kk_200 rfl (kl_200 hq he) (Nat.le_of_ble_eq_true rfl) (Nat.le_of_ble_eq_true rfl) (gok_i (av_c (gkr (kl_200 hq he)) (av_c rfl (av_c rfl av_n))) as_n) rfl h (fun x9 q10 hu hle h => ?_)
      have hq := hu.1
      have ha3 := kle_T hle ha3
      have g3 := kle_T hle g3
      have he := hle.2.1.2.1 he
      refine T_iconst (v := 0) (dk dtk_X2_explore 47 rfl) (by decide +kernel) ?_
      refine T_istore (lv2 := [(5, vi 0), (0, vr 200), (2, vi l2), (4, vi l4)]) (dk dtk_X2_explore 48 rfl) (by decide) rfl ?_
      exact T_sub [1, 2, 3, 0] rfl h
set_option maxRecDepth 100000 in
set_option maxHeartbeats 4000000 in
theorem kg_X2_explore_95 {G : kG} {q : kP} {d : Nat} {x : gd} {P : Option gv → gd → kP → Prop} {X : String → gd → kP → Prop} (hu : kU q) (he : q.ex = true) {a3 : Nat} (ha3 : kiT q a3) (l2 : Int32) (l4 : Int32) (l5 : Int32)
    (h : (((x.1 220 13) ≤ l5 → KM G q (d + 1) zk_X2_explore 49 [(0, vr 200), (2, vi l2), (4, vi (l4 + 1))] [] x P X) ∧ (¬ ((x.1 220 13) ≤ l5) → (∀ u2, u2 = (kf q).1 200 7 → ∃ c3, u2 = some c3 ∧ kiT q c3 ∧ ((¬ ((x.1 c3 1) = (0 : Int32)) → KM G q (d + 1) zk_X2_explore 49 [(0, vr 200), (2, vi l2), (4, vi (l4 + 1))] [] x P X) ∧ ((x.1 c3 1) = (0 : Int32) → KT G q d zk_X2_recall 0 [(0, vr 200), (1, vi l4)] [] x (rv (fun x6 => KT G q d zk_X5_perform 0 [(0, vr 220), (1, vi l5)] [] x6 (rv (fun x7 => KM G q d zk_X2_addState 0 [(0, vr 200), (1, vi l4), (2, vi l5), (3, vi l2)] [] x7 (rm q (fun x8 q9 => KM G q9 (d + 1) zk_X2_explore 95 [(0, vr 200), (2, vi l2), (4, vi l4), (5, vi (l5 + 1))] [] x8 P X)) X)))))))))) :
    KM G q (d + 1) zk_X2_explore 95 [(0, vr 200), (2, vi l2), (4, vi l4), (5, vi l5)] [] x P X := by
  have hq := hu.1
  refine T_iload 3 (dk dtk_X2_explore 49 rfl) rfl ?_
  refine T_aload_n 0 (dk dtk_X2_explore 50 rfl) rfl rfl ?_
  refine T_getR 200 1 220 (dk dtk_X2_explore 51 rfl) kfl_X2_20 kk_200 (kl_200 hq he) (by decide) rfl kr_200_1 ?_
  refine T_getI 220 13 (dk dtk_X2_explore 52 rfl) kfl_X2_88 kk_220 (kl_220 hq he) (by decide) rfl ?_
  refine T_icmp_ge 147 (dk dtk_X2_explore 53 rfl) (by decide) (fun c1 => ?_) (fun c1 => ?_)
  · have h := h.1 c1
    refine T_iinc (v := l4 + 1) (lv2 := [(4, vi (l4 + 1)), (0, vr 200), (2, vi l2), (5, vi l5)]) 2 (dk dtk_X2_explore 72 rfl) rfl rfl (by decide) rfl ?_
    refine T_goto 49 (dk dtk_X2_explore 73 rfl) (by decide) ?_
    exact T_sub [1, 2, 0] rfl h
  · have h := h.2 c1
    refine T_aload_n 0 (dk dtk_X2_explore 54 rfl) rfl rfl ?_
    obtain ⟨u2, eu2⟩ : ∃ z, z = (kf q).1 200 7 := ⟨_, rfl⟩
    have h := h u2 eu2
    refine T_getO 200 7 (dk dtk_X2_explore 55 rfl) kfl_X2_44 kk_200 (kl_200 hq he) (by decide) rfl ?_
    rw [← eu2]
    obtain ⟨c3, rfl, g4, h⟩ := h
    refine T_getI c3 1 (dk dtk_X2_explore 56 rfl) kfl_X2_91 (kk_T0 g4) (kl_T0 hq g4) (by decide) rfl ?_
    refine T_if_ne 147 (dk dtk_X2_explore 57 rfl) (by decide) (fun c5 => ?_) (fun c5 => ?_)
    · have h := h.1 c5
      refine T_iinc (v := l4 + 1) (lv2 := [(4, vi (l4 + 1)), (0, vr 200), (2, vi l2), (5, vi l5)]) 2 (dk dtk_X2_explore 72 rfl) rfl rfl (by decide) rfl ?_
      refine T_goto 49 (dk dtk_X2_explore 73 rfl) (by decide) ?_
      exact T_sub [1, 2, 0] rfl h
    · have h := h.2 c5
      refine T_aload_n 0 (dk dtk_X2_explore 58 rfl) rfl rfl ?_
      refine T_iload 2 (dk dtk_X2_explore 59 rfl) rfl ?_
      refine KC_Vv [vi l4] [] rfl (dk dtk_X2_explore 60 rfl) kcv_X2_76 rfl kk_200 rfl (kl_200 hq he) (Nat.le_of_ble_eq_true rfl) (Nat.le_of_ble_eq_true rfl) (gok_i (av_c (gkr (kl_200 hq he)) (av_c rfl (av_c rfl (av_c rfl av_n)))) as_n) rfl h (fun x6 h => ?_)
      refine T_aload_n 0 (dk dtk_X2_explore 61 rfl) rfl rfl ?_
      refine T_getR 200 1 220 (dk dtk_X2_explore 62 rfl) kfl_X2_20 kk_200 (kl_200 hq he) (by decide) rfl kr_200_1 ?_
      refine T_iload 3 (dk dtk_X2_explore 63 rfl) rfl ?_
      refine KC_Vv [vi l5] [] rfl (dk dtk_X2_explore 64 rfl) kcv_X2_95 rfl kk_220 rfl (kl_220 hq he) (Nat.le_of_ble_eq_true rfl) (Nat.le_of_ble_eq_true rfl) (gok_i (av_c (gkr (kl_200 hq he)) (av_c rfl (av_c rfl (av_c rfl av_n)))) as_n) rfl h (fun x7 h => ?_)
      refine T_aload_n 0 (dk dtk_X2_explore 65 rfl) rfl rfl ?_
      refine T_iload 2 (dk dtk_X2_explore 66 rfl) rfl ?_
      refine T_iload 3 (dk dtk_X2_explore 67 rfl) rfl ?_
      refine T_iload_n 1 (dk dtk_X2_explore 68 rfl) rfl rfl ?_
      refine KM_Vv [vi l4, vi l5, vi l2] [] rfl (dk dtk_X2_explore 69 rfl) kcv_X2_69 rfl kk_200 rfl (kl_200 hq he) (Nat.le_of_ble_eq_true rfl) (Nat.le_of_ble_eq_true rfl) (gok_i (av_c (gkr (kl_200 hq he)) (av_c rfl (av_c rfl (av_c rfl av_n)))) as_n) rfl h (fun x8 q9 hu hle h => ?_)
      have hq := hu.1
      have ha3 := kle_T hle ha3
      have g4 := kle_T hle g4
      have he := hle.2.1.2.1 he
      refine T_iinc (v := l5 + 1) (lv2 := [(5, vi (l5 + 1)), (0, vr 200), (2, vi l2), (4, vi l4)]) 3 (dk dtk_X2_explore 70 rfl) rfl rfl (by decide) rfl ?_
      refine T_goto 95 (dk dtk_X2_explore 71 rfl) (by decide) ?_
      exact T_sub [1, 2, 3, 0] rfl h
set_option maxRecDepth 100000 in
set_option maxHeartbeats 4000000 in
theorem kg_X11_linear_0 {G : kG} {q : kP} {d : Nat} {x : gd} {P : Option gv → gd → kP → Prop} {X : String → gd → kP → Prop} (hu : kU q) (l1 : Int32)
    (h : KE G q (d + 6) zk_X11_needRun 0 [(0, vr 0)] [] x (rv (fun x1 => ((l1 < (0 : Int32) → KM G q (d + 7) zk_X11_linear 13 [] [] x1 P X) ∧ (¬ (l1 < (0 : Int32)) → ((l1 ≤ (3 : Int32) → (((x1.1 160 4) ≤ (12 : Int32) → (∀ u5, u5 = (kf q).1 0 8 → ((u5 = none → q.hi = false ∧ (∀ q8 x9, q8 = kHi q → x9 = xops (znew x1 180) ops_180 → kU q8 → kle q q8 → KM G q8 (d + 7) zk_X11_linear 56 [(0, vr 0), (1, vi l1)] [] x9 P X)) ∧ (∀ c7, u5 = some c7 → KM G q (d + 7) zk_X11_linear 56 [(0, vr 0), (1, vi l1)] [] x1 P X)))) ∧ (¬ ((x1.1 160 4) ≤ (12 : Int32)) → P (some (vi (-1))) x1 q))) ∧ (¬ (l1 ≤ (3 : Int32)) → KM G q (d + 7) zk_X11_linear 13 [] [] x1 P X)))))) (fun c9 x9 => X c9 x9 q)) :
    KM G q (d + 7) zk_X11_linear 0 [(0, vr 0), (1, vi l1)] [] x P X := by
  have hq := hu.1
  refine T_aload_n 0 (dk dtk_X11_linear 0 rfl) rfl rfl ?_
  refine KN_Vv [] [] rfl (dk dtk_X11_linear 1 rfl) kcv_X11_160 rfl kk_0 rfl (kl_0 hq) (Nat.le_of_ble_eq_true rfl) (Nat.le_of_ble_eq_true rfl) (gok_i (av_c (gkr (kl_0 hq)) (av_c rfl av_n)) as_n) rfl h (fun x1 h => ?_)
  refine T_iload_n 1 (dk dtk_X11_linear 2 rfl) rfl rfl ?_
  refine T_if_lt 13 (dk dtk_X11_linear 3 rfl) (by decide) (fun c2 => ?_) (fun c2 => ?_)
  · have h := h.1 c2
    exact T_sub [] rfl h
  · have h := h.2 c2
    refine T_iload_n 1 (dk dtk_X11_linear 4 rfl) rfl rfl ?_
    refine T_iconst (v := 3) (dk dtk_X11_linear 5 rfl) (by decide +kernel) ?_
    refine T_icmp_le 24 (dk dtk_X11_linear 6 rfl) (by decide) (fun c3 => ?_) (fun c3 => ?_)
    · have h := h.1 c3
      refine T_aload_n 0 (dk dtk_X11_linear 12 rfl) rfl rfl ?_
      refine T_getR 0 5 160 (dk dtk_X11_linear 13 rfl) kfl_X11_53 kk_0 (kl_0 hq) (by decide) rfl kr_0_5 ?_
      refine T_getI 160 4 (dk dtk_X11_linear 14 rfl) kfl_X11_216 kk_160 (kl_160 hq) (by decide) rfl ?_
      refine T_bipush (v := 12) (dk dtk_X11_linear 15 rfl) (by decide +kernel) ?_
      refine T_icmp_le 38 (dk dtk_X11_linear 16 rfl) (by decide) (fun c4 => ?_) (fun c4 => ?_)
      · have h := h.1 c4
        refine T_aload_n 0 (dk dtk_X11_linear 19 rfl) rfl rfl ?_
        obtain ⟨u5, eu5⟩ : ∃ z, z = (kf q).1 0 8 := ⟨_, rfl⟩
        have h := h u5 eu5
        refine T_getO 0 8 (dk dtk_X11_linear 20 rfl) kfl_X11_280 kk_0 (kl_0 hq) (by decide) rfl ?_
        rw [← eu5]
        refine T_ifnonnull 56 (dk dtk_X11_linear 21 rfl) (by decide) (fun c7 c6 => ?_) (fun c6 => ?_)
        · have h := h.2 c7 c6
          exact h
        · have h := h.1 c6
          refine T_aload_n 0 (dk dtk_X11_linear 22 rfl) rfl rfl ?_
          obtain ⟨h0, h⟩ := h
          obtain ⟨q8, eq8⟩ : ∃ z, z = kHi q := ⟨_, rfl⟩
          obtain ⟨x9, ex9⟩ : ∃ z, z = xops (znew x1 180) ops_180 := ⟨_, rfl⟩
          have hu2 : kU q8 := by rw [eq8]; exact kHi_U hu h0
          have hle : kle q q8 := by rw [eq8]; exact kHi_le h0
          have h := h q8 x9 eq8 ex9 hu2 hle
          refine T_mkH (d := d + 5) hu h0 (gok_i (av_c (gkr (kl_0 hq)) (av_c rfl av_n)) (as_c (gkr (kl_0 hq)) as_n)) ?_
          rw [← eq8, ← ex9]
          have hu := hu2
          have hq := hu.1
          exact h
      · have h := h.2 c4
        refine T_iconst (v := (-1)) (dk dtk_X11_linear 17 rfl) (by decide +kernel) ?_
        exact KM_iret (dk dtk_X11_linear 18 rfl) rfl rfl h
    · have h := h.2 c3
      exact T_sub [] rfl h
set_option maxRecDepth 100000 in
set_option maxHeartbeats 4000000 in
theorem kg_X11_linear_13 {G : kG} {q : kP} {d : Nat} {x : gd} {P : Option gv → gd → kP → Prop} {X : String → gd → kP → Prop} (hu : kU q) 
    (h : X iAE x q) :
    KM G q (d + 7) zk_X11_linear 13 [] [] x P X := by
  have hq := hu.1
  exact T_thrW kth_X11_70_276 (dk dtk_X11_linear 7 rfl) (dk dtk_X11_linear 8 rfl) (dk dtk_X11_linear 9 rfl) (dk dtk_X11_linear 10 rfl) (dk dtk_X11_linear 11 rfl) (by intro z hz; cases hz) (by omega) (Nat.le_of_ble_eq_true rfl) ⟨_, Or.inr ⟨rfl, _, rfl, h⟩⟩
set_option maxRecDepth 100000 in
set_option maxHeartbeats 4000000 in
theorem kg_X11_linear_56 {G : kG} {q : kP} {d : Nat} {x : gd} {P : Option gv → gd → kP → Prop} {X : String → gd → kP → Prop} (hu : kU q) (l1 : Int32)
    (h : (∀ u1, u1 = (kf q).1 0 8 → u1 = some 180 ∧ q.hi = true ∧ KT G q (d + 6) zk_X3_take 0 [(0, vr 180), (1, vr 160)] [] x (rv (fun x2 => (∀ u3, u3 = (kf q).1 0 8 → u3 = some 180 ∧ q.hi = true ∧ KT G q (d + 6) zk_X3_fewestThatFail 0 [(0, vr 180), (1, vi l1)] [] x2 (ri (fun r5 x4 => ((¬ (r5 = (-1 : Int32)) → P (some (vi ((-2) - r5))) x4 q) ∧ (r5 = (-1 : Int32) → P (some (vi 1)) x4 q))))))))) :
    KM G q (d + 7) zk_X11_linear 56 [(0, vr 0), (1, vi l1)] [] x P X := by
  have hq := hu.1
  refine T_aload_n 0 (dk dtk_X11_linear 27 rfl) rfl rfl ?_
  obtain ⟨u1, eu1⟩ : ∃ z, z = (kf q).1 0 8 := ⟨_, rfl⟩
  have h := h u1 eu1
  refine T_getO 0 8 (dk dtk_X11_linear 28 rfl) kfl_X11_280 kk_0 (kl_0 hq) (by decide) rfl ?_
  rw [← eu1]
  refine T_aload_n 0 (dk dtk_X11_linear 29 rfl) rfl rfl ?_
  refine T_getR 0 5 160 (dk dtk_X11_linear 30 rfl) kfl_X11_53 kk_0 (kl_0 hq) (by decide) rfl kr_0_5 ?_
  obtain ⟨rfl, hh, h⟩ := h
  refine KC_Vv [vr 160] [] rfl (dk dtk_X11_linear 31 rfl) kcv_X11_285 rfl kk_180 rfl (kl_180 hq hh) (Nat.le_of_ble_eq_true rfl) (Nat.le_of_ble_eq_true rfl) (gok_i (av_c (gkr (kl_0 hq)) (av_c rfl av_n)) as_n) rfl h (fun x2 h => ?_)
  refine T_aload_n 0 (dk dtk_X11_linear 32 rfl) rfl rfl ?_
  obtain ⟨u3, eu3⟩ : ∃ z, z = (kf q).1 0 8 := ⟨_, rfl⟩
  have h := h u3 eu3
  refine T_getO 0 8 (dk dtk_X11_linear 33 rfl) kfl_X11_280 kk_0 (kl_0 hq) (by decide) rfl ?_
  rw [← eu3]
  refine T_iload_n 1 (dk dtk_X11_linear 34 rfl) rfl rfl ?_
  obtain ⟨rfl, hh, h⟩ := h
  refine T_sub (lv2 := []) [] rfl ?_
  refine KC_Vi [vi l1] [] rfl (dk dtk_X11_linear 35 rfl) kcv_X11_289 rfl kk_180 rfl (kl_180 hq hh) (Nat.le_of_ble_eq_true rfl) (Nat.le_of_ble_eq_true rfl) (gok_i av_n as_n) rfl h (fun r5 x4 h => ?_)
  refine T_istore_n (lv2 := [(2, vi r5)]) (dk dtk_X11_linear 36 rfl) rfl (by decide) rfl ?_
  refine T_iload_n 0 (dk dtk_X11_linear 37 rfl) rfl rfl ?_
  refine T_iconst (v := (-1)) (dk dtk_X11_linear 38 rfl) (by decide +kernel) ?_
  refine T_icmp_ne 85 (dk dtk_X11_linear 39 rfl) (by decide) (fun c6 => ?_) (fun c6 => ?_)
  · have h := h.1 c6
    refine T_bipush (v := (-2)) (dk dtk_X11_linear 42 rfl) (by decide +kernel) ?_
    refine T_iload_n 0 (dk dtk_X11_linear 43 rfl) rfl rfl ?_
    refine T_isub (dk dtk_X11_linear 44 rfl) ?_
    exact KM_iret (dk dtk_X11_linear 45 rfl) rfl rfl h
  · have h := h.2 c6
    refine T_iconst (v := 1) (dk dtk_X11_linear 40 rfl) (by decide +kernel) ?_
    refine T_goto 89 (dk dtk_X11_linear 41 rfl) (by decide) ?_
    exact KM_iret (dk dtk_X11_linear 45 rfl) rfl rfl h
set_option maxRecDepth 100000 in
set_option maxHeartbeats 4000000 in
theorem kg_X11_attempt_0 {G : kG} {q : kP} {d : Nat} {x : gd} {P : Option gv → gd → kP → Prop} {X : String → gd → kP → Prop} (hu : kU q) (l1 : Int32) (l2 : Int32)
    (h : KE G q (d + 6) zk_X11_needCompiled 0 [(0, vr 0)] [] x (rv (fun x1 => KE G q (d + 6) zk_X11_needWay 0 [(0, vi l1)] [] x1 (rv (fun x2 => ((l2 < (1 : Int32) → KM G q (d + 7) zk_X11_attempt 20 [] [] x2 P X) ∧ (¬ (l2 < (1 : Int32)) → ((l2 ≤ (3000 : Int32) → (∀ u5, u5 = (kf q).1 0 7 → ((u5 = none → q.ex = false ∧ (∀ q8 x9, q8 = kEx q → x9 = xops (znew x2 200) ops_200 → kU q8 → kle q q8 → KM G q8 (d + 7) zk_X11_attempt 53 [(0, vr 0), (1, vi l1), (2, vi l2)] [] x9 P X)) ∧ (∀ c7, u5 = some c7 → KM G q (d + 7) zk_X11_attempt 53 [(0, vr 0), (1, vi l1), (2, vi l2)] [] x2 P X)))) ∧ (¬ (l2 ≤ (3000 : Int32)) → KM G q (d + 7) zk_X11_attempt 20 [] [] x2 P X)))))) (fun c9 x9 => X c9 x9 q))) (fun c9 x9 => X c9 x9 q)) :
    KM G q (d + 7) zk_X11_attempt 0 [(0, vr 0), (1, vi l1), (2, vi l2)] [] x P X := by
  have hq := hu.1
  refine T_aload_n 0 (dk dtk_X11_attempt 0 rfl) rfl rfl ?_
  refine KN_Vv [] [] rfl (dk dtk_X11_attempt 1 rfl) kcv_X11_148 rfl kk_0 rfl (kl_0 hq) (Nat.le_of_ble_eq_true rfl) (Nat.le_of_ble_eq_true rfl) (gok_i (av_c (gkr (kl_0 hq)) (av_c rfl (av_c rfl av_n))) as_n) rfl h (fun x1 h => ?_)
  refine T_iload_n 1 (dk dtk_X11_attempt 2 rfl) rfl rfl ?_
  refine KN_Sv [vi l1] [] rfl (dk dtk_X11_attempt 3 rfl) kcs_X11_151 rfl (Nat.le_of_ble_eq_true rfl) (Nat.le_of_ble_eq_true rfl) (gok_i (av_c (gkr (kl_0 hq)) (av_c rfl (av_c rfl av_n))) as_n) rfl h (fun x2 h => ?_)
  refine T_iload_n 2 (dk dtk_X11_attempt 4 rfl) rfl rfl ?_
  refine T_iconst (v := 1) (dk dtk_X11_attempt 5 rfl) (by decide +kernel) ?_
  refine T_icmp_lt 20 (dk dtk_X11_attempt 6 rfl) (by decide) (fun c3 => ?_) (fun c3 => ?_)
  · have h := h.1 c3
    exact T_sub [] rfl h
  · have h := h.2 c3
    refine T_iload_n 2 (dk dtk_X11_attempt 7 rfl) rfl rfl ?_
    refine T_sipush (v := 3000) (dk dtk_X11_attempt 8 rfl) (by decide +kernel) ?_
    refine T_icmp_le 31 (dk dtk_X11_attempt 9 rfl) (by decide) (fun c4 => ?_) (fun c4 => ?_)
    · have h := h.1 c4
      refine T_aload_n 0 (dk dtk_X11_attempt 15 rfl) rfl rfl ?_
      obtain ⟨u5, eu5⟩ : ∃ z, z = (kf q).1 0 7 := ⟨_, rfl⟩
      have h := h u5 eu5
      refine T_getO 0 7 (dk dtk_X11_attempt 16 rfl) kfl_X11_294 kk_0 (kl_0 hq) (by decide) rfl ?_
      rw [← eu5]
      refine T_ifnonnull 53 (dk dtk_X11_attempt 17 rfl) (by decide) (fun c7 c6 => ?_) (fun c6 => ?_)
      · have h := h.2 c7 c6
        exact h
      · have h := h.1 c6
        refine T_aload_n 0 (dk dtk_X11_attempt 18 rfl) rfl rfl ?_
        obtain ⟨h0, h⟩ := h
        obtain ⟨q8, eq8⟩ : ∃ z, z = kEx q := ⟨_, rfl⟩
        obtain ⟨x9, ex9⟩ : ∃ z, z = xops (znew x2 200) ops_200 := ⟨_, rfl⟩
        have hu2 : kU q8 := by rw [eq8]; exact kEx_U hu h0
        have hle : kle q q8 := by rw [eq8]; exact kEx_le h0
        have h := h q8 x9 eq8 ex9 hu2 hle
        refine T_mkE (d := d + 3) hu h0 (gok_i (av_c (gkr (kl_0 hq)) (av_c rfl (av_c rfl av_n))) (as_c (gkr (kl_0 hq)) as_n)) rfl ?_
        rw [← eq8, ← ex9]
        have hu := hu2
        have hq := hu.1
        exact h
    · have h := h.2 c4
      exact T_sub [] rfl h
set_option maxRecDepth 100000 in
set_option maxHeartbeats 4000000 in
theorem kg_X11_attempt_20 {G : kG} {q : kP} {d : Nat} {x : gd} {P : Option gv → gd → kP → Prop} {X : String → gd → kP → Prop} (hu : kU q) 
    (h : X iAE x q) :
    KM G q (d + 7) zk_X11_attempt 20 [] [] x P X := by
  have hq := hu.1
  exact T_thrW kth_X11_70_292 (dk dtk_X11_attempt 10 rfl) (dk dtk_X11_attempt 11 rfl) (dk dtk_X11_attempt 12 rfl) (dk dtk_X11_attempt 13 rfl) (dk dtk_X11_attempt 14 rfl) (by intro z hz; cases hz) (by omega) (Nat.le_of_ble_eq_true rfl) ⟨_, Or.inr ⟨rfl, _, rfl, h⟩⟩
set_option maxRecDepth 100000 in
set_option maxHeartbeats 4000000 in
theorem kg_X11_attempt_53 {G : kG} {q : kP} {d : Nat} {x : gd} {P : Option gv → gd → kP → Prop} {X : String → gd → kP → Prop} (hu : kU q) (l1 : Int32) (l2 : Int32)
    (h : vp_in l1 2 ∧ (∀ u2, u2 = (kf q).1 7 (l1 : Int32).toNatClampNeg → ((u2 = none → vp_in l1 2 ∧ (((l1 : Int32).toNatClampNeg = 0 → q.t0 = false ∧ (∀ q5 x6, q5 = kT0 q → x6 = xops (znew x 260) ops_260 → kU q5 → kle q q5 → KM G q5 (d + 7) zk_X11_attempt 75 [(0, vr 0), (1, vi l1), (2, vi l2)] [] x6 P X)) ∧ ((l1 : Int32).toNatClampNeg = 1 → q.t1 = false ∧ (∀ q7 x8, q7 = kT1 q → x8 = xops (znew x 280) ops_280 → kU q7 → kle q q7 → KM G q7 (d + 7) zk_X11_attempt 75 [(0, vr 0), (1, vi l1), (2, vi l2)] [] x8 P X)))) ∧ (∀ c4, u2 = some c4 → KM G q (d + 7) zk_X11_attempt 75 [(0, vr 0), (1, vi l1), (2, vi l2)] [] x P X)))) :
    KM G q (d + 7) zk_X11_attempt 53 [(0, vr 0), (1, vi l1), (2, vi l2)] [] x P X := by
  have hq := hu.1
  refine T_aload_n 0 (dk dtk_X11_attempt 25 rfl) rfl rfl ?_
  refine T_getR 0 6 7 (dk dtk_X11_attempt 26 rfl) kfl_X11_59 kk_0 (kl_0 hq) (by decide) rfl kr_0_6 ?_
  refine T_iload_n 1 (dk dtk_X11_attempt 27 rfl) rfl rfl ?_
  obtain ⟨h1, h⟩ := h
  obtain ⟨u2, eu2⟩ : ∃ z, z = (kf q).1 7 (l1 : Int32).toNatClampNeg := ⟨_, rfl⟩
  have h := h u2 eu2
  refine T_aaldT 7 2 (dk dtk_X11_attempt 28 rfl) kk_7 (kl_7 hq) h1 ?_
  rw [← eu2]
  refine T_ifnonnull 75 (dk dtk_X11_attempt 29 rfl) (by decide) (fun c4 c3 => ?_) (fun c3 => ?_)
  · have h := h.2 c4 c3
    exact h
  · have h := h.1 c3
    refine T_aload_n 0 (dk dtk_X11_attempt 30 rfl) rfl rfl ?_
    refine T_getR 0 6 7 (dk dtk_X11_attempt 31 rfl) kfl_X11_59 kk_0 (kl_0 hq) (by decide) rfl kr_0_6 ?_
    refine T_iload_n 1 (dk dtk_X11_attempt 32 rfl) rfl rfl ?_
    obtain ⟨hin9, h⟩ := h
    have hc9 : (l1 : Int32).toNatClampNeg = 0 ∨ (l1 : Int32).toNatClampNeg = 1 := by have := vp_lt hin9; omega
    rcases hc9 with hi9 | hi9
    · obtain ⟨h0, h⟩ := h.1 hi9
      obtain ⟨q5, eq5⟩ : ∃ z, z = kT0 q := ⟨_, rfl⟩
      obtain ⟨x6, ex6⟩ : ∃ z, z = xops (znew x 260) ops_260 := ⟨_, rfl⟩
      have hu2 : kU q5 := by rw [eq5]; exact kT0_U hu h0
      have hle : kle q q5 := by rw [eq5]; exact kT0_le h0
      have h := h q5 x6 eq5 ex6 hu2 hle
      refine T_mkT0 (d := d + 5) hu h0 hi9 hin9 (gok_i (av_c (gkr (kl_0 hq)) (av_c rfl (av_c rfl av_n))) (as_c rfl (as_c (gkr (kl_7 hq)) as_n))) ?_
      rw [← eq5, ← ex6]
      have hu := hu2
      have hq := hu.1
      exact h
    · obtain ⟨h0, h⟩ := h.2 hi9
      obtain ⟨q7, eq7⟩ : ∃ z, z = kT1 q := ⟨_, rfl⟩
      obtain ⟨x8, ex8⟩ : ∃ z, z = xops (znew x 280) ops_280 := ⟨_, rfl⟩
      have hu2 : kU q7 := by rw [eq7]; exact kT1_U hu h0
      have hle : kle q q7 := by rw [eq7]; exact kT1_le h0
      have h := h q7 x8 eq7 ex8 hu2 hle
      refine T_mkT1 (d := d + 5) hu h0 hi9 hin9 (gok_i (av_c (gkr (kl_0 hq)) (av_c rfl (av_c rfl av_n))) (as_c rfl (as_c (gkr (kl_7 hq)) as_n))) ?_
      rw [← eq7, ← ex8]
      have hu := hu2
      have hq := hu.1
      exact h
set_option maxRecDepth 100000 in
set_option maxHeartbeats 4000000 in
theorem kg_X11_attempt_75 {G : kG} {q : kP} {d : Nat} {x : gd} {P : Option gv → gd → kP → Prop} {X : String → gd → kP → Prop} (hu : kU q) (l1 : Int32) (l2 : Int32)
    (h : (∀ u1, u1 = (kf q).1 0 7 → vp_in l1 2 ∧ (∀ u3, u3 = (kf q).1 7 (l1 : Int32).toNatClampNeg → ∃ c4, u3 = some c4 ∧ kiT q c4 ∧ u1 = some 200 ∧ q.ex = true ∧ KM G q (d + 6) zk_X2_explore 0 [(0, vr 200), (1, vi l1), (2, vi l2), (3, vr c4)] [] x (rm q (fun x6 q7 => vp_in l1 2 ∧ (∀ u9, u9 = (kf q7).1 7 (l1 : Int32).toNatClampNeg → ∃ c10, u9 = some c10 ∧ kiT q7 c10 ∧ P (some (vi (x6.1 c10 0))) x6 q7))) X))) :
    KM G q (d + 7) zk_X11_attempt 75 [(0, vr 0), (1, vi l1), (2, vi l2)] [] x P X := by
  have hq := hu.1
  refine T_aload_n 0 (dk dtk_X11_attempt 37 rfl) rfl rfl ?_
  obtain ⟨u1, eu1⟩ : ∃ z, z = (kf q).1 0 7 := ⟨_, rfl⟩
  have h := h u1 eu1
  refine T_getO 0 7 (dk dtk_X11_attempt 38 rfl) kfl_X11_294 kk_0 (kl_0 hq) (by decide) rfl ?_
  rw [← eu1]
  refine T_iload_n 1 (dk dtk_X11_attempt 39 rfl) rfl rfl ?_
  refine T_iload_n 2 (dk dtk_X11_attempt 40 rfl) rfl rfl ?_
  refine T_aload_n 0 (dk dtk_X11_attempt 41 rfl) rfl rfl ?_
  refine T_getR 0 6 7 (dk dtk_X11_attempt 42 rfl) kfl_X11_59 kk_0 (kl_0 hq) (by decide) rfl kr_0_6 ?_
  refine T_iload_n 1 (dk dtk_X11_attempt 43 rfl) rfl rfl ?_
  obtain ⟨h2, h⟩ := h
  obtain ⟨u3, eu3⟩ : ∃ z, z = (kf q).1 7 (l1 : Int32).toNatClampNeg := ⟨_, rfl⟩
  have h := h u3 eu3
  refine T_aaldT 7 2 (dk dtk_X11_attempt 44 rfl) kk_7 (kl_7 hq) h2 ?_
  rw [← eu3]
  obtain ⟨c4, rfl, g5, h⟩ := h
  obtain ⟨rfl, he, h⟩ := h
  refine T_sub (lv2 := [(0, vr 0), (1, vi l1)]) [0, 1] rfl ?_
  refine KM_Vv [vi l1, vi l2, vr c4] [] rfl (dk dtk_X11_attempt 45 rfl) kcv_X11_302 rfl kk_200 rfl (kl_200 hq he) (Nat.le_of_ble_eq_true rfl) (Nat.le_of_ble_eq_true rfl) (gok_i (av_c (gkr (kl_0 hq)) (av_c rfl av_n)) as_n) rfl h (fun x6 q7 hu hle h => ?_)
  have hq := hu.1
  have g5 := kle_T hle g5
  have he := hle.2.1.2.1 he
  refine T_aload_n 0 (dk dtk_X11_attempt 46 rfl) rfl rfl ?_
  refine T_getR 0 6 7 (dk dtk_X11_attempt 47 rfl) kfl_X11_59 kk_0 (kl_0 hq) (by decide) rfl kr_0_6 ?_
  refine T_iload_n 1 (dk dtk_X11_attempt 48 rfl) rfl rfl ?_
  obtain ⟨h8, h⟩ := h
  obtain ⟨u9, eu9⟩ : ∃ z, z = (kf q7).1 7 (l1 : Int32).toNatClampNeg := ⟨_, rfl⟩
  have h := h u9 eu9
  refine T_aaldT 7 2 (dk dtk_X11_attempt 49 rfl) kk_7 (kl_7 hq) h8 ?_
  rw [← eu9]
  obtain ⟨c10, rfl, g11, h⟩ := h
  refine T_getI c10 0 (dk dtk_X11_attempt 50 rfl) kfl_X11_306 (kk_T0 g11) (kl_T0 hq g11) (by decide) rfl ?_
  exact KM_iret (dk dtk_X11_attempt 51 rfl) rfl rfl h
set_option maxRecDepth 100000 in
set_option maxHeartbeats 4000000 in
theorem kg_X11_compile_0 {G : kG} {q : kP} {d : Nat} {x : gd} {P : Option gv → gd → kP → Prop} {X : String → gd → kP → Prop} (hu : kU q) 
    (h : KT G q d zk_X11_forgetAll 0 [(0, vr 0)] [] x (rv (fun x1 => KT G q d zk_X9_cut 0 [(0, vr 20)] [] x1 (rv (fun x2 => KE G q d zk_X7_readAll 0 [(0, vr 100)] [] x2 (rv (fun x3 => KT G q d zk_X6_judge 0 [(0, vr 40)] [] x3 (ri (fun r5 x4 => KM G q (d + 1) zk_X11_compile 58 [(0, vr 0), (1, vi r5), (2, vi (x4.1 40 11))] [] x4 P X)))) (fun c9 x9 => c9 = iSE ∧ KM G (kTh q) (d + 1) zk_X11_compile 42 [(0, vr 0)] [] x9 P X)))))) :
    KM G q (d + 1) zk_X11_compile 0 [(0, vr 0)] [] x P X := by
  have hq := hu.1
  refine T_aload_n 0 (dk dtk_X11_compile 0 rfl) rfl rfl ?_
  refine KH_Vv [] [] rfl (dk dtk_X11_compile 1 rfl) kcv_X11_86 rfl kk_0 rfl (kl_0 hq) (Nat.le_of_ble_eq_true rfl) (Nat.le_of_ble_eq_true rfl) (gok_i (av_c (gkr (kl_0 hq)) av_n) as_n) (by intro z hz; cases hz with | head => rfl | tail _ hz => cases hz) h (fun x1 h => ?_)
  refine T_aload_n 0 (dk dtk_X11_compile 2 rfl) rfl rfl ?_
  refine T_getR 0 0 20 (dk dtk_X11_compile 3 rfl) kfl_X11_10 kk_0 (kl_0 hq) (by decide) rfl kr_0_0 ?_
  refine KH_Vv [] [] rfl (dk dtk_X11_compile 4 rfl) kcv_X11_89 rfl kk_20 rfl (kl_20 hq) (Nat.le_of_ble_eq_true rfl) (Nat.le_of_ble_eq_true rfl) (gok_i (av_c (gkr (kl_0 hq)) av_n) as_n) (by intro z hz; cases hz with | head => rfl | tail _ hz => cases hz) h (fun x2 h => ?_)
  refine T_iconst (v := 0) (dk dtk_X11_compile 5 rfl) (by decide +kernel) ?_
  refine T_istore_n (lv2 := [(1, vi 0), (0, vr 0)]) (dk dtk_X11_compile 6 rfl) rfl (by decide) rfl ?_
  refine T_iconst (v := (-1)) (dk dtk_X11_compile 7 rfl) (by decide +kernel) ?_
  refine T_istore_n (lv2 := [(2, vi (-1)), (1, vi 0), (0, vr 0)]) (dk dtk_X11_compile 8 rfl) rfl (by decide) rfl ?_
  refine T_aload_n 2 (dk dtk_X11_compile 9 rfl) rfl rfl ?_
  refine T_getR 0 3 100 (dk dtk_X11_compile 10 rfl) kfl_X11_37 kk_0 (kl_0 hq) (by decide) rfl kr_0_3 ?_
  refine T_sub (lv2 := [(0, vr 0)]) [2] rfl ?_
  refine KJ_cat [] [] rfl (dk dtk_X11_compile 11 rfl) kcv_X11_92 rfl kk_100 rfl (kl_100 hq) (Nat.le_of_ble_eq_true rfl) (Nat.le_of_ble_eq_true rfl) (gok_i (av_c (gkr (kl_0 hq)) av_n) as_n) rfl rfl rfl h (fun x3 h => ?_)
  refine T_aload_n 0 (dk dtk_X11_compile 12 rfl) rfl rfl ?_
  refine T_getR 0 1 40 (dk dtk_X11_compile 13 rfl) kfl_X11_21 kk_0 (kl_0 hq) (by decide) rfl kr_0_1 ?_
  refine KJ_Vi [] [] rfl (dk dtk_X11_compile 14 rfl) kcv_X11_95 rfl kk_40 rfl (kl_40 hq) (Nat.le_of_ble_eq_true rfl) (Nat.le_of_ble_eq_true rfl) (gok_i (av_c (gkr (kl_0 hq)) av_n) as_n) rfl rfl rfl h (fun r5 x4 h => ?_)
  refine T_istore_n (lv2 := [(1, vi r5), (0, vr 0)]) (dk dtk_X11_compile 15 rfl) rfl (by decide) rfl ?_
  refine T_aload_n 1 (dk dtk_X11_compile 16 rfl) rfl rfl ?_
  refine T_getR 0 1 40 (dk dtk_X11_compile 17 rfl) kfl_X11_21 kk_0 (kl_0 hq) (by decide) rfl kr_0_1 ?_
  refine T_getI 40 11 (dk dtk_X11_compile 18 rfl) kfl_X11_99 kk_40 (kl_40 hq) (by decide) rfl ?_
  refine T_istore_n (lv2 := [(2, vi (x4.1 40 11)), (1, vi r5), (0, vr 0)]) (dk dtk_X11_compile 19 rfl) rfl (by decide) rfl ?_
  refine T_goto 58 (dk dtk_X11_compile 20 rfl) (by decide) ?_
  exact T_sub [2, 1, 0] rfl h
set_option maxRecDepth 100000 in
set_option maxHeartbeats 4000000 in
theorem kg_X11_compile_42 {G : kG} {q : kP} {d : Nat} {x : gd} {P : Option gv → gd → kP → Prop} {X : String → gd → kP → Prop} (hu : kU q) 
    (h : KT G q d zk_X7_tokenHere 0 [(0, vr 100)] [] x (ri (fun r2 x1 => KM G q (d + 1) zk_X11_compile 58 [(0, vr 0), (1, vi (x.1 100 6)), (2, vi r2)] [] x1 P X))) :
    KM G q (d + 1) zk_X11_compile 42 [(0, vr 0)] [] x P X := by
  have hq := hu.1
  refine T_aload_n 0 (dk dtk_X11_compile 22 rfl) rfl rfl ?_
  refine T_getR 0 3 100 (dk dtk_X11_compile 23 rfl) kfl_X11_37 kk_0 (kl_0 hq) (by decide) rfl kr_0_3 ?_
  refine T_getI 100 6 (dk dtk_X11_compile 24 rfl) kfl_X11_104 kk_100 (kl_100 hq) (by decide) rfl ?_
  refine T_istore_n (lv2 := [(1, vi (x.1 100 6)), (0, vr 0)]) (dk dtk_X11_compile 25 rfl) rfl (by decide) rfl ?_
  refine T_aload_n 1 (dk dtk_X11_compile 26 rfl) rfl rfl ?_
  refine T_getR 0 3 100 (dk dtk_X11_compile 27 rfl) kfl_X11_37 kk_0 (kl_0 hq) (by decide) rfl kr_0_3 ?_
  refine KH_Vi [] [] rfl (dk dtk_X11_compile 28 rfl) kcv_X11_107 rfl kk_100 rfl (kl_100 hq) (Nat.le_of_ble_eq_true rfl) (Nat.le_of_ble_eq_true rfl) (gok_i (av_c rfl (av_c (gkr (kl_0 hq)) av_n)) as_n) (by intro z hz; cases hz with | head => rfl | tail _ hz => cases hz) h (fun r2 x1 h => ?_)
  refine T_istore_n (lv2 := [(2, vi r2), (1, vi (x.1 100 6)), (0, vr 0)]) (dk dtk_X11_compile 29 rfl) rfl (by decide) rfl ?_
  exact T_sub [2, 1, 0] rfl h
set_option maxRecDepth 100000 in
set_option maxHeartbeats 4000000 in
theorem kg_X11_compile_58 {G : kG} {q : kP} {d : Nat} {x : gd} {P : Option gv → gd → kP → Prop} {X : String → gd → kP → Prop} (hu : kU q) (l1 : Int32) (l2 : Int32)
    (h : ((¬ (l1 = (0 : Int32)) → KM G q (d + 1) zk_X11_compile 68 [(0, vr 0), (1, vi l1), (2, vi l2)] [vi 0, vr 0] x P X) ∧ (l1 = (0 : Int32) → KM G q (d + 1) zk_X11_compile 68 [(0, vr 0), (1, vi l1), (2, vi l2)] [vi 1, vr 0] x P X))) :
    KM G q (d + 1) zk_X11_compile 58 [(0, vr 0), (1, vi l1), (2, vi l2)] [] x P X := by
  have hq := hu.1
  refine T_aload_n 0 (dk dtk_X11_compile 30 rfl) rfl rfl ?_
  refine T_iload_n 1 (dk dtk_X11_compile 31 rfl) rfl rfl ?_
  refine T_if_ne 67 (dk dtk_X11_compile 32 rfl) (by decide) (fun c1 => ?_) (fun c1 => ?_)
  · have h := h.1 c1
    refine T_iconst (v := 0) (dk dtk_X11_compile 35 rfl) (by decide +kernel) ?_
    exact h
  · have h := h.2 c1
    refine T_iconst (v := 1) (dk dtk_X11_compile 33 rfl) (by decide +kernel) ?_
    refine T_goto 68 (dk dtk_X11_compile 34 rfl) (by decide) ?_
    exact h
set_option maxRecDepth 100000 in
set_option maxHeartbeats 4000000 in
theorem kg_X11_compile_68 {G : kG} {q : kP} {d : Nat} {x : gd} {P : Option gv → gd → kP → Prop} {X : String → gd → kP → Prop} (hu : kU q) (l1 : Int32) (l2 : Int32) (s0 : Int32)
    (h : gbool s0 ∧ (∀ x1 : gd, x1 = si x 0 9 s0 → (((x1.1 0 9) = (0 : Int32) → vp_in l2 702 ∧ KM G q (d + 1) zk_X11_compile 92 [(0, vr 0), (1, vi l1), (2, vi l2)] [vi (x1.1 24 (l2 : Int32).toNatClampNeg), vr 0] x1 P X) ∧ (¬ ((x1.1 0 9) = (0 : Int32)) → KM G q (d + 1) zk_X11_compile 92 [(0, vr 0), (1, vi l1), (2, vi l2)] [vi (-1), vr 0] x1 P X)))) :
    KM G q (d + 1) zk_X11_compile 68 [(0, vr 0), (1, vi l1), (2, vi l2)] [vi s0, vr 0] x P X := by
  have hq := hu.1
  obtain ⟨h2, h⟩ := h
  obtain ⟨x1, ex1⟩ : ∃ z, z = si x 0 9 s0 := ⟨_, rfl⟩
  have h := h x1 ex1
  refine T_putI 0 9 (dk dtk_X11_compile 36 rfl) kfl_X11_110 kk_0 (kl_0 hq) (by decide) rfl h2 ?_
  rw [← ex1]
  refine T_aload_n 0 (dk dtk_X11_compile 37 rfl) rfl rfl ?_
  refine T_aload_n 0 (dk dtk_X11_compile 38 rfl) rfl rfl ?_
  refine T_getI 0 9 (dk dtk_X11_compile 39 rfl) kfl_X11_110 kk_0 (kl_0 hq) (by decide) rfl ?_
  refine T_if_eq 83 (dk dtk_X11_compile 40 rfl) (by decide) (fun c3 => ?_) (fun c3 => ?_)
  · have h := h.1 c3
    refine T_aload_n 0 (dk dtk_X11_compile 43 rfl) rfl rfl ?_
    refine T_getR 0 0 20 (dk dtk_X11_compile 44 rfl) kfl_X11_10 kk_0 (kl_0 hq) (by decide) rfl kr_0_0 ?_
    refine T_getR 20 3 24 (dk dtk_X11_compile 45 rfl) kfl_X11_114 kk_20 (kl_20 hq) (by decide) rfl kr_20_3 ?_
    refine T_iload_n 2 (dk dtk_X11_compile 46 rfl) rfl rfl ?_
    obtain ⟨h4, h⟩ := h
    refine T_iald 24 702 (dk dtk_X11_compile 47 rfl) kk_24 (kl_24 hq) h4 ?_
    exact h
  · have h := h.2 c3
    refine T_iconst (v := (-1)) (dk dtk_X11_compile 41 rfl) (by decide +kernel) ?_
    refine T_goto 92 (dk dtk_X11_compile 42 rfl) (by decide) ?_
    exact h
set_option maxRecDepth 100000 in
set_option maxHeartbeats 4000000 in
theorem kg_X11_compile_92 {G : kG} {q : kP} {d : Nat} {x : gd} {P : Option gv → gd → kP → Prop} {X : String → gd → kP → Prop} (hu : kU q) (l1 : Int32) (l2 : Int32) (s0 : Int32)
    (h : (∀ x1 : gd, x1 = si x 0 11 s0 → (((x1.1 0 9) = (0 : Int32) → vp_in l2 702 ∧ KM G q (d + 1) zk_X11_compile 116 [(0, vr 0), (1, vi l1)] [vi (x1.1 25 (l2 : Int32).toNatClampNeg), vr 0] x1 P X) ∧ (¬ ((x1.1 0 9) = (0 : Int32)) → KM G q (d + 1) zk_X11_compile 116 [(0, vr 0), (1, vi l1)] [vi (-1), vr 0] x1 P X)))) :
    KM G q (d + 1) zk_X11_compile 92 [(0, vr 0), (1, vi l1), (2, vi l2)] [vi s0, vr 0] x P X := by
  have hq := hu.1
  obtain ⟨x1, ex1⟩ : ∃ z, z = si x 0 11 s0 := ⟨_, rfl⟩
  have h := h x1 ex1
  refine T_putI 0 11 (dk dtk_X11_compile 48 rfl) kfl_X11_63 kk_0 (kl_0 hq) (by decide) rfl ⟨rfl, rfl⟩ ?_
  rw [← ex1]
  refine T_aload_n 0 (dk dtk_X11_compile 49 rfl) rfl rfl ?_
  refine T_aload_n 0 (dk dtk_X11_compile 50 rfl) rfl rfl ?_
  refine T_getI 0 9 (dk dtk_X11_compile 51 rfl) kfl_X11_110 kk_0 (kl_0 hq) (by decide) rfl ?_
  refine T_if_eq 107 (dk dtk_X11_compile 52 rfl) (by decide) (fun c2 => ?_) (fun c2 => ?_)
  · have h := h.1 c2
    refine T_aload_n 0 (dk dtk_X11_compile 55 rfl) rfl rfl ?_
    refine T_getR 0 0 20 (dk dtk_X11_compile 56 rfl) kfl_X11_10 kk_0 (kl_0 hq) (by decide) rfl kr_0_0 ?_
    refine T_getR 20 4 25 (dk dtk_X11_compile 57 rfl) kfl_X11_118 kk_20 (kl_20 hq) (by decide) rfl kr_20_4 ?_
    refine T_iload_n 2 (dk dtk_X11_compile 58 rfl) rfl rfl ?_
    obtain ⟨h3, h⟩ := h
    refine T_iald 25 702 (dk dtk_X11_compile 59 rfl) kk_25 (kl_25 hq) h3 ?_
    exact T_sub [0, 1] rfl h
  · have h := h.2 c2
    refine T_iconst (v := (-1)) (dk dtk_X11_compile 53 rfl) (by decide +kernel) ?_
    refine T_goto 116 (dk dtk_X11_compile 54 rfl) (by decide) ?_
    exact T_sub [0, 1] rfl h
set_option maxRecDepth 100000 in
set_option maxHeartbeats 4000000 in
theorem kg_X11_compile_116 {G : kG} {q : kP} {d : Nat} {x : gd} {P : Option gv → gd → kP → Prop} {X : String → gd → kP → Prop} (hu : kU q) (l1 : Int32) (s0 : Int32)
    (h : (∀ x1 : gd, x1 = si x 0 12 s0 → ((¬ ((x1.1 0 9) = (0 : Int32)) → KT G q d zk_X7_link 0 [(0, vr 100)] [] x1 (rv (fun x3 => P (some (vi (x3.1 60 10))) x3 q))) ∧ ((x1.1 0 9) = (0 : Int32) → P (some (vi (-l1))) x1 q)))) :
    KM G q (d + 1) zk_X11_compile 116 [(0, vr 0), (1, vi l1)] [vi s0, vr 0] x P X := by
  have hq := hu.1
  obtain ⟨x1, ex1⟩ : ∃ z, z = si x 0 12 s0 := ⟨_, rfl⟩
  have h := h x1 ex1
  refine T_putI 0 12 (dk dtk_X11_compile 60 rfl) kfl_X11_67 kk_0 (kl_0 hq) (by decide) rfl ⟨rfl, rfl⟩ ?_
  rw [← ex1]
  refine T_aload_n 0 (dk dtk_X11_compile 61 rfl) rfl rfl ?_
  refine T_getI 0 9 (dk dtk_X11_compile 62 rfl) kfl_X11_110 kk_0 (kl_0 hq) (by decide) rfl ?_
  refine T_if_ne 129 (dk dtk_X11_compile 63 rfl) (by decide) (fun c2 => ?_) (fun c2 => ?_)
  · have h := h.1 c2
    refine T_aload_n 0 (dk dtk_X11_compile 67 rfl) rfl rfl ?_
    refine T_getR 0 3 100 (dk dtk_X11_compile 68 rfl) kfl_X11_37 kk_0 (kl_0 hq) (by decide) rfl kr_0_3 ?_
    refine T_sub (lv2 := [(0, vr 0)]) [0] rfl ?_
    refine KH_Vv [] [] rfl (dk dtk_X11_compile 69 rfl) kcv_X11_121 rfl kk_100 rfl (kl_100 hq) (Nat.le_of_ble_eq_true rfl) (Nat.le_of_ble_eq_true rfl) (gok_i (av_c (gkr (kl_0 hq)) av_n) as_n) (by intro z hz; cases hz with | head => rfl | tail _ hz => cases hz) h (fun x3 h => ?_)
    refine T_aload_n 0 (dk dtk_X11_compile 70 rfl) rfl rfl ?_
    refine T_getR 0 2 60 (dk dtk_X11_compile 71 rfl) kfl_X11_28 kk_0 (kl_0 hq) (by decide) rfl kr_0_2 ?_
    refine T_getI 60 10 (dk dtk_X11_compile 72 rfl) kfl_X11_124 kk_60 (kl_60 hq) (by decide) rfl ?_
    exact KM_iret (dk dtk_X11_compile 73 rfl) rfl rfl h
  · have h := h.2 c2
    refine T_iload_n 1 (dk dtk_X11_compile 64 rfl) rfl rfl ?_
    refine T_ineg (dk dtk_X11_compile 65 rfl) ?_
    exact KM_iret (dk dtk_X11_compile 66 rfl) rfl rfl h
end
section
/-! the class: what changes, tokens -/
theorem tm1 : (-1 : Int32).toInt = -1 := rfl
theorem bm {z : Int} (h1 : -2147483648 ≤ z) (h2 : z ≤ 2147483647) : Int.bmod z 4294967296 = z := Int.bmod_eq_of_le (by omega) (by omega)
theorem sfl_get {x : gd} {c c' j n : Nat} {v : Int32} : (sfl x c v n).1 c' j = if c' = c ∧ j < n then v else x.1 c' j := by
  show (if c' = c then (fun j => if j < n then v else x.1 c j) else x.1 c') j = _
  by_cases h : c' = c
  · subst h
    rw [if_pos rfl]
    show (if j < n then v else x.1 c' j) = _
    by_cases h2 : j < n
    · rw [if_pos h2, if_pos ⟨rfl, h2⟩]
    · rw [if_neg h2, if_neg (fun q => h2 q.2)]
  · rw [if_neg h, if_neg (fun q => h q.1)]
/-- x' is x but where S says -/
def fm (S : Nat → Nat → Prop) (x x' : gd) : Prop := ∀ c k, ¬ S c k → x'.1 c k = x.1 c k
theorem fm_rf (S : Nat → Nat → Prop) (x : gd) : fm S x x := fun _ _ _ => rfl
theorem fm_tr {S : Nat → Nat → Prop} {x y z : gd} (a : fm S x y) (b : fm S y z) : fm S x z := fun c k h => (b c k h).trans (a c k h)
theorem fm_w {S S' : Nat → Nat → Prop} {x y : gd} (a : fm S x y) (h : ∀ c k, S c k → S' c k) : fm S' x y := fun c k n => a c k (fun q => n (h c k q))
theorem fm_si {S : Nat → Nat → Prop} {x y : gd} {c k : Nat} {v : Int32} (a : fm S x y) (h : S c k) : fm S x (si y c k v) := fun c' k' n => by
  rw [si_get, if_neg (fun q => n (by rw [q.1, q.2]; exact h))]; exact a c' k' n
theorem fm_fl {S : Nat → Nat → Prop} {x y : gd} {c n : Nat} {v : Int32} (a : fm S x y) (h : ∀ k, k < n → S c k) : fm S x (sfl y c v n) := fun c' k' m => by
  rw [sfl_get, if_neg (fun q => m (by rw [q.1]; exact h k' q.2))]; exact a c' k' m
/-- the text's length -/
def kL (x : gd) : Prop := 0 ≤ (x.1 20 1).toInt ∧ (x.1 20 1).toInt ≤ 3000
section KTOK
variable {G : kG} {q : kP} {d : Nat} {x : gd} {F : Int32 → gd → Prop} {Fv : gd → Prop}
/-- the new token's size and, where it is a whole, its value -/
def skO (m c k : Nat) : Prop := (c = 20 ∧ k = 8) ∨ ((c = 26 ∨ c = 27) ∧ k = m)
end KTOK
end
