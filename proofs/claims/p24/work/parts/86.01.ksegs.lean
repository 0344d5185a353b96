set_option maxRecDepth 100000 in
theorem dtk_X9_nameOrWord : dck cX9_nameOrWord [(0, .aload_n 0, 1), (1, .getfield 25, 3), (4, .aload_n 0, 1), (5, .getfield 41, 3), (8, .iaload, 1), (9, .bipush 12, 2), (11, .if_icmp .le 5, 3), (14, .iconst 1, 1), (15, .ireturn, 1), (16, .iconst 0, 1), (17, .istore_n 2, 1), (18, .iload_n 2, 1), (19, .bipush 32, 2), (21, .if_icmp .ge 32, 3), (24, .aload_n 0, 1), (25, .iload_n 2, 1), (26, .iload_n 1, 1), (27, .aload_n 0, 1), (28, .getfield 25, 3), (31, .aload_n 0, 1), (32, .getfield 41, 3), (35, .iaload, 1), (36, .invokevirtual 75, 3), (39, .ifCond .eq 8, 3), (42, .bipush 40, 2), (44, .iload_n 2, 1), (45, .iadd, 1), (46, .ireturn, 1), (47, .iinc 2 1, 3), (50, .goto (-32), 3), (53, .iconst 0, 1), (54, .istore_n 2, 1), (55, .iconst 0, 1), (56, .istore_n 3, 1), (57, .iload_n 3, 1), (58, .aload_n 0, 1), (59, .getfield 25, 3), (62, .aload_n 0, 1), (63, .getfield 41, 3), (66, .iaload, 1), (67, .if_icmp .ge 22, 3), (70, .iload_n 2, 1), (71, .bipush 31, 2), (73, .imul, 1), (74, .aload_n 0, 1), (75, .iload_n 1, 1), (76, .iload_n 3, 1), (77, .iadd, 1), (78, .invokevirtual 51, 3), (81, .iadd, 1), (82, .istore_n 2, 1), (83, .iinc 3 1, 3), (86, .goto (-29), 3), (89, .aload_n 0, 1), (90, .getfield 28, 3), (93, .aload_n 0, 1), (94, .getfield 41, 3), (97, .iload_n 2, 1), (98, .iastore, 1), (99, .iconst 2, 1), (100, .ireturn, 1)] = true := by decide +kernel
set_option maxRecDepth 100000 in
set_option maxHeartbeats 4000000 in
theorem kg_X9_nameOrWord_0 {G : kG} {q : kP} {d : Nat} {x : gd} {P : Option gv → gd → Prop} (hq : kV q) (l1 : Int32)
    (h : vp_in (x.1 20 7) 702 ∧ (((x.1 26 (x.1 20 7 : Int32).toNatClampNeg) ≤ (12 : Int32) → KT G q (d + 1) zk_X9_nameOrWord 18 [(0, vr 20), (1, vi l1), (2, vi 0)] [] x P) ∧ (¬ ((x.1 26 (x.1 20 7 : Int32).toNatClampNeg) ≤ (12 : Int32)) → P (some (vi 1)) x))) :
    KT G q (d + 1) zk_X9_nameOrWord 0 [(0, vr 20), (1, vi l1)] [] x P := by
  refine T_aload_n 0 (dk dtk_X9_nameOrWord 0 rfl) rfl rfl ?_
  refine T_getR 20 5 26 (dk dtk_X9_nameOrWord 1 rfl) kfl_X9_25 kk_20 (kl_20 hq) (by decide) rfl kr_20_5 ?_
  refine T_aload_n 0 (dk dtk_X9_nameOrWord 2 rfl) rfl rfl ?_
  refine T_getI 20 7 (dk dtk_X9_nameOrWord 3 rfl) kfl_X9_41 kk_20 (kl_20 hq) (by decide) rfl ?_
  obtain ⟨h1, h⟩ := h
  refine T_iald 26 702 (dk dtk_X9_nameOrWord 4 rfl) kk_26 (kl_26 hq) h1 ?_
  refine T_bipush (v := 12) (dk dtk_X9_nameOrWord 5 rfl) (by decide +kernel) ?_
  refine T_icmp_le 16 (dk dtk_X9_nameOrWord 6 rfl) (by decide) (fun c2 => ?_) (fun c2 => ?_)
  · have h := h.1 c2
    refine T_iconst (v := 0) (dk dtk_X9_nameOrWord 9 rfl) (by decide +kernel) ?_
    refine T_istore_n (lv2 := [(2, vi 0), (0, vr 20), (1, vi l1)]) (dk dtk_X9_nameOrWord 10 rfl) rfl (by decide) rfl ?_
    exact T_sub [1, 2, 0] rfl h
  · have h := h.2 c2
    refine T_iconst (v := 1) (dk dtk_X9_nameOrWord 7 rfl) (by decide +kernel) ?_
    exact KT_iret (dk dtk_X9_nameOrWord 8 rfl) rfl rfl h
set_option maxRecDepth 100000 in
set_option maxHeartbeats 4000000 in
theorem kg_X9_nameOrWord_18 {G : kG} {q : kP} {d : Nat} {x : gd} {P : Option gv → gd → Prop} (hq : kV q) (l1 : Int32) (l2 : Int32)
    (h : (((32 : Int32) ≤ l2 → KT G q (d + 1) zk_X9_nameOrWord 57 [(0, vr 20), (1, vi l1), (2, vi 0), (3, vi 0)] [] x P) ∧ (¬ ((32 : Int32) ≤ l2) → vp_in (x.1 20 7) 702 ∧ KT G q d zk_X9_isWord 0 [(0, vr 20), (1, vi l2), (2, vi l1), (3, vi (x.1 26 (x.1 20 7 : Int32).toNatClampNeg))] [] x (ri (fun r4 x3 => ((r4 = (0 : Int32) → KT G q (d + 1) zk_X9_nameOrWord 18 [(0, vr 20), (1, vi l1), (2, vi (l2 + 1))] [] x3 P) ∧ (¬ (r4 = (0 : Int32)) → P (some (vi (40 + l2))) x3))))))) :
    KT G q (d + 1) zk_X9_nameOrWord 18 [(0, vr 20), (1, vi l1), (2, vi l2)] [] x P := by
  refine T_iload_n 2 (dk dtk_X9_nameOrWord 11 rfl) rfl rfl ?_
  refine T_bipush (v := 32) (dk dtk_X9_nameOrWord 12 rfl) (by decide +kernel) ?_
  refine T_icmp_ge 53 (dk dtk_X9_nameOrWord 13 rfl) (by decide) (fun c1 => ?_) (fun c1 => ?_)
  · have h := h.1 c1
    refine T_iconst (v := 0) (dk dtk_X9_nameOrWord 30 rfl) (by decide +kernel) ?_
    refine T_istore_n (lv2 := [(2, vi 0), (0, vr 20), (1, vi l1)]) (dk dtk_X9_nameOrWord 31 rfl) rfl (by decide) rfl ?_
    refine T_iconst (v := 0) (dk dtk_X9_nameOrWord 32 rfl) (by decide +kernel) ?_
    refine T_istore_n (lv2 := [(3, vi 0), (2, vi 0), (0, vr 20), (1, vi l1)]) (dk dtk_X9_nameOrWord 33 rfl) rfl (by decide) rfl ?_
    exact T_sub [2, 3, 1, 0] rfl h
  · have h := h.2 c1
    refine T_aload_n 0 (dk dtk_X9_nameOrWord 14 rfl) rfl rfl ?_
    refine T_iload_n 2 (dk dtk_X9_nameOrWord 15 rfl) rfl rfl ?_
    refine T_iload_n 1 (dk dtk_X9_nameOrWord 16 rfl) rfl rfl ?_
    refine T_aload_n 0 (dk dtk_X9_nameOrWord 17 rfl) rfl rfl ?_
    refine T_getR 20 5 26 (dk dtk_X9_nameOrWord 18 rfl) kfl_X9_25 kk_20 (kl_20 hq) (by decide) rfl kr_20_5 ?_
    refine T_aload_n 0 (dk dtk_X9_nameOrWord 19 rfl) rfl rfl ?_
    refine T_getI 20 7 (dk dtk_X9_nameOrWord 20 rfl) kfl_X9_41 kk_20 (kl_20 hq) (by decide) rfl ?_
    obtain ⟨h2, h⟩ := h
    refine T_iald 26 702 (dk dtk_X9_nameOrWord 21 rfl) kk_26 (kl_26 hq) h2 ?_
    refine KC_Vi [vi l2, vi l1, vi (x.1 26 (x.1 20 7 : Int32).toNatClampNeg)] [] rfl (dk dtk_X9_nameOrWord 22 rfl) kcv_X9_75 rfl kk_20 rfl (kl_20 hq) (Nat.le_of_ble_eq_true rfl) (Nat.le_of_ble_eq_true rfl) (gok_i (av_c (gkr (kl_20 hq)) (av_c rfl (av_c rfl av_n))) as_n) rfl h (fun r4 x3 h => ?_)
    refine T_if_eq 47 (dk dtk_X9_nameOrWord 23 rfl) (by decide) (fun c5 => ?_) (fun c5 => ?_)
    · have h := h.1 c5
      refine T_iinc (v := l2 + 1) (lv2 := [(2, vi (l2 + 1)), (0, vr 20), (1, vi l1)]) 2 (dk dtk_X9_nameOrWord 28 rfl) rfl rfl (by decide) rfl ?_
      refine T_goto 18 (dk dtk_X9_nameOrWord 29 rfl) (by decide) ?_
      exact T_sub [1, 2, 0] rfl h
    · have h := h.2 c5
      refine T_bipush (v := 40) (dk dtk_X9_nameOrWord 24 rfl) (by decide +kernel) ?_
      refine T_iload_n 2 (dk dtk_X9_nameOrWord 25 rfl) rfl rfl ?_
      refine T_iadd (dk dtk_X9_nameOrWord 26 rfl) ?_
      exact KT_iret (dk dtk_X9_nameOrWord 27 rfl) rfl rfl h
set_option maxRecDepth 100000 in
set_option maxHeartbeats 4000000 in
theorem kg_X9_nameOrWord_57 {G : kG} {q : kP} {d : Nat} {x : gd} {P : Option gv → gd → Prop} (hq : kV q) (l1 : Int32) (l2 : Int32) (l3 : Int32)
    (h : vp_in (x.1 20 7) 702 ∧ (((x.1 26 (x.1 20 7 : Int32).toNatClampNeg) ≤ l3 → vp_in (x.1 20 7) 702 ∧ (∀ x4 : gd, x4 = si x 27 (x.1 20 7 : Int32).toNatClampNeg l2 → P (some (vi 2)) x4)) ∧ (¬ ((x.1 26 (x.1 20 7 : Int32).toNatClampNeg) ≤ l3) → KT G q d zk_X9_byteAt 0 [(0, vr 20), (1, vi (l1 + l3))] [] x (ri (fun r6 x5 => KT G q (d + 1) zk_X9_nameOrWord 57 [(0, vr 20), (1, vi l1), (2, vi ((l2 * 31) + r6)), (3, vi (l3 + 1))] [] x5 P))))) :
    KT G q (d + 1) zk_X9_nameOrWord 57 [(0, vr 20), (1, vi l1), (2, vi l2), (3, vi l3)] [] x P := by
  refine T_iload_n 3 (dk dtk_X9_nameOrWord 34 rfl) rfl rfl ?_
  refine T_aload_n 0 (dk dtk_X9_nameOrWord 35 rfl) rfl rfl ?_
  refine T_getR 20 5 26 (dk dtk_X9_nameOrWord 36 rfl) kfl_X9_25 kk_20 (kl_20 hq) (by decide) rfl kr_20_5 ?_
  refine T_aload_n 0 (dk dtk_X9_nameOrWord 37 rfl) rfl rfl ?_
  refine T_getI 20 7 (dk dtk_X9_nameOrWord 38 rfl) kfl_X9_41 kk_20 (kl_20 hq) (by decide) rfl ?_
  obtain ⟨h1, h⟩ := h
  refine T_iald 26 702 (dk dtk_X9_nameOrWord 39 rfl) kk_26 (kl_26 hq) h1 ?_
  refine T_icmp_ge 89 (dk dtk_X9_nameOrWord 40 rfl) (by decide) (fun c2 => ?_) (fun c2 => ?_)
  · have h := h.1 c2
    refine T_aload_n 0 (dk dtk_X9_nameOrWord 53 rfl) rfl rfl ?_
    refine T_getR 20 6 27 (dk dtk_X9_nameOrWord 54 rfl) kfl_X9_28 kk_20 (kl_20 hq) (by decide) rfl kr_20_6 ?_
    refine T_aload_n 0 (dk dtk_X9_nameOrWord 55 rfl) rfl rfl ?_
    refine T_getI 20 7 (dk dtk_X9_nameOrWord 56 rfl) kfl_X9_41 kk_20 (kl_20 hq) (by decide) rfl ?_
    refine T_iload_n 2 (dk dtk_X9_nameOrWord 57 rfl) rfl rfl ?_
    obtain ⟨h3, h⟩ := h
    obtain ⟨x4, ex4⟩ : ∃ z, z = si x 27 (x.1 20 7 : Int32).toNatClampNeg l2 := ⟨_, rfl⟩
    have h := h x4 ex4
    refine T_iast 27 702 (dk dtk_X9_nameOrWord 58 rfl) kk_27 (kl_27 hq) h3 ?_
    rw [← ex4]
    refine T_iconst (v := 2) (dk dtk_X9_nameOrWord 59 rfl) (by decide +kernel) ?_
    exact KT_iret (dk dtk_X9_nameOrWord 60 rfl) rfl rfl h
  · have h := h.2 c2
    refine T_iload_n 2 (dk dtk_X9_nameOrWord 41 rfl) rfl rfl ?_
    refine T_bipush (v := 31) (dk dtk_X9_nameOrWord 42 rfl) (by decide +kernel) ?_
    refine T_imul (dk dtk_X9_nameOrWord 43 rfl) ?_
    refine T_aload_n 0 (dk dtk_X9_nameOrWord 44 rfl) rfl rfl ?_
    refine T_iload_n 1 (dk dtk_X9_nameOrWord 45 rfl) rfl rfl ?_
    refine T_iload_n 3 (dk dtk_X9_nameOrWord 46 rfl) rfl rfl ?_
    refine T_iadd (dk dtk_X9_nameOrWord 47 rfl) ?_
    refine T_sub (lv2 := [(0, vr 20), (1, vi l1), (3, vi l3)]) [0, 1, 3] rfl ?_
    refine KC_Vi [vi (l1 + l3)] [vi (l2 * 31)] rfl (dk dtk_X9_nameOrWord 48 rfl) kcv_X9_51 rfl kk_20 rfl (kl_20 hq) (Nat.le_of_ble_eq_true rfl) (Nat.le_of_ble_eq_true rfl) (gok_i (av_c (gkr (kl_20 hq)) (av_c rfl (av_c rfl av_n))) (as_c rfl as_n)) rfl h (fun r6 x5 h => ?_)
    refine T_iadd (dk dtk_X9_nameOrWord 49 rfl) ?_
    refine T_istore_n (lv2 := [(2, vi ((l2 * 31) + r6)), (0, vr 20), (1, vi l1), (3, vi l3)]) (dk dtk_X9_nameOrWord 50 rfl) rfl (by decide) rfl ?_
    refine T_iinc (v := l3 + 1) (lv2 := [(3, vi (l3 + 1)), (2, vi ((l2 * 31) + r6)), (0, vr 20), (1, vi l1)]) 3 (dk dtk_X9_nameOrWord 51 rfl) rfl rfl (by decide) rfl ?_
    refine T_goto 57 (dk dtk_X9_nameOrWord 52 rfl) (by decide) ?_
    exact T_sub [2, 3, 1, 0] rfl h
set_option maxRecDepth 100000 in
theorem dtk_X9_isWord : dck cX9_isWord [(0, .iload_n 3, 1), (1, .bipush 7, 2), (3, .if_icmp .le 5, 3), (6, .iconst 0, 1), (7, .ireturn, 1), (8, .iconst 0, 1), (9, .istore 4, 2), (11, .iload 4, 2), (13, .bipush 7, 2), (15, .if_icmp .ge 49, 3), (18, .iload 4, 2), (20, .iload_n 3, 1), (21, .if_icmp .ge 14, 3), (24, .aload_n 0, 1), (25, .iload_n 2, 1), (26, .iload 4, 2), (28, .iadd, 1), (29, .invokevirtual 51, 3), (32, .goto 5, 3), (35, .bipush 32, 2), (37, .istore 5, 2), (39, .ldc 79, 2), (41, .iload_n 1, 1), (42, .bipush 7, 2), (44, .imul, 1), (45, .iload 4, 2), (47, .iadd, 1), (48, .invokevirtual 81, 3), (51, .iload 5, 2), (53, .if_icmp .eq 5, 3), (56, .iconst 0, 1), (57, .ireturn, 1), (58, .iinc 4 1, 3), (61, .goto (-50), 3), (64, .iconst 1, 1), (65, .ireturn, 1)] = true := by decide +kernel
set_option maxRecDepth 100000 in
set_option maxHeartbeats 4000000 in
theorem kg_X9_isWord_0 {G : kG} {q : kP} {d : Nat} {x : gd} {P : Option gv → gd → Prop} (hq : kV q) (l1 : Int32) (l2 : Int32) (l3 : Int32)
    (h : ((l3 ≤ (7 : Int32) → KT G q (d + 7) zk_X9_isWord 11 [(0, vr 20), (1, vi l1), (2, vi l2), (3, vi l3), (4, vi 0)] [] x P) ∧ (¬ (l3 ≤ (7 : Int32)) → P (some (vi 0)) x))) :
    KT G q (d + 7) zk_X9_isWord 0 [(0, vr 20), (1, vi l1), (2, vi l2), (3, vi l3)] [] x P := by
  refine T_iload_n 3 (dk dtk_X9_isWord 0 rfl) rfl rfl ?_
  refine T_bipush (v := 7) (dk dtk_X9_isWord 1 rfl) (by decide +kernel) ?_
  refine T_icmp_le 8 (dk dtk_X9_isWord 2 rfl) (by decide) (fun c1 => ?_) (fun c1 => ?_)
  · have h := h.1 c1
    refine T_iconst (v := 0) (dk dtk_X9_isWord 5 rfl) (by decide +kernel) ?_
    refine T_istore (lv2 := [(4, vi 0), (0, vr 20), (1, vi l1), (2, vi l2), (3, vi l3)]) (dk dtk_X9_isWord 6 rfl) (by decide) rfl ?_
    exact T_sub [1, 2, 3, 4, 0] rfl h
  · have h := h.2 c1
    refine T_iconst (v := 0) (dk dtk_X9_isWord 3 rfl) (by decide +kernel) ?_
    exact KT_iret (dk dtk_X9_isWord 4 rfl) rfl rfl h
set_option maxRecDepth 100000 in
set_option maxHeartbeats 4000000 in
theorem kg_X9_isWord_11 {G : kG} {q : kP} {d : Nat} {x : gd} {P : Option gv → gd → Prop} (hq : kV q) (l1 : Int32) (l2 : Int32) (l3 : Int32) (l4 : Int32)
    (h : (((7 : Int32) ≤ l4 → P (some (vi 1)) x) ∧ (¬ ((7 : Int32) ≤ l4) → ((l3 ≤ l4 → KT G q (d + 7) zk_X9_isWord 37 [(0, vr 20), (1, vi l1), (2, vi l2), (3, vi l3), (4, vi l4)] [vi 32] x P) ∧ (¬ (l3 ≤ l4) → KT G q (d + 6) zk_X9_byteAt 0 [(0, vr 20), (1, vi (l2 + l4))] [] x (ri (fun r4 x3 => KT G q (d + 7) zk_X9_isWord 37 [(0, vr 20), (1, vi l1), (2, vi l2), (3, vi l3), (4, vi l4)] [vi r4] x3 P))))))) :
    KT G q (d + 7) zk_X9_isWord 11 [(0, vr 20), (1, vi l1), (2, vi l2), (3, vi l3), (4, vi l4)] [] x P := by
  refine T_iload 4 (dk dtk_X9_isWord 7 rfl) rfl ?_
  refine T_bipush (v := 7) (dk dtk_X9_isWord 8 rfl) (by decide +kernel) ?_
  refine T_icmp_ge 64 (dk dtk_X9_isWord 9 rfl) (by decide) (fun c1 => ?_) (fun c1 => ?_)
  · have h := h.1 c1
    refine T_iconst (v := 1) (dk dtk_X9_isWord 34 rfl) (by decide +kernel) ?_
    exact KT_iret (dk dtk_X9_isWord 35 rfl) rfl rfl h
  · have h := h.2 c1
    refine T_iload 4 (dk dtk_X9_isWord 10 rfl) rfl ?_
    refine T_iload_n 3 (dk dtk_X9_isWord 11 rfl) rfl rfl ?_
    refine T_icmp_ge 35 (dk dtk_X9_isWord 12 rfl) (by decide) (fun c2 => ?_) (fun c2 => ?_)
    · have h := h.1 c2
      refine T_bipush (v := 32) (dk dtk_X9_isWord 19 rfl) (by decide +kernel) ?_
      exact h
    · have h := h.2 c2
      refine T_aload_n 0 (dk dtk_X9_isWord 13 rfl) rfl rfl ?_
      refine T_iload_n 2 (dk dtk_X9_isWord 14 rfl) rfl rfl ?_
      refine T_iload 4 (dk dtk_X9_isWord 15 rfl) rfl ?_
      refine T_iadd (dk dtk_X9_isWord 16 rfl) ?_
      refine KC_Vi [vi (l2 + l4)] [] rfl (dk dtk_X9_isWord 17 rfl) kcv_X9_51 rfl kk_20 rfl (kl_20 hq) (Nat.le_of_ble_eq_true rfl) (Nat.le_of_ble_eq_true rfl) (gok_i (av_c (gkr (kl_20 hq)) (av_c rfl (av_c rfl (av_c rfl (av_c rfl av_n))))) as_n) rfl h (fun r4 x3 h => ?_)
      refine T_goto 37 (dk dtk_X9_isWord 18 rfl) (by decide) ?_
      exact h
set_option maxRecDepth 100000 in
set_option maxHeartbeats 4000000 in
theorem kg_X9_isWord_37 {G : kG} {q : kP} {d : Nat} {x : gd} {P : Option gv → gd → Prop} (hq : kV q) (l1 : Int32) (l2 : Int32) (l3 : Int32) (l4 : Int32) (s0 : Int32)
    (h : vp_in ((l1 * 7) + l4) 224 ∧ (((cch 0 ((l1 * 7) + l4 : Int32).toNatClampNeg) = s0 → KT G q (d + 7) zk_X9_isWord 11 [(0, vr 20), (1, vi l1), (2, vi l2), (3, vi l3), (4, vi (l4 + 1))] [] x P) ∧ (¬ ((cch 0 ((l1 * 7) + l4 : Int32).toNatClampNeg) = s0) → P (some (vi 0)) x))) :
    KT G q (d + 7) zk_X9_isWord 37 [(0, vr 20), (1, vi l1), (2, vi l2), (3, vi l3), (4, vi l4)] [vi s0] x P := by
  refine T_istore (lv2 := [(5, vi s0), (0, vr 20), (1, vi l1), (2, vi l2), (3, vi l3), (4, vi l4)]) (dk dtk_X9_isWord 20 rfl) (by decide) rfl ?_
  refine T_ldcS 0 (by decide) (dk dtk_X9_isWord 21 rfl) rfl ?_
  refine T_iload_n 2 (dk dtk_X9_isWord 22 rfl) rfl rfl ?_
  refine T_bipush (v := 7) (dk dtk_X9_isWord 23 rfl) (by decide +kernel) ?_
  refine T_imul (dk dtk_X9_isWord 24 rfl) ?_
  refine T_iload 5 (dk dtk_X9_isWord 25 rfl) rfl ?_
  refine T_iadd (dk dtk_X9_isWord 26 rfl) ?_
  obtain ⟨h1, h⟩ := h
  refine T_chat 0 (by decide) (by rw [es_l0]; exact h1) (by rw [es_l0]; decide) (dk dtk_X9_isWord 27 rfl) kcv_X9_81 (by omega) (Nat.le_of_ble_eq_true rfl) (gok_i (av_c rfl (av_c (gkr (kl_20 hq)) (av_c rfl (av_c rfl (av_c rfl (av_c rfl av_n)))))) as_n) rfl ?_
  refine T_iload 0 (dk dtk_X9_isWord 28 rfl) rfl ?_
  refine T_icmp_eq 58 (dk dtk_X9_isWord 29 rfl) (by decide) (fun c2 => ?_) (fun c2 => ?_)
  · have h := h.1 c2
    refine T_iinc (v := l4 + 1) (lv2 := [(4, vi (l4 + 1)), (5, vi s0), (0, vr 20), (1, vi l1), (2, vi l2), (3, vi l3)]) 5 (dk dtk_X9_isWord 32 rfl) rfl rfl (by decide) rfl ?_
    refine T_goto 11 (dk dtk_X9_isWord 33 rfl) (by decide) ?_
    exact T_sub [2, 3, 4, 5, 0] rfl h
  · have h := h.2 c2
    refine T_iconst (v := 0) (dk dtk_X9_isWord 30 rfl) (by decide +kernel) ?_
    exact KT_iret (dk dtk_X9_isWord 31 rfl) rfl rfl h
set_option maxRecDepth 100000 in
theorem dtk_X9_wholeOrBad : dck cX9_wholeOrBad [(0, .aload_n 0, 1), (1, .getfield 25, 3), (4, .aload_n 0, 1), (5, .getfield 41, 3), (8, .iaload, 1), (9, .bipush 9, 2), (11, .if_icmp .le 5, 3), (14, .iconst 1, 1), (15, .ireturn, 1), (16, .iconst 0, 1), (17, .istore_n 2, 1), (18, .iconst 0, 1), (19, .istore_n 3, 1), (20, .iload_n 3, 1), (21, .aload_n 0, 1), (22, .getfield 25, 3), (25, .aload_n 0, 1), (26, .getfield 41, 3), (29, .iaload, 1), (30, .if_icmp .ge 39, 3), (33, .aload_n 0, 1), (34, .iload_n 1, 1), (35, .iload_n 3, 1), (36, .iadd, 1), (37, .invokevirtual 51, 3), (40, .istore 4, 2), (42, .iload 4, 2), (44, .invokestatic 65, 3), (47, .ifCond .ne 5, 3), (50, .iconst 1, 1), (51, .ireturn, 1), (52, .iload_n 2, 1), (53, .bipush 10, 2), (55, .imul, 1), (56, .iload 4, 2), (58, .bipush 48, 2), (60, .isub, 1), (61, .iadd, 1), (62, .istore_n 2, 1), (63, .iinc 3 1, 3), (66, .goto (-46), 3), (69, .aload_n 0, 1), (70, .getfield 28, 3), (73, .aload_n 0, 1), (74, .getfield 41, 3), (77, .iload_n 2, 1), (78, .iastore, 1), (79, .iconst 3, 1), (80, .ireturn, 1)] = true := by decide +kernel
set_option maxRecDepth 100000 in
set_option maxHeartbeats 4000000 in
theorem kg_X9_wholeOrBad_0 {G : kG} {q : kP} {d : Nat} {x : gd} {P : Option gv → gd → Prop} (hq : kV q) (l1 : Int32)
    (h : vp_in (x.1 20 7) 702 ∧ (((x.1 26 (x.1 20 7 : Int32).toNatClampNeg) ≤ (9 : Int32) → KT G q (d + 1) zk_X9_wholeOrBad 20 [(0, vr 20), (1, vi l1), (2, vi 0), (3, vi 0)] [] x P) ∧ (¬ ((x.1 26 (x.1 20 7 : Int32).toNatClampNeg) ≤ (9 : Int32)) → P (some (vi 1)) x))) :
    KT G q (d + 1) zk_X9_wholeOrBad 0 [(0, vr 20), (1, vi l1)] [] x P := by
  refine T_aload_n 0 (dk dtk_X9_wholeOrBad 0 rfl) rfl rfl ?_
  refine T_getR 20 5 26 (dk dtk_X9_wholeOrBad 1 rfl) kfl_X9_25 kk_20 (kl_20 hq) (by decide) rfl kr_20_5 ?_
  refine T_aload_n 0 (dk dtk_X9_wholeOrBad 2 rfl) rfl rfl ?_
  refine T_getI 20 7 (dk dtk_X9_wholeOrBad 3 rfl) kfl_X9_41 kk_20 (kl_20 hq) (by decide) rfl ?_
  obtain ⟨h1, h⟩ := h
  refine T_iald 26 702 (dk dtk_X9_wholeOrBad 4 rfl) kk_26 (kl_26 hq) h1 ?_
  refine T_bipush (v := 9) (dk dtk_X9_wholeOrBad 5 rfl) (by decide +kernel) ?_
  refine T_icmp_le 16 (dk dtk_X9_wholeOrBad 6 rfl) (by decide) (fun c2 => ?_) (fun c2 => ?_)
  · have h := h.1 c2
    refine T_iconst (v := 0) (dk dtk_X9_wholeOrBad 9 rfl) (by decide +kernel) ?_
    refine T_istore_n (lv2 := [(2, vi 0), (0, vr 20), (1, vi l1)]) (dk dtk_X9_wholeOrBad 10 rfl) rfl (by decide) rfl ?_
    refine T_iconst (v := 0) (dk dtk_X9_wholeOrBad 11 rfl) (by decide +kernel) ?_
    refine T_istore_n (lv2 := [(3, vi 0), (2, vi 0), (0, vr 20), (1, vi l1)]) (dk dtk_X9_wholeOrBad 12 rfl) rfl (by decide) rfl ?_
    exact T_sub [2, 3, 1, 0] rfl h
  · have h := h.2 c2
    refine T_iconst (v := 1) (dk dtk_X9_wholeOrBad 7 rfl) (by decide +kernel) ?_
    exact KT_iret (dk dtk_X9_wholeOrBad 8 rfl) rfl rfl h
set_option maxRecDepth 100000 in
set_option maxHeartbeats 4000000 in
theorem kg_X9_wholeOrBad_20 {G : kG} {q : kP} {d : Nat} {x : gd} {P : Option gv → gd → Prop} (hq : kV q) (l1 : Int32) (l2 : Int32) (l3 : Int32)
    (h : vp_in (x.1 20 7) 702 ∧ (((x.1 26 (x.1 20 7 : Int32).toNatClampNeg) ≤ l3 → vp_in (x.1 20 7) 702 ∧ (∀ x4 : gd, x4 = si x 27 (x.1 20 7 : Int32).toNatClampNeg l2 → P (some (vi 3)) x4)) ∧ (¬ ((x.1 26 (x.1 20 7 : Int32).toNatClampNeg) ≤ l3) → KT G q d zk_X9_byteAt 0 [(0, vr 20), (1, vi (l1 + l3))] [] x (ri (fun r6 x5 => KT G q d zk_X9_isDigit 0 [(0, vi r6)] [] x5 (ri (fun r8 x7 => ((¬ (r8 = (0 : Int32)) → KT G q (d + 1) zk_X9_wholeOrBad 20 [(0, vr 20), (1, vi l1), (2, vi ((l2 * 10) + (r6 - 48))), (3, vi (l3 + 1))] [] x7 P) ∧ (r8 = (0 : Int32) → P (some (vi 1)) x7))))))))) :
    KT G q (d + 1) zk_X9_wholeOrBad 20 [(0, vr 20), (1, vi l1), (2, vi l2), (3, vi l3)] [] x P := by
  refine T_iload_n 3 (dk dtk_X9_wholeOrBad 13 rfl) rfl rfl ?_
  refine T_aload_n 0 (dk dtk_X9_wholeOrBad 14 rfl) rfl rfl ?_
  refine T_getR 20 5 26 (dk dtk_X9_wholeOrBad 15 rfl) kfl_X9_25 kk_20 (kl_20 hq) (by decide) rfl kr_20_5 ?_
  refine T_aload_n 0 (dk dtk_X9_wholeOrBad 16 rfl) rfl rfl ?_
  refine T_getI 20 7 (dk dtk_X9_wholeOrBad 17 rfl) kfl_X9_41 kk_20 (kl_20 hq) (by decide) rfl ?_
  obtain ⟨h1, h⟩ := h
  refine T_iald 26 702 (dk dtk_X9_wholeOrBad 18 rfl) kk_26 (kl_26 hq) h1 ?_
  refine T_icmp_ge 69 (dk dtk_X9_wholeOrBad 19 rfl) (by decide) (fun c2 => ?_) (fun c2 => ?_)
  · have h := h.1 c2
    refine T_aload_n 0 (dk dtk_X9_wholeOrBad 41 rfl) rfl rfl ?_
    refine T_getR 20 6 27 (dk dtk_X9_wholeOrBad 42 rfl) kfl_X9_28 kk_20 (kl_20 hq) (by decide) rfl kr_20_6 ?_
    refine T_aload_n 0 (dk dtk_X9_wholeOrBad 43 rfl) rfl rfl ?_
    refine T_getI 20 7 (dk dtk_X9_wholeOrBad 44 rfl) kfl_X9_41 kk_20 (kl_20 hq) (by decide) rfl ?_
    refine T_iload_n 2 (dk dtk_X9_wholeOrBad 45 rfl) rfl rfl ?_
    obtain ⟨h3, h⟩ := h
    obtain ⟨x4, ex4⟩ : ∃ z, z = si x 27 (x.1 20 7 : Int32).toNatClampNeg l2 := ⟨_, rfl⟩
    have h := h x4 ex4
    refine T_iast 27 702 (dk dtk_X9_wholeOrBad 46 rfl) kk_27 (kl_27 hq) h3 ?_
    rw [← ex4]
    refine T_iconst (v := 3) (dk dtk_X9_wholeOrBad 47 rfl) (by decide +kernel) ?_
    exact KT_iret (dk dtk_X9_wholeOrBad 48 rfl) rfl rfl h
  · have h := h.2 c2
    refine T_aload_n 0 (dk dtk_X9_wholeOrBad 20 rfl) rfl rfl ?_
    refine T_iload_n 1 (dk dtk_X9_wholeOrBad 21 rfl) rfl rfl ?_
    refine T_iload_n 3 (dk dtk_X9_wholeOrBad 22 rfl) rfl rfl ?_
    refine T_iadd (dk dtk_X9_wholeOrBad 23 rfl) ?_
    refine KC_Vi [vi (l1 + l3)] [] rfl (dk dtk_X9_wholeOrBad 24 rfl) kcv_X9_51 rfl kk_20 rfl (kl_20 hq) (Nat.le_of_ble_eq_true rfl) (Nat.le_of_ble_eq_true rfl) (gok_i (av_c (gkr (kl_20 hq)) (av_c rfl (av_c rfl (av_c rfl av_n)))) as_n) rfl h (fun r6 x5 h => ?_)
    refine T_istore (lv2 := [(4, vi r6), (0, vr 20), (1, vi l1), (2, vi l2), (3, vi l3)]) (dk dtk_X9_wholeOrBad 25 rfl) (by decide) rfl ?_
    refine T_iload 0 (dk dtk_X9_wholeOrBad 26 rfl) rfl ?_
    refine KC_Si [vi r6] [] rfl (dk dtk_X9_wholeOrBad 27 rfl) kcs_X9_65 rfl (Nat.le_of_ble_eq_true rfl) (Nat.le_of_ble_eq_true rfl) (gok_i (av_c rfl (av_c (gkr (kl_20 hq)) (av_c rfl (av_c rfl (av_c rfl av_n))))) as_n) rfl h (fun r8 x7 h => ?_)
    refine T_if_ne 52 (dk dtk_X9_wholeOrBad 28 rfl) (by decide) (fun c9 => ?_) (fun c9 => ?_)
    · have h := h.1 c9
      refine T_iload_n 3 (dk dtk_X9_wholeOrBad 31 rfl) rfl rfl ?_
      refine T_bipush (v := 10) (dk dtk_X9_wholeOrBad 32 rfl) (by decide +kernel) ?_
      refine T_imul (dk dtk_X9_wholeOrBad 33 rfl) ?_
      refine T_iload 0 (dk dtk_X9_wholeOrBad 34 rfl) rfl ?_
      refine T_bipush (v := 48) (dk dtk_X9_wholeOrBad 35 rfl) (by decide +kernel) ?_
      refine T_isub (dk dtk_X9_wholeOrBad 36 rfl) ?_
      refine T_iadd (dk dtk_X9_wholeOrBad 37 rfl) ?_
      refine T_istore_n (lv2 := [(2, vi ((l2 * 10) + (r6 - 48))), (4, vi r6), (0, vr 20), (1, vi l1), (3, vi l3)]) (dk dtk_X9_wholeOrBad 38 rfl) rfl (by decide) rfl ?_
      refine T_iinc (v := l3 + 1) (lv2 := [(3, vi (l3 + 1)), (2, vi ((l2 * 10) + (r6 - 48))), (4, vi r6), (0, vr 20), (1, vi l1)]) 4 (dk dtk_X9_wholeOrBad 39 rfl) rfl rfl (by decide) rfl ?_
      refine T_goto 20 (dk dtk_X9_wholeOrBad 40 rfl) (by decide) ?_
      exact T_sub [3, 4, 1, 0] rfl h
    · have h := h.2 c9
      refine T_iconst (v := 1) (dk dtk_X9_wholeOrBad 29 rfl) (by decide +kernel) ?_
      exact KT_iret (dk dtk_X9_wholeOrBad 30 rfl) rfl rfl h
set_option maxRecDepth 100000 in
theorem dtk_X9_sign : dck cX9_sign [(0, .iload_n 2, 1), (1, .bipush 61, 2), (3, .if_icmp .ne 31, 3), (6, .iload_n 1, 1), (7, .bipush 61, 2), (9, .if_icmp .eq 21, 3), (12, .iload_n 1, 1), (13, .bipush 33, 2), (15, .if_icmp .eq 15, 3), (18, .iload_n 1, 1), (19, .bipush 60, 2), (21, .if_icmp .eq 9, 3), (24, .iload_n 1, 1), (25, .bipush 62, 2), (27, .if_icmp .ne 7, 3), (30, .iconst 1, 1), (31, .goto 4, 3), (34, .iconst 0, 1), (35, .istore_n 3, 1), (36, .aload_n 0, 1), (37, .getfield 25, 3), (40, .aload_n 0, 1), (41, .getfield 41, 3), (44, .iload_n 3, 1), (45, .ifCond .eq 7, 3), (48, .iconst 2, 1), (49, .goto 4, 3), (52, .iconst 1, 1), (53, .iastore, 1), (54, .aload_n 0, 1), (55, .dup, 1), (56, .getfield 35, 3), (59, .aload_n 0, 1), (60, .getfield 25, 3), (63, .aload_n 0, 1), (64, .getfield 41, 3), (67, .iaload, 1), (68, .iadd, 1), (69, .putfield 35, 3), (72, .iload_n 1, 1), (73, .lookupswitch 90 #[(33, 55), (60, 66), (61, 43), (62, 78)], 43), (116, .iload_n 3, 1), (117, .ifCond .eq 8, 3), (120, .bipush 11, 2), (122, .goto 5, 3), (125, .bipush 10, 2), (127, .ireturn, 1), (128, .iload_n 3, 1), (129, .ifCond .eq 8, 3), (132, .bipush 12, 2), (134, .goto 4, 3), (137, .iconst 1, 1), (138, .ireturn, 1), (139, .iload_n 3, 1), (140, .ifCond .eq 8, 3), (143, .bipush 14, 2), (145, .goto 5, 3), (148, .bipush 13, 2), (150, .ireturn, 1), (151, .iload_n 3, 1), (152, .ifCond .eq 8, 3), (155, .bipush 16, 2), (157, .goto 5, 3), (160, .bipush 15, 2), (162, .ireturn, 1), (163, .iload_n 1, 1), (164, .invokestatic 87, 3), (167, .ireturn, 1)] = true := by decide +kernel
set_option maxRecDepth 100000 in
set_option maxHeartbeats 4000000 in
theorem kg_X9_sign_0 {G : kG} {q : kP} {d : Nat} {x : gd} {P : Option gv → gd → Prop} (hq : kV q) (l1 : Int32) (l2 : Int32)
    (h : ((¬ (l2 = (61 : Int32)) → KT G q (d + 1) zk_X9_sign 35 [(0, vr 20), (1, vi l1)] [vi 0] x P) ∧ (l2 = (61 : Int32) → ((l1 = (61 : Int32) → KT G q (d + 1) zk_X9_sign 35 [(0, vr 20), (1, vi l1)] [vi 1] x P) ∧ (¬ (l1 = (61 : Int32)) → ((l1 = (33 : Int32) → KT G q (d + 1) zk_X9_sign 35 [(0, vr 20), (1, vi l1)] [vi 1] x P) ∧ (¬ (l1 = (33 : Int32)) → ((l1 = (60 : Int32) → KT G q (d + 1) zk_X9_sign 35 [(0, vr 20), (1, vi l1)] [vi 1] x P) ∧ (¬ (l1 = (60 : Int32)) → ((¬ (l1 = (62 : Int32)) → KT G q (d + 1) zk_X9_sign 35 [(0, vr 20), (1, vi l1)] [vi 0] x P) ∧ (l1 = (62 : Int32) → KT G q (d + 1) zk_X9_sign 35 [(0, vr 20), (1, vi l1)] [vi 1] x P))))))))))) :
    KT G q (d + 1) zk_X9_sign 0 [(0, vr 20), (1, vi l1), (2, vi l2)] [] x P := by
  refine T_iload_n 2 (dk dtk_X9_sign 0 rfl) rfl rfl ?_
  refine T_bipush (v := 61) (dk dtk_X9_sign 1 rfl) (by decide +kernel) ?_
  refine T_icmp_ne 34 (dk dtk_X9_sign 2 rfl) (by decide) (fun c1 => ?_) (fun c1 => ?_)
  · have h := h.1 c1
    refine T_iconst (v := 0) (dk dtk_X9_sign 17 rfl) (by decide +kernel) ?_
    exact T_sub [0, 1] rfl h
  · have h := h.2 c1
    refine T_iload_n 1 (dk dtk_X9_sign 3 rfl) rfl rfl ?_
    refine T_bipush (v := 61) (dk dtk_X9_sign 4 rfl) (by decide +kernel) ?_
    refine T_icmp_eq 30 (dk dtk_X9_sign 5 rfl) (by decide) (fun c2 => ?_) (fun c2 => ?_)
    · have h := h.1 c2
      refine T_iconst (v := 1) (dk dtk_X9_sign 15 rfl) (by decide +kernel) ?_
      refine T_goto 35 (dk dtk_X9_sign 16 rfl) (by decide) ?_
      exact T_sub [0, 1] rfl h
    · have h := h.2 c2
      refine T_iload_n 1 (dk dtk_X9_sign 6 rfl) rfl rfl ?_
      refine T_bipush (v := 33) (dk dtk_X9_sign 7 rfl) (by decide +kernel) ?_
      refine T_icmp_eq 30 (dk dtk_X9_sign 8 rfl) (by decide) (fun c3 => ?_) (fun c3 => ?_)
      · have h := h.1 c3
        refine T_iconst (v := 1) (dk dtk_X9_sign 15 rfl) (by decide +kernel) ?_
        refine T_goto 35 (dk dtk_X9_sign 16 rfl) (by decide) ?_
        exact T_sub [0, 1] rfl h
      · have h := h.2 c3
        refine T_iload_n 1 (dk dtk_X9_sign 9 rfl) rfl rfl ?_
        refine T_bipush (v := 60) (dk dtk_X9_sign 10 rfl) (by decide +kernel) ?_
        refine T_icmp_eq 30 (dk dtk_X9_sign 11 rfl) (by decide) (fun c4 => ?_) (fun c4 => ?_)
        · have h := h.1 c4
          refine T_iconst (v := 1) (dk dtk_X9_sign 15 rfl) (by decide +kernel) ?_
          refine T_goto 35 (dk dtk_X9_sign 16 rfl) (by decide) ?_
          exact T_sub [0, 1] rfl h
        · have h := h.2 c4
          refine T_iload_n 1 (dk dtk_X9_sign 12 rfl) rfl rfl ?_
          refine T_bipush (v := 62) (dk dtk_X9_sign 13 rfl) (by decide +kernel) ?_
          refine T_icmp_ne 34 (dk dtk_X9_sign 14 rfl) (by decide) (fun c5 => ?_) (fun c5 => ?_)
          · have h := h.1 c5
            refine T_iconst (v := 0) (dk dtk_X9_sign 17 rfl) (by decide +kernel) ?_
            exact T_sub [0, 1] rfl h
          · have h := h.2 c5
            refine T_iconst (v := 1) (dk dtk_X9_sign 15 rfl) (by decide +kernel) ?_
            refine T_goto 35 (dk dtk_X9_sign 16 rfl) (by decide) ?_
            exact T_sub [0, 1] rfl h
set_option maxRecDepth 100000 in
set_option maxHeartbeats 4000000 in
theorem kg_X9_sign_35 {G : kG} {q : kP} {d : Nat} {x : gd} {P : Option gv → gd → Prop} (hq : kV q) (l1 : Int32) (s0 : Int32)
    (h : ((s0 = (0 : Int32) → KT G q (d + 1) zk_X9_sign 53 [(0, vr 20), (1, vi l1), (3, vi s0)] [vi 1, vi (x.1 20 7), vr 26] x P) ∧ (¬ (s0 = (0 : Int32)) → KT G q (d + 1) zk_X9_sign 53 [(0, vr 20), (1, vi l1), (3, vi s0)] [vi 2, vi (x.1 20 7), vr 26] x P))) :
    KT G q (d + 1) zk_X9_sign 35 [(0, vr 20), (1, vi l1)] [vi s0] x P := by
  refine T_istore_n (lv2 := [(3, vi s0), (0, vr 20), (1, vi l1)]) (dk dtk_X9_sign 18 rfl) rfl (by decide) rfl ?_
  refine T_aload_n 1 (dk dtk_X9_sign 19 rfl) rfl rfl ?_
  refine T_getR 20 5 26 (dk dtk_X9_sign 20 rfl) kfl_X9_25 kk_20 (kl_20 hq) (by decide) rfl kr_20_5 ?_
  refine T_aload_n 1 (dk dtk_X9_sign 21 rfl) rfl rfl ?_
  refine T_getI 20 7 (dk dtk_X9_sign 22 rfl) kfl_X9_41 kk_20 (kl_20 hq) (by decide) rfl ?_
  refine T_iload_n 0 (dk dtk_X9_sign 23 rfl) rfl rfl ?_
  refine T_if_eq 52 (dk dtk_X9_sign 24 rfl) (by decide) (fun c1 => ?_) (fun c1 => ?_)
  · have h := h.1 c1
    refine T_iconst (v := 1) (dk dtk_X9_sign 27 rfl) (by decide +kernel) ?_
    exact T_sub [1, 2, 0] rfl h
  · have h := h.2 c1
    refine T_iconst (v := 2) (dk dtk_X9_sign 25 rfl) (by decide +kernel) ?_
    refine T_goto 53 (dk dtk_X9_sign 26 rfl) (by decide) ?_
    exact T_sub [1, 2, 0] rfl h
set_option maxRecDepth 100000 in
set_option maxHeartbeats 4000000 in
theorem kg_X9_sign_53 {G : kG} {q : kP} {d : Nat} {x : gd} {P : Option gv → gd → Prop} (hq : kV q) (l1 : Int32) (l3 : Int32) (s0 : Int32) (s1 : Int32)
    (h : vp_in s1 702 ∧ (∀ x2 : gd, x2 = si x 26 (s1 : Int32).toNatClampNeg s0 → vp_in (x2.1 20 7) 702 ∧ (∀ x4 : gd, x4 = si x2 20 8 ((x2.1 20 8) + (x2.1 26 (x2.1 20 7 : Int32).toNatClampNeg)) → (((l1 = 61) → ((l3 = (0 : Int32) → P (some (vi 10)) x4) ∧ (¬ (l3 = (0 : Int32)) → P (some (vi 11)) x4))) ∧ ((l1 = 33) → ((l3 = (0 : Int32) → P (some (vi 1)) x4) ∧ (¬ (l3 = (0 : Int32)) → P (some (vi 12)) x4))) ∧ ((l1 = 60) → ((l3 = (0 : Int32) → P (some (vi 13)) x4) ∧ (¬ (l3 = (0 : Int32)) → P (some (vi 14)) x4))) ∧ ((l1 = 62) → ((l3 = (0 : Int32) → P (some (vi 15)) x4) ∧ (¬ (l3 = (0 : Int32)) → P (some (vi 16)) x4))) ∧ ((∀ k ∈ [(61 : Int32), (33 : Int32), (60 : Int32), (62 : Int32)], ¬ l1 = k) → KT G q d zk_X9_singleSign 0 [(0, vi l1)] [] x4 (ri (fun r15 x14 => P (some (vi r15)) x14))))))) :
    KT G q (d + 1) zk_X9_sign 53 [(0, vr 20), (1, vi l1), (3, vi l3)] [vi s0, vi s1, vr 26] x P := by
  obtain ⟨h1, h⟩ := h
  obtain ⟨x2, ex2⟩ : ∃ z, z = si x 26 (s1 : Int32).toNatClampNeg s0 := ⟨_, rfl⟩
  have h := h x2 ex2
  refine T_iast 26 702 (dk dtk_X9_sign 28 rfl) kk_26 (kl_26 hq) h1 ?_
  rw [← ex2]
  refine T_aload_n 0 (dk dtk_X9_sign 29 rfl) rfl rfl ?_
  refine T_dup (dk dtk_X9_sign 30 rfl) rfl ?_
  refine T_getI 20 8 (dk dtk_X9_sign 31 rfl) kfl_X9_35 kk_20 (kl_20 hq) (by decide) rfl ?_
  refine T_aload_n 0 (dk dtk_X9_sign 32 rfl) rfl rfl ?_
  refine T_getR 20 5 26 (dk dtk_X9_sign 33 rfl) kfl_X9_25 kk_20 (kl_20 hq) (by decide) rfl kr_20_5 ?_
  refine T_aload_n 0 (dk dtk_X9_sign 34 rfl) rfl rfl ?_
  refine T_getI 20 7 (dk dtk_X9_sign 35 rfl) kfl_X9_41 kk_20 (kl_20 hq) (by decide) rfl ?_
  obtain ⟨h3, h⟩ := h
  refine T_iald 26 702 (dk dtk_X9_sign 36 rfl) kk_26 (kl_26 hq) h3 ?_
  refine T_iadd (dk dtk_X9_sign 37 rfl) ?_
  obtain ⟨x4, ex4⟩ : ∃ z, z = si x2 20 8 ((x2.1 20 8) + (x2.1 26 (x2.1 20 7 : Int32).toNatClampNeg)) := ⟨_, rfl⟩
  have h := h x4 ex4
  refine T_putI 20 8 (dk dtk_X9_sign 38 rfl) kfl_X9_35 kk_20 (kl_20 hq) (by decide) rfl ⟨rfl, rfl⟩ ?_
  rw [← ex4]
  refine T_iload_n 1 (dk dtk_X9_sign 39 rfl) rfl rfl ?_
  by_cases c5 : l1 = 61
  · have h := h.1 c5
    refine T_lookup 43 116 (dk dtk_X9_sign 40 rfl) (by decide +kernel) (by rw [c5]; decide +kernel) (by decide) ?_
    refine T_iload_n 2 (dk dtk_X9_sign 41 rfl) rfl rfl ?_
    refine T_if_eq 125 (dk dtk_X9_sign 42 rfl) (by decide) (fun c6 => ?_) (fun c6 => ?_)
    · have h := h.1 c6
      refine T_bipush (v := 10) (dk dtk_X9_sign 45 rfl) (by decide +kernel) ?_
      exact KT_iret (dk dtk_X9_sign 46 rfl) rfl rfl h
    · have h := h.2 c6
      refine T_bipush (v := 11) (dk dtk_X9_sign 43 rfl) (by decide +kernel) ?_
      refine T_goto 127 (dk dtk_X9_sign 44 rfl) (by decide) ?_
      exact KT_iret (dk dtk_X9_sign 46 rfl) rfl rfl h
  · have h := h.2
    by_cases c7 : l1 = 33
    · have h := h.1 c7
      refine T_lookup 55 128 (dk dtk_X9_sign 40 rfl) (by decide +kernel) (by rw [c7]; decide +kernel) (by decide) ?_
      refine T_iload_n 2 (dk dtk_X9_sign 47 rfl) rfl rfl ?_
      refine T_if_eq 137 (dk dtk_X9_sign 48 rfl) (by decide) (fun c8 => ?_) (fun c8 => ?_)
      · have h := h.1 c8
        refine T_iconst (v := 1) (dk dtk_X9_sign 51 rfl) (by decide +kernel) ?_
        exact KT_iret (dk dtk_X9_sign 52 rfl) rfl rfl h
      · have h := h.2 c8
        refine T_bipush (v := 12) (dk dtk_X9_sign 49 rfl) (by decide +kernel) ?_
        refine T_goto 138 (dk dtk_X9_sign 50 rfl) (by decide) ?_
        exact KT_iret (dk dtk_X9_sign 52 rfl) rfl rfl h
    · have h := h.2
      by_cases c9 : l1 = 60
      · have h := h.1 c9
        refine T_lookup 66 139 (dk dtk_X9_sign 40 rfl) (by decide +kernel) (by rw [c9]; decide +kernel) (by decide) ?_
        refine T_iload_n 2 (dk dtk_X9_sign 53 rfl) rfl rfl ?_
        refine T_if_eq 148 (dk dtk_X9_sign 54 rfl) (by decide) (fun c10 => ?_) (fun c10 => ?_)
        · have h := h.1 c10
          refine T_bipush (v := 13) (dk dtk_X9_sign 57 rfl) (by decide +kernel) ?_
          exact KT_iret (dk dtk_X9_sign 58 rfl) rfl rfl h
        · have h := h.2 c10
          refine T_bipush (v := 14) (dk dtk_X9_sign 55 rfl) (by decide +kernel) ?_
          refine T_goto 150 (dk dtk_X9_sign 56 rfl) (by decide) ?_
          exact KT_iret (dk dtk_X9_sign 58 rfl) rfl rfl h
      · have h := h.2
        by_cases c11 : l1 = 62
        · have h := h.1 c11
          refine T_lookup 78 151 (dk dtk_X9_sign 40 rfl) (by decide +kernel) (by rw [c11]; decide +kernel) (by decide) ?_
          refine T_iload_n 2 (dk dtk_X9_sign 59 rfl) rfl rfl ?_
          refine T_if_eq 160 (dk dtk_X9_sign 60 rfl) (by decide) (fun c12 => ?_) (fun c12 => ?_)
          · have h := h.1 c12
            refine T_bipush (v := 15) (dk dtk_X9_sign 63 rfl) (by decide +kernel) ?_
            exact KT_iret (dk dtk_X9_sign 64 rfl) rfl rfl h
          · have h := h.2 c12
            refine T_bipush (v := 16) (dk dtk_X9_sign 61 rfl) (by decide +kernel) ?_
            refine T_goto 162 (dk dtk_X9_sign 62 rfl) (by decide) ?_
            exact KT_iret (dk dtk_X9_sign 64 rfl) rfl rfl h
        · have h := h.2
          have n13 : ∀ k ∈ [(61 : Int32), (33 : Int32), (60 : Int32), (62 : Int32)], ¬ l1 = k := (gno c5 (gno c7 (gno c9 (gno c11 gno0))))
          have h := h n13
          refine T_lookup 90 163 (dk dtk_X9_sign 40 rfl) (by decide +kernel) (glk_d [(61 : Int32), (33 : Int32), (60 : Int32), (62 : Int32)] (by decide +kernel) n13) (by decide) ?_
          refine T_iload_n 1 (dk dtk_X9_sign 65 rfl) rfl rfl ?_
          refine T_sub (lv2 := []) [] rfl ?_
          refine KC_Si [vi l1] [] rfl (dk dtk_X9_sign 66 rfl) kcs_X9_87 rfl (Nat.le_of_ble_eq_true rfl) (Nat.le_of_ble_eq_true rfl) (gok_i av_n as_n) rfl h (fun r15 x14 h => ?_)
          exact KT_iret (dk dtk_X9_sign 67 rfl) rfl rfl h
set_option maxRecDepth 100000 in
theorem dtk_X9_singleSign : dck cX9_singleSign [(0, .iload_n 0, 1), (1, .lookupswitch 143 #[(40, 119), (41, 122), (42, 113), (43, 107), (44, 140), (45, 110), (47, 116), (59, 137), (91, 131), (93, 134), (123, 125), (125, 128)], 107), (108, .bipush 17, 2), (110, .ireturn, 1), (111, .bipush 18, 2), (113, .ireturn, 1), (114, .bipush 19, 2), (116, .ireturn, 1), (117, .bipush 20, 2), (119, .ireturn, 1), (120, .bipush 21, 2), (122, .ireturn, 1), (123, .bipush 22, 2), (125, .ireturn, 1), (126, .bipush 23, 2), (128, .ireturn, 1), (129, .bipush 24, 2), (131, .ireturn, 1), (132, .bipush 25, 2), (134, .ireturn, 1), (135, .bipush 26, 2), (137, .ireturn, 1), (138, .bipush 27, 2), (140, .ireturn, 1), (141, .bipush 28, 2), (143, .ireturn, 1), (144, .iconst 1, 1), (145, .ireturn, 1)] = true := by decide +kernel
set_option maxRecDepth 100000 in
set_option maxHeartbeats 4000000 in
theorem kg_X9_singleSign_0 {G : kG} {q : kP} {d : Nat} {x : gd} {P : Option gv → gd → Prop} (hq : kV q) (l0 : Int32)
    (h : (((l0 = 43) → P (some (vi 17)) x) ∧ ((l0 = 45) → P (some (vi 18)) x) ∧ ((l0 = 42) → P (some (vi 19)) x) ∧ ((l0 = 47) → P (some (vi 20)) x) ∧ ((l0 = 40) → P (some (vi 21)) x) ∧ ((l0 = 41) → P (some (vi 22)) x) ∧ ((l0 = 123) → P (some (vi 23)) x) ∧ ((l0 = 125) → P (some (vi 24)) x) ∧ ((l0 = 91) → P (some (vi 25)) x) ∧ ((l0 = 93) → P (some (vi 26)) x) ∧ ((l0 = 59) → P (some (vi 27)) x) ∧ ((l0 = 44) → P (some (vi 28)) x) ∧ ((∀ k ∈ [(43 : Int32), (45 : Int32), (42 : Int32), (47 : Int32), (40 : Int32), (41 : Int32), (123 : Int32), (125 : Int32), (91 : Int32), (93 : Int32), (59 : Int32), (44 : Int32)], ¬ l0 = k) → P (some (vi 1)) x))) :
    KT G q d zk_X9_singleSign 0 [(0, vi l0)] [] x P := by
  refine T_iload_n 0 (dk dtk_X9_singleSign 0 rfl) rfl rfl ?_
  by_cases c1 : l0 = 43
  · have h := h.1 c1
    refine T_lookup 107 108 (dk dtk_X9_singleSign 1 rfl) (by decide +kernel) (by rw [c1]; decide +kernel) (by decide) ?_
    refine T_bipush (v := 17) (dk dtk_X9_singleSign 2 rfl) (by decide +kernel) ?_
    exact KT_iret (dk dtk_X9_singleSign 3 rfl) rfl rfl h
  · have h := h.2
    by_cases c2 : l0 = 45
    · have h := h.1 c2
      refine T_lookup 110 111 (dk dtk_X9_singleSign 1 rfl) (by decide +kernel) (by rw [c2]; decide +kernel) (by decide) ?_
      refine T_bipush (v := 18) (dk dtk_X9_singleSign 4 rfl) (by decide +kernel) ?_
      exact KT_iret (dk dtk_X9_singleSign 5 rfl) rfl rfl h
    · have h := h.2
      by_cases c3 : l0 = 42
      · have h := h.1 c3
        refine T_lookup 113 114 (dk dtk_X9_singleSign 1 rfl) (by decide +kernel) (by rw [c3]; decide +kernel) (by decide) ?_
        refine T_bipush (v := 19) (dk dtk_X9_singleSign 6 rfl) (by decide +kernel) ?_
        exact KT_iret (dk dtk_X9_singleSign 7 rfl) rfl rfl h
      · have h := h.2
        by_cases c4 : l0 = 47
        · have h := h.1 c4
          refine T_lookup 116 117 (dk dtk_X9_singleSign 1 rfl) (by decide +kernel) (by rw [c4]; decide +kernel) (by decide) ?_
          refine T_bipush (v := 20) (dk dtk_X9_singleSign 8 rfl) (by decide +kernel) ?_
          exact KT_iret (dk dtk_X9_singleSign 9 rfl) rfl rfl h
        · have h := h.2
          by_cases c5 : l0 = 40
          · have h := h.1 c5
            refine T_lookup 119 120 (dk dtk_X9_singleSign 1 rfl) (by decide +kernel) (by rw [c5]; decide +kernel) (by decide) ?_
            refine T_bipush (v := 21) (dk dtk_X9_singleSign 10 rfl) (by decide +kernel) ?_
            exact KT_iret (dk dtk_X9_singleSign 11 rfl) rfl rfl h
          · have h := h.2
            by_cases c6 : l0 = 41
            · have h := h.1 c6
              refine T_lookup 122 123 (dk dtk_X9_singleSign 1 rfl) (by decide +kernel) (by rw [c6]; decide +kernel) (by decide) ?_
              refine T_bipush (v := 22) (dk dtk_X9_singleSign 12 rfl) (by decide +kernel) ?_
              exact KT_iret (dk dtk_X9_singleSign 13 rfl) rfl rfl h
            · have h := h.2
              by_cases c7 : l0 = 123
              · have h := h.1 c7
                refine T_lookup 125 126 (dk dtk_X9_singleSign 1 rfl) (by decide +kernel) (by rw [c7]; decide +kernel) (by decide) ?_
                refine T_bipush (v := 23) (dk dtk_X9_singleSign 14 rfl) (by decide +kernel) ?_
                exact KT_iret (dk dtk_X9_singleSign 15 rfl) rfl rfl h
              · have h := h.2
                by_cases c8 : l0 = 125
                · have h := h.1 c8
                  refine T_lookup 128 129 (dk dtk_X9_singleSign 1 rfl) (by decide +kernel) (by rw [c8]; decide +kernel) (by decide) ?_
                  refine T_bipush (v := 24) (dk dtk_X9_singleSign 16 rfl) (by decide +kernel) ?_
                  exact KT_iret (dk dtk_X9_singleSign 17 rfl) rfl rfl h
                · have h := h.2
                  by_cases c9 : l0 = 91
                  · have h := h.1 c9
                    refine T_lookup 131 132 (dk dtk_X9_singleSign 1 rfl) (by decide +kernel) (by rw [c9]; decide +kernel) (by decide) ?_
                    refine T_bipush (v := 25) (dk dtk_X9_singleSign 18 rfl) (by decide +kernel) ?_
                    exact KT_iret (dk dtk_X9_singleSign 19 rfl) rfl rfl h
                  · have h := h.2
                    by_cases c10 : l0 = 93
                    · have h := h.1 c10
                      refine T_lookup 134 135 (dk dtk_X9_singleSign 1 rfl) (by decide +kernel) (by rw [c10]; decide +kernel) (by decide) ?_
                      refine T_bipush (v := 26) (dk dtk_X9_singleSign 20 rfl) (by decide +kernel) ?_
                      exact KT_iret (dk dtk_X9_singleSign 21 rfl) rfl rfl h
                    · have h := h.2
                      by_cases c11 : l0 = 59
                      · have h := h.1 c11
                        refine T_lookup 137 138 (dk dtk_X9_singleSign 1 rfl) (by decide +kernel) (by rw [c11]; decide +kernel) (by decide) ?_
                        refine T_bipush (v := 27) (dk dtk_X9_singleSign 22 rfl) (by decide +kernel) ?_
                        exact KT_iret (dk dtk_X9_singleSign 23 rfl) rfl rfl h
                      · have h := h.2
                        by_cases c12 : l0 = 44
                        · have h := h.1 c12
                          refine T_lookup 140 141 (dk dtk_X9_singleSign 1 rfl) (by decide +kernel) (by rw [c12]; decide +kernel) (by decide) ?_
                          refine T_bipush (v := 28) (dk dtk_X9_singleSign 24 rfl) (by decide +kernel) ?_
                          exact KT_iret (dk dtk_X9_singleSign 25 rfl) rfl rfl h
                        · have h := h.2
                          have n13 : ∀ k ∈ [(43 : Int32), (45 : Int32), (42 : Int32), (47 : Int32), (40 : Int32), (41 : Int32), (123 : Int32), (125 : Int32), (91 : Int32), (93 : Int32), (59 : Int32), (44 : Int32)], ¬ l0 = k := (gno c1 (gno c2 (gno c3 (gno c4 (gno c5 (gno c6 (gno c7 (gno c8 (gno c9 (gno c10 (gno c11 (gno c12 gno0))))))))))))
                          have h := h n13
                          refine T_lookup 143 144 (dk dtk_X9_singleSign 1 rfl) (by decide +kernel) (glk_d [(43 : Int32), (45 : Int32), (42 : Int32), (47 : Int32), (40 : Int32), (41 : Int32), (123 : Int32), (125 : Int32), (91 : Int32), (93 : Int32), (59 : Int32), (44 : Int32)] (by decide +kernel) n13) (by decide) ?_
                          refine T_iconst (v := 1) (dk dtk_X9_singleSign 26 rfl) (by decide +kernel) ?_
                          exact KT_iret (dk dtk_X9_singleSign 27 rfl) rfl rfl h
set_option maxRecDepth 100000 in
theorem dtk_X9_isLetter : dck cX9_isLetter [(0, .iload_n 0, 1), (1, .bipush 97, 2), (3, .if_icmp .lt 9, 3), (6, .iload_n 0, 1), (7, .bipush 122, 2), (9, .if_icmp .le 15, 3), (12, .iload_n 0, 1), (13, .bipush 65, 2), (15, .if_icmp .lt 13, 3), (18, .iload_n 0, 1), (19, .bipush 90, 2), (21, .if_icmp .gt 7, 3), (24, .iconst 1, 1), (25, .goto 4, 3), (28, .iconst 0, 1), (29, .ireturn, 1)] = true := by decide +kernel
set_option maxRecDepth 100000 in
set_option maxHeartbeats 4000000 in
theorem kg_X9_isLetter_0 {G : kG} {q : kP} {d : Nat} {x : gd} {P : Option gv → gd → Prop} (hq : kV q) (l0 : Int32)
    (h : ((l0 < (97 : Int32) → KT G q d zk_X9_isLetter 12 [(0, vi l0)] [] x P) ∧ (¬ (l0 < (97 : Int32)) → ((l0 ≤ (122 : Int32) → P (some (vi 1)) x) ∧ (¬ (l0 ≤ (122 : Int32)) → KT G q d zk_X9_isLetter 12 [(0, vi l0)] [] x P))))) :
    KT G q d zk_X9_isLetter 0 [(0, vi l0)] [] x P := by
  refine T_iload_n 0 (dk dtk_X9_isLetter 0 rfl) rfl rfl ?_
  refine T_bipush (v := 97) (dk dtk_X9_isLetter 1 rfl) (by decide +kernel) ?_
  refine T_icmp_lt 12 (dk dtk_X9_isLetter 2 rfl) (by decide) (fun c1 => ?_) (fun c1 => ?_)
  · have h := h.1 c1
    exact h
  · have h := h.2 c1
    refine T_iload_n 0 (dk dtk_X9_isLetter 3 rfl) rfl rfl ?_
    refine T_bipush (v := 122) (dk dtk_X9_isLetter 4 rfl) (by decide +kernel) ?_
    refine T_icmp_le 24 (dk dtk_X9_isLetter 5 rfl) (by decide) (fun c2 => ?_) (fun c2 => ?_)
    · have h := h.1 c2
      refine T_iconst (v := 1) (dk dtk_X9_isLetter 12 rfl) (by decide +kernel) ?_
      refine T_goto 29 (dk dtk_X9_isLetter 13 rfl) (by decide) ?_
      exact KT_iret (dk dtk_X9_isLetter 15 rfl) rfl rfl h
    · have h := h.2 c2
      exact h
set_option maxRecDepth 100000 in
set_option maxHeartbeats 4000000 in
theorem kg_X9_isLetter_12 {G : kG} {q : kP} {d : Nat} {x : gd} {P : Option gv → gd → Prop} (hq : kV q) (l0 : Int32)
    (h : ((l0 < (65 : Int32) → P (some (vi 0)) x) ∧ (¬ (l0 < (65 : Int32)) → (((90 : Int32) < l0 → P (some (vi 0)) x) ∧ (¬ ((90 : Int32) < l0) → P (some (vi 1)) x))))) :
    KT G q d zk_X9_isLetter 12 [(0, vi l0)] [] x P := by
  refine T_iload_n 0 (dk dtk_X9_isLetter 6 rfl) rfl rfl ?_
  refine T_bipush (v := 65) (dk dtk_X9_isLetter 7 rfl) (by decide +kernel) ?_
  refine T_icmp_lt 28 (dk dtk_X9_isLetter 8 rfl) (by decide) (fun c1 => ?_) (fun c1 => ?_)
  · have h := h.1 c1
    refine T_iconst (v := 0) (dk dtk_X9_isLetter 14 rfl) (by decide +kernel) ?_
    exact KT_iret (dk dtk_X9_isLetter 15 rfl) rfl rfl h
  · have h := h.2 c1
    refine T_iload_n 0 (dk dtk_X9_isLetter 9 rfl) rfl rfl ?_
    refine T_bipush (v := 90) (dk dtk_X9_isLetter 10 rfl) (by decide +kernel) ?_
    refine T_icmp_gt 28 (dk dtk_X9_isLetter 11 rfl) (by decide) (fun c2 => ?_) (fun c2 => ?_)
    · have h := h.1 c2
      refine T_iconst (v := 0) (dk dtk_X9_isLetter 14 rfl) (by decide +kernel) ?_
      exact KT_iret (dk dtk_X9_isLetter 15 rfl) rfl rfl h
    · have h := h.2 c2
      refine T_iconst (v := 1) (dk dtk_X9_isLetter 12 rfl) (by decide +kernel) ?_
      refine T_goto 29 (dk dtk_X9_isLetter 13 rfl) (by decide) ?_
      exact KT_iret (dk dtk_X9_isLetter 15 rfl) rfl rfl h
set_option maxRecDepth 100000 in
theorem dtk_X9_isDigit : dck cX9_isDigit [(0, .iload_n 0, 1), (1, .bipush 48, 2), (3, .if_icmp .lt 13, 3), (6, .iload_n 0, 1), (7, .bipush 57, 2), (9, .if_icmp .gt 7, 3), (12, .iconst 1, 1), (13, .goto 4, 3), (16, .iconst 0, 1), (17, .ireturn, 1)] = true := by decide +kernel
set_option maxRecDepth 100000 in
set_option maxHeartbeats 4000000 in
theorem kg_X9_isDigit_0 {G : kG} {q : kP} {d : Nat} {x : gd} {P : Option gv → gd → Prop} (hq : kV q) (l0 : Int32)
    (h : ((l0 < (48 : Int32) → P (some (vi 0)) x) ∧ (¬ (l0 < (48 : Int32)) → (((57 : Int32) < l0 → P (some (vi 0)) x) ∧ (¬ ((57 : Int32) < l0) → P (some (vi 1)) x))))) :
    KT G q d zk_X9_isDigit 0 [(0, vi l0)] [] x P := by
  refine T_iload_n 0 (dk dtk_X9_isDigit 0 rfl) rfl rfl ?_
  refine T_bipush (v := 48) (dk dtk_X9_isDigit 1 rfl) (by decide +kernel) ?_
  refine T_icmp_lt 16 (dk dtk_X9_isDigit 2 rfl) (by decide) (fun c1 => ?_) (fun c1 => ?_)
  · have h := h.1 c1
    refine T_iconst (v := 0) (dk dtk_X9_isDigit 8 rfl) (by decide +kernel) ?_
    exact KT_iret (dk dtk_X9_isDigit 9 rfl) rfl rfl h
  · have h := h.2 c1
    refine T_iload_n 0 (dk dtk_X9_isDigit 3 rfl) rfl rfl ?_
    refine T_bipush (v := 57) (dk dtk_X9_isDigit 4 rfl) (by decide +kernel) ?_
    refine T_icmp_gt 16 (dk dtk_X9_isDigit 5 rfl) (by decide) (fun c2 => ?_) (fun c2 => ?_)
    · have h := h.1 c2
      refine T_iconst (v := 0) (dk dtk_X9_isDigit 8 rfl) (by decide +kernel) ?_
      exact KT_iret (dk dtk_X9_isDigit 9 rfl) rfl rfl h
    · have h := h.2 c2
      refine T_iconst (v := 1) (dk dtk_X9_isDigit 6 rfl) (by decide +kernel) ?_
      refine T_goto 17 (dk dtk_X9_isDigit 7 rfl) (by decide) ?_
      exact KT_iret (dk dtk_X9_isDigit 9 rfl) rfl rfl h
set_option maxRecDepth 100000 in
theorem dtk_X6_clear : dck cX6_clear [(0, .aload_n 0, 1), (1, .iconst 0, 1), (2, .putfield 39, 3), (5, .aload_n 0, 1), (6, .iconst 0, 1), (7, .putfield 43, 3), (10, .aload_n 0, 1), (11, .iconst 0, 1), (12, .putfield 46, 3), (15, .aload_n 0, 1), (16, .getfield 17, 3), (19, .iconst 0, 1), (20, .invokestatic 49, 3), (23, .aload_n 0, 1), (24, .getfield 21, 3), (27, .iconst (-1), 1), (28, .invokestatic 49, 3), (31, .return_, 1)] = true := by decide +kernel
set_option maxRecDepth 100000 in
set_option maxHeartbeats 4000000 in
theorem kg_X6_clear_0 {G : kG} {q : kP} {d : Nat} {x : gd} {P : Option gv → gd → Prop} (hq : kV q) 
    (h : (∀ x1 : gd, x1 = si x 40 6 0 → (∀ x2 : gd, x2 = si x1 40 8 0 → (∀ x3 : gd, x3 = si x2 40 10 0 → (∀ x4 : gd, x4 = sfl x3 42 0 702 → (∀ x5 : gd, x5 = sfl x4 43 (-1) 702 → P none x5)))))) :
    KT G q (d + 1) zk_X6_clear 0 [(0, vr 40)] [] x P := by
  refine T_aload_n 0 (dk dtk_X6_clear 0 rfl) rfl rfl ?_
  refine T_iconst (v := 0) (dk dtk_X6_clear 1 rfl) (by decide +kernel) ?_
  obtain ⟨x1, ex1⟩ : ∃ z, z = si x 40 6 0 := ⟨_, rfl⟩
  have h := h x1 ex1
  refine T_putI 40 6 (dk dtk_X6_clear 2 rfl) kfl_X6_39 kk_40 (kl_40 hq) (by decide) rfl ⟨rfl, rfl⟩ ?_
  rw [← ex1]
  refine T_aload_n 0 (dk dtk_X6_clear 3 rfl) rfl rfl ?_
  refine T_iconst (v := 0) (dk dtk_X6_clear 4 rfl) (by decide +kernel) ?_
  obtain ⟨x2, ex2⟩ : ∃ z, z = si x1 40 8 0 := ⟨_, rfl⟩
  have h := h x2 ex2
  refine T_putI 40 8 (dk dtk_X6_clear 5 rfl) kfl_X6_43 kk_40 (kl_40 hq) (by decide) rfl ⟨rfl, rfl⟩ ?_
  rw [← ex2]
  refine T_aload_n 0 (dk dtk_X6_clear 6 rfl) rfl rfl ?_
  refine T_iconst (v := 0) (dk dtk_X6_clear 7 rfl) (by decide +kernel) ?_
  obtain ⟨x3, ex3⟩ : ∃ z, z = si x2 40 10 0 := ⟨_, rfl⟩
  have h := h x3 ex3
  refine T_putI 40 10 (dk dtk_X6_clear 8 rfl) kfl_X6_46 kk_40 (kl_40 hq) (by decide) rfl ⟨rfl, rfl⟩ ?_
  rw [← ex3]
  refine T_aload_n 0 (dk dtk_X6_clear 9 rfl) rfl rfl ?_
  refine T_getR 40 1 42 (dk dtk_X6_clear 10 rfl) kfl_X6_17 kk_40 (kl_40 hq) (by decide) rfl kr_40_1 ?_
  refine T_iconst (v := 0) (dk dtk_X6_clear 11 rfl) (by decide +kernel) ?_
  refine KC_Sv (F := fun z => z = sfl x3 42 0 702) [vr 42, vi 0] [] rfl (dk dtk_X6_clear 12 rfl) kcs_X6_49 rfl (Nat.le_of_ble_eq_true rfl) (Nat.le_of_ble_eq_true rfl) (gok_i (av_c (gkr (kl_40 hq)) av_n) as_n) rfl (tj_fill 42 702 0 kk_42 (kl_42 hq) (by decide) ⟨rfl, none, rfl, rfl, rfl⟩) (fun x4 ex4 => ?_)
  have h := h x4 ex4
  refine T_aload_n 0 (dk dtk_X6_clear 13 rfl) rfl rfl ?_
  refine T_getR 40 2 43 (dk dtk_X6_clear 14 rfl) kfl_X6_21 kk_40 (kl_40 hq) (by decide) rfl kr_40_2 ?_
  refine T_iconst (v := (-1)) (dk dtk_X6_clear 15 rfl) (by decide +kernel) ?_
  refine T_sub (lv2 := []) [] rfl ?_
  refine KC_Sv (F := fun z => z = sfl x4 43 (-1) 702) [vr 43, vi (-1)] [] rfl (dk dtk_X6_clear 16 rfl) kcs_X6_49 rfl (Nat.le_of_ble_eq_true rfl) (Nat.le_of_ble_eq_true rfl) (gok_i av_n as_n) rfl (tj_fill 43 702 (-1) kk_43 (kl_43 hq) (by decide) ⟨rfl, none, rfl, rfl, rfl⟩) (fun x5 ex5 => ?_)
  have h := h x5 ex5
  exact KT_vret (dk dtk_X6_clear 17 rfl) rfl h
set_option maxRecDepth 100000 in
theorem dtk_X6_tellCell : dck cX6_tellCell [(0, .aload_n 0, 1), (1, .getfield 39, 3), (4, .bipush 24, 2), (6, .if_icmp .ge 43, 3), (9, .aload_n 0, 1), (10, .getfield 24, 3), (13, .aload_n 0, 1), (14, .getfield 39, 3), (17, .iload_n 1, 1), (18, .iastore, 1), (19, .aload_n 0, 1), (20, .getfield 27, 3), (23, .aload_n 0, 1), (24, .getfield 39, 3), (27, .iload_n 2, 1), (28, .iastore, 1), (29, .aload_n 0, 1), (30, .getfield 30, 3), (33, .aload_n 0, 1), (34, .getfield 39, 3), (37, .iload_n 3, 1), (38, .iastore, 1), (39, .aload_n 0, 1), (40, .dup, 1), (41, .getfield 39, 3), (44, .iconst 1, 1), (45, .iadd, 1), (46, .putfield 39, 3), (49, .return_, 1)] = true := by decide +kernel
set_option maxRecDepth 100000 in
set_option maxHeartbeats 4000000 in
theorem kg_X6_tellCell_0 {G : kG} {q : kP} {d : Nat} {x : gd} {P : Option gv → gd → Prop} (hq : kV q) (l1 : Int32) (l2 : Int32) (l3 : Int32)
    (h : (((24 : Int32) ≤ (x.1 40 6) → P none x) ∧ (¬ ((24 : Int32) ≤ (x.1 40 6)) → vp_in (x.1 40 6) 24 ∧ (∀ x3 : gd, x3 = si x 44 (x.1 40 6 : Int32).toNatClampNeg l1 → vp_in (x3.1 40 6) 24 ∧ (∀ x5 : gd, x5 = si x3 45 (x3.1 40 6 : Int32).toNatClampNeg l2 → vp_in (x5.1 40 6) 24 ∧ (∀ x7 : gd, x7 = si x5 46 (x5.1 40 6 : Int32).toNatClampNeg l3 → (∀ x8 : gd, x8 = si x7 40 6 ((x7.1 40 6) + 1) → P none x8))))))) :
    KT G q d zk_X6_tellCell 0 [(0, vr 40), (1, vi l1), (2, vi l2), (3, vi l3)] [] x P := by
  refine T_aload_n 0 (dk dtk_X6_tellCell 0 rfl) rfl rfl ?_
  refine T_getI 40 6 (dk dtk_X6_tellCell 1 rfl) kfl_X6_39 kk_40 (kl_40 hq) (by decide) rfl ?_
  refine T_bipush (v := 24) (dk dtk_X6_tellCell 2 rfl) (by decide +kernel) ?_
  refine T_icmp_ge 49 (dk dtk_X6_tellCell 3 rfl) (by decide) (fun c1 => ?_) (fun c1 => ?_)
  · have h := h.1 c1
    exact KT_vret (dk dtk_X6_tellCell 28 rfl) rfl h
  · have h := h.2 c1
    refine T_aload_n 0 (dk dtk_X6_tellCell 4 rfl) rfl rfl ?_
    refine T_getR 40 3 44 (dk dtk_X6_tellCell 5 rfl) kfl_X6_24 kk_40 (kl_40 hq) (by decide) rfl kr_40_3 ?_
    refine T_aload_n 0 (dk dtk_X6_tellCell 6 rfl) rfl rfl ?_
    refine T_getI 40 6 (dk dtk_X6_tellCell 7 rfl) kfl_X6_39 kk_40 (kl_40 hq) (by decide) rfl ?_
    refine T_iload_n 1 (dk dtk_X6_tellCell 8 rfl) rfl rfl ?_
    obtain ⟨h2, h⟩ := h
    obtain ⟨x3, ex3⟩ : ∃ z, z = si x 44 (x.1 40 6 : Int32).toNatClampNeg l1 := ⟨_, rfl⟩
    have h := h x3 ex3
    refine T_iast 44 24 (dk dtk_X6_tellCell 9 rfl) kk_44 (kl_44 hq) h2 ?_
    rw [← ex3]
    refine T_aload_n 0 (dk dtk_X6_tellCell 10 rfl) rfl rfl ?_
    refine T_getR 40 4 45 (dk dtk_X6_tellCell 11 rfl) kfl_X6_27 kk_40 (kl_40 hq) (by decide) rfl kr_40_4 ?_
    refine T_aload_n 0 (dk dtk_X6_tellCell 12 rfl) rfl rfl ?_
    refine T_getI 40 6 (dk dtk_X6_tellCell 13 rfl) kfl_X6_39 kk_40 (kl_40 hq) (by decide) rfl ?_
    refine T_iload_n 2 (dk dtk_X6_tellCell 14 rfl) rfl rfl ?_
    obtain ⟨h4, h⟩ := h
    obtain ⟨x5, ex5⟩ : ∃ z, z = si x3 45 (x3.1 40 6 : Int32).toNatClampNeg l2 := ⟨_, rfl⟩
    have h := h x5 ex5
    refine T_iast 45 24 (dk dtk_X6_tellCell 15 rfl) kk_45 (kl_45 hq) h4 ?_
    rw [← ex5]
    refine T_aload_n 0 (dk dtk_X6_tellCell 16 rfl) rfl rfl ?_
    refine T_getR 40 5 46 (dk dtk_X6_tellCell 17 rfl) kfl_X6_30 kk_40 (kl_40 hq) (by decide) rfl kr_40_5 ?_
    refine T_aload_n 0 (dk dtk_X6_tellCell 18 rfl) rfl rfl ?_
    refine T_getI 40 6 (dk dtk_X6_tellCell 19 rfl) kfl_X6_39 kk_40 (kl_40 hq) (by decide) rfl ?_
    refine T_iload_n 3 (dk dtk_X6_tellCell 20 rfl) rfl rfl ?_
    obtain ⟨h6, h⟩ := h
    obtain ⟨x7, ex7⟩ : ∃ z, z = si x5 46 (x5.1 40 6 : Int32).toNatClampNeg l3 := ⟨_, rfl⟩
    have h := h x7 ex7
    refine T_iast 46 24 (dk dtk_X6_tellCell 21 rfl) kk_46 (kl_46 hq) h6 ?_
    rw [← ex7]
    refine T_aload_n 0 (dk dtk_X6_tellCell 22 rfl) rfl rfl ?_
    refine T_dup (dk dtk_X6_tellCell 23 rfl) rfl ?_
    refine T_getI 40 6 (dk dtk_X6_tellCell 24 rfl) kfl_X6_39 kk_40 (kl_40 hq) (by decide) rfl ?_
    refine T_iconst (v := 1) (dk dtk_X6_tellCell 25 rfl) (by decide +kernel) ?_
    refine T_iadd (dk dtk_X6_tellCell 26 rfl) ?_
    obtain ⟨x8, ex8⟩ : ∃ z, z = si x7 40 6 ((x7.1 40 6) + 1) := ⟨_, rfl⟩
    have h := h x8 ex8
    refine T_putI 40 6 (dk dtk_X6_tellCell 27 rfl) kfl_X6_39 kk_40 (kl_40 hq) (by decide) rfl ⟨rfl, rfl⟩ ?_
    rw [← ex8]
    exact KT_vret (dk dtk_X6_tellCell 28 rfl) rfl h
set_option maxRecDepth 100000 in
theorem dtk_X6_tellLock : dck cX6_tellLock [(0, .aload_n 0, 1), (1, .getfield 43, 3), (4, .bipush 6, 2), (6, .if_icmp .ge 23, 3), (9, .aload_n 0, 1), (10, .getfield 33, 3), (13, .aload_n 0, 1), (14, .getfield 43, 3), (17, .iload_n 1, 1), (18, .iastore, 1), (19, .aload_n 0, 1), (20, .dup, 1), (21, .getfield 43, 3), (24, .iconst 1, 1), (25, .iadd, 1), (26, .putfield 43, 3), (29, .return_, 1)] = true := by decide +kernel
set_option maxRecDepth 100000 in
set_option maxHeartbeats 4000000 in
theorem kg_X6_tellLock_0 {G : kG} {q : kP} {d : Nat} {x : gd} {P : Option gv → gd → Prop} (hq : kV q) (l1 : Int32)
    (h : (((6 : Int32) ≤ (x.1 40 8) → P none x) ∧ (¬ ((6 : Int32) ≤ (x.1 40 8)) → vp_in (x.1 40 8) 6 ∧ (∀ x3 : gd, x3 = si x 48 (x.1 40 8 : Int32).toNatClampNeg l1 → (∀ x4 : gd, x4 = si x3 40 8 ((x3.1 40 8) + 1) → P none x4))))) :
    KT G q d zk_X6_tellLock 0 [(0, vr 40), (1, vi l1)] [] x P := by
  refine T_aload_n 0 (dk dtk_X6_tellLock 0 rfl) rfl rfl ?_
  refine T_getI 40 8 (dk dtk_X6_tellLock 1 rfl) kfl_X6_43 kk_40 (kl_40 hq) (by decide) rfl ?_
  refine T_bipush (v := 6) (dk dtk_X6_tellLock 2 rfl) (by decide +kernel) ?_
  refine T_icmp_ge 29 (dk dtk_X6_tellLock 3 rfl) (by decide) (fun c1 => ?_) (fun c1 => ?_)
  · have h := h.1 c1
    exact KT_vret (dk dtk_X6_tellLock 16 rfl) rfl h
  · have h := h.2 c1
    refine T_aload_n 0 (dk dtk_X6_tellLock 4 rfl) rfl rfl ?_
    refine T_getR 40 7 48 (dk dtk_X6_tellLock 5 rfl) kfl_X6_33 kk_40 (kl_40 hq) (by decide) rfl kr_40_7 ?_
    refine T_aload_n 0 (dk dtk_X6_tellLock 6 rfl) rfl rfl ?_
    refine T_getI 40 8 (dk dtk_X6_tellLock 7 rfl) kfl_X6_43 kk_40 (kl_40 hq) (by decide) rfl ?_
    refine T_iload_n 1 (dk dtk_X6_tellLock 8 rfl) rfl rfl ?_
    obtain ⟨h2, h⟩ := h
    obtain ⟨x3, ex3⟩ : ∃ z, z = si x 48 (x.1 40 8 : Int32).toNatClampNeg l1 := ⟨_, rfl⟩
    have h := h x3 ex3
    refine T_iast 48 6 (dk dtk_X6_tellLock 9 rfl) kk_48 (kl_48 hq) h2 ?_
    rw [← ex3]
    refine T_aload_n 0 (dk dtk_X6_tellLock 10 rfl) rfl rfl ?_
    refine T_dup (dk dtk_X6_tellLock 11 rfl) rfl ?_
    refine T_getI 40 8 (dk dtk_X6_tellLock 12 rfl) kfl_X6_43 kk_40 (kl_40 hq) (by decide) rfl ?_
    refine T_iconst (v := 1) (dk dtk_X6_tellLock 13 rfl) (by decide +kernel) ?_
    refine T_iadd (dk dtk_X6_tellLock 14 rfl) ?_
    obtain ⟨x4, ex4⟩ : ∃ z, z = si x3 40 8 ((x3.1 40 8) + 1) := ⟨_, rfl⟩
    have h := h x4 ex4
    refine T_putI 40 8 (dk dtk_X6_tellLock 15 rfl) kfl_X6_43 kk_40 (kl_40 hq) (by decide) rfl ⟨rfl, rfl⟩ ?_
    rw [← ex4]
    exact KT_vret (dk dtk_X6_tellLock 16 rfl) rfl h
set_option maxRecDepth 100000 in
theorem dtk_X6_tellThread : dck cX6_tellThread [(0, .aload_n 0, 1), (1, .getfield 46, 3), (4, .bipush 6, 2), (6, .if_icmp .ge 23, 3), (9, .aload_n 0, 1), (10, .getfield 36, 3), (13, .aload_n 0, 1), (14, .getfield 46, 3), (17, .iload_n 1, 1), (18, .iastore, 1), (19, .aload_n 0, 1), (20, .dup, 1), (21, .getfield 46, 3), (24, .iconst 1, 1), (25, .iadd, 1), (26, .putfield 46, 3), (29, .return_, 1)] = true := by decide +kernel
set_option maxRecDepth 100000 in
set_option maxHeartbeats 4000000 in
theorem kg_X6_tellThread_0 {G : kG} {q : kP} {d : Nat} {x : gd} {P : Option gv → gd → Prop} (hq : kV q) (l1 : Int32)
    (h : (((6 : Int32) ≤ (x.1 40 10) → P none x) ∧ (¬ ((6 : Int32) ≤ (x.1 40 10)) → vp_in (x.1 40 10) 6 ∧ (∀ x3 : gd, x3 = si x 50 (x.1 40 10 : Int32).toNatClampNeg l1 → (∀ x4 : gd, x4 = si x3 40 10 ((x3.1 40 10) + 1) → P none x4))))) :
    KT G q d zk_X6_tellThread 0 [(0, vr 40), (1, vi l1)] [] x P := by
  refine T_aload_n 0 (dk dtk_X6_tellThread 0 rfl) rfl rfl ?_
  refine T_getI 40 10 (dk dtk_X6_tellThread 1 rfl) kfl_X6_46 kk_40 (kl_40 hq) (by decide) rfl ?_
  refine T_bipush (v := 6) (dk dtk_X6_tellThread 2 rfl) (by decide +kernel) ?_
  refine T_icmp_ge 29 (dk dtk_X6_tellThread 3 rfl) (by decide) (fun c1 => ?_) (fun c1 => ?_)
  · have h := h.1 c1
    exact KT_vret (dk dtk_X6_tellThread 16 rfl) rfl h
  · have h := h.2 c1
    refine T_aload_n 0 (dk dtk_X6_tellThread 4 rfl) rfl rfl ?_
    refine T_getR 40 9 50 (dk dtk_X6_tellThread 5 rfl) kfl_X6_36 kk_40 (kl_40 hq) (by decide) rfl kr_40_9 ?_
    refine T_aload_n 0 (dk dtk_X6_tellThread 6 rfl) rfl rfl ?_
    refine T_getI 40 10 (dk dtk_X6_tellThread 7 rfl) kfl_X6_46 kk_40 (kl_40 hq) (by decide) rfl ?_
    refine T_iload_n 1 (dk dtk_X6_tellThread 8 rfl) rfl rfl ?_
    obtain ⟨h2, h⟩ := h
    obtain ⟨x3, ex3⟩ : ∃ z, z = si x 50 (x.1 40 10 : Int32).toNatClampNeg l1 := ⟨_, rfl⟩
    have h := h x3 ex3
    refine T_iast 50 6 (dk dtk_X6_tellThread 9 rfl) kk_50 (kl_50 hq) h2 ?_
    rw [← ex3]
    refine T_aload_n 0 (dk dtk_X6_tellThread 10 rfl) rfl rfl ?_
    refine T_dup (dk dtk_X6_tellThread 11 rfl) rfl ?_
    refine T_getI 40 10 (dk dtk_X6_tellThread 12 rfl) kfl_X6_46 kk_40 (kl_40 hq) (by decide) rfl ?_
    refine T_iconst (v := 1) (dk dtk_X6_tellThread 13 rfl) (by decide +kernel) ?_
    refine T_iadd (dk dtk_X6_tellThread 14 rfl) ?_
    obtain ⟨x4, ex4⟩ : ∃ z, z = si x3 40 10 ((x3.1 40 10) + 1) := ⟨_, rfl⟩
    have h := h x4 ex4
    refine T_putI 40 10 (dk dtk_X6_tellThread 15 rfl) kfl_X6_46 kk_40 (kl_40 hq) (by decide) rfl ⟨rfl, rfl⟩ ?_
    rw [← ex4]
    exact KT_vret (dk dtk_X6_tellThread 16 rfl) rfl h
set_option maxRecDepth 100000 in
theorem dtk_X6_isRowSize : dck cX6_isRowSize [(0, .iload_n 0, 1), (1, .iconst 1, 1), (2, .if_icmp .lt 13, 3), (5, .iload_n 0, 1), (6, .bipush 8, 2), (8, .if_icmp .gt 7, 3), (11, .iconst 1, 1), (12, .goto 4, 3), (15, .iconst 0, 1), (16, .ireturn, 1)] = true := by decide +kernel
set_option maxRecDepth 100000 in
set_option maxHeartbeats 4000000 in
theorem kg_X6_isRowSize_0 {G : kG} {q : kP} {d : Nat} {x : gd} {P : Option gv → gd → Prop} (hq : kV q) (l0 : Int32)
    (h : ((l0 < (1 : Int32) → P (some (vi 0)) x) ∧ (¬ (l0 < (1 : Int32)) → (((8 : Int32) < l0 → P (some (vi 0)) x) ∧ (¬ ((8 : Int32) < l0) → P (some (vi 1)) x))))) :
    KT G q d zk_X6_isRowSize 0 [(0, vi l0)] [] x P := by
  refine T_iload_n 0 (dk dtk_X6_isRowSize 0 rfl) rfl rfl ?_
  refine T_iconst (v := 1) (dk dtk_X6_isRowSize 1 rfl) (by decide +kernel) ?_
  refine T_icmp_lt 15 (dk dtk_X6_isRowSize 2 rfl) (by decide) (fun c1 => ?_) (fun c1 => ?_)
  · have h := h.1 c1
    refine T_iconst (v := 0) (dk dtk_X6_isRowSize 8 rfl) (by decide +kernel) ?_
    exact KT_iret (dk dtk_X6_isRowSize 9 rfl) rfl rfl h
  · have h := h.2 c1
    refine T_iload_n 0 (dk dtk_X6_isRowSize 3 rfl) rfl rfl ?_
    refine T_bipush (v := 8) (dk dtk_X6_isRowSize 4 rfl) (by decide +kernel) ?_
    refine T_icmp_gt 15 (dk dtk_X6_isRowSize 5 rfl) (by decide) (fun c2 => ?_) (fun c2 => ?_)
    · have h := h.1 c2
      refine T_iconst (v := 0) (dk dtk_X6_isRowSize 8 rfl) (by decide +kernel) ?_
      exact KT_iret (dk dtk_X6_isRowSize 9 rfl) rfl rfl h
    · have h := h.2 c2
      refine T_iconst (v := 1) (dk dtk_X6_isRowSize 6 rfl) (by decide +kernel) ?_
      refine T_goto 16 (dk dtk_X6_isRowSize 7 rfl) (by decide) ?_
      exact KT_iret (dk dtk_X6_isRowSize 9 rfl) rfl rfl h
set_option maxRecDepth 100000 in
theorem dtk_X6_judge : dck cX6_judge [(0, .iconst 0, 1), (1, .istore_n 1, 1), (2, .iload_n 1, 1), (3, .aload_n 0, 1), (4, .getfield 9, 3), (7, .getfield 55, 3), (10, .if_icmp .ge 39, 3), (13, .aload_n 0, 1), (14, .getfield 17, 3), (17, .iload_n 1, 1), (18, .iaload, 1), (19, .ifCond .ne 7, 3), (22, .iconst 0, 1), (23, .goto 8, 3), (26, .aload_n 0, 1), (27, .iload_n 1, 1), (28, .invokevirtual 58, 3), (31, .istore_n 2, 1), (32, .iload_n 2, 1), (33, .ifCond .eq 10, 3), (36, .aload_n 0, 1), (37, .iload_n 1, 1), (38, .putfield 62, 3), (41, .iload_n 2, 1), (42, .ireturn, 1), (43, .iinc 1 1, 3), (46, .goto (-44), 3), (49, .iconst 0, 1), (50, .ireturn, 1)] = true := by decide +kernel
set_option maxRecDepth 100000 in
set_option maxHeartbeats 4000000 in
theorem kg_X6_judge_0 {G : kG} {q : kP} {d : Nat} {x : gd} {P : Option gv → gd → Prop} (hq : kV q) 
    (h : KT G q (d + 1) zk_X6_judge 2 [(0, vr 40), (1, vi 0)] [] x P) :
    KT G q (d + 1) zk_X6_judge 0 [(0, vr 40)] [] x P := by
  refine T_iconst (v := 0) (dk dtk_X6_judge 0 rfl) (by decide +kernel) ?_
  refine T_istore_n (lv2 := [(1, vi 0), (0, vr 40)]) (dk dtk_X6_judge 1 rfl) rfl (by decide) rfl ?_
  exact T_sub [1, 0] rfl h
set_option maxRecDepth 100000 in
set_option maxHeartbeats 4000000 in
theorem kg_X6_judge_2 {G : kG} {q : kP} {d : Nat} {x : gd} {P : Option gv → gd → Prop} (hq : kV q) (l1 : Int32)
    (h : (((x.1 20 7) ≤ l1 → P (some (vi 0)) x) ∧ (¬ ((x.1 20 7) ≤ l1) → vp_in l1 702 ∧ ((¬ ((x.1 42 (l1 : Int32).toNatClampNeg) = (0 : Int32)) → KT G q d zk_X6_faultOf 0 [(0, vr 40), (1, vi l1)] [] x (ri (fun r5 x4 => KT G q (d + 1) zk_X6_judge 31 [(0, vr 40), (1, vi l1)] [vi r5] x4 P))) ∧ ((x.1 42 (l1 : Int32).toNatClampNeg) = (0 : Int32) → KT G q (d + 1) zk_X6_judge 31 [(0, vr 40), (1, vi l1)] [vi 0] x P))))) :
    KT G q (d + 1) zk_X6_judge 2 [(0, vr 40), (1, vi l1)] [] x P := by
  refine T_iload_n 1 (dk dtk_X6_judge 2 rfl) rfl rfl ?_
  refine T_aload_n 0 (dk dtk_X6_judge 3 rfl) rfl rfl ?_
  refine T_getR 40 0 20 (dk dtk_X6_judge 4 rfl) kfl_X6_9 kk_40 (kl_40 hq) (by decide) rfl kr_40_0 ?_
  refine T_getI 20 7 (dk dtk_X6_judge 5 rfl) kfl_X6_55 kk_20 (kl_20 hq) (by decide) rfl ?_
  refine T_icmp_ge 49 (dk dtk_X6_judge 6 rfl) (by decide) (fun c1 => ?_) (fun c1 => ?_)
  · have h := h.1 c1
    refine T_iconst (v := 0) (dk dtk_X6_judge 27 rfl) (by decide +kernel) ?_
    exact KT_iret (dk dtk_X6_judge 28 rfl) rfl rfl h
  · have h := h.2 c1
    refine T_aload_n 0 (dk dtk_X6_judge 7 rfl) rfl rfl ?_
    refine T_getR 40 1 42 (dk dtk_X6_judge 8 rfl) kfl_X6_17 kk_40 (kl_40 hq) (by decide) rfl kr_40_1 ?_
    refine T_iload_n 1 (dk dtk_X6_judge 9 rfl) rfl rfl ?_
    obtain ⟨h2, h⟩ := h
    refine T_iald 42 702 (dk dtk_X6_judge 10 rfl) kk_42 (kl_42 hq) h2 ?_
    refine T_if_ne 26 (dk dtk_X6_judge 11 rfl) (by decide) (fun c3 => ?_) (fun c3 => ?_)
    · have h := h.1 c3
      refine T_aload_n 0 (dk dtk_X6_judge 14 rfl) rfl rfl ?_
      refine T_iload_n 1 (dk dtk_X6_judge 15 rfl) rfl rfl ?_
      refine KC_Vi [vi l1] [] rfl (dk dtk_X6_judge 16 rfl) kcv_X6_58 rfl kk_40 rfl (kl_40 hq) (Nat.le_of_ble_eq_true rfl) (Nat.le_of_ble_eq_true rfl) (gok_i (av_c (gkr (kl_40 hq)) (av_c rfl av_n)) as_n) rfl h (fun r5 x4 h => ?_)
      exact h
    · have h := h.2 c3
      refine T_iconst (v := 0) (dk dtk_X6_judge 12 rfl) (by decide +kernel) ?_
      refine T_goto 31 (dk dtk_X6_judge 13 rfl) (by decide) ?_
      exact h
set_option maxRecDepth 100000 in
set_option maxHeartbeats 4000000 in
theorem kg_X6_judge_31 {G : kG} {q : kP} {d : Nat} {x : gd} {P : Option gv → gd → Prop} (hq : kV q) (l1 : Int32) (s0 : Int32)
    (h : ((s0 = (0 : Int32) → KT G q (d + 1) zk_X6_judge 2 [(0, vr 40), (1, vi (l1 + 1))] [] x P) ∧ (¬ (s0 = (0 : Int32)) → (∀ x2 : gd, x2 = si x 40 11 l1 → P (some (vi s0)) x2)))) :
    KT G q (d + 1) zk_X6_judge 31 [(0, vr 40), (1, vi l1)] [vi s0] x P := by
  refine T_istore_n (lv2 := [(2, vi s0), (0, vr 40), (1, vi l1)]) (dk dtk_X6_judge 17 rfl) rfl (by decide) rfl ?_
  refine T_iload_n 0 (dk dtk_X6_judge 18 rfl) rfl rfl ?_
  refine T_if_eq 43 (dk dtk_X6_judge 19 rfl) (by decide) (fun c1 => ?_) (fun c1 => ?_)
  · have h := h.1 c1
    refine T_iinc (v := l1 + 1) (lv2 := [(1, vi (l1 + 1)), (2, vi s0), (0, vr 40)]) 2 (dk dtk_X6_judge 25 rfl) rfl rfl (by decide) rfl ?_
    refine T_goto 2 (dk dtk_X6_judge 26 rfl) (by decide) ?_
    exact T_sub [2, 0] rfl h
  · have h := h.2 c1
    refine T_aload_n 1 (dk dtk_X6_judge 20 rfl) rfl rfl ?_
    refine T_iload_n 2 (dk dtk_X6_judge 21 rfl) rfl rfl ?_
    obtain ⟨x2, ex2⟩ : ∃ z, z = si x 40 11 l1 := ⟨_, rfl⟩
    have h := h x2 ex2
    refine T_putI 40 11 (dk dtk_X6_judge 22 rfl) kfl_X6_62 kk_40 (kl_40 hq) (by decide) rfl ⟨rfl, rfl⟩ ?_
    rw [← ex2]
    refine T_iload_n 0 (dk dtk_X6_judge 23 rfl) rfl rfl ?_
    exact KT_iret (dk dtk_X6_judge 24 rfl) rfl rfl h
