section
set_option maxRecDepth 100000 in
theorem dtk_X7_need : dck cX7_need [(0, .aload_n 0, 1), (1, .invokevirtual 71, 3), (4, .iload_n 1, 1), (5, .if_icmp .ne 13, 3), (8, .aload_n 0, 1), (9, .getfield 52, 3), (12, .sipush 700, 3), (15, .if_icmp .lt 20, 3), (18, .aload_n 0, 1), (19, .aload_n 0, 1), (20, .invokevirtual 71, 3), (23, .iload_n 1, 1), (24, .if_icmp .eq 7, 3), (27, .iconst 2, 1), (28, .goto 4, 3), (31, .iconst 3, 1), (32, .invokevirtual 96, 3), (35, .aload_n 0, 1), (36, .dup, 1), (37, .getfield 52, 3), (40, .iconst 1, 1), (41, .iadd, 1), (42, .putfield 52, 3), (45, .return_, 1)] = true := by decide +kernel
set_option maxRecDepth 100000 in
set_option maxHeartbeats 4000000 in
theorem kg_X7_need_0 {G : kG} {q : kP} {d : Nat} {x : gd} {P : Option gv → gd → Prop} {X : String → gd → Prop} (hq : kV q) (l1 : Int32)
    (h : KT G q (d + 6) zk_X7_sort 0 [(0, vr 100)] [] x (ri (fun r2 x1 => ((¬ (r2 = l1) → KE G q (d + 7) zk_X7_need 18 [(0, vr 100), (1, vi l1)] [] x1 P X) ∧ (r2 = l1 → (((x1.1 100 4) < (700 : Int32) → (∀ x5 : gd, x5 = si x1 100 4 ((x1.1 100 4) + 1) → P none x5)) ∧ (¬ ((x1.1 100 4) < (700 : Int32)) → KE G q (d + 7) zk_X7_need 18 [(0, vr 100), (1, vi l1)] [] x1 P X))))))) :
    KE G q (d + 7) zk_X7_need 0 [(0, vr 100), (1, vi l1)] [] x P X := by
  refine T_aload_n 0 (dk dtk_X7_need 0 rfl) rfl rfl ?_
  refine KC_Vi [] [] rfl (dk dtk_X7_need 1 rfl) kcv_X7_71 rfl kk_100 rfl (kl_100 hq) (Nat.le_of_ble_eq_true rfl) (Nat.le_of_ble_eq_true rfl) (gok_i (av_c (gkr (kl_100 hq)) (av_c rfl av_n)) as_n) rfl h (fun r2 x1 h => ?_)
  refine T_iload_n 1 (dk dtk_X7_need 2 rfl) rfl rfl ?_
  refine T_icmp_ne 18 (dk dtk_X7_need 3 rfl) (by decide) (fun c3 => ?_) (fun c3 => ?_)
  · have h := h.1 c3
    exact h
  · have h := h.2 c3
    refine T_aload_n 0 (dk dtk_X7_need 4 rfl) rfl rfl ?_
    refine T_getI 100 4 (dk dtk_X7_need 5 rfl) kfl_X7_52 kk_100 (kl_100 hq) (by decide) rfl ?_
    refine T_sipush (v := 700) (dk dtk_X7_need 6 rfl) (by decide +kernel) ?_
    refine T_icmp_lt 35 (dk dtk_X7_need 7 rfl) (by decide) (fun c4 => ?_) (fun c4 => ?_)
    · have h := h.1 c4
      refine T_aload_n 0 (dk dtk_X7_need 17 rfl) rfl rfl ?_
      refine T_dup (dk dtk_X7_need 18 rfl) rfl ?_
      refine T_getI 100 4 (dk dtk_X7_need 19 rfl) kfl_X7_52 kk_100 (kl_100 hq) (by decide) rfl ?_
      refine T_iconst (v := 1) (dk dtk_X7_need 20 rfl) (by decide +kernel) ?_
      refine T_iadd (dk dtk_X7_need 21 rfl) ?_
      obtain ⟨x5, ex5⟩ : ∃ z, z = si x1 100 4 ((x1.1 100 4) + 1) := ⟨_, rfl⟩
      have h := h x5 ex5
      refine T_putI 100 4 (dk dtk_X7_need 22 rfl) kfl_X7_52 kk_100 (kl_100 hq) (by decide) rfl ⟨rfl, rfl⟩ ?_
      rw [← ex5]
      exact KE_vret (dk dtk_X7_need 23 rfl) rfl h
    · have h := h.2 c4
      exact h
set_option maxRecDepth 100000 in
set_option maxHeartbeats 4000000 in
theorem kg_X7_need_18 {G : kG} {q : kP} {d : Nat} {x : gd} {P : Option gv → gd → Prop} {X : String → gd → Prop} (hq : kV q) (l1 : Int32)
    (h : KT G q (d + 6) zk_X7_sort 0 [(0, vr 100)] [] x (ri (fun r2 x1 => ((r2 = l1 → KE G q (d + 7) zk_X7_need 32 [(0, vr 100)] [vi 3, vr 100] x1 P X) ∧ (¬ (r2 = l1) → KE G q (d + 7) zk_X7_need 32 [(0, vr 100)] [vi 2, vr 100] x1 P X))))) :
    KE G q (d + 7) zk_X7_need 18 [(0, vr 100), (1, vi l1)] [] x P X := by
  refine T_aload_n 0 (dk dtk_X7_need 8 rfl) rfl rfl ?_
  refine T_aload_n 0 (dk dtk_X7_need 9 rfl) rfl rfl ?_
  refine KC_Vi [] [vr 100] rfl (dk dtk_X7_need 10 rfl) kcv_X7_71 rfl kk_100 rfl (kl_100 hq) (Nat.le_of_ble_eq_true rfl) (Nat.le_of_ble_eq_true rfl) (gok_i (av_c (gkr (kl_100 hq)) (av_c rfl av_n)) (as_c (gkr (kl_100 hq)) as_n)) rfl h (fun r2 x1 h => ?_)
  refine T_iload_n 1 (dk dtk_X7_need 11 rfl) rfl rfl ?_
  refine T_icmp_eq 31 (dk dtk_X7_need 12 rfl) (by decide) (fun c3 => ?_) (fun c3 => ?_)
  · have h := h.1 c3
    refine T_iconst (v := 3) (dk dtk_X7_need 15 rfl) (by decide +kernel) ?_
    exact T_sub [0] rfl h
  · have h := h.2 c3
    refine T_iconst (v := 2) (dk dtk_X7_need 13 rfl) (by decide +kernel) ?_
    refine T_goto 32 (dk dtk_X7_need 14 rfl) (by decide) ?_
    exact T_sub [0] rfl h
set_option maxRecDepth 100000 in
set_option maxHeartbeats 4000000 in
theorem kg_X7_need_32 {G : kG} {q : kP} {d : Nat} {x : gd} {P : Option gv → gd → Prop} {X : String → gd → Prop} (hq : kV q) (s0 : Int32)
    (h : KE G q (d + 6) zk_X7_refuse 0 [(0, vr 100), (1, vi s0)] [] x (rv (fun x1 => (∀ x2 : gd, x2 = si x1 100 4 ((x1.1 100 4) + 1) → P none x2))) X) :
    KE G q (d + 7) zk_X7_need 32 [(0, vr 100)] [vi s0, vr 100] x P X := by
  refine KD_Vv [vi s0] [] rfl (dk dtk_X7_need 16 rfl) kcv_X7_96 rfl kk_100 rfl (kl_100 hq) (Nat.le_of_ble_eq_true rfl) (Nat.le_of_ble_eq_true rfl) (gok_i (av_c (gkr (kl_100 hq)) av_n) as_n) rfl h (fun x1 h => ?_)
  refine T_aload_n 0 (dk dtk_X7_need 17 rfl) rfl rfl ?_
  refine T_dup (dk dtk_X7_need 18 rfl) rfl ?_
  refine T_getI 100 4 (dk dtk_X7_need 19 rfl) kfl_X7_52 kk_100 (kl_100 hq) (by decide) rfl ?_
  refine T_iconst (v := 1) (dk dtk_X7_need 20 rfl) (by decide +kernel) ?_
  refine T_iadd (dk dtk_X7_need 21 rfl) ?_
  obtain ⟨x2, ex2⟩ : ∃ z, z = si x1 100 4 ((x1.1 100 4) + 1) := ⟨_, rfl⟩
  have h := h x2 ex2
  refine T_putI 100 4 (dk dtk_X7_need 22 rfl) kfl_X7_52 kk_100 (kl_100 hq) (by decide) rfl ⟨rfl, rfl⟩ ?_
  rw [← ex2]
  exact KE_vret (dk dtk_X7_need 23 rfl) rfl h
set_option maxRecDepth 100000 in
theorem dtk_X7_needFor : dck cX7_needFor [(0, .aload_n 0, 1), (1, .invokevirtual 71, 3), (4, .iload_n 1, 1), (5, .if_icmp .ne 13, 3), (8, .aload_n 0, 1), (9, .getfield 52, 3), (12, .sipush 700, 3), (15, .if_icmp .lt 20, 3), (18, .aload_n 0, 1), (19, .aload_n 0, 1), (20, .invokevirtual 71, 3), (23, .iload_n 1, 1), (24, .if_icmp .eq 7, 3), (27, .iconst 2, 1), (28, .goto 4, 3), (31, .iconst 3, 1), (32, .invokevirtual 96, 3), (35, .aload_n 0, 1), (36, .getfield 15, 3), (39, .getfield 109, 3), (42, .aload_n 0, 1), (43, .getfield 52, 3), (46, .iload_n 2, 1), (47, .iastore, 1), (48, .aload_n 0, 1), (49, .dup, 1), (50, .getfield 52, 3), (53, .iconst 1, 1), (54, .iadd, 1), (55, .putfield 52, 3), (58, .aload_n 0, 1), (59, .getfield 52, 3), (62, .iconst 1, 1), (63, .isub, 1), (64, .ireturn, 1)] = true := by decide +kernel
set_option maxRecDepth 100000 in
set_option maxHeartbeats 4000000 in
theorem kg_X7_needFor_0 {G : kG} {q : kP} {d : Nat} {x : gd} {P : Option gv → gd → Prop} {X : String → gd → Prop} (hq : kV q) (l1 : Int32) (l2 : Int32)
    (h : KT G q (d + 6) zk_X7_sort 0 [(0, vr 100)] [] x (ri (fun r2 x1 => ((¬ (r2 = l1) → KE G q (d + 7) zk_X7_needFor 18 [(0, vr 100), (1, vi l1), (2, vi l2)] [] x1 P X) ∧ (r2 = l1 → (((x1.1 100 4) < (700 : Int32) → KE G q (d + 7) zk_X7_needFor 35 [(0, vr 100), (2, vi l2)] [] x1 P X) ∧ (¬ ((x1.1 100 4) < (700 : Int32)) → KE G q (d + 7) zk_X7_needFor 18 [(0, vr 100), (1, vi l1), (2, vi l2)] [] x1 P X))))))) :
    KE G q (d + 7) zk_X7_needFor 0 [(0, vr 100), (1, vi l1), (2, vi l2)] [] x P X := by
  refine T_aload_n 0 (dk dtk_X7_needFor 0 rfl) rfl rfl ?_
  refine KC_Vi [] [] rfl (dk dtk_X7_needFor 1 rfl) kcv_X7_71 rfl kk_100 rfl (kl_100 hq) (Nat.le_of_ble_eq_true rfl) (Nat.le_of_ble_eq_true rfl) (gok_i (av_c (gkr (kl_100 hq)) (av_c rfl (av_c rfl av_n))) as_n) rfl h (fun r2 x1 h => ?_)
  refine T_iload_n 1 (dk dtk_X7_needFor 2 rfl) rfl rfl ?_
  refine T_icmp_ne 18 (dk dtk_X7_needFor 3 rfl) (by decide) (fun c3 => ?_) (fun c3 => ?_)
  · have h := h.1 c3
    exact h
  · have h := h.2 c3
    refine T_aload_n 0 (dk dtk_X7_needFor 4 rfl) rfl rfl ?_
    refine T_getI 100 4 (dk dtk_X7_needFor 5 rfl) kfl_X7_52 kk_100 (kl_100 hq) (by decide) rfl ?_
    refine T_sipush (v := 700) (dk dtk_X7_needFor 6 rfl) (by decide +kernel) ?_
    refine T_icmp_lt 35 (dk dtk_X7_needFor 7 rfl) (by decide) (fun c4 => ?_) (fun c4 => ?_)
    · have h := h.1 c4
      exact T_sub [0, 2] rfl h
    · have h := h.2 c4
      exact h
set_option maxRecDepth 100000 in
set_option maxHeartbeats 4000000 in
theorem kg_X7_needFor_18 {G : kG} {q : kP} {d : Nat} {x : gd} {P : Option gv → gd → Prop} {X : String → gd → Prop} (hq : kV q) (l1 : Int32) (l2 : Int32)
    (h : KT G q (d + 6) zk_X7_sort 0 [(0, vr 100)] [] x (ri (fun r2 x1 => ((r2 = l1 → KE G q (d + 7) zk_X7_needFor 32 [(0, vr 100), (2, vi l2)] [vi 3, vr 100] x1 P X) ∧ (¬ (r2 = l1) → KE G q (d + 7) zk_X7_needFor 32 [(0, vr 100), (2, vi l2)] [vi 2, vr 100] x1 P X))))) :
    KE G q (d + 7) zk_X7_needFor 18 [(0, vr 100), (1, vi l1), (2, vi l2)] [] x P X := by
  refine T_aload_n 0 (dk dtk_X7_needFor 8 rfl) rfl rfl ?_
  refine T_aload_n 0 (dk dtk_X7_needFor 9 rfl) rfl rfl ?_
  refine KC_Vi [] [vr 100] rfl (dk dtk_X7_needFor 10 rfl) kcv_X7_71 rfl kk_100 rfl (kl_100 hq) (Nat.le_of_ble_eq_true rfl) (Nat.le_of_ble_eq_true rfl) (gok_i (av_c (gkr (kl_100 hq)) (av_c rfl (av_c rfl av_n))) (as_c (gkr (kl_100 hq)) as_n)) rfl h (fun r2 x1 h => ?_)
  refine T_iload_n 1 (dk dtk_X7_needFor 11 rfl) rfl rfl ?_
  refine T_icmp_eq 31 (dk dtk_X7_needFor 12 rfl) (by decide) (fun c3 => ?_) (fun c3 => ?_)
  · have h := h.1 c3
    refine T_iconst (v := 3) (dk dtk_X7_needFor 15 rfl) (by decide +kernel) ?_
    exact T_sub [0, 2] rfl h
  · have h := h.2 c3
    refine T_iconst (v := 2) (dk dtk_X7_needFor 13 rfl) (by decide +kernel) ?_
    refine T_goto 32 (dk dtk_X7_needFor 14 rfl) (by decide) ?_
    exact T_sub [0, 2] rfl h
set_option maxRecDepth 100000 in
set_option maxHeartbeats 4000000 in
theorem kg_X7_needFor_32 {G : kG} {q : kP} {d : Nat} {x : gd} {P : Option gv → gd → Prop} {X : String → gd → Prop} (hq : kV q) (l2 : Int32) (s0 : Int32)
    (h : KE G q (d + 6) zk_X7_refuse 0 [(0, vr 100), (1, vi s0)] [] x (rv (fun x1 => KE G q (d + 7) zk_X7_needFor 35 [(0, vr 100), (2, vi l2)] [] x1 P X)) X) :
    KE G q (d + 7) zk_X7_needFor 32 [(0, vr 100), (2, vi l2)] [vi s0, vr 100] x P X := by
  refine KD_Vv [vi s0] [] rfl (dk dtk_X7_needFor 16 rfl) kcv_X7_96 rfl kk_100 rfl (kl_100 hq) (Nat.le_of_ble_eq_true rfl) (Nat.le_of_ble_eq_true rfl) (gok_i (av_c (gkr (kl_100 hq)) (av_c rfl av_n)) as_n) rfl h (fun x1 h => ?_)
  exact h
set_option maxRecDepth 100000 in
set_option maxHeartbeats 4000000 in
theorem kg_X7_needFor_35 {G : kG} {q : kP} {d : Nat} {x : gd} {P : Option gv → gd → Prop} {X : String → gd → Prop} (hq : kV q) (l2 : Int32)
    (h : vp_in (x.1 100 4) 702 ∧ (∀ x2 : gd, x2 = si x 42 (x.1 100 4 : Int32).toNatClampNeg l2 → (∀ x3 : gd, x3 = si x2 100 4 ((x2.1 100 4) + 1) → P (some (vi ((x3.1 100 4) - 1))) x3))) :
    KE G q (d + 7) zk_X7_needFor 35 [(0, vr 100), (2, vi l2)] [] x P X := by
  refine T_aload_n 0 (dk dtk_X7_needFor 17 rfl) rfl rfl ?_
  refine T_getR 100 1 40 (dk dtk_X7_needFor 18 rfl) kfl_X7_15 kk_100 (kl_100 hq) (by decide) rfl kr_100_1 ?_
  refine T_getR 40 1 42 (dk dtk_X7_needFor 19 rfl) kfl_X7_109 kk_40 (kl_40 hq) (by decide) rfl kr_40_1 ?_
  refine T_aload_n 0 (dk dtk_X7_needFor 20 rfl) rfl rfl ?_
  refine T_getI 100 4 (dk dtk_X7_needFor 21 rfl) kfl_X7_52 kk_100 (kl_100 hq) (by decide) rfl ?_
  refine T_iload_n 1 (dk dtk_X7_needFor 22 rfl) rfl rfl ?_
  obtain ⟨h1, h⟩ := h
  obtain ⟨x2, ex2⟩ : ∃ z, z = si x 42 (x.1 100 4 : Int32).toNatClampNeg l2 := ⟨_, rfl⟩
  have h := h x2 ex2
  refine T_iast 42 702 (dk dtk_X7_needFor 23 rfl) kk_42 (kl_42 hq) h1 ?_
  rw [← ex2]
  refine T_aload_n 0 (dk dtk_X7_needFor 24 rfl) rfl rfl ?_
  refine T_dup (dk dtk_X7_needFor 25 rfl) rfl ?_
  refine T_getI 100 4 (dk dtk_X7_needFor 26 rfl) kfl_X7_52 kk_100 (kl_100 hq) (by decide) rfl ?_
  refine T_iconst (v := 1) (dk dtk_X7_needFor 27 rfl) (by decide +kernel) ?_
  refine T_iadd (dk dtk_X7_needFor 28 rfl) ?_
  obtain ⟨x3, ex3⟩ : ∃ z, z = si x2 100 4 ((x2.1 100 4) + 1) := ⟨_, rfl⟩
  have h := h x3 ex3
  refine T_putI 100 4 (dk dtk_X7_needFor 29 rfl) kfl_X7_52 kk_100 (kl_100 hq) (by decide) rfl ⟨rfl, rfl⟩ ?_
  rw [← ex3]
  refine T_aload_n 0 (dk dtk_X7_needFor 30 rfl) rfl rfl ?_
  refine T_getI 100 4 (dk dtk_X7_needFor 31 rfl) kfl_X7_52 kk_100 (kl_100 hq) (by decide) rfl ?_
  refine T_iconst (v := 1) (dk dtk_X7_needFor 32 rfl) (by decide +kernel) ?_
  refine T_isub (dk dtk_X7_needFor 33 rfl) ?_
  exact KE_iret (dk dtk_X7_needFor 34 rfl) rfl rfl h
set_option maxRecDepth 100000 in
theorem dtk_X7_cellDefinition : dck cX7_cellDefinition [(0, .aload_n 0, 1), (1, .invokevirtual 71, 3), (4, .bipush 64, 2), (6, .if_icmp .ne 7, 3), (9, .iconst 1, 1), (10, .goto 4, 3), (13, .iconst 0, 1), (14, .istore_n 1, 1), (15, .iload_n 1, 1), (16, .ifCond .eq 7, 3), (19, .aload_n 0, 1), (20, .invokevirtual 112, 3), (23, .aload_n 0, 1), (24, .bipush 47, 2), (26, .invokevirtual 115, 3), (29, .aload_n 0, 1), (30, .invokevirtual 71, 3), (33, .iconst 2, 1), (34, .if_icmp .ne 10, 3), (37, .aload_n 0, 1), (38, .invokevirtual 118, 3), (41, .goto 4, 3), (44, .iconst 0, 1), (45, .istore_n 2, 1), (46, .iload_n 2, 1), (47, .iconst 1, 1), (48, .invokestatic 121, 3), (51, .istore_n 3, 1), (52, .aload_n 0, 1), (53, .invokevirtual 71, 3), (56, .iconst 2, 1), (57, .if_icmp .ne 22, 3), (60, .aload_n 0, 1), (61, .getfield 19, 3), (64, .getfield 127, 3), (67, .iload_n 3, 1), (68, .iadd, 1), (69, .bipush 24, 2), (71, .if_icmp .le 8, 3), (74, .aload_n 0, 1), (75, .iconst 3, 1), (76, .invokevirtual 96, 3), (79, .aload_n 0, 1), (80, .iconst 2, 1), (81, .iconst 1, 1), (82, .invokevirtual 130, 3), (85, .istore 4, 2), (87, .iload_n 2, 1), (88, .ifCond .le 21, 3), (91, .aload_n 0, 1), (92, .invokevirtual 112, 3), (95, .aload_n 0, 1), (96, .iconst 3, 1), (97, .bipush 11, 2), (99, .invokevirtual 130, 3), (102, .pop, 1), (103, .aload_n 0, 1), (104, .bipush 26, 2), (106, .invokevirtual 115, 3), (109, .aload_n 0, 1), (110, .invokevirtual 133, 3), (113, .istore 5, 2), (115, .aload_n 0, 1), (116, .bipush 27, 2), (118, .invokevirtual 115, 3), (121, .aload_n 0, 1), (122, .getfield 15, 3), (125, .iload 4, 2), (127, .aload_n 0, 1), (128, .getfield 19, 3), (131, .getfield 127, 3), (134, .iload_n 2, 1), (135, .invokevirtual 136, 3), (138, .aload_n 0, 1), (139, .getfield 19, 3), (142, .iload_n 3, 1), (143, .iload 5, 2), (145, .iload_n 1, 1), (146, .invokevirtual 140, 3), (149, .return_, 1)] = true := by decide +kernel
set_option maxRecDepth 100000 in
set_option maxHeartbeats 4000000 in
theorem kg_X7_cellDefinition_0 {G : kG} {q : kP} {d : Nat} {x : gd} {P : Option gv → gd → Prop} {X : String → gd → Prop} (hq : kV q) 
    (h : KT G q (d + 6) zk_X7_sort 0 [(0, vr 100)] [] x (ri (fun r2 x1 => ((¬ (r2 = (64 : Int32)) → KE G q (d + 7) zk_X7_cellDefinition 14 [(0, vr 100)] [vi 0] x1 P X) ∧ (r2 = (64 : Int32) → KE G q (d + 7) zk_X7_cellDefinition 14 [(0, vr 100)] [vi 1] x1 P X))))) :
    KE G q (d + 7) zk_X7_cellDefinition 0 [(0, vr 100)] [] x P X := by
  refine T_aload_n 0 (dk dtk_X7_cellDefinition 0 rfl) rfl rfl ?_
  refine KC_Vi [] [] rfl (dk dtk_X7_cellDefinition 1 rfl) kcv_X7_71 rfl kk_100 rfl (kl_100 hq) (Nat.le_of_ble_eq_true rfl) (Nat.le_of_ble_eq_true rfl) (gok_i (av_c (gkr (kl_100 hq)) av_n) as_n) rfl h (fun r2 x1 h => ?_)
  refine T_bipush (v := 64) (dk dtk_X7_cellDefinition 2 rfl) (by decide +kernel) ?_
  refine T_icmp_ne 13 (dk dtk_X7_cellDefinition 3 rfl) (by decide) (fun c3 => ?_) (fun c3 => ?_)
  · have h := h.1 c3
    refine T_iconst (v := 0) (dk dtk_X7_cellDefinition 6 rfl) (by decide +kernel) ?_
    exact h
  · have h := h.2 c3
    refine T_iconst (v := 1) (dk dtk_X7_cellDefinition 4 rfl) (by decide +kernel) ?_
    refine T_goto 14 (dk dtk_X7_cellDefinition 5 rfl) (by decide) ?_
    exact h
set_option maxRecDepth 100000 in
set_option maxHeartbeats 4000000 in
theorem kg_X7_cellDefinition_14 {G : kG} {q : kP} {d : Nat} {x : gd} {P : Option gv → gd → Prop} {X : String → gd → Prop} (hq : kV q) (s0 : Int32)
    (h : ((s0 = (0 : Int32) → KE G q (d + 7) zk_X7_cellDefinition 23 [(0, vr 100), (1, vi s0)] [] x P X) ∧ (¬ (s0 = (0 : Int32)) → KE G q (d + 6) zk_X7_pass 0 [(0, vr 100)] [] x (rv (fun x2 => KE G q (d + 7) zk_X7_cellDefinition 23 [(0, vr 100), (1, vi s0)] [] x2 P X)) X))) :
    KE G q (d + 7) zk_X7_cellDefinition 14 [(0, vr 100)] [vi s0] x P X := by
  refine T_istore_n (lv2 := [(1, vi s0), (0, vr 100)]) (dk dtk_X7_cellDefinition 7 rfl) rfl (by decide) rfl ?_
  refine T_iload_n 0 (dk dtk_X7_cellDefinition 8 rfl) rfl rfl ?_
  refine T_if_eq 23 (dk dtk_X7_cellDefinition 9 rfl) (by decide) (fun c1 => ?_) (fun c1 => ?_)
  · have h := h.1 c1
    exact T_sub [1, 0] rfl h
  · have h := h.2 c1
    refine T_aload_n 1 (dk dtk_X7_cellDefinition 10 rfl) rfl rfl ?_
    refine KD_Vv [] [] rfl (dk dtk_X7_cellDefinition 11 rfl) kcv_X7_112 rfl kk_100 rfl (kl_100 hq) (Nat.le_of_ble_eq_true rfl) (Nat.le_of_ble_eq_true rfl) (gok_i (av_c rfl (av_c (gkr (kl_100 hq)) av_n)) as_n) rfl h (fun x2 h => ?_)
    exact T_sub [1, 0] rfl h
set_option maxRecDepth 100000 in
set_option maxHeartbeats 4000000 in
theorem kg_X7_cellDefinition_23 {G : kG} {q : kP} {d : Nat} {x : gd} {P : Option gv → gd → Prop} {X : String → gd → Prop} (hq : kV q) (l1 : Int32)
    (h : KE G q (d + 6) zk_X7_need 0 [(0, vr 100), (1, vi 47)] [] x (rv (fun x1 => KT G q (d + 6) zk_X7_sort 0 [(0, vr 100)] [] x1 (ri (fun r3 x2 => ((¬ (r3 = (2 : Int32)) → KE G q (d + 7) zk_X7_cellDefinition 45 [(0, vr 100), (1, vi l1)] [vi 0] x2 P X) ∧ (r3 = (2 : Int32) → KT G q (d + 6) zk_X7_rowAhead 0 [(0, vr 100)] [] x2 (ri (fun r6 x5 => KE G q (d + 7) zk_X7_cellDefinition 45 [(0, vr 100), (1, vi l1)] [vi r6] x5 P X)))))))) X) :
    KE G q (d + 7) zk_X7_cellDefinition 23 [(0, vr 100), (1, vi l1)] [] x P X := by
  refine T_aload_n 0 (dk dtk_X7_cellDefinition 12 rfl) rfl rfl ?_
  refine T_bipush (v := 47) (dk dtk_X7_cellDefinition 13 rfl) (by decide +kernel) ?_
  refine KD_Vv [vi 47] [] rfl (dk dtk_X7_cellDefinition 14 rfl) kcv_X7_115 rfl kk_100 rfl (kl_100 hq) (Nat.le_of_ble_eq_true rfl) (Nat.le_of_ble_eq_true rfl) (gok_i (av_c (gkr (kl_100 hq)) (av_c rfl av_n)) as_n) rfl h (fun x1 h => ?_)
  refine T_aload_n 0 (dk dtk_X7_cellDefinition 15 rfl) rfl rfl ?_
  refine KC_Vi [] [] rfl (dk dtk_X7_cellDefinition 16 rfl) kcv_X7_71 rfl kk_100 rfl (kl_100 hq) (Nat.le_of_ble_eq_true rfl) (Nat.le_of_ble_eq_true rfl) (gok_i (av_c (gkr (kl_100 hq)) (av_c rfl av_n)) as_n) rfl h (fun r3 x2 h => ?_)
  refine T_iconst (v := 2) (dk dtk_X7_cellDefinition 17 rfl) (by decide +kernel) ?_
  refine T_icmp_ne 44 (dk dtk_X7_cellDefinition 18 rfl) (by decide) (fun c4 => ?_) (fun c4 => ?_)
  · have h := h.1 c4
    refine T_iconst (v := 0) (dk dtk_X7_cellDefinition 22 rfl) (by decide +kernel) ?_
    exact h
  · have h := h.2 c4
    refine T_aload_n 0 (dk dtk_X7_cellDefinition 19 rfl) rfl rfl ?_
    refine KC_Vi [] [] rfl (dk dtk_X7_cellDefinition 20 rfl) kcv_X7_118 rfl kk_100 rfl (kl_100 hq) (Nat.le_of_ble_eq_true rfl) (Nat.le_of_ble_eq_true rfl) (gok_i (av_c (gkr (kl_100 hq)) (av_c rfl av_n)) as_n) rfl h (fun r6 x5 h => ?_)
    refine T_goto 45 (dk dtk_X7_cellDefinition 21 rfl) (by decide) ?_
    exact h
set_option maxRecDepth 100000 in
set_option maxHeartbeats 4000000 in
theorem kg_X7_cellDefinition_45 {G : kG} {q : kP} {d : Nat} {x : gd} {P : Option gv → gd → Prop} {X : String → gd → Prop} (hq : kV q) (l1 : Int32) (s0 : Int32)
    (h : (∀ r2 : Int32, (r2.toInt = Int32.toInt s0 ∨ r2.toInt = Int32.toInt 1) → Int32.toInt s0 ≤ r2.toInt → Int32.toInt 1 ≤ r2.toInt → KT G q (d + 6) zk_X7_sort 0 [(0, vr 100)] [] x (ri (fun r7 x6 => ((¬ (r7 = (2 : Int32)) → KE G q (d + 7) zk_X7_cellDefinition 79 [(0, vr 100), (1, vi l1), (2, vi s0), (3, vi r2)] [] x6 P X) ∧ (r7 = (2 : Int32) → ((((x6.1 60 6) + r2) ≤ (24 : Int32) → KE G q (d + 7) zk_X7_cellDefinition 79 [(0, vr 100), (1, vi l1), (2, vi s0), (3, vi r2)] [] x6 P X) ∧ (¬ (((x6.1 60 6) + r2) ≤ (24 : Int32)) → KE G q (d + 6) zk_X7_refuse 0 [(0, vr 100), (1, vi 3)] [] x6 (rv (fun x10 => KE G q (d + 7) zk_X7_cellDefinition 79 [(0, vr 100), (1, vi l1), (2, vi s0), (3, vi r2)] [] x10 P X)) X)))))))) :
    KE G q (d + 7) zk_X7_cellDefinition 45 [(0, vr 100), (1, vi l1)] [vi s0] x P X := by
  refine T_istore_n (lv2 := [(2, vi s0), (0, vr 100), (1, vi l1)]) (dk dtk_X7_cellDefinition 23 rfl) rfl (by decide) rfl ?_
  refine T_iload_n 0 (dk dtk_X7_cellDefinition 24 rfl) rfl rfl ?_
  refine T_iconst (v := 1) (dk dtk_X7_cellDefinition 25 rfl) (by decide +kernel) ?_
  refine T_max (dk dtk_X7_cellDefinition 26 rfl) kmx_X7_121 (by omega) (Nat.le_of_ble_eq_true rfl) (fun r2 h3 h4 h5 => ?_)
  have h := h r2 h3 h4 h5
  refine T_istore_n (lv2 := [(3, vi r2), (2, vi s0), (0, vr 100), (1, vi l1)]) (dk dtk_X7_cellDefinition 27 rfl) rfl (by decide) rfl ?_
  refine T_aload_n 2 (dk dtk_X7_cellDefinition 28 rfl) rfl rfl ?_
  refine KC_Vi [] [] rfl (dk dtk_X7_cellDefinition 29 rfl) kcv_X7_71 rfl kk_100 rfl (kl_100 hq) (Nat.le_of_ble_eq_true rfl) (Nat.le_of_ble_eq_true rfl) (gok_i (av_c rfl (av_c rfl (av_c (gkr (kl_100 hq)) (av_c rfl av_n)))) as_n) rfl h (fun r7 x6 h => ?_)
  refine T_iconst (v := 2) (dk dtk_X7_cellDefinition 30 rfl) (by decide +kernel) ?_
  refine T_icmp_ne 79 (dk dtk_X7_cellDefinition 31 rfl) (by decide) (fun c8 => ?_) (fun c8 => ?_)
  · have h := h.1 c8
    exact T_sub [2, 3, 1, 0] rfl h
  · have h := h.2 c8
    refine T_aload_n 2 (dk dtk_X7_cellDefinition 32 rfl) rfl rfl ?_
    refine T_getR 100 2 60 (dk dtk_X7_cellDefinition 33 rfl) kfl_X7_19 kk_100 (kl_100 hq) (by decide) rfl kr_100_2 ?_
    refine T_getI 60 6 (dk dtk_X7_cellDefinition 34 rfl) kfl_X7_127 kk_60 (kl_60 hq) (by decide) rfl ?_
    refine T_iload_n 0 (dk dtk_X7_cellDefinition 35 rfl) rfl rfl ?_
    refine T_iadd (dk dtk_X7_cellDefinition 36 rfl) ?_
    refine T_bipush (v := 24) (dk dtk_X7_cellDefinition 37 rfl) (by decide +kernel) ?_
    refine T_icmp_le 79 (dk dtk_X7_cellDefinition 38 rfl) (by decide) (fun c9 => ?_) (fun c9 => ?_)
    · have h := h.1 c9
      exact T_sub [2, 3, 1, 0] rfl h
    · have h := h.2 c9
      refine T_aload_n 2 (dk dtk_X7_cellDefinition 39 rfl) rfl rfl ?_
      refine T_iconst (v := 3) (dk dtk_X7_cellDefinition 40 rfl) (by decide +kernel) ?_
      refine KD_Vv [vi 3] [] rfl (dk dtk_X7_cellDefinition 41 rfl) kcv_X7_96 rfl kk_100 rfl (kl_100 hq) (Nat.le_of_ble_eq_true rfl) (Nat.le_of_ble_eq_true rfl) (gok_i (av_c rfl (av_c rfl (av_c (gkr (kl_100 hq)) (av_c rfl av_n)))) as_n) rfl h (fun x10 h => ?_)
      exact T_sub [2, 3, 1, 0] rfl h
set_option maxRecDepth 100000 in
set_option maxHeartbeats 4000000 in
theorem kg_X7_cellDefinition_79 {G : kG} {q : kP} {d : Nat} {x : gd} {P : Option gv → gd → Prop} {X : String → gd → Prop} (hq : kV q) (l1 : Int32) (l2 : Int32) (l3 : Int32)
    (h : KE G q (d + 6) zk_X7_needFor 0 [(0, vr 100), (1, vi 2), (2, vi 1)] [] x (ri (fun r2 x1 => ((l2 ≤ (0 : Int32) → KE G q (d + 7) zk_X7_cellDefinition 109 [(0, vr 100), (1, vi l1), (2, vi l2), (3, vi l3), (4, vi r2)] [] x1 P X) ∧ (¬ (l2 ≤ (0 : Int32)) → KE G q (d + 6) zk_X7_pass 0 [(0, vr 100)] [] x1 (rv (fun x4 => KE G q (d + 6) zk_X7_needFor 0 [(0, vr 100), (1, vi 3), (2, vi 11)] [] x4 (ri (fun r6 x5 => KE G q (d + 6) zk_X7_need 0 [(0, vr 100), (1, vi 26)] [] x5 (rv (fun x7 => KE G q (d + 7) zk_X7_cellDefinition 109 [(0, vr 100), (1, vi l1), (2, vi l2), (3, vi l3), (4, vi r2)] [] x7 P X)) X)) X)) X)))) X) :
    KE G q (d + 7) zk_X7_cellDefinition 79 [(0, vr 100), (1, vi l1), (2, vi l2), (3, vi l3)] [] x P X := by
  refine T_aload_n 0 (dk dtk_X7_cellDefinition 42 rfl) rfl rfl ?_
  refine T_iconst (v := 2) (dk dtk_X7_cellDefinition 43 rfl) (by decide +kernel) ?_
  refine T_iconst (v := 1) (dk dtk_X7_cellDefinition 44 rfl) (by decide +kernel) ?_
  refine KD_Vi [vi 2, vi 1] [] rfl (dk dtk_X7_cellDefinition 45 rfl) kcv_X7_130 rfl kk_100 rfl (kl_100 hq) (Nat.le_of_ble_eq_true rfl) (Nat.le_of_ble_eq_true rfl) (gok_i (av_c (gkr (kl_100 hq)) (av_c rfl (av_c rfl (av_c rfl av_n)))) as_n) rfl h (fun r2 x1 h => ?_)
  refine T_istore (lv2 := [(4, vi r2), (0, vr 100), (1, vi l1), (2, vi l2), (3, vi l3)]) (dk dtk_X7_cellDefinition 46 rfl) (by decide) rfl ?_
  refine T_iload_n 3 (dk dtk_X7_cellDefinition 47 rfl) rfl rfl ?_
  refine T_if_le 109 (dk dtk_X7_cellDefinition 48 rfl) (by decide) (fun c3 => ?_) (fun c3 => ?_)
  · have h := h.1 c3
    exact T_sub [1, 2, 3, 4, 0] rfl h
  · have h := h.2 c3
    refine T_aload_n 1 (dk dtk_X7_cellDefinition 49 rfl) rfl rfl ?_
    refine KD_Vv [] [] rfl (dk dtk_X7_cellDefinition 50 rfl) kcv_X7_112 rfl kk_100 rfl (kl_100 hq) (Nat.le_of_ble_eq_true rfl) (Nat.le_of_ble_eq_true rfl) (gok_i (av_c rfl (av_c (gkr (kl_100 hq)) (av_c rfl (av_c rfl (av_c rfl av_n))))) as_n) rfl h (fun x4 h => ?_)
    refine T_aload_n 1 (dk dtk_X7_cellDefinition 51 rfl) rfl rfl ?_
    refine T_iconst (v := 3) (dk dtk_X7_cellDefinition 52 rfl) (by decide +kernel) ?_
    refine T_bipush (v := 11) (dk dtk_X7_cellDefinition 53 rfl) (by decide +kernel) ?_
    refine KD_Vi [vi 3, vi 11] [] rfl (dk dtk_X7_cellDefinition 54 rfl) kcv_X7_130 rfl kk_100 rfl (kl_100 hq) (Nat.le_of_ble_eq_true rfl) (Nat.le_of_ble_eq_true rfl) (gok_i (av_c rfl (av_c (gkr (kl_100 hq)) (av_c rfl (av_c rfl (av_c rfl av_n))))) as_n) rfl h (fun r6 x5 h => ?_)
    refine T_pop (dk dtk_X7_cellDefinition 55 rfl) rfl ?_
    refine T_aload_n 1 (dk dtk_X7_cellDefinition 56 rfl) rfl rfl ?_
    refine T_bipush (v := 26) (dk dtk_X7_cellDefinition 57 rfl) (by decide +kernel) ?_
    refine KD_Vv [vi 26] [] rfl (dk dtk_X7_cellDefinition 58 rfl) kcv_X7_115 rfl kk_100 rfl (kl_100 hq) (Nat.le_of_ble_eq_true rfl) (Nat.le_of_ble_eq_true rfl) (gok_i (av_c rfl (av_c (gkr (kl_100 hq)) (av_c rfl (av_c rfl (av_c rfl av_n))))) as_n) rfl h (fun x7 h => ?_)
    exact T_sub [1, 2, 3, 4, 0] rfl h
set_option maxRecDepth 100000 in
set_option maxHeartbeats 4000000 in
theorem kg_X7_cellDefinition_109 {G : kG} {q : kP} {d : Nat} {x : gd} {P : Option gv → gd → Prop} {X : String → gd → Prop} (hq : kV q) (l1 : Int32) (l2 : Int32) (l3 : Int32) (l4 : Int32)
    (h : KE G q (d + 6) zk_X7_startValue 0 [(0, vr 100)] [] x (ri (fun r2 x1 => KE G q (d + 6) zk_X7_need 0 [(0, vr 100), (1, vi 27)] [] x1 (rv (fun x3 => KT G q (d + 6) zk_X6_tellCell 0 [(0, vr 40), (1, vi l4), (2, vi (x3.1 60 6)), (3, vi l2)] [] x3 (rv (fun x4 => KT G q (d + 6) zk_X0_addCells 0 [(0, vr 60), (1, vi l3), (2, vi r2), (3, vi l1)] [] x4 (rv (fun x5 => P none x5)))))) X)) X) :
    KE G q (d + 7) zk_X7_cellDefinition 109 [(0, vr 100), (1, vi l1), (2, vi l2), (3, vi l3), (4, vi l4)] [] x P X := by
  refine T_aload_n 0 (dk dtk_X7_cellDefinition 59 rfl) rfl rfl ?_
  refine KD_Vi [] [] rfl (dk dtk_X7_cellDefinition 60 rfl) kcv_X7_133 rfl kk_100 rfl (kl_100 hq) (Nat.le_of_ble_eq_true rfl) (Nat.le_of_ble_eq_true rfl) (gok_i (av_c (gkr (kl_100 hq)) (av_c rfl (av_c rfl (av_c rfl (av_c rfl av_n))))) as_n) rfl h (fun r2 x1 h => ?_)
  refine T_istore (lv2 := [(5, vi r2), (0, vr 100), (1, vi l1), (2, vi l2), (3, vi l3), (4, vi l4)]) (dk dtk_X7_cellDefinition 61 rfl) (by decide) rfl ?_
  refine T_aload_n 1 (dk dtk_X7_cellDefinition 62 rfl) rfl rfl ?_
  refine T_bipush (v := 27) (dk dtk_X7_cellDefinition 63 rfl) (by decide +kernel) ?_
  refine KD_Vv [vi 27] [] rfl (dk dtk_X7_cellDefinition 64 rfl) kcv_X7_115 rfl kk_100 rfl (kl_100 hq) (Nat.le_of_ble_eq_true rfl) (Nat.le_of_ble_eq_true rfl) (gok_i (av_c rfl (av_c (gkr (kl_100 hq)) (av_c rfl (av_c rfl (av_c rfl (av_c rfl av_n)))))) as_n) rfl h (fun x3 h => ?_)
  refine T_aload_n 1 (dk dtk_X7_cellDefinition 65 rfl) rfl rfl ?_
  refine T_getR 100 1 40 (dk dtk_X7_cellDefinition 66 rfl) kfl_X7_15 kk_100 (kl_100 hq) (by decide) rfl kr_100_1 ?_
  refine T_iload 5 (dk dtk_X7_cellDefinition 67 rfl) rfl ?_
  refine T_aload_n 1 (dk dtk_X7_cellDefinition 68 rfl) rfl rfl ?_
  refine T_getR 100 2 60 (dk dtk_X7_cellDefinition 69 rfl) kfl_X7_19 kk_100 (kl_100 hq) (by decide) rfl kr_100_2 ?_
  refine T_getI 60 6 (dk dtk_X7_cellDefinition 70 rfl) kfl_X7_127 kk_60 (kl_60 hq) (by decide) rfl ?_
  refine T_iload_n 3 (dk dtk_X7_cellDefinition 71 rfl) rfl rfl ?_
  refine T_sub (lv2 := [(5, vi r2), (0, vr 100), (1, vi l1), (3, vi l3)]) [0, 1, 2, 4] rfl ?_
  refine KC_Vv [vi l4, vi (x3.1 60 6), vi l2] [] rfl (dk dtk_X7_cellDefinition 72 rfl) kcv_X7_136 rfl kk_40 rfl (kl_40 hq) (Nat.le_of_ble_eq_true rfl) (Nat.le_of_ble_eq_true rfl) (gok_i (av_c rfl (av_c (gkr (kl_100 hq)) (av_c rfl (av_c rfl av_n)))) as_n) rfl h (fun x4 h => ?_)
  refine T_aload_n 1 (dk dtk_X7_cellDefinition 73 rfl) rfl rfl ?_
  refine T_getR 100 2 60 (dk dtk_X7_cellDefinition 74 rfl) kfl_X7_19 kk_100 (kl_100 hq) (by decide) rfl kr_100_2 ?_
  refine T_iload_n 3 (dk dtk_X7_cellDefinition 75 rfl) rfl rfl ?_
  refine T_iload 0 (dk dtk_X7_cellDefinition 76 rfl) rfl ?_
  refine T_iload_n 2 (dk dtk_X7_cellDefinition 77 rfl) rfl rfl ?_
  refine T_sub (lv2 := []) [] rfl ?_
  refine KC_Vv [vi l3, vi r2, vi l1] [] rfl (dk dtk_X7_cellDefinition 78 rfl) kcv_X7_140 rfl kk_60 rfl (kl_60 hq) (Nat.le_of_ble_eq_true rfl) (Nat.le_of_ble_eq_true rfl) (gok_i av_n as_n) rfl h (fun x5 h => ?_)
  exact KE_vret (dk dtk_X7_cellDefinition 79 rfl) rfl h
set_option maxRecDepth 100000 in
theorem dtk_X7_rowAhead : dck cX7_rowAhead [(0, .aload_n 0, 1), (1, .invokevirtual 144, 3), (4, .bipush 25, 2), (6, .if_icmp .eq 5, 3), (9, .iconst 0, 1), (10, .ireturn, 1), (11, .aload_n 0, 1), (12, .getfield 52, 3), (15, .iconst 2, 1), (16, .iadd, 1), (17, .istore_n 1, 1), (18, .iload_n 1, 1), (19, .sipush 700, 3), (22, .if_icmp .gt 16, 3), (25, .aload_n 0, 1), (26, .getfield 11, 3), (29, .getfield 100, 3), (32, .iload_n 1, 1), (33, .iaload, 1), (34, .iconst 3, 1), (35, .if_icmp .eq 5, 3), (38, .iconst 1, 1), (39, .ireturn, 1), (40, .aload_n 0, 1), (41, .getfield 11, 3), (44, .getfield 147, 3), (47, .iload_n 1, 1), (48, .iaload, 1), (49, .invokestatic 150, 3), (52, .ifCond .eq 15, 3), (55, .aload_n 0, 1), (56, .getfield 11, 3), (59, .getfield 147, 3), (62, .iload_n 1, 1), (63, .iaload, 1), (64, .goto 4, 3), (67, .iconst 1, 1), (68, .ireturn, 1)] = true := by decide +kernel
set_option maxRecDepth 100000 in
set_option maxHeartbeats 4000000 in
theorem kg_X7_rowAhead_0 {G : kG} {q : kP} {d : Nat} {x : gd} {P : Option gv → gd → Prop} (hq : kV q) 
    (h : KT G q d zk_X7_sortBehind 0 [(0, vr 100)] [] x (ri (fun r2 x1 => ((r2 = (25 : Int32) → (((700 : Int32) < ((x1.1 100 4) + 2) → P (some (vi 1)) x1) ∧ (¬ ((700 : Int32) < ((x1.1 100 4) + 2)) → vp_in ((x1.1 100 4) + 2) 702 ∧ (((x1.1 23 ((x1.1 100 4) + 2 : Int32).toNatClampNeg) = (3 : Int32) → vp_in ((x1.1 100 4) + 2) 702 ∧ KT G q d zk_X6_isRowSize 0 [(0, vi (x1.1 27 ((x1.1 100 4) + 2 : Int32).toNatClampNeg))] [] x1 (ri (fun r9 x8 => ((r9 = (0 : Int32) → P (some (vi 1)) x8) ∧ (¬ (r9 = (0 : Int32)) → vp_in ((x1.1 100 4) + 2) 702 ∧ P (some (vi (x8.1 27 ((x1.1 100 4) + 2 : Int32).toNatClampNeg))) x8))))) ∧ (¬ ((x1.1 23 ((x1.1 100 4) + 2 : Int32).toNatClampNeg) = (3 : Int32)) → P (some (vi 1)) x1))))) ∧ (¬ (r2 = (25 : Int32)) → P (some (vi 0)) x1))))) :
    KT G q (d + 1) zk_X7_rowAhead 0 [(0, vr 100)] [] x P := by
  refine T_aload_n 0 (dk dtk_X7_rowAhead 0 rfl) rfl rfl ?_
  refine KC_Vi [] [] rfl (dk dtk_X7_rowAhead 1 rfl) kcv_X7_144 rfl kk_100 rfl (kl_100 hq) (Nat.le_of_ble_eq_true rfl) (Nat.le_of_ble_eq_true rfl) (gok_i (av_c (gkr (kl_100 hq)) av_n) as_n) rfl h (fun r2 x1 h => ?_)
  refine T_bipush (v := 25) (dk dtk_X7_rowAhead 2 rfl) (by decide +kernel) ?_
  refine T_icmp_eq 11 (dk dtk_X7_rowAhead 3 rfl) (by decide) (fun c3 => ?_) (fun c3 => ?_)
  · have h := h.1 c3
    refine T_aload_n 0 (dk dtk_X7_rowAhead 6 rfl) rfl rfl ?_
    refine T_getI 100 4 (dk dtk_X7_rowAhead 7 rfl) kfl_X7_52 kk_100 (kl_100 hq) (by decide) rfl ?_
    refine T_iconst (v := 2) (dk dtk_X7_rowAhead 8 rfl) (by decide +kernel) ?_
    refine T_iadd (dk dtk_X7_rowAhead 9 rfl) ?_
    refine T_istore_n (lv2 := [(1, vi ((x1.1 100 4) + 2)), (0, vr 100)]) (dk dtk_X7_rowAhead 10 rfl) rfl (by decide) rfl ?_
    refine T_iload_n 0 (dk dtk_X7_rowAhead 11 rfl) rfl rfl ?_
    refine T_sipush (v := 700) (dk dtk_X7_rowAhead 12 rfl) (by decide +kernel) ?_
    refine T_icmp_gt 38 (dk dtk_X7_rowAhead 13 rfl) (by decide) (fun c4 => ?_) (fun c4 => ?_)
    · have h := h.1 c4
      refine T_iconst (v := 1) (dk dtk_X7_rowAhead 21 rfl) (by decide +kernel) ?_
      exact KT_iret (dk dtk_X7_rowAhead 22 rfl) rfl rfl h
    · have h := h.2 c4
      refine T_aload_n 1 (dk dtk_X7_rowAhead 14 rfl) rfl rfl ?_
      refine T_getR 100 0 20 (dk dtk_X7_rowAhead 15 rfl) kfl_X7_11 kk_100 (kl_100 hq) (by decide) rfl kr_100_0 ?_
      refine T_getR 20 2 23 (dk dtk_X7_rowAhead 16 rfl) kfl_X7_100 kk_20 (kl_20 hq) (by decide) rfl kr_20_2 ?_
      refine T_iload_n 0 (dk dtk_X7_rowAhead 17 rfl) rfl rfl ?_
      obtain ⟨h5, h⟩ := h
      refine T_iald 23 702 (dk dtk_X7_rowAhead 18 rfl) kk_23 (kl_23 hq) h5 ?_
      refine T_iconst (v := 3) (dk dtk_X7_rowAhead 19 rfl) (by decide +kernel) ?_
      refine T_icmp_eq 40 (dk dtk_X7_rowAhead 20 rfl) (by decide) (fun c6 => ?_) (fun c6 => ?_)
      · have h := h.1 c6
        refine T_aload_n 1 (dk dtk_X7_rowAhead 23 rfl) rfl rfl ?_
        refine T_getR 100 0 20 (dk dtk_X7_rowAhead 24 rfl) kfl_X7_11 kk_100 (kl_100 hq) (by decide) rfl kr_100_0 ?_
        refine T_getR 20 6 27 (dk dtk_X7_rowAhead 25 rfl) kfl_X7_147 kk_20 (kl_20 hq) (by decide) rfl kr_20_6 ?_
        refine T_iload_n 0 (dk dtk_X7_rowAhead 26 rfl) rfl rfl ?_
        obtain ⟨h7, h⟩ := h
        refine T_iald 27 702 (dk dtk_X7_rowAhead 27 rfl) kk_27 (kl_27 hq) h7 ?_
        refine KC_Si [vi (x1.1 27 ((x1.1 100 4) + 2 : Int32).toNatClampNeg)] [] rfl (dk dtk_X7_rowAhead 28 rfl) kcs_X7_150 rfl (Nat.le_of_ble_eq_true rfl) (Nat.le_of_ble_eq_true rfl) (gok_i (av_c rfl (av_c (gkr (kl_100 hq)) av_n)) as_n) rfl h (fun r9 x8 h => ?_)
        refine T_if_eq 67 (dk dtk_X7_rowAhead 29 rfl) (by decide) (fun c10 => ?_) (fun c10 => ?_)
        · have h := h.1 c10
          refine T_iconst (v := 1) (dk dtk_X7_rowAhead 36 rfl) (by decide +kernel) ?_
          exact KT_iret (dk dtk_X7_rowAhead 37 rfl) rfl rfl h
        · have h := h.2 c10
          refine T_aload_n 1 (dk dtk_X7_rowAhead 30 rfl) rfl rfl ?_
          refine T_getR 100 0 20 (dk dtk_X7_rowAhead 31 rfl) kfl_X7_11 kk_100 (kl_100 hq) (by decide) rfl kr_100_0 ?_
          refine T_getR 20 6 27 (dk dtk_X7_rowAhead 32 rfl) kfl_X7_147 kk_20 (kl_20 hq) (by decide) rfl kr_20_6 ?_
          refine T_iload_n 0 (dk dtk_X7_rowAhead 33 rfl) rfl rfl ?_
          obtain ⟨h11, h⟩ := h
          refine T_iald 27 702 (dk dtk_X7_rowAhead 34 rfl) kk_27 (kl_27 hq) h11 ?_
          refine T_goto 68 (dk dtk_X7_rowAhead 35 rfl) (by decide) ?_
          exact KT_iret (dk dtk_X7_rowAhead 37 rfl) rfl rfl h
      · have h := h.2 c6
        refine T_iconst (v := 1) (dk dtk_X7_rowAhead 21 rfl) (by decide +kernel) ?_
        exact KT_iret (dk dtk_X7_rowAhead 22 rfl) rfl rfl h
  · have h := h.2 c3
    refine T_iconst (v := 0) (dk dtk_X7_rowAhead 4 rfl) (by decide +kernel) ?_
    exact KT_iret (dk dtk_X7_rowAhead 5 rfl) rfl rfl h
set_option maxRecDepth 100000 in
theorem dtk_X7_startValue : dck cX7_startValue [(0, .aload_n 0, 1), (1, .invokevirtual 71, 3), (4, .bipush 10, 2), (6, .if_icmp .eq 5, 3), (9, .iconst 0, 1), (10, .ireturn, 1), (11, .aload_n 0, 1), (12, .invokevirtual 112, 3), (15, .aload_n 0, 1), (16, .invokevirtual 71, 3), (19, .bipush 18, 2), (21, .if_icmp .ne 7, 3), (24, .iconst 1, 1), (25, .goto 4, 3), (28, .iconst 0, 1), (29, .istore_n 1, 1), (30, .iload_n 1, 1), (31, .ifCond .eq 7, 3), (34, .aload_n 0, 1), (35, .invokevirtual 112, 3), (38, .aload_n 0, 1), (39, .iconst 3, 1), (40, .iconst 0, 1), (41, .invokevirtual 130, 3), (44, .istore_n 2, 1), (45, .iload_n 1, 1), (46, .ifCond .eq 16, 3), (49, .aload_n 0, 1), (50, .getfield 11, 3), (53, .getfield 147, 3), (56, .iload_n 2, 1), (57, .iaload, 1), (58, .ineg, 1), (59, .goto 12, 3), (62, .aload_n 0, 1), (63, .getfield 11, 3), (66, .getfield 147, 3), (69, .iload_n 2, 1), (70, .iaload, 1), (71, .ireturn, 1)] = true := by decide +kernel
set_option maxRecDepth 100000 in
set_option maxHeartbeats 4000000 in
theorem kg_X7_startValue_0 {G : kG} {q : kP} {d : Nat} {x : gd} {P : Option gv → gd → Prop} {X : String → gd → Prop} (hq : kV q) 
    (h : KT G q (d + 6) zk_X7_sort 0 [(0, vr 100)] [] x (ri (fun r2 x1 => ((r2 = (10 : Int32) → KE G q (d + 6) zk_X7_pass 0 [(0, vr 100)] [] x1 (rv (fun x4 => KT G q (d + 6) zk_X7_sort 0 [(0, vr 100)] [] x4 (ri (fun r6 x5 => ((¬ (r6 = (18 : Int32)) → KE G q (d + 7) zk_X7_startValue 29 [(0, vr 100)] [vi 0] x5 P X) ∧ (r6 = (18 : Int32) → KE G q (d + 7) zk_X7_startValue 29 [(0, vr 100)] [vi 1] x5 P X)))))) X) ∧ (¬ (r2 = (10 : Int32)) → P (some (vi 0)) x1))))) :
    KE G q (d + 7) zk_X7_startValue 0 [(0, vr 100)] [] x P X := by
  refine T_aload_n 0 (dk dtk_X7_startValue 0 rfl) rfl rfl ?_
  refine KC_Vi [] [] rfl (dk dtk_X7_startValue 1 rfl) kcv_X7_71 rfl kk_100 rfl (kl_100 hq) (Nat.le_of_ble_eq_true rfl) (Nat.le_of_ble_eq_true rfl) (gok_i (av_c (gkr (kl_100 hq)) av_n) as_n) rfl h (fun r2 x1 h => ?_)
  refine T_bipush (v := 10) (dk dtk_X7_startValue 2 rfl) (by decide +kernel) ?_
  refine T_icmp_eq 11 (dk dtk_X7_startValue 3 rfl) (by decide) (fun c3 => ?_) (fun c3 => ?_)
  · have h := h.1 c3
    refine T_aload_n 0 (dk dtk_X7_startValue 6 rfl) rfl rfl ?_
    refine KD_Vv [] [] rfl (dk dtk_X7_startValue 7 rfl) kcv_X7_112 rfl kk_100 rfl (kl_100 hq) (Nat.le_of_ble_eq_true rfl) (Nat.le_of_ble_eq_true rfl) (gok_i (av_c (gkr (kl_100 hq)) av_n) as_n) rfl h (fun x4 h => ?_)
    refine T_aload_n 0 (dk dtk_X7_startValue 8 rfl) rfl rfl ?_
    refine KC_Vi [] [] rfl (dk dtk_X7_startValue 9 rfl) kcv_X7_71 rfl kk_100 rfl (kl_100 hq) (Nat.le_of_ble_eq_true rfl) (Nat.le_of_ble_eq_true rfl) (gok_i (av_c (gkr (kl_100 hq)) av_n) as_n) rfl h (fun r6 x5 h => ?_)
    refine T_bipush (v := 18) (dk dtk_X7_startValue 10 rfl) (by decide +kernel) ?_
    refine T_icmp_ne 28 (dk dtk_X7_startValue 11 rfl) (by decide) (fun c7 => ?_) (fun c7 => ?_)
    · have h := h.1 c7
      refine T_iconst (v := 0) (dk dtk_X7_startValue 14 rfl) (by decide +kernel) ?_
      exact h
    · have h := h.2 c7
      refine T_iconst (v := 1) (dk dtk_X7_startValue 12 rfl) (by decide +kernel) ?_
      refine T_goto 29 (dk dtk_X7_startValue 13 rfl) (by decide) ?_
      exact h
  · have h := h.2 c3
    refine T_iconst (v := 0) (dk dtk_X7_startValue 4 rfl) (by decide +kernel) ?_
    exact KE_iret (dk dtk_X7_startValue 5 rfl) rfl rfl h
set_option maxRecDepth 100000 in
set_option maxHeartbeats 4000000 in
theorem kg_X7_startValue_29 {G : kG} {q : kP} {d : Nat} {x : gd} {P : Option gv → gd → Prop} {X : String → gd → Prop} (hq : kV q) (s0 : Int32)
    (h : ((s0 = (0 : Int32) → KE G q (d + 7) zk_X7_startValue 38 [(0, vr 100), (1, vi s0)] [] x P X) ∧ (¬ (s0 = (0 : Int32)) → KE G q (d + 6) zk_X7_pass 0 [(0, vr 100)] [] x (rv (fun x2 => KE G q (d + 7) zk_X7_startValue 38 [(0, vr 100), (1, vi s0)] [] x2 P X)) X))) :
    KE G q (d + 7) zk_X7_startValue 29 [(0, vr 100)] [vi s0] x P X := by
  refine T_istore_n (lv2 := [(1, vi s0), (0, vr 100)]) (dk dtk_X7_startValue 15 rfl) rfl (by decide) rfl ?_
  refine T_iload_n 0 (dk dtk_X7_startValue 16 rfl) rfl rfl ?_
  refine T_if_eq 38 (dk dtk_X7_startValue 17 rfl) (by decide) (fun c1 => ?_) (fun c1 => ?_)
  · have h := h.1 c1
    exact T_sub [1, 0] rfl h
  · have h := h.2 c1
    refine T_aload_n 1 (dk dtk_X7_startValue 18 rfl) rfl rfl ?_
    refine KD_Vv [] [] rfl (dk dtk_X7_startValue 19 rfl) kcv_X7_112 rfl kk_100 rfl (kl_100 hq) (Nat.le_of_ble_eq_true rfl) (Nat.le_of_ble_eq_true rfl) (gok_i (av_c rfl (av_c (gkr (kl_100 hq)) av_n)) as_n) rfl h (fun x2 h => ?_)
    exact T_sub [1, 0] rfl h
set_option maxRecDepth 100000 in
set_option maxHeartbeats 4000000 in
theorem kg_X7_startValue_38 {G : kG} {q : kP} {d : Nat} {x : gd} {P : Option gv → gd → Prop} {X : String → gd → Prop} (hq : kV q) (l1 : Int32)
    (h : KE G q (d + 6) zk_X7_needFor 0 [(0, vr 100), (1, vi 3), (2, vi 0)] [] x (ri (fun r2 x1 => ((l1 = (0 : Int32) → vp_in r2 702 ∧ P (some (vi (x1.1 27 (r2 : Int32).toNatClampNeg))) x1) ∧ (¬ (l1 = (0 : Int32)) → vp_in r2 702 ∧ P (some (vi (-(x1.1 27 (r2 : Int32).toNatClampNeg)))) x1)))) X) :
    KE G q (d + 7) zk_X7_startValue 38 [(0, vr 100), (1, vi l1)] [] x P X := by
  refine T_aload_n 0 (dk dtk_X7_startValue 20 rfl) rfl rfl ?_
  refine T_iconst (v := 3) (dk dtk_X7_startValue 21 rfl) (by decide +kernel) ?_
  refine T_iconst (v := 0) (dk dtk_X7_startValue 22 rfl) (by decide +kernel) ?_
  refine KD_Vi [vi 3, vi 0] [] rfl (dk dtk_X7_startValue 23 rfl) kcv_X7_130 rfl kk_100 rfl (kl_100 hq) (Nat.le_of_ble_eq_true rfl) (Nat.le_of_ble_eq_true rfl) (gok_i (av_c (gkr (kl_100 hq)) (av_c rfl av_n)) as_n) rfl h (fun r2 x1 h => ?_)
  refine T_istore_n (lv2 := [(2, vi r2), (0, vr 100), (1, vi l1)]) (dk dtk_X7_startValue 24 rfl) rfl (by decide) rfl ?_
  refine T_iload_n 2 (dk dtk_X7_startValue 25 rfl) rfl rfl ?_
  refine T_if_eq 62 (dk dtk_X7_startValue 26 rfl) (by decide) (fun c3 => ?_) (fun c3 => ?_)
  · have h := h.1 c3
    refine T_aload_n 1 (dk dtk_X7_startValue 34 rfl) rfl rfl ?_
    refine T_getR 100 0 20 (dk dtk_X7_startValue 35 rfl) kfl_X7_11 kk_100 (kl_100 hq) (by decide) rfl kr_100_0 ?_
    refine T_getR 20 6 27 (dk dtk_X7_startValue 36 rfl) kfl_X7_147 kk_20 (kl_20 hq) (by decide) rfl kr_20_6 ?_
    refine T_iload_n 0 (dk dtk_X7_startValue 37 rfl) rfl rfl ?_
    obtain ⟨h4, h⟩ := h
    refine T_iald 27 702 (dk dtk_X7_startValue 38 rfl) kk_27 (kl_27 hq) h4 ?_
    exact KE_iret (dk dtk_X7_startValue 39 rfl) rfl rfl h
  · have h := h.2 c3
    refine T_aload_n 1 (dk dtk_X7_startValue 27 rfl) rfl rfl ?_
    refine T_getR 100 0 20 (dk dtk_X7_startValue 28 rfl) kfl_X7_11 kk_100 (kl_100 hq) (by decide) rfl kr_100_0 ?_
    refine T_getR 20 6 27 (dk dtk_X7_startValue 29 rfl) kfl_X7_147 kk_20 (kl_20 hq) (by decide) rfl kr_20_6 ?_
    refine T_iload_n 0 (dk dtk_X7_startValue 30 rfl) rfl rfl ?_
    obtain ⟨h5, h⟩ := h
    refine T_iald 27 702 (dk dtk_X7_startValue 31 rfl) kk_27 (kl_27 hq) h5 ?_
    refine T_ineg (dk dtk_X7_startValue 32 rfl) ?_
    refine T_goto 71 (dk dtk_X7_startValue 33 rfl) (by decide) ?_
    exact KE_iret (dk dtk_X7_startValue 39 rfl) rfl rfl h
set_option maxRecDepth 100000 in
theorem dtk_X7_lockDefinition : dck cX7_lockDefinition [(0, .aload_n 0, 1), (1, .getfield 19, 3), (4, .getfield 154, 3), (7, .bipush 6, 2), (9, .if_icmp .lt 8, 3), (12, .aload_n 0, 1), (13, .iconst 3, 1), (14, .invokevirtual 96, 3), (17, .aload_n 0, 1), (18, .invokevirtual 112, 3), (21, .aload_n 0, 1), (22, .getfield 15, 3), (25, .aload_n 0, 1), (26, .iconst 2, 1), (27, .iconst 1, 1), (28, .invokevirtual 130, 3), (31, .invokevirtual 157, 3), (34, .aload_n 0, 1), (35, .bipush 27, 2), (37, .invokevirtual 115, 3), (40, .aload_n 0, 1), (41, .getfield 19, 3), (44, .dup, 1), (45, .getfield 154, 3), (48, .iconst 1, 1), (49, .iadd, 1), (50, .putfield 154, 3), (53, .return_, 1)] = true := by decide +kernel
set_option maxRecDepth 100000 in
set_option maxHeartbeats 4000000 in
theorem kg_X7_lockDefinition_0 {G : kG} {q : kP} {d : Nat} {x : gd} {P : Option gv → gd → Prop} {X : String → gd → Prop} (hq : kV q) 
    (h : (((x.1 60 9) < (6 : Int32) → KE G q (d + 7) zk_X7_lockDefinition 17 [(0, vr 100)] [] x P X) ∧ (¬ ((x.1 60 9) < (6 : Int32)) → KE G q (d + 6) zk_X7_refuse 0 [(0, vr 100), (1, vi 3)] [] x (rv (fun x2 => KE G q (d + 7) zk_X7_lockDefinition 17 [(0, vr 100)] [] x2 P X)) X))) :
    KE G q (d + 7) zk_X7_lockDefinition 0 [(0, vr 100)] [] x P X := by
  refine T_aload_n 0 (dk dtk_X7_lockDefinition 0 rfl) rfl rfl ?_
  refine T_getR 100 2 60 (dk dtk_X7_lockDefinition 1 rfl) kfl_X7_19 kk_100 (kl_100 hq) (by decide) rfl kr_100_2 ?_
  refine T_getI 60 9 (dk dtk_X7_lockDefinition 2 rfl) kfl_X7_154 kk_60 (kl_60 hq) (by decide) rfl ?_
  refine T_bipush (v := 6) (dk dtk_X7_lockDefinition 3 rfl) (by decide +kernel) ?_
  refine T_icmp_lt 17 (dk dtk_X7_lockDefinition 4 rfl) (by decide) (fun c1 => ?_) (fun c1 => ?_)
  · have h := h.1 c1
    exact h
  · have h := h.2 c1
    refine T_aload_n 0 (dk dtk_X7_lockDefinition 5 rfl) rfl rfl ?_
    refine T_iconst (v := 3) (dk dtk_X7_lockDefinition 6 rfl) (by decide +kernel) ?_
    refine KD_Vv [vi 3] [] rfl (dk dtk_X7_lockDefinition 7 rfl) kcv_X7_96 rfl kk_100 rfl (kl_100 hq) (Nat.le_of_ble_eq_true rfl) (Nat.le_of_ble_eq_true rfl) (gok_i (av_c (gkr (kl_100 hq)) av_n) as_n) rfl h (fun x2 h => ?_)
    exact h
set_option maxRecDepth 100000 in
set_option maxHeartbeats 4000000 in
theorem kg_X7_lockDefinition_17 {G : kG} {q : kP} {d : Nat} {x : gd} {P : Option gv → gd → Prop} {X : String → gd → Prop} (hq : kV q) 
    (h : KE G q (d + 6) zk_X7_pass 0 [(0, vr 100)] [] x (rv (fun x1 => KE G q (d + 6) zk_X7_needFor 0 [(0, vr 100), (1, vi 2), (2, vi 1)] [] x1 (ri (fun r3 x2 => KT G q (d + 6) zk_X6_tellLock 0 [(0, vr 40), (1, vi r3)] [] x2 (rv (fun x4 => KE G q (d + 6) zk_X7_need 0 [(0, vr 100), (1, vi 27)] [] x4 (rv (fun x5 => (∀ x6 : gd, x6 = si x5 60 9 ((x5.1 60 9) + 1) → P none x6))) X)))) X)) X) :
    KE G q (d + 7) zk_X7_lockDefinition 17 [(0, vr 100)] [] x P X := by
  refine T_aload_n 0 (dk dtk_X7_lockDefinition 8 rfl) rfl rfl ?_
  refine KD_Vv [] [] rfl (dk dtk_X7_lockDefinition 9 rfl) kcv_X7_112 rfl kk_100 rfl (kl_100 hq) (Nat.le_of_ble_eq_true rfl) (Nat.le_of_ble_eq_true rfl) (gok_i (av_c (gkr (kl_100 hq)) av_n) as_n) rfl h (fun x1 h => ?_)
  refine T_aload_n 0 (dk dtk_X7_lockDefinition 10 rfl) rfl rfl ?_
  refine T_getR 100 1 40 (dk dtk_X7_lockDefinition 11 rfl) kfl_X7_15 kk_100 (kl_100 hq) (by decide) rfl kr_100_1 ?_
  refine T_aload_n 0 (dk dtk_X7_lockDefinition 12 rfl) rfl rfl ?_
  refine T_iconst (v := 2) (dk dtk_X7_lockDefinition 13 rfl) (by decide +kernel) ?_
  refine T_iconst (v := 1) (dk dtk_X7_lockDefinition 14 rfl) (by decide +kernel) ?_
  refine KD_Vi [vi 2, vi 1] [vr 40] rfl (dk dtk_X7_lockDefinition 15 rfl) kcv_X7_130 rfl kk_100 rfl (kl_100 hq) (Nat.le_of_ble_eq_true rfl) (Nat.le_of_ble_eq_true rfl) (gok_i (av_c (gkr (kl_100 hq)) av_n) (as_c (gkr (kl_40 hq)) as_n)) rfl h (fun r3 x2 h => ?_)
  refine KC_Vv [vi r3] [] rfl (dk dtk_X7_lockDefinition 16 rfl) kcv_X7_157 rfl kk_40 rfl (kl_40 hq) (Nat.le_of_ble_eq_true rfl) (Nat.le_of_ble_eq_true rfl) (gok_i (av_c (gkr (kl_100 hq)) av_n) as_n) rfl h (fun x4 h => ?_)
  refine T_aload_n 0 (dk dtk_X7_lockDefinition 17 rfl) rfl rfl ?_
  refine T_bipush (v := 27) (dk dtk_X7_lockDefinition 18 rfl) (by decide +kernel) ?_
  refine KD_Vv [vi 27] [] rfl (dk dtk_X7_lockDefinition 19 rfl) kcv_X7_115 rfl kk_100 rfl (kl_100 hq) (Nat.le_of_ble_eq_true rfl) (Nat.le_of_ble_eq_true rfl) (gok_i (av_c (gkr (kl_100 hq)) av_n) as_n) rfl h (fun x5 h => ?_)
  refine T_aload_n 0 (dk dtk_X7_lockDefinition 20 rfl) rfl rfl ?_
  refine T_getR 100 2 60 (dk dtk_X7_lockDefinition 21 rfl) kfl_X7_19 kk_100 (kl_100 hq) (by decide) rfl kr_100_2 ?_
  refine T_dup (dk dtk_X7_lockDefinition 22 rfl) rfl ?_
  refine T_getI 60 9 (dk dtk_X7_lockDefinition 23 rfl) kfl_X7_154 kk_60 (kl_60 hq) (by decide) rfl ?_
  refine T_iconst (v := 1) (dk dtk_X7_lockDefinition 24 rfl) (by decide +kernel) ?_
  refine T_iadd (dk dtk_X7_lockDefinition 25 rfl) ?_
  obtain ⟨x6, ex6⟩ : ∃ z, z = si x5 60 9 ((x5.1 60 9) + 1) := ⟨_, rfl⟩
  have h := h x6 ex6
  refine T_putI 60 9 (dk dtk_X7_lockDefinition 26 rfl) kfl_X7_154 kk_60 (kl_60 hq) (by decide) rfl ⟨rfl, rfl⟩ ?_
  rw [← ex6]
  exact KE_vret (dk dtk_X7_lockDefinition 27 rfl) rfl h
set_option maxRecDepth 100000 in
theorem dtk_X7_beginThread : dck cX7_beginThread [(0, .aload_n 0, 1), (1, .getfield 19, 3), (4, .getfield 160, 3), (7, .istore_n 1, 1), (8, .iload_n 1, 1), (9, .bipush 6, 2), (11, .if_icmp .lt 8, 3), (14, .aload_n 0, 1), (15, .iconst 3, 1), (16, .invokevirtual 96, 3), (19, .aload_n 0, 1), (20, .invokevirtual 71, 3), (23, .bipush 53, 2), (25, .if_icmp .ne 7, 3), (28, .iconst 1, 1), (29, .goto 4, 3), (32, .iconst 0, 1), (33, .istore_n 2, 1), (34, .iload_n 2, 1), (35, .ifCond .eq 7, 3), (38, .aload_n 0, 1), (39, .invokevirtual 112, 3), (42, .aload_n 0, 1), (43, .bipush 67, 2), (45, .invokevirtual 115, 3), (48, .aload_n 0, 1), (49, .getfield 15, 3), (52, .aload_n 0, 1), (53, .iconst 2, 1), (54, .iconst 1, 1), (55, .invokevirtual 130, 3), (58, .invokevirtual 163, 3), (61, .aload_n 0, 1), (62, .getfield 19, 3), (65, .getfield 166, 3), (68, .iload_n 1, 1), (69, .iload_n 2, 1), (70, .bastore, 1), (71, .aload_n 0, 1), (72, .getfield 19, 3), (75, .getfield 170, 3), (78, .iload_n 1, 1), (79, .aload_n 0, 1), (80, .getfield 29, 3), (83, .getfield 173, 3), (86, .iastore, 1), (87, .aload_n 0, 1), (88, .getfield 19, 3), (91, .dup, 1), (92, .getfield 160, 3), (95, .iconst 1, 1), (96, .iadd, 1), (97, .putfield 160, 3), (100, .aload_n 0, 1), (101, .iconst 0, 1), (102, .putfield 178, 3), (105, .aload_n 0, 1), (106, .iconst 0, 1), (107, .putfield 181, 3), (110, .aload_n 0, 1), (111, .iconst 0, 1), (112, .putfield 184, 3), (115, .aload_n 0, 1), (116, .iconst 1, 1), (117, .putfield 65, 3), (120, .aload_n 0, 1), (121, .iconst 0, 1), (122, .iconst (-1), 1), (123, .invokevirtual 187, 3), (126, .return_, 1)] = true := by decide +kernel
set_option maxRecDepth 100000 in
set_option maxHeartbeats 4000000 in
theorem kg_X7_beginThread_0 {G : kG} {q : kP} {d : Nat} {x : gd} {P : Option gv → gd → Prop} {X : String → gd → Prop} (hq : kV q) 
    (h : (((x.1 60 10) < (6 : Int32) → KE G q (d + 7) zk_X7_beginThread 19 [(0, vr 100), (1, vi (x.1 60 10))] [] x P X) ∧ (¬ ((x.1 60 10) < (6 : Int32)) → KE G q (d + 6) zk_X7_refuse 0 [(0, vr 100), (1, vi 3)] [] x (rv (fun x2 => KE G q (d + 7) zk_X7_beginThread 19 [(0, vr 100), (1, vi (x.1 60 10))] [] x2 P X)) X))) :
    KE G q (d + 7) zk_X7_beginThread 0 [(0, vr 100)] [] x P X := by
  refine T_aload_n 0 (dk dtk_X7_beginThread 0 rfl) rfl rfl ?_
  refine T_getR 100 2 60 (dk dtk_X7_beginThread 1 rfl) kfl_X7_19 kk_100 (kl_100 hq) (by decide) rfl kr_100_2 ?_
  refine T_getI 60 10 (dk dtk_X7_beginThread 2 rfl) kfl_X7_160 kk_60 (kl_60 hq) (by decide) rfl ?_
  refine T_istore_n (lv2 := [(1, vi (x.1 60 10)), (0, vr 100)]) (dk dtk_X7_beginThread 3 rfl) rfl (by decide) rfl ?_
  refine T_iload_n 0 (dk dtk_X7_beginThread 4 rfl) rfl rfl ?_
  refine T_bipush (v := 6) (dk dtk_X7_beginThread 5 rfl) (by decide +kernel) ?_
  refine T_icmp_lt 19 (dk dtk_X7_beginThread 6 rfl) (by decide) (fun c1 => ?_) (fun c1 => ?_)
  · have h := h.1 c1
    exact T_sub [1, 0] rfl h
  · have h := h.2 c1
    refine T_aload_n 1 (dk dtk_X7_beginThread 7 rfl) rfl rfl ?_
    refine T_iconst (v := 3) (dk dtk_X7_beginThread 8 rfl) (by decide +kernel) ?_
    refine KD_Vv [vi 3] [] rfl (dk dtk_X7_beginThread 9 rfl) kcv_X7_96 rfl kk_100 rfl (kl_100 hq) (Nat.le_of_ble_eq_true rfl) (Nat.le_of_ble_eq_true rfl) (gok_i (av_c rfl (av_c (gkr (kl_100 hq)) av_n)) as_n) rfl h (fun x2 h => ?_)
    exact T_sub [1, 0] rfl h
set_option maxRecDepth 100000 in
set_option maxHeartbeats 4000000 in
theorem kg_X7_beginThread_19 {G : kG} {q : kP} {d : Nat} {x : gd} {P : Option gv → gd → Prop} {X : String → gd → Prop} (hq : kV q) (l1 : Int32)
    (h : KT G q (d + 6) zk_X7_sort 0 [(0, vr 100)] [] x (ri (fun r2 x1 => ((¬ (r2 = (53 : Int32)) → KE G q (d + 7) zk_X7_beginThread 33 [(0, vr 100), (1, vi l1)] [vi 0] x1 P X) ∧ (r2 = (53 : Int32) → KE G q (d + 7) zk_X7_beginThread 33 [(0, vr 100), (1, vi l1)] [vi 1] x1 P X))))) :
    KE G q (d + 7) zk_X7_beginThread 19 [(0, vr 100), (1, vi l1)] [] x P X := by
  refine T_aload_n 0 (dk dtk_X7_beginThread 10 rfl) rfl rfl ?_
  refine KC_Vi [] [] rfl (dk dtk_X7_beginThread 11 rfl) kcv_X7_71 rfl kk_100 rfl (kl_100 hq) (Nat.le_of_ble_eq_true rfl) (Nat.le_of_ble_eq_true rfl) (gok_i (av_c (gkr (kl_100 hq)) (av_c rfl av_n)) as_n) rfl h (fun r2 x1 h => ?_)
  refine T_bipush (v := 53) (dk dtk_X7_beginThread 12 rfl) (by decide +kernel) ?_
  refine T_icmp_ne 32 (dk dtk_X7_beginThread 13 rfl) (by decide) (fun c3 => ?_) (fun c3 => ?_)
  · have h := h.1 c3
    refine T_iconst (v := 0) (dk dtk_X7_beginThread 16 rfl) (by decide +kernel) ?_
    exact h
  · have h := h.2 c3
    refine T_iconst (v := 1) (dk dtk_X7_beginThread 14 rfl) (by decide +kernel) ?_
    refine T_goto 33 (dk dtk_X7_beginThread 15 rfl) (by decide) ?_
    exact h
set_option maxRecDepth 100000 in
set_option maxHeartbeats 4000000 in
theorem kg_X7_beginThread_33 {G : kG} {q : kP} {d : Nat} {x : gd} {P : Option gv → gd → Prop} {X : String → gd → Prop} (hq : kV q) (l1 : Int32) (s0 : Int32)
    (h : ((s0 = (0 : Int32) → KE G q (d + 7) zk_X7_beginThread 42 [(0, vr 100), (1, vi l1), (2, vi s0)] [] x P X) ∧ (¬ (s0 = (0 : Int32)) → KE G q (d + 6) zk_X7_pass 0 [(0, vr 100)] [] x (rv (fun x2 => KE G q (d + 7) zk_X7_beginThread 42 [(0, vr 100), (1, vi l1), (2, vi s0)] [] x2 P X)) X))) :
    KE G q (d + 7) zk_X7_beginThread 33 [(0, vr 100), (1, vi l1)] [vi s0] x P X := by
  refine T_istore_n (lv2 := [(2, vi s0), (0, vr 100), (1, vi l1)]) (dk dtk_X7_beginThread 17 rfl) rfl (by decide) rfl ?_
  refine T_iload_n 0 (dk dtk_X7_beginThread 18 rfl) rfl rfl ?_
  refine T_if_eq 42 (dk dtk_X7_beginThread 19 rfl) (by decide) (fun c1 => ?_) (fun c1 => ?_)
  · have h := h.1 c1
    exact T_sub [1, 2, 0] rfl h
  · have h := h.2 c1
    refine T_aload_n 1 (dk dtk_X7_beginThread 20 rfl) rfl rfl ?_
    refine KD_Vv [] [] rfl (dk dtk_X7_beginThread 21 rfl) kcv_X7_112 rfl kk_100 rfl (kl_100 hq) (Nat.le_of_ble_eq_true rfl) (Nat.le_of_ble_eq_true rfl) (gok_i (av_c rfl (av_c (gkr (kl_100 hq)) (av_c rfl av_n))) as_n) rfl h (fun x2 h => ?_)
    exact T_sub [1, 2, 0] rfl h
set_option maxRecDepth 100000 in
set_option maxHeartbeats 4000000 in
theorem kg_X7_beginThread_42 {G : kG} {q : kP} {d : Nat} {x : gd} {P : Option gv → gd → Prop} {X : String → gd → Prop} (hq : kV q) (l1 : Int32) (l2 : Int32)
    (h : KE G q (d + 6) zk_X7_need 0 [(0, vr 100), (1, vi 67)] [] x (rv (fun x1 => KE G q (d + 6) zk_X7_needFor 0 [(0, vr 100), (1, vi 2), (2, vi 1)] [] x1 (ri (fun r3 x2 => KT G q (d + 6) zk_X6_tellThread 0 [(0, vr 40), (1, vi r3)] [] x2 (rv (fun x4 => vp_in l1 6 ∧ (∀ x6 : gd, x6 = si x4 73 (l1 : Int32).toNatClampNeg (vp_nar .boolean l2) → vp_in l1 6 ∧ (∀ x8 : gd, x8 = si x6 72 (l1 : Int32).toNatClampNeg (x6.1 80 9) → (∀ x9 : gd, x9 = si x8 60 10 ((x8.1 60 10) + 1) → (∀ x10 : gd, x10 = si x9 100 7 0 → (∀ x11 : gd, x11 = si x10 100 9 0 → (∀ x12 : gd, x12 = si x11 100 13 0 → (∀ x13 : gd, x13 = si x12 100 5 1 → KE G q (d + 6) zk_X7_openBlock 0 [(0, vr 100), (1, vi 0), (2, vi (-1))] [] x13 (rv (fun x14 => P none x14)) X))))))))))) X)) X) :
    KE G q (d + 7) zk_X7_beginThread 42 [(0, vr 100), (1, vi l1), (2, vi l2)] [] x P X := by
  refine T_aload_n 0 (dk dtk_X7_beginThread 22 rfl) rfl rfl ?_
  refine T_bipush (v := 67) (dk dtk_X7_beginThread 23 rfl) (by decide +kernel) ?_
  refine KD_Vv [vi 67] [] rfl (dk dtk_X7_beginThread 24 rfl) kcv_X7_115 rfl kk_100 rfl (kl_100 hq) (Nat.le_of_ble_eq_true rfl) (Nat.le_of_ble_eq_true rfl) (gok_i (av_c (gkr (kl_100 hq)) (av_c rfl (av_c rfl av_n))) as_n) rfl h (fun x1 h => ?_)
  refine T_aload_n 0 (dk dtk_X7_beginThread 25 rfl) rfl rfl ?_
  refine T_getR 100 1 40 (dk dtk_X7_beginThread 26 rfl) kfl_X7_15 kk_100 (kl_100 hq) (by decide) rfl kr_100_1 ?_
  refine T_aload_n 0 (dk dtk_X7_beginThread 27 rfl) rfl rfl ?_
  refine T_iconst (v := 2) (dk dtk_X7_beginThread 28 rfl) (by decide +kernel) ?_
  refine T_iconst (v := 1) (dk dtk_X7_beginThread 29 rfl) (by decide +kernel) ?_
  refine KD_Vi [vi 2, vi 1] [vr 40] rfl (dk dtk_X7_beginThread 30 rfl) kcv_X7_130 rfl kk_100 rfl (kl_100 hq) (Nat.le_of_ble_eq_true rfl) (Nat.le_of_ble_eq_true rfl) (gok_i (av_c (gkr (kl_100 hq)) (av_c rfl (av_c rfl av_n))) (as_c (gkr (kl_40 hq)) as_n)) rfl h (fun r3 x2 h => ?_)
  refine KC_Vv [vi r3] [] rfl (dk dtk_X7_beginThread 31 rfl) kcv_X7_163 rfl kk_40 rfl (kl_40 hq) (Nat.le_of_ble_eq_true rfl) (Nat.le_of_ble_eq_true rfl) (gok_i (av_c (gkr (kl_100 hq)) (av_c rfl (av_c rfl av_n))) as_n) rfl h (fun x4 h => ?_)
  refine T_aload_n 0 (dk dtk_X7_beginThread 32 rfl) rfl rfl ?_
  refine T_getR 100 2 60 (dk dtk_X7_beginThread 33 rfl) kfl_X7_19 kk_100 (kl_100 hq) (by decide) rfl kr_100_2 ?_
  refine T_getR 60 12 73 (dk dtk_X7_beginThread 34 rfl) kfl_X7_166 kk_60 (kl_60 hq) (by decide) rfl kr_60_12 ?_
  refine T_iload_n 1 (dk dtk_X7_beginThread 35 rfl) rfl rfl ?_
  refine T_iload_n 2 (dk dtk_X7_beginThread 36 rfl) rfl rfl ?_
  obtain ⟨h5, h⟩ := h
  obtain ⟨x6, ex6⟩ : ∃ z, z = si x4 73 (l1 : Int32).toNatClampNeg (vp_nar .boolean l2) := ⟨_, rfl⟩
  have h := h x6 ex6
  refine T_zast 73 6 (dk dtk_X7_beginThread 37 rfl) kk_73 (kl_73 hq) h5 ?_
  rw [← ex6]
  refine T_aload_n 0 (dk dtk_X7_beginThread 38 rfl) rfl rfl ?_
  refine T_getR 100 2 60 (dk dtk_X7_beginThread 39 rfl) kfl_X7_19 kk_100 (kl_100 hq) (by decide) rfl kr_100_2 ?_
  refine T_getR 60 11 72 (dk dtk_X7_beginThread 40 rfl) kfl_X7_170 kk_60 (kl_60 hq) (by decide) rfl kr_60_11 ?_
  refine T_iload_n 1 (dk dtk_X7_beginThread 41 rfl) rfl rfl ?_
  refine T_aload_n 0 (dk dtk_X7_beginThread 42 rfl) rfl rfl ?_
  refine T_getR 100 3 80 (dk dtk_X7_beginThread 43 rfl) kfl_X7_29 kk_100 (kl_100 hq) (by decide) rfl kr_100_3 ?_
  refine T_getI 80 9 (dk dtk_X7_beginThread 44 rfl) kfl_X7_173 kk_80 (kl_80 hq) (by decide) rfl ?_
  obtain ⟨h7, h⟩ := h
  obtain ⟨x8, ex8⟩ : ∃ z, z = si x6 72 (l1 : Int32).toNatClampNeg (x6.1 80 9) := ⟨_, rfl⟩
  have h := h x8 ex8
  refine T_iast 72 6 (dk dtk_X7_beginThread 45 rfl) kk_72 (kl_72 hq) h7 ?_
  rw [← ex8]
  refine T_aload_n 0 (dk dtk_X7_beginThread 46 rfl) rfl rfl ?_
  refine T_getR 100 2 60 (dk dtk_X7_beginThread 47 rfl) kfl_X7_19 kk_100 (kl_100 hq) (by decide) rfl kr_100_2 ?_
  refine T_dup (dk dtk_X7_beginThread 48 rfl) rfl ?_
  refine T_getI 60 10 (dk dtk_X7_beginThread 49 rfl) kfl_X7_160 kk_60 (kl_60 hq) (by decide) rfl ?_
  refine T_iconst (v := 1) (dk dtk_X7_beginThread 50 rfl) (by decide +kernel) ?_
  refine T_iadd (dk dtk_X7_beginThread 51 rfl) ?_
  obtain ⟨x9, ex9⟩ : ∃ z, z = si x8 60 10 ((x8.1 60 10) + 1) := ⟨_, rfl⟩
  have h := h x9 ex9
  refine T_putI 60 10 (dk dtk_X7_beginThread 52 rfl) kfl_X7_160 kk_60 (kl_60 hq) (by decide) rfl ⟨rfl, rfl⟩ ?_
  rw [← ex9]
  refine T_aload_n 0 (dk dtk_X7_beginThread 53 rfl) rfl rfl ?_
  refine T_iconst (v := 0) (dk dtk_X7_beginThread 54 rfl) (by decide +kernel) ?_
  obtain ⟨x10, ex10⟩ : ∃ z, z = si x9 100 7 0 := ⟨_, rfl⟩
  have h := h x10 ex10
  refine T_putI 100 7 (dk dtk_X7_beginThread 55 rfl) kfl_X7_178 kk_100 (kl_100 hq) (by decide) rfl ⟨rfl, rfl⟩ ?_
  rw [← ex10]
  refine T_aload_n 0 (dk dtk_X7_beginThread 56 rfl) rfl rfl ?_
  refine T_iconst (v := 0) (dk dtk_X7_beginThread 57 rfl) (by decide +kernel) ?_
  obtain ⟨x11, ex11⟩ : ∃ z, z = si x10 100 9 0 := ⟨_, rfl⟩
  have h := h x11 ex11
  refine T_putI 100 9 (dk dtk_X7_beginThread 58 rfl) kfl_X7_181 kk_100 (kl_100 hq) (by decide) rfl ⟨rfl, rfl⟩ ?_
  rw [← ex11]
  refine T_aload_n 0 (dk dtk_X7_beginThread 59 rfl) rfl rfl ?_
  refine T_iconst (v := 0) (dk dtk_X7_beginThread 60 rfl) (by decide +kernel) ?_
  obtain ⟨x12, ex12⟩ : ∃ z, z = si x11 100 13 0 := ⟨_, rfl⟩
  have h := h x12 ex12
  refine T_putI 100 13 (dk dtk_X7_beginThread 61 rfl) kfl_X7_184 kk_100 (kl_100 hq) (by decide) rfl ⟨rfl, rfl⟩ ?_
  rw [← ex12]
  refine T_aload_n 0 (dk dtk_X7_beginThread 62 rfl) rfl rfl ?_
  refine T_iconst (v := 1) (dk dtk_X7_beginThread 63 rfl) (by decide +kernel) ?_
  obtain ⟨x13, ex13⟩ : ∃ z, z = si x12 100 5 1 := ⟨_, rfl⟩
  have h := h x13 ex13
  refine T_putI 100 5 (dk dtk_X7_beginThread 64 rfl) kfl_X7_65 kk_100 (kl_100 hq) (by decide) rfl ⟨rfl, rfl⟩ ?_
  rw [← ex13]
  refine T_aload_n 0 (dk dtk_X7_beginThread 65 rfl) rfl rfl ?_
  refine T_iconst (v := 0) (dk dtk_X7_beginThread 66 rfl) (by decide +kernel) ?_
  refine T_iconst (v := (-1)) (dk dtk_X7_beginThread 67 rfl) (by decide +kernel) ?_
  refine T_sub (lv2 := []) [] rfl ?_
  refine KD_Vv [vi 0, vi (-1)] [] rfl (dk dtk_X7_beginThread 68 rfl) kcv_X7_187 rfl kk_100 rfl (kl_100 hq) (Nat.le_of_ble_eq_true rfl) (Nat.le_of_ble_eq_true rfl) (gok_i av_n as_n) rfl h (fun x14 h => ?_)
  exact KE_vret (dk dtk_X7_beginThread 69 rfl) rfl h
set_option maxRecDepth 100000 in
theorem dtk_X7_endThread : dck cX7_endThread [(0, .aload_n 0, 1), (1, .getfield 29, 3), (4, .bipush 21, 2), (6, .iconst 0, 1), (7, .iconst 0, 1), (8, .invokevirtual 191, 3), (11, .pop, 1), (12, .aload_n 0, 1), (13, .iconst 0, 1), (14, .putfield 65, 3), (17, .return_, 1)] = true := by decide +kernel
set_option maxRecDepth 100000 in
set_option maxHeartbeats 4000000 in
theorem kg_X7_endThread_0 {G : kG} {q : kP} {d : Nat} {x : gd} {P : Option gv → gd → Prop} (hq : kV q) 
    (h : KT G q d zk_X8_add 0 [(0, vr 80), (1, vi 21), (2, vi 0), (3, vi 0)] [] x (ri (fun r2 x1 => (∀ x3 : gd, x3 = si x1 100 5 0 → P none x3)))) :
    KT G q (d + 1) zk_X7_endThread 0 [(0, vr 100)] [] x P := by
  refine T_aload_n 0 (dk dtk_X7_endThread 0 rfl) rfl rfl ?_
  refine T_getR 100 3 80 (dk dtk_X7_endThread 1 rfl) kfl_X7_29 kk_100 (kl_100 hq) (by decide) rfl kr_100_3 ?_
  refine T_bipush (v := 21) (dk dtk_X7_endThread 2 rfl) (by decide +kernel) ?_
  refine T_iconst (v := 0) (dk dtk_X7_endThread 3 rfl) (by decide +kernel) ?_
  refine T_iconst (v := 0) (dk dtk_X7_endThread 4 rfl) (by decide +kernel) ?_
  refine KC_Vi [vi 21, vi 0, vi 0] [] rfl (dk dtk_X7_endThread 5 rfl) kcv_X7_191 rfl kk_80 rfl (kl_80 hq) (Nat.le_of_ble_eq_true rfl) (Nat.le_of_ble_eq_true rfl) (gok_i (av_c (gkr (kl_100 hq)) av_n) as_n) rfl h (fun r2 x1 h => ?_)
  refine T_pop (dk dtk_X7_endThread 6 rfl) rfl ?_
  refine T_aload_n 0 (dk dtk_X7_endThread 7 rfl) rfl rfl ?_
  refine T_iconst (v := 0) (dk dtk_X7_endThread 8 rfl) (by decide +kernel) ?_
  obtain ⟨x3, ex3⟩ : ∃ z, z = si x1 100 5 0 := ⟨_, rfl⟩
  have h := h x3 ex3
  refine T_putI 100 5 (dk dtk_X7_endThread 9 rfl) kfl_X7_65 kk_100 (kl_100 hq) (by decide) rfl ⟨rfl, rfl⟩ ?_
  rw [← ex3]
  exact KT_vret (dk dtk_X7_endThread 10 rfl) rfl h
end
section
set_option maxRecDepth 100000 in
theorem dtk_X7_claim : dck cX7_claim [(0, .aload_n 0, 1), (1, .invokevirtual 71, 3), (4, .bipush 41, 2), (6, .if_icmp .ne 7, 3), (9, .iconst 1, 1), (10, .goto 4, 3), (13, .iconst 0, 1), (14, .istore_n 1, 1), (15, .iload_n 1, 1), (16, .ifCond .eq 13, 3), (19, .aload_n 0, 1), (20, .getfield 19, 3), (23, .getfield 195, 3), (26, .goto 10, 3), (29, .aload_n 0, 1), (30, .getfield 19, 3), (33, .getfield 198, 3), (36, .istore_n 2, 1), (37, .iload_n 2, 1), (38, .iconst 4, 1), (39, .if_icmp .lt 8, 3), (42, .aload_n 0, 1), (43, .iconst 3, 1), (44, .invokevirtual 96, 3), (47, .aload_n 0, 1), (48, .invokevirtual 112, 3), (51, .aload_n 0, 1), (52, .iconst 1, 1), (53, .invokevirtual 201, 3), (56, .istore_n 3, 1), (57, .aload_n 0, 1), (58, .bipush 27, 2), (60, .invokevirtual 115, 3), (63, .iload_n 1, 1), (64, .ifCond .eq 29, 3), (67, .aload_n 0, 1), (68, .getfield 19, 3), (71, .getfield 205, 3), (74, .iload_n 2, 1), (75, .iload_n 3, 1), (76, .iastore, 1), (77, .aload_n 0, 1), (78, .getfield 19, 3), (81, .dup, 1), (82, .getfield 195, 3), (85, .iconst 1, 1), (86, .iadd, 1), (87, .putfield 195, 3), (90, .goto 26, 3), (93, .aload_n 0, 1), (94, .getfield 19, 3), (97, .getfield 208, 3), (100, .iload_n 2, 1), (101, .iload_n 3, 1), (102, .iastore, 1), (103, .aload_n 0, 1), (104, .getfield 19, 3), (107, .dup, 1), (108, .getfield 198, 3), (111, .iconst 1, 1), (112, .iadd, 1), (113, .putfield 198, 3), (116, .return_, 1)] = true := by decide +kernel
set_option maxRecDepth 100000 in
set_option maxHeartbeats 4000000 in
theorem kg_X7_claim_0 {G : kG} {q : kP} {d : Nat} {x : gd} {P : Option gv → gd → Prop} {X : String → gd → Prop} (hq : kV q) 
    (h : KT G q (d + 6) zk_X7_sort 0 [(0, vr 100)] [] x (ri (fun r2 x1 => ((¬ (r2 = (41 : Int32)) → KE G q (d + 7) zk_X7_claim 14 [(0, vr 100)] [vi 0] x1 P X) ∧ (r2 = (41 : Int32) → KE G q (d + 7) zk_X7_claim 14 [(0, vr 100)] [vi 1] x1 P X))))) :
    KE G q (d + 7) zk_X7_claim 0 [(0, vr 100)] [] x P X := by
  refine T_aload_n 0 (dk dtk_X7_claim 0 rfl) rfl rfl ?_
  refine KC_Vi [] [] rfl (dk dtk_X7_claim 1 rfl) kcv_X7_71 rfl kk_100 rfl (kl_100 hq) (Nat.le_of_ble_eq_true rfl) (Nat.le_of_ble_eq_true rfl) (gok_i (av_c (gkr (kl_100 hq)) av_n) as_n) rfl h (fun r2 x1 h => ?_)
  refine T_bipush (v := 41) (dk dtk_X7_claim 2 rfl) (by decide +kernel) ?_
  refine T_icmp_ne 13 (dk dtk_X7_claim 3 rfl) (by decide) (fun c3 => ?_) (fun c3 => ?_)
  · have h := h.1 c3
    refine T_iconst (v := 0) (dk dtk_X7_claim 6 rfl) (by decide +kernel) ?_
    exact h
  · have h := h.2 c3
    refine T_iconst (v := 1) (dk dtk_X7_claim 4 rfl) (by decide +kernel) ?_
    refine T_goto 14 (dk dtk_X7_claim 5 rfl) (by decide) ?_
    exact h
set_option maxRecDepth 100000 in
set_option maxHeartbeats 4000000 in
theorem kg_X7_claim_14 {G : kG} {q : kP} {d : Nat} {x : gd} {P : Option gv → gd → Prop} {X : String → gd → Prop} (hq : kV q) (s0 : Int32)
    (h : ((s0 = (0 : Int32) → KE G q (d + 7) zk_X7_claim 36 [(0, vr 100), (1, vi s0)] [vi (x.1 60 16)] x P X) ∧ (¬ (s0 = (0 : Int32)) → KE G q (d + 7) zk_X7_claim 36 [(0, vr 100), (1, vi s0)] [vi (x.1 60 14)] x P X))) :
    KE G q (d + 7) zk_X7_claim 14 [(0, vr 100)] [vi s0] x P X := by
  refine T_istore_n (lv2 := [(1, vi s0), (0, vr 100)]) (dk dtk_X7_claim 7 rfl) rfl (by decide) rfl ?_
  refine T_iload_n 0 (dk dtk_X7_claim 8 rfl) rfl rfl ?_
  refine T_if_eq 29 (dk dtk_X7_claim 9 rfl) (by decide) (fun c1 => ?_) (fun c1 => ?_)
  · have h := h.1 c1
    refine T_aload_n 1 (dk dtk_X7_claim 14 rfl) rfl rfl ?_
    refine T_getR 100 2 60 (dk dtk_X7_claim 15 rfl) kfl_X7_19 kk_100 (kl_100 hq) (by decide) rfl kr_100_2 ?_
    refine T_getI 60 16 (dk dtk_X7_claim 16 rfl) kfl_X7_198 kk_60 (kl_60 hq) (by decide) rfl ?_
    exact T_sub [1, 0] rfl h
  · have h := h.2 c1
    refine T_aload_n 1 (dk dtk_X7_claim 10 rfl) rfl rfl ?_
    refine T_getR 100 2 60 (dk dtk_X7_claim 11 rfl) kfl_X7_19 kk_100 (kl_100 hq) (by decide) rfl kr_100_2 ?_
    refine T_getI 60 14 (dk dtk_X7_claim 12 rfl) kfl_X7_195 kk_60 (kl_60 hq) (by decide) rfl ?_
    refine T_goto 36 (dk dtk_X7_claim 13 rfl) (by decide) ?_
    exact T_sub [1, 0] rfl h
set_option maxRecDepth 100000 in
set_option maxHeartbeats 4000000 in
theorem kg_X7_claim_36 {G : kG} {q : kP} {d : Nat} {x : gd} {P : Option gv → gd → Prop} {X : String → gd → Prop} (hq : kV q) (l1 : Int32) (s0 : Int32)
    (h : ((s0 < (4 : Int32) → KE G q (d + 7) zk_X7_claim 47 [(0, vr 100), (1, vi l1), (2, vi s0)] [] x P X) ∧ (¬ (s0 < (4 : Int32)) → KE G q (d + 6) zk_X7_refuse 0 [(0, vr 100), (1, vi 3)] [] x (rv (fun x2 => KE G q (d + 7) zk_X7_claim 47 [(0, vr 100), (1, vi l1), (2, vi s0)] [] x2 P X)) X))) :
    KE G q (d + 7) zk_X7_claim 36 [(0, vr 100), (1, vi l1)] [vi s0] x P X := by
  refine T_istore_n (lv2 := [(2, vi s0), (0, vr 100), (1, vi l1)]) (dk dtk_X7_claim 17 rfl) rfl (by decide) rfl ?_
  refine T_iload_n 0 (dk dtk_X7_claim 18 rfl) rfl rfl ?_
  refine T_iconst (v := 4) (dk dtk_X7_claim 19 rfl) (by decide +kernel) ?_
  refine T_icmp_lt 47 (dk dtk_X7_claim 20 rfl) (by decide) (fun c1 => ?_) (fun c1 => ?_)
  · have h := h.1 c1
    exact T_sub [1, 2, 0] rfl h
  · have h := h.2 c1
    refine T_aload_n 1 (dk dtk_X7_claim 21 rfl) rfl rfl ?_
    refine T_iconst (v := 3) (dk dtk_X7_claim 22 rfl) (by decide +kernel) ?_
    refine KD_Vv [vi 3] [] rfl (dk dtk_X7_claim 23 rfl) kcv_X7_96 rfl kk_100 rfl (kl_100 hq) (Nat.le_of_ble_eq_true rfl) (Nat.le_of_ble_eq_true rfl) (gok_i (av_c rfl (av_c (gkr (kl_100 hq)) (av_c rfl av_n))) as_n) rfl h (fun x2 h => ?_)
    exact T_sub [1, 2, 0] rfl h
set_option maxRecDepth 100000 in
set_option maxHeartbeats 4000000 in
theorem kg_X7_claim_47 {G : kG} {q : kP} {d : Nat} {x : gd} {P : Option gv → gd → Prop} {X : String → gd → Prop} (hq : kV q) (l1 : Int32) (l2 : Int32)
    (h : KE G q (d + 6) zk_X7_pass 0 [(0, vr 100)] [] x (rv (fun x1 => KE G q (d + 6) zk_X7_sum 0 [(0, vr 100), (1, vi 1)] [] x1 (ri (fun r3 x2 => KE G q (d + 6) zk_X7_need 0 [(0, vr 100), (1, vi 27)] [] x2 (rv (fun x4 => ((l1 = (0 : Int32) → vp_in l2 4 ∧ (∀ x7 : gd, x7 = si x4 78 (l2 : Int32).toNatClampNeg r3 → (∀ x8 : gd, x8 = si x7 60 16 ((x7.1 60 16) + 1) → P none x8))) ∧ (¬ (l1 = (0 : Int32)) → vp_in l2 4 ∧ (∀ x10 : gd, x10 = si x4 76 (l2 : Int32).toNatClampNeg r3 → (∀ x11 : gd, x11 = si x10 60 14 ((x10.1 60 14) + 1) → P none x11)))))) X)) X)) X) :
    KE G q (d + 7) zk_X7_claim 47 [(0, vr 100), (1, vi l1), (2, vi l2)] [] x P X := by
  refine T_aload_n 0 (dk dtk_X7_claim 24 rfl) rfl rfl ?_
  refine KD_Vv [] [] rfl (dk dtk_X7_claim 25 rfl) kcv_X7_112 rfl kk_100 rfl (kl_100 hq) (Nat.le_of_ble_eq_true rfl) (Nat.le_of_ble_eq_true rfl) (gok_i (av_c (gkr (kl_100 hq)) (av_c rfl (av_c rfl av_n))) as_n) rfl h (fun x1 h => ?_)
  refine T_aload_n 0 (dk dtk_X7_claim 26 rfl) rfl rfl ?_
  refine T_iconst (v := 1) (dk dtk_X7_claim 27 rfl) (by decide +kernel) ?_
  refine KD_Vi [vi 1] [] rfl (dk dtk_X7_claim 28 rfl) kcv_X7_201 rfl kk_100 rfl (kl_100 hq) (Nat.le_of_ble_eq_true rfl) (Nat.le_of_ble_eq_true rfl) (gok_i (av_c (gkr (kl_100 hq)) (av_c rfl (av_c rfl av_n))) as_n) rfl h (fun r3 x2 h => ?_)
  refine T_istore_n (lv2 := [(3, vi r3), (0, vr 100), (1, vi l1), (2, vi l2)]) (dk dtk_X7_claim 29 rfl) rfl (by decide) rfl ?_
  refine T_aload_n 1 (dk dtk_X7_claim 30 rfl) rfl rfl ?_
  refine T_bipush (v := 27) (dk dtk_X7_claim 31 rfl) (by decide +kernel) ?_
  refine KD_Vv [vi 27] [] rfl (dk dtk_X7_claim 32 rfl) kcv_X7_115 rfl kk_100 rfl (kl_100 hq) (Nat.le_of_ble_eq_true rfl) (Nat.le_of_ble_eq_true rfl) (gok_i (av_c rfl (av_c (gkr (kl_100 hq)) (av_c rfl (av_c rfl av_n)))) as_n) rfl h (fun x4 h => ?_)
  refine T_iload_n 2 (dk dtk_X7_claim 33 rfl) rfl rfl ?_
  refine T_if_eq 93 (dk dtk_X7_claim 34 rfl) (by decide) (fun c5 => ?_) (fun c5 => ?_)
  · have h := h.1 c5
    refine T_aload_n 1 (dk dtk_X7_claim 49 rfl) rfl rfl ?_
    refine T_getR 100 2 60 (dk dtk_X7_claim 50 rfl) kfl_X7_19 kk_100 (kl_100 hq) (by decide) rfl kr_100_2 ?_
    refine T_getR 60 17 78 (dk dtk_X7_claim 51 rfl) kfl_X7_208 kk_60 (kl_60 hq) (by decide) rfl kr_60_17 ?_
    refine T_iload_n 3 (dk dtk_X7_claim 52 rfl) rfl rfl ?_
    refine T_iload_n 0 (dk dtk_X7_claim 53 rfl) rfl rfl ?_
    obtain ⟨h6, h⟩ := h
    obtain ⟨x7, ex7⟩ : ∃ z, z = si x4 78 (l2 : Int32).toNatClampNeg r3 := ⟨_, rfl⟩
    have h := h x7 ex7
    refine T_iast 78 4 (dk dtk_X7_claim 54 rfl) kk_78 (kl_78 hq) h6 ?_
    rw [← ex7]
    refine T_aload_n 1 (dk dtk_X7_claim 55 rfl) rfl rfl ?_
    refine T_getR 100 2 60 (dk dtk_X7_claim 56 rfl) kfl_X7_19 kk_100 (kl_100 hq) (by decide) rfl kr_100_2 ?_
    refine T_dup (dk dtk_X7_claim 57 rfl) rfl ?_
    refine T_getI 60 16 (dk dtk_X7_claim 58 rfl) kfl_X7_198 kk_60 (kl_60 hq) (by decide) rfl ?_
    refine T_iconst (v := 1) (dk dtk_X7_claim 59 rfl) (by decide +kernel) ?_
    refine T_iadd (dk dtk_X7_claim 60 rfl) ?_
    obtain ⟨x8, ex8⟩ : ∃ z, z = si x7 60 16 ((x7.1 60 16) + 1) := ⟨_, rfl⟩
    have h := h x8 ex8
    refine T_putI 60 16 (dk dtk_X7_claim 61 rfl) kfl_X7_198 kk_60 (kl_60 hq) (by decide) rfl ⟨rfl, rfl⟩ ?_
    rw [← ex8]
    exact KE_vret (dk dtk_X7_claim 62 rfl) rfl h
  · have h := h.2 c5
    refine T_aload_n 1 (dk dtk_X7_claim 35 rfl) rfl rfl ?_
    refine T_getR 100 2 60 (dk dtk_X7_claim 36 rfl) kfl_X7_19 kk_100 (kl_100 hq) (by decide) rfl kr_100_2 ?_
    refine T_getR 60 15 76 (dk dtk_X7_claim 37 rfl) kfl_X7_205 kk_60 (kl_60 hq) (by decide) rfl kr_60_15 ?_
    refine T_iload_n 3 (dk dtk_X7_claim 38 rfl) rfl rfl ?_
    refine T_iload_n 0 (dk dtk_X7_claim 39 rfl) rfl rfl ?_
    obtain ⟨h9, h⟩ := h
    obtain ⟨x10, ex10⟩ : ∃ z, z = si x4 76 (l2 : Int32).toNatClampNeg r3 := ⟨_, rfl⟩
    have h := h x10 ex10
    refine T_iast 76 4 (dk dtk_X7_claim 40 rfl) kk_76 (kl_76 hq) h9 ?_
    rw [← ex10]
    refine T_aload_n 1 (dk dtk_X7_claim 41 rfl) rfl rfl ?_
    refine T_getR 100 2 60 (dk dtk_X7_claim 42 rfl) kfl_X7_19 kk_100 (kl_100 hq) (by decide) rfl kr_100_2 ?_
    refine T_dup (dk dtk_X7_claim 43 rfl) rfl ?_
    refine T_getI 60 14 (dk dtk_X7_claim 44 rfl) kfl_X7_195 kk_60 (kl_60 hq) (by decide) rfl ?_
    refine T_iconst (v := 1) (dk dtk_X7_claim 45 rfl) (by decide +kernel) ?_
    refine T_iadd (dk dtk_X7_claim 46 rfl) ?_
    obtain ⟨x11, ex11⟩ : ∃ z, z = si x10 60 14 ((x10.1 60 14) + 1) := ⟨_, rfl⟩
    have h := h x11 ex11
    refine T_putI 60 14 (dk dtk_X7_claim 47 rfl) kfl_X7_195 kk_60 (kl_60 hq) (by decide) rfl ⟨rfl, rfl⟩ ?_
    rw [← ex11]
    refine T_goto 116 (dk dtk_X7_claim 48 rfl) (by decide) ?_
    exact KE_vret (dk dtk_X7_claim 62 rfl) rfl h
set_option maxRecDepth 100000 in
theorem dtk_X7_enter : dck cX7_enter [(0, .aload_n 0, 1), (1, .getfield 184, 3), (4, .bipush 20, 2), (6, .if_icmp .ge 46, 3), (9, .aload_n 0, 1), (10, .getfield 34, 3), (13, .aload_n 0, 1), (14, .getfield 184, 3), (17, .iload_n 1, 1), (18, .iastore, 1), (19, .aload_n 0, 1), (20, .getfield 37, 3), (23, .aload_n 0, 1), (24, .getfield 184, 3), (27, .iload_n 2, 1), (28, .iastore, 1), (29, .aload_n 0, 1), (30, .getfield 40, 3), (33, .aload_n 0, 1), (34, .getfield 184, 3), (37, .aload_n 0, 1), (38, .getfield 181, 3), (41, .iastore, 1), (42, .aload_n 0, 1), (43, .dup, 1), (44, .getfield 184, 3), (47, .iconst 1, 1), (48, .iadd, 1), (49, .putfield 184, 3), (52, .return_, 1)] = true := by decide +kernel
set_option maxRecDepth 100000 in
set_option maxHeartbeats 4000000 in
theorem kg_X7_enter_0 {G : kG} {q : kP} {d : Nat} {x : gd} {P : Option gv → gd → Prop} (hq : kV q) (l1 : Int32) (l2 : Int32)
    (h : (((20 : Int32) ≤ (x.1 100 13) → P none x) ∧ (¬ ((20 : Int32) ≤ (x.1 100 13)) → vp_in (x.1 100 13) 20 ∧ (∀ x3 : gd, x3 = si x 111 (x.1 100 13 : Int32).toNatClampNeg l1 → vp_in (x3.1 100 13) 20 ∧ (∀ x5 : gd, x5 = si x3 112 (x3.1 100 13 : Int32).toNatClampNeg l2 → vp_in (x5.1 100 13) 20 ∧ (∀ x7 : gd, x7 = si x5 113 (x5.1 100 13 : Int32).toNatClampNeg (x5.1 100 9) → (∀ x8 : gd, x8 = si x7 100 13 ((x7.1 100 13) + 1) → P none x8))))))) :
    KT G q d zk_X7_enter 0 [(0, vr 100), (1, vi l1), (2, vi l2)] [] x P := by
  refine T_aload_n 0 (dk dtk_X7_enter 0 rfl) rfl rfl ?_
  refine T_getI 100 13 (dk dtk_X7_enter 1 rfl) kfl_X7_184 kk_100 (kl_100 hq) (by decide) rfl ?_
  refine T_bipush (v := 20) (dk dtk_X7_enter 2 rfl) (by decide +kernel) ?_
  refine T_icmp_ge 52 (dk dtk_X7_enter 3 rfl) (by decide) (fun c1 => ?_) (fun c1 => ?_)
  · have h := h.1 c1
    exact KT_vret (dk dtk_X7_enter 29 rfl) rfl h
  · have h := h.2 c1
    refine T_aload_n 0 (dk dtk_X7_enter 4 rfl) rfl rfl ?_
    refine T_getR 100 10 111 (dk dtk_X7_enter 5 rfl) kfl_X7_34 kk_100 (kl_100 hq) (by decide) rfl kr_100_10 ?_
    refine T_aload_n 0 (dk dtk_X7_enter 6 rfl) rfl rfl ?_
    refine T_getI 100 13 (dk dtk_X7_enter 7 rfl) kfl_X7_184 kk_100 (kl_100 hq) (by decide) rfl ?_
    refine T_iload_n 1 (dk dtk_X7_enter 8 rfl) rfl rfl ?_
    obtain ⟨h2, h⟩ := h
    obtain ⟨x3, ex3⟩ : ∃ z, z = si x 111 (x.1 100 13 : Int32).toNatClampNeg l1 := ⟨_, rfl⟩
    have h := h x3 ex3
    refine T_iast 111 20 (dk dtk_X7_enter 9 rfl) kk_111 (kl_111 hq) h2 ?_
    rw [← ex3]
    refine T_aload_n 0 (dk dtk_X7_enter 10 rfl) rfl rfl ?_
    refine T_getR 100 11 112 (dk dtk_X7_enter 11 rfl) kfl_X7_37 kk_100 (kl_100 hq) (by decide) rfl kr_100_11 ?_
    refine T_aload_n 0 (dk dtk_X7_enter 12 rfl) rfl rfl ?_
    refine T_getI 100 13 (dk dtk_X7_enter 13 rfl) kfl_X7_184 kk_100 (kl_100 hq) (by decide) rfl ?_
    refine T_iload_n 2 (dk dtk_X7_enter 14 rfl) rfl rfl ?_
    obtain ⟨h4, h⟩ := h
    obtain ⟨x5, ex5⟩ : ∃ z, z = si x3 112 (x3.1 100 13 : Int32).toNatClampNeg l2 := ⟨_, rfl⟩
    have h := h x5 ex5
    refine T_iast 112 20 (dk dtk_X7_enter 15 rfl) kk_112 (kl_112 hq) h4 ?_
    rw [← ex5]
    refine T_aload_n 0 (dk dtk_X7_enter 16 rfl) rfl rfl ?_
    refine T_getR 100 12 113 (dk dtk_X7_enter 17 rfl) kfl_X7_40 kk_100 (kl_100 hq) (by decide) rfl kr_100_12 ?_
    refine T_aload_n 0 (dk dtk_X7_enter 18 rfl) rfl rfl ?_
    refine T_getI 100 13 (dk dtk_X7_enter 19 rfl) kfl_X7_184 kk_100 (kl_100 hq) (by decide) rfl ?_
    refine T_aload_n 0 (dk dtk_X7_enter 20 rfl) rfl rfl ?_
    refine T_getI 100 9 (dk dtk_X7_enter 21 rfl) kfl_X7_181 kk_100 (kl_100 hq) (by decide) rfl ?_
    obtain ⟨h6, h⟩ := h
    obtain ⟨x7, ex7⟩ : ∃ z, z = si x5 113 (x5.1 100 13 : Int32).toNatClampNeg (x5.1 100 9) := ⟨_, rfl⟩
    have h := h x7 ex7
    refine T_iast 113 20 (dk dtk_X7_enter 22 rfl) kk_113 (kl_113 hq) h6 ?_
    rw [← ex7]
    refine T_aload_n 0 (dk dtk_X7_enter 23 rfl) rfl rfl ?_
    refine T_dup (dk dtk_X7_enter 24 rfl) rfl ?_
    refine T_getI 100 13 (dk dtk_X7_enter 25 rfl) kfl_X7_184 kk_100 (kl_100 hq) (by decide) rfl ?_
    refine T_iconst (v := 1) (dk dtk_X7_enter 26 rfl) (by decide +kernel) ?_
    refine T_iadd (dk dtk_X7_enter 27 rfl) ?_
    obtain ⟨x8, ex8⟩ : ∃ z, z = si x7 100 13 ((x7.1 100 13) + 1) := ⟨_, rfl⟩
    have h := h x8 ex8
    refine T_putI 100 13 (dk dtk_X7_enter 28 rfl) kfl_X7_184 kk_100 (kl_100 hq) (by decide) rfl ⟨rfl, rfl⟩ ?_
    rw [← ex8]
    exact KT_vret (dk dtk_X7_enter 29 rfl) rfl h
set_option maxRecDepth 100000 in
theorem dtk_X7_openBlock : dck cX7_openBlock [(0, .aload_n 0, 1), (1, .bipush 23, 2), (3, .invokevirtual 115, 3), (6, .aload_n 0, 1), (7, .iload_n 1, 1), (8, .iload_n 2, 1), (9, .invokevirtual 211, 3), (12, .return_, 1)] = true := by decide +kernel
set_option maxRecDepth 100000 in
set_option maxHeartbeats 4000000 in
theorem kg_X7_openBlock_0 {G : kG} {q : kP} {d : Nat} {x : gd} {P : Option gv → gd → Prop} {X : String → gd → Prop} (hq : kV q) (l1 : Int32) (l2 : Int32)
    (h : KE G q (d + 6) zk_X7_need 0 [(0, vr 100), (1, vi 23)] [] x (rv (fun x1 => KT G q (d + 6) zk_X7_enter 0 [(0, vr 100), (1, vi l1), (2, vi l2)] [] x1 (rv (fun x2 => P none x2)))) X) :
    KE G q (d + 7) zk_X7_openBlock 0 [(0, vr 100), (1, vi l1), (2, vi l2)] [] x P X := by
  refine T_aload_n 0 (dk dtk_X7_openBlock 0 rfl) rfl rfl ?_
  refine T_bipush (v := 23) (dk dtk_X7_openBlock 1 rfl) (by decide +kernel) ?_
  refine KD_Vv [vi 23] [] rfl (dk dtk_X7_openBlock 2 rfl) kcv_X7_115 rfl kk_100 rfl (kl_100 hq) (Nat.le_of_ble_eq_true rfl) (Nat.le_of_ble_eq_true rfl) (gok_i (av_c (gkr (kl_100 hq)) (av_c rfl (av_c rfl av_n))) as_n) rfl h (fun x1 h => ?_)
  refine T_aload_n 0 (dk dtk_X7_openBlock 3 rfl) rfl rfl ?_
  refine T_iload_n 1 (dk dtk_X7_openBlock 4 rfl) rfl rfl ?_
  refine T_iload_n 2 (dk dtk_X7_openBlock 5 rfl) rfl rfl ?_
  refine T_sub (lv2 := []) [] rfl ?_
  refine KC_Vv [vi l1, vi l2] [] rfl (dk dtk_X7_openBlock 6 rfl) kcv_X7_211 rfl kk_100 rfl (kl_100 hq) (Nat.le_of_ble_eq_true rfl) (Nat.le_of_ble_eq_true rfl) (gok_i av_n as_n) rfl h (fun x2 h => ?_)
  exact KE_vret (dk dtk_X7_openBlock 7 rfl) rfl h
set_option maxRecDepth 100000 in
theorem dtk_X7_closeBlock : dck cX7_closeBlock [(0, .aload_n 0, 1), (1, .bipush 24, 2), (3, .invokevirtual 115, 3), (6, .aload_n 0, 1), (7, .dup, 1), (8, .getfield 184, 3), (11, .iconst 1, 1), (12, .isub, 1), (13, .putfield 184, 3), (16, .aload_n 0, 1), (17, .aload_n 0, 1), (18, .getfield 40, 3), (21, .aload_n 0, 1), (22, .getfield 184, 3), (25, .iaload, 1), (26, .putfield 181, 3), (29, .aload_n 0, 1), (30, .getfield 37, 3), (33, .aload_n 0, 1), (34, .getfield 184, 3), (37, .iaload, 1), (38, .istore_n 1, 1), (39, .aload_n 0, 1), (40, .getfield 34, 3), (43, .aload_n 0, 1), (44, .getfield 184, 3), (47, .iaload, 1), (48, .tableswitch 157 1 4 #[32, 82, 124, 149], 32), (80, .aload_n 0, 1), (81, .getfield 29, 3), (84, .getfield 214, 3), (87, .aload_n 0, 1), (88, .getfield 29, 3), (91, .bipush 20, 2), (93, .aload_n 0, 1), (94, .getfield 29, 3), (97, .getfield 217, 3), (100, .iload_n 1, 1), (101, .iaload, 1), (102, .aload_n 0, 1), (103, .getfield 181, 3), (106, .invokevirtual 191, 3), (109, .iload_n 1, 1), (110, .iastore, 1), (111, .aload_n 0, 1), (112, .getfield 29, 3), (115, .getfield 214, 3), (118, .iload_n 1, 1), (119, .aload_n 0, 1), (120, .getfield 29, 3), (123, .getfield 173, 3), (126, .iastore, 1), (127, .goto 82, 3), (130, .aload_n 0, 1), (131, .getfield 29, 3), (134, .getfield 220, 3), (137, .aload_n 0, 1), (138, .getfield 29, 3), (141, .bipush 6, 2), (143, .aload_n 0, 1), (144, .getfield 29, 3), (147, .getfield 217, 3), (150, .iload_n 1, 1), (151, .iaload, 1), (152, .aload_n 0, 1), (153, .getfield 181, 3), (156, .invokevirtual 191, 3), (159, .aload_n 0, 1), (160, .getfield 29, 3), (163, .getfield 220, 3), (166, .iload_n 1, 1), (167, .iaload, 1), (168, .iastore, 1), (169, .goto 40, 3), (172, .aload_n 0, 1), (173, .invokevirtual 71, 3), (176, .bipush 48, 2), (178, .if_icmp .ne 11, 3), (181, .aload_n 0, 1), (182, .iload_n 1, 1), (183, .invokevirtual 223, 3), (186, .goto 23, 3), (189, .aload_n 0, 1), (190, .iload_n 1, 1), (191, .invokevirtual 226, 3), (194, .goto 15, 3), (197, .aload_n 0, 1), (198, .iload_n 1, 1), (199, .invokevirtual 226, 3), (202, .goto 7, 3), (205, .aload_n 0, 1), (206, .invokevirtual 229, 3), (209, .return_, 1)] = true := by decide +kernel
set_option maxRecDepth 100000 in
set_option maxHeartbeats 4000000 in
theorem kg_X7_closeBlock_0 {G : kG} {q : kP} {d : Nat} {x : gd} {P : Option gv → gd → Prop} {X : String → gd → Prop} (hq : kV q) 
    (h : KE G q (d + 6) zk_X7_need 0 [(0, vr 100), (1, vi 24)] [] x (rv (fun x1 => (∀ x2 : gd, x2 = si x1 100 13 ((x1.1 100 13) - 1) → vp_in (x2.1 100 13) 20 ∧ (∀ x4 : gd, x4 = si x2 100 9 (x2.1 113 (x2.1 100 13 : Int32).toNatClampNeg) → vp_in (x4.1 100 13) 20 ∧ vp_in (x4.1 100 13) 20 ∧ ((((x4.1 111 (x4.1 100 13 : Int32).toNatClampNeg) = 1) → vp_in (x4.1 112 (x4.1 100 13 : Int32).toNatClampNeg) 400 ∧ KT G q (d + 6) zk_X8_add 0 [(0, vr 80), (1, vi 20), (2, vi (x4.1 82 (x4.1 112 (x4.1 100 13 : Int32).toNatClampNeg : Int32).toNatClampNeg)), (3, vi (x4.1 100 9))] [] x4 (ri (fun r10 x9 => vp_in r10 400 ∧ (∀ x12 : gd, x12 = si x9 84 (r10 : Int32).toNatClampNeg (x4.1 112 (x4.1 100 13 : Int32).toNatClampNeg) → vp_in (x4.1 112 (x4.1 100 13 : Int32).toNatClampNeg) 400 ∧ (∀ x14 : gd, x14 = si x12 84 (x4.1 112 (x4.1 100 13 : Int32).toNatClampNeg : Int32).toNatClampNeg (x12.1 80 9) → P none x14))))) ∧ (((x4.1 111 (x4.1 100 13 : Int32).toNatClampNeg) = 2) → vp_in (x4.1 112 (x4.1 100 13 : Int32).toNatClampNeg) 400 ∧ KT G q (d + 6) zk_X8_add 0 [(0, vr 80), (1, vi 6), (2, vi (x4.1 82 (x4.1 112 (x4.1 100 13 : Int32).toNatClampNeg : Int32).toNatClampNeg)), (3, vi (x4.1 100 9))] [] x4 (ri (fun r18 x17 => vp_in (x4.1 112 (x4.1 100 13 : Int32).toNatClampNeg) 400 ∧ vp_in r18 400 ∧ (∀ x21 : gd, x21 = si x17 85 (r18 : Int32).toNatClampNeg (x17.1 85 (x4.1 112 (x4.1 100 13 : Int32).toNatClampNeg : Int32).toNatClampNeg) → P none x21)))) ∧ (((x4.1 111 (x4.1 100 13 : Int32).toNatClampNeg) = 3) → KT G q (d + 6) zk_X7_sort 0 [(0, vr 100)] [] x4 (ri (fun r24 x23 => ((¬ (r24 = (48 : Int32)) → KT G q (d + 6) zk_X7_endIf 0 [(0, vr 100), (1, vi (x4.1 112 (x4.1 100 13 : Int32).toNatClampNeg))] [] x23 (rv (fun x26 => P none x26))) ∧ (r24 = (48 : Int32) → KE G q (d + 6) zk_X7_openElse 0 [(0, vr 100), (1, vi (x4.1 112 (x4.1 100 13 : Int32).toNatClampNeg))] [] x23 (rv (fun x27 => P none x27)) X))))) ∧ (((x4.1 111 (x4.1 100 13 : Int32).toNatClampNeg) = 4) → KT G q (d + 6) zk_X7_endIf 0 [(0, vr 100), (1, vi (x4.1 112 (x4.1 100 13 : Int32).toNatClampNeg))] [] x4 (rv (fun x29 => P none x29))) ∧ ((∀ k ∈ [(1 : Int32), (2 : Int32), (3 : Int32), (4 : Int32)], ¬ (x4.1 111 (x4.1 100 13 : Int32).toNatClampNeg) = k) → KT G q (d + 6) zk_X7_endThread 0 [(0, vr 100)] [] x4 (rv (fun x31 => P none x31)))))))) X) :
    KE G q (d + 7) zk_X7_closeBlock 0 [(0, vr 100)] [] x P X := by
  refine T_aload_n 0 (dk dtk_X7_closeBlock 0 rfl) rfl rfl ?_
  refine T_bipush (v := 24) (dk dtk_X7_closeBlock 1 rfl) (by decide +kernel) ?_
  refine KD_Vv [vi 24] [] rfl (dk dtk_X7_closeBlock 2 rfl) kcv_X7_115 rfl kk_100 rfl (kl_100 hq) (Nat.le_of_ble_eq_true rfl) (Nat.le_of_ble_eq_true rfl) (gok_i (av_c (gkr (kl_100 hq)) av_n) as_n) rfl h (fun x1 h => ?_)
  refine T_aload_n 0 (dk dtk_X7_closeBlock 3 rfl) rfl rfl ?_
  refine T_dup (dk dtk_X7_closeBlock 4 rfl) rfl ?_
  refine T_getI 100 13 (dk dtk_X7_closeBlock 5 rfl) kfl_X7_184 kk_100 (kl_100 hq) (by decide) rfl ?_
  refine T_iconst (v := 1) (dk dtk_X7_closeBlock 6 rfl) (by decide +kernel) ?_
  refine T_isub (dk dtk_X7_closeBlock 7 rfl) ?_
  obtain ⟨x2, ex2⟩ : ∃ z, z = si x1 100 13 ((x1.1 100 13) - 1) := ⟨_, rfl⟩
  have h := h x2 ex2
  refine T_putI 100 13 (dk dtk_X7_closeBlock 8 rfl) kfl_X7_184 kk_100 (kl_100 hq) (by decide) rfl ⟨rfl, rfl⟩ ?_
  rw [← ex2]
  refine T_aload_n 0 (dk dtk_X7_closeBlock 9 rfl) rfl rfl ?_
  refine T_aload_n 0 (dk dtk_X7_closeBlock 10 rfl) rfl rfl ?_
  refine T_getR 100 12 113 (dk dtk_X7_closeBlock 11 rfl) kfl_X7_40 kk_100 (kl_100 hq) (by decide) rfl kr_100_12 ?_
  refine T_aload_n 0 (dk dtk_X7_closeBlock 12 rfl) rfl rfl ?_
  refine T_getI 100 13 (dk dtk_X7_closeBlock 13 rfl) kfl_X7_184 kk_100 (kl_100 hq) (by decide) rfl ?_
  obtain ⟨h3, h⟩ := h
  refine T_iald 113 20 (dk dtk_X7_closeBlock 14 rfl) kk_113 (kl_113 hq) h3 ?_
  obtain ⟨x4, ex4⟩ : ∃ z, z = si x2 100 9 (x2.1 113 (x2.1 100 13 : Int32).toNatClampNeg) := ⟨_, rfl⟩
  have h := h x4 ex4
  refine T_putI 100 9 (dk dtk_X7_closeBlock 15 rfl) kfl_X7_181 kk_100 (kl_100 hq) (by decide) rfl ⟨rfl, rfl⟩ ?_
  rw [← ex4]
  refine T_aload_n 0 (dk dtk_X7_closeBlock 16 rfl) rfl rfl ?_
  refine T_getR 100 11 112 (dk dtk_X7_closeBlock 17 rfl) kfl_X7_37 kk_100 (kl_100 hq) (by decide) rfl kr_100_11 ?_
  refine T_aload_n 0 (dk dtk_X7_closeBlock 18 rfl) rfl rfl ?_
  refine T_getI 100 13 (dk dtk_X7_closeBlock 19 rfl) kfl_X7_184 kk_100 (kl_100 hq) (by decide) rfl ?_
  obtain ⟨h5, h⟩ := h
  refine T_iald 112 20 (dk dtk_X7_closeBlock 20 rfl) kk_112 (kl_112 hq) h5 ?_
  refine T_istore_n (lv2 := [(1, vi (x4.1 112 (x4.1 100 13 : Int32).toNatClampNeg)), (0, vr 100)]) (dk dtk_X7_closeBlock 21 rfl) rfl (by decide) rfl ?_
  refine T_aload_n 1 (dk dtk_X7_closeBlock 22 rfl) rfl rfl ?_
  refine T_getR 100 10 111 (dk dtk_X7_closeBlock 23 rfl) kfl_X7_34 kk_100 (kl_100 hq) (by decide) rfl kr_100_10 ?_
  refine T_aload_n 1 (dk dtk_X7_closeBlock 24 rfl) rfl rfl ?_
  refine T_getI 100 13 (dk dtk_X7_closeBlock 25 rfl) kfl_X7_184 kk_100 (kl_100 hq) (by decide) rfl ?_
  obtain ⟨h6, h⟩ := h
  refine T_iald 111 20 (dk dtk_X7_closeBlock 26 rfl) kk_111 (kl_111 hq) h6 ?_
  by_cases c7 : (x4.1 111 (x4.1 100 13 : Int32).toNatClampNeg) = 1
  · have h := h.1 c7
    refine T_table 32 80 (dk dtk_X7_closeBlock 27 rfl) (by decide) (by rw [c7]; decide +kernel) (by decide) ?_
    refine T_aload_n 1 (dk dtk_X7_closeBlock 28 rfl) rfl rfl ?_
    refine T_getR 100 3 80 (dk dtk_X7_closeBlock 29 rfl) kfl_X7_29 kk_100 (kl_100 hq) (by decide) rfl kr_100_3 ?_
    refine T_getR 80 3 84 (dk dtk_X7_closeBlock 30 rfl) kfl_X7_214 kk_80 (kl_80 hq) (by decide) rfl kr_80_3 ?_
    refine T_aload_n 1 (dk dtk_X7_closeBlock 31 rfl) rfl rfl ?_
    refine T_getR 100 3 80 (dk dtk_X7_closeBlock 32 rfl) kfl_X7_29 kk_100 (kl_100 hq) (by decide) rfl kr_100_3 ?_
    refine T_bipush (v := 20) (dk dtk_X7_closeBlock 33 rfl) (by decide +kernel) ?_
    refine T_aload_n 1 (dk dtk_X7_closeBlock 34 rfl) rfl rfl ?_
    refine T_getR 100 3 80 (dk dtk_X7_closeBlock 35 rfl) kfl_X7_29 kk_100 (kl_100 hq) (by decide) rfl kr_100_3 ?_
    refine T_getR 80 1 82 (dk dtk_X7_closeBlock 36 rfl) kfl_X7_217 kk_80 (kl_80 hq) (by decide) rfl kr_80_1 ?_
    refine T_iload_n 0 (dk dtk_X7_closeBlock 37 rfl) rfl rfl ?_
    obtain ⟨h8, h⟩ := h
    refine T_iald 82 400 (dk dtk_X7_closeBlock 38 rfl) kk_82 (kl_82 hq) h8 ?_
    refine T_aload_n 1 (dk dtk_X7_closeBlock 39 rfl) rfl rfl ?_
    refine T_getI 100 9 (dk dtk_X7_closeBlock 40 rfl) kfl_X7_181 kk_100 (kl_100 hq) (by decide) rfl ?_
    refine KC_Vi [vi 20, vi (x4.1 82 (x4.1 112 (x4.1 100 13 : Int32).toNatClampNeg : Int32).toNatClampNeg), vi (x4.1 100 9)] [vr 84] rfl (dk dtk_X7_closeBlock 41 rfl) kcv_X7_191 rfl kk_80 rfl (kl_80 hq) (Nat.le_of_ble_eq_true rfl) (Nat.le_of_ble_eq_true rfl) (gok_i (av_c rfl (av_c (gkr (kl_100 hq)) av_n)) (as_c (gkr (kl_84 hq)) as_n)) rfl h (fun r10 x9 h => ?_)
    refine T_iload_n 0 (dk dtk_X7_closeBlock 42 rfl) rfl rfl ?_
    obtain ⟨h11, h⟩ := h
    obtain ⟨x12, ex12⟩ : ∃ z, z = si x9 84 (r10 : Int32).toNatClampNeg (x4.1 112 (x4.1 100 13 : Int32).toNatClampNeg) := ⟨_, rfl⟩
    have h := h x12 ex12
    refine T_iast 84 400 (dk dtk_X7_closeBlock 43 rfl) kk_84 (kl_84 hq) h11 ?_
    rw [← ex12]
    refine T_aload_n 1 (dk dtk_X7_closeBlock 44 rfl) rfl rfl ?_
    refine T_getR 100 3 80 (dk dtk_X7_closeBlock 45 rfl) kfl_X7_29 kk_100 (kl_100 hq) (by decide) rfl kr_100_3 ?_
    refine T_getR 80 3 84 (dk dtk_X7_closeBlock 46 rfl) kfl_X7_214 kk_80 (kl_80 hq) (by decide) rfl kr_80_3 ?_
    refine T_iload_n 0 (dk dtk_X7_closeBlock 47 rfl) rfl rfl ?_
    refine T_aload_n 1 (dk dtk_X7_closeBlock 48 rfl) rfl rfl ?_
    refine T_getR 100 3 80 (dk dtk_X7_closeBlock 49 rfl) kfl_X7_29 kk_100 (kl_100 hq) (by decide) rfl kr_100_3 ?_
    refine T_getI 80 9 (dk dtk_X7_closeBlock 50 rfl) kfl_X7_173 kk_80 (kl_80 hq) (by decide) rfl ?_
    obtain ⟨h13, h⟩ := h
    obtain ⟨x14, ex14⟩ : ∃ z, z = si x12 84 (x4.1 112 (x4.1 100 13 : Int32).toNatClampNeg : Int32).toNatClampNeg (x12.1 80 9) := ⟨_, rfl⟩
    have h := h x14 ex14
    refine T_iast 84 400 (dk dtk_X7_closeBlock 51 rfl) kk_84 (kl_84 hq) h13 ?_
    rw [← ex14]
    refine T_goto 209 (dk dtk_X7_closeBlock 52 rfl) (by decide) ?_
    exact KE_vret (dk dtk_X7_closeBlock 92 rfl) rfl h
  · have h := h.2
    by_cases c15 : (x4.1 111 (x4.1 100 13 : Int32).toNatClampNeg) = 2
    · have h := h.1 c15
      refine T_table 82 130 (dk dtk_X7_closeBlock 27 rfl) (by decide) (by rw [c15]; decide +kernel) (by decide) ?_
      refine T_aload_n 1 (dk dtk_X7_closeBlock 53 rfl) rfl rfl ?_
      refine T_getR 100 3 80 (dk dtk_X7_closeBlock 54 rfl) kfl_X7_29 kk_100 (kl_100 hq) (by decide) rfl kr_100_3 ?_
      refine T_getR 80 4 85 (dk dtk_X7_closeBlock 55 rfl) kfl_X7_220 kk_80 (kl_80 hq) (by decide) rfl kr_80_4 ?_
      refine T_aload_n 1 (dk dtk_X7_closeBlock 56 rfl) rfl rfl ?_
      refine T_getR 100 3 80 (dk dtk_X7_closeBlock 57 rfl) kfl_X7_29 kk_100 (kl_100 hq) (by decide) rfl kr_100_3 ?_
      refine T_bipush (v := 6) (dk dtk_X7_closeBlock 58 rfl) (by decide +kernel) ?_
      refine T_aload_n 1 (dk dtk_X7_closeBlock 59 rfl) rfl rfl ?_
      refine T_getR 100 3 80 (dk dtk_X7_closeBlock 60 rfl) kfl_X7_29 kk_100 (kl_100 hq) (by decide) rfl kr_100_3 ?_
      refine T_getR 80 1 82 (dk dtk_X7_closeBlock 61 rfl) kfl_X7_217 kk_80 (kl_80 hq) (by decide) rfl kr_80_1 ?_
      refine T_iload_n 0 (dk dtk_X7_closeBlock 62 rfl) rfl rfl ?_
      obtain ⟨h16, h⟩ := h
      refine T_iald 82 400 (dk dtk_X7_closeBlock 63 rfl) kk_82 (kl_82 hq) h16 ?_
      refine T_aload_n 1 (dk dtk_X7_closeBlock 64 rfl) rfl rfl ?_
      refine T_getI 100 9 (dk dtk_X7_closeBlock 65 rfl) kfl_X7_181 kk_100 (kl_100 hq) (by decide) rfl ?_
      refine KC_Vi [vi 6, vi (x4.1 82 (x4.1 112 (x4.1 100 13 : Int32).toNatClampNeg : Int32).toNatClampNeg), vi (x4.1 100 9)] [vr 85] rfl (dk dtk_X7_closeBlock 66 rfl) kcv_X7_191 rfl kk_80 rfl (kl_80 hq) (Nat.le_of_ble_eq_true rfl) (Nat.le_of_ble_eq_true rfl) (gok_i (av_c rfl (av_c (gkr (kl_100 hq)) av_n)) (as_c (gkr (kl_85 hq)) as_n)) rfl h (fun r18 x17 h => ?_)
      refine T_aload_n 1 (dk dtk_X7_closeBlock 67 rfl) rfl rfl ?_
      refine T_getR 100 3 80 (dk dtk_X7_closeBlock 68 rfl) kfl_X7_29 kk_100 (kl_100 hq) (by decide) rfl kr_100_3 ?_
      refine T_getR 80 4 85 (dk dtk_X7_closeBlock 69 rfl) kfl_X7_220 kk_80 (kl_80 hq) (by decide) rfl kr_80_4 ?_
      refine T_iload_n 0 (dk dtk_X7_closeBlock 70 rfl) rfl rfl ?_
      obtain ⟨h19, h⟩ := h
      refine T_iald 85 400 (dk dtk_X7_closeBlock 71 rfl) kk_85 (kl_85 hq) h19 ?_
      obtain ⟨h20, h⟩ := h
      obtain ⟨x21, ex21⟩ : ∃ z, z = si x17 85 (r18 : Int32).toNatClampNeg (x17.1 85 (x4.1 112 (x4.1 100 13 : Int32).toNatClampNeg : Int32).toNatClampNeg) := ⟨_, rfl⟩
      have h := h x21 ex21
      refine T_iast 85 400 (dk dtk_X7_closeBlock 72 rfl) kk_85 (kl_85 hq) h20 ?_
      rw [← ex21]
      refine T_goto 209 (dk dtk_X7_closeBlock 73 rfl) (by decide) ?_
      exact KE_vret (dk dtk_X7_closeBlock 92 rfl) rfl h
    · have h := h.2
      by_cases c22 : (x4.1 111 (x4.1 100 13 : Int32).toNatClampNeg) = 3
      · have h := h.1 c22
        refine T_table 124 172 (dk dtk_X7_closeBlock 27 rfl) (by decide) (by rw [c22]; decide +kernel) (by decide) ?_
        refine T_aload_n 1 (dk dtk_X7_closeBlock 74 rfl) rfl rfl ?_
        refine KC_Vi [] [] rfl (dk dtk_X7_closeBlock 75 rfl) kcv_X7_71 rfl kk_100 rfl (kl_100 hq) (Nat.le_of_ble_eq_true rfl) (Nat.le_of_ble_eq_true rfl) (gok_i (av_c rfl (av_c (gkr (kl_100 hq)) av_n)) as_n) rfl h (fun r24 x23 h => ?_)
        refine T_bipush (v := 48) (dk dtk_X7_closeBlock 76 rfl) (by decide +kernel) ?_
        refine T_icmp_ne 189 (dk dtk_X7_closeBlock 77 rfl) (by decide) (fun c25 => ?_) (fun c25 => ?_)
        · have h := h.1 c25
          refine T_aload_n 1 (dk dtk_X7_closeBlock 82 rfl) rfl rfl ?_
          refine T_iload_n 0 (dk dtk_X7_closeBlock 83 rfl) rfl rfl ?_
          refine T_sub (lv2 := []) [] rfl ?_
          refine KC_Vv [vi (x4.1 112 (x4.1 100 13 : Int32).toNatClampNeg)] [] rfl (dk dtk_X7_closeBlock 84 rfl) kcv_X7_226 rfl kk_100 rfl (kl_100 hq) (Nat.le_of_ble_eq_true rfl) (Nat.le_of_ble_eq_true rfl) (gok_i av_n as_n) rfl h (fun x26 h => ?_)
          refine T_goto 209 (dk dtk_X7_closeBlock 85 rfl) (by decide) ?_
          exact KE_vret (dk dtk_X7_closeBlock 92 rfl) rfl h
        · have h := h.2 c25
          refine T_aload_n 1 (dk dtk_X7_closeBlock 78 rfl) rfl rfl ?_
          refine T_iload_n 0 (dk dtk_X7_closeBlock 79 rfl) rfl rfl ?_
          refine T_sub (lv2 := []) [] rfl ?_
          refine KD_Vv [vi (x4.1 112 (x4.1 100 13 : Int32).toNatClampNeg)] [] rfl (dk dtk_X7_closeBlock 80 rfl) kcv_X7_223 rfl kk_100 rfl (kl_100 hq) (Nat.le_of_ble_eq_true rfl) (Nat.le_of_ble_eq_true rfl) (gok_i av_n as_n) rfl h (fun x27 h => ?_)
          refine T_goto 209 (dk dtk_X7_closeBlock 81 rfl) (by decide) ?_
          exact KE_vret (dk dtk_X7_closeBlock 92 rfl) rfl h
      · have h := h.2
        by_cases c28 : (x4.1 111 (x4.1 100 13 : Int32).toNatClampNeg) = 4
        · have h := h.1 c28
          refine T_table 149 197 (dk dtk_X7_closeBlock 27 rfl) (by decide) (by rw [c28]; decide +kernel) (by decide) ?_
          refine T_aload_n 1 (dk dtk_X7_closeBlock 86 rfl) rfl rfl ?_
          refine T_iload_n 0 (dk dtk_X7_closeBlock 87 rfl) rfl rfl ?_
          refine T_sub (lv2 := []) [] rfl ?_
          refine KC_Vv [vi (x4.1 112 (x4.1 100 13 : Int32).toNatClampNeg)] [] rfl (dk dtk_X7_closeBlock 88 rfl) kcv_X7_226 rfl kk_100 rfl (kl_100 hq) (Nat.le_of_ble_eq_true rfl) (Nat.le_of_ble_eq_true rfl) (gok_i av_n as_n) rfl h (fun x29 h => ?_)
          refine T_goto 209 (dk dtk_X7_closeBlock 89 rfl) (by decide) ?_
          exact KE_vret (dk dtk_X7_closeBlock 92 rfl) rfl h
        · have h := h.2
          have n30 : ∀ k ∈ [(1 : Int32), (2 : Int32), (3 : Int32), (4 : Int32)], ¬ (x4.1 111 (x4.1 100 13 : Int32).toNatClampNeg) = k := (gno c7 (gno c15 (gno c22 (gno c28 gno0))))
          have h := h n30
          refine T_table 157 205 (dk dtk_X7_closeBlock 27 rfl) (by decide) (gtab_d [(1 : Int32), (2 : Int32), (3 : Int32), (4 : Int32)] (by decide +kernel) n30) (by decide) ?_
          refine T_aload_n 1 (dk dtk_X7_closeBlock 90 rfl) rfl rfl ?_
          refine T_sub (lv2 := []) [] rfl ?_
          refine KC_Vv [] [] rfl (dk dtk_X7_closeBlock 91 rfl) kcv_X7_229 rfl kk_100 rfl (kl_100 hq) (Nat.le_of_ble_eq_true rfl) (Nat.le_of_ble_eq_true rfl) (gok_i av_n as_n) rfl h (fun x31 h => ?_)
          exact KE_vret (dk dtk_X7_closeBlock 92 rfl) rfl h
set_option maxRecDepth 100000 in
theorem dtk_X7_openElse : dck cX7_openElse [(0, .aload_n 0, 1), (1, .getfield 29, 3), (4, .bipush 20, 2), (6, .aload_n 0, 1), (7, .getfield 29, 3), (10, .getfield 217, 3), (13, .iload_n 1, 1), (14, .iaload, 1), (15, .aload_n 0, 1), (16, .getfield 181, 3), (19, .invokevirtual 191, 3), (22, .istore_n 2, 1), (23, .aload_n 0, 1), (24, .getfield 29, 3), (27, .getfield 214, 3), (30, .iload_n 1, 1), (31, .aload_n 0, 1), (32, .getfield 29, 3), (35, .getfield 173, 3), (38, .iastore, 1), (39, .aload_n 0, 1), (40, .invokevirtual 112, 3), (43, .aload_n 0, 1), (44, .invokevirtual 71, 3), (47, .bipush 54, 2), (49, .if_icmp .ne 12, 3), (52, .aload_n 0, 1), (53, .iconst 5, 1), (54, .iload_n 2, 1), (55, .invokevirtual 211, 3), (58, .goto 9, 3), (61, .aload_n 0, 1), (62, .iconst 4, 1), (63, .iload_n 2, 1), (64, .invokevirtual 187, 3), (67, .return_, 1)] = true := by decide +kernel
set_option maxRecDepth 100000 in
set_option maxHeartbeats 4000000 in
theorem kg_X7_openElse_0 {G : kG} {q : kP} {d : Nat} {x : gd} {P : Option gv → gd → Prop} {X : String → gd → Prop} (hq : kV q) (l1 : Int32)
    (h : vp_in l1 400 ∧ KT G q (d + 6) zk_X8_add 0 [(0, vr 80), (1, vi 20), (2, vi (x.1 82 (l1 : Int32).toNatClampNeg)), (3, vi (x.1 100 9))] [] x (ri (fun r3 x2 => vp_in l1 400 ∧ (∀ x5 : gd, x5 = si x2 84 (l1 : Int32).toNatClampNeg (x2.1 80 9) → KE G q (d + 6) zk_X7_pass 0 [(0, vr 100)] [] x5 (rv (fun x6 => KT G q (d + 6) zk_X7_sort 0 [(0, vr 100)] [] x6 (ri (fun r8 x7 => ((¬ (r8 = (54 : Int32)) → KE G q (d + 6) zk_X7_openBlock 0 [(0, vr 100), (1, vi 4), (2, vi r3)] [] x7 (rv (fun x10 => P none x10)) X) ∧ (r8 = (54 : Int32) → KT G q (d + 6) zk_X7_enter 0 [(0, vr 100), (1, vi 5), (2, vi r3)] [] x7 (rv (fun x11 => P none x11)))))))) X)))) :
    KE G q (d + 7) zk_X7_openElse 0 [(0, vr 100), (1, vi l1)] [] x P X := by
  refine T_aload_n 0 (dk dtk_X7_openElse 0 rfl) rfl rfl ?_
  refine T_getR 100 3 80 (dk dtk_X7_openElse 1 rfl) kfl_X7_29 kk_100 (kl_100 hq) (by decide) rfl kr_100_3 ?_
  refine T_bipush (v := 20) (dk dtk_X7_openElse 2 rfl) (by decide +kernel) ?_
  refine T_aload_n 0 (dk dtk_X7_openElse 3 rfl) rfl rfl ?_
  refine T_getR 100 3 80 (dk dtk_X7_openElse 4 rfl) kfl_X7_29 kk_100 (kl_100 hq) (by decide) rfl kr_100_3 ?_
  refine T_getR 80 1 82 (dk dtk_X7_openElse 5 rfl) kfl_X7_217 kk_80 (kl_80 hq) (by decide) rfl kr_80_1 ?_
  refine T_iload_n 1 (dk dtk_X7_openElse 6 rfl) rfl rfl ?_
  obtain ⟨h1, h⟩ := h
  refine T_iald 82 400 (dk dtk_X7_openElse 7 rfl) kk_82 (kl_82 hq) h1 ?_
  refine T_aload_n 0 (dk dtk_X7_openElse 8 rfl) rfl rfl ?_
  refine T_getI 100 9 (dk dtk_X7_openElse 9 rfl) kfl_X7_181 kk_100 (kl_100 hq) (by decide) rfl ?_
  refine KC_Vi [vi 20, vi (x.1 82 (l1 : Int32).toNatClampNeg), vi (x.1 100 9)] [] rfl (dk dtk_X7_openElse 10 rfl) kcv_X7_191 rfl kk_80 rfl (kl_80 hq) (Nat.le_of_ble_eq_true rfl) (Nat.le_of_ble_eq_true rfl) (gok_i (av_c (gkr (kl_100 hq)) (av_c rfl av_n)) as_n) rfl h (fun r3 x2 h => ?_)
  refine T_istore_n (lv2 := [(2, vi r3), (0, vr 100), (1, vi l1)]) (dk dtk_X7_openElse 11 rfl) rfl (by decide) rfl ?_
  refine T_aload_n 1 (dk dtk_X7_openElse 12 rfl) rfl rfl ?_
  refine T_getR 100 3 80 (dk dtk_X7_openElse 13 rfl) kfl_X7_29 kk_100 (kl_100 hq) (by decide) rfl kr_100_3 ?_
  refine T_getR 80 3 84 (dk dtk_X7_openElse 14 rfl) kfl_X7_214 kk_80 (kl_80 hq) (by decide) rfl kr_80_3 ?_
  refine T_iload_n 2 (dk dtk_X7_openElse 15 rfl) rfl rfl ?_
  refine T_aload_n 1 (dk dtk_X7_openElse 16 rfl) rfl rfl ?_
  refine T_getR 100 3 80 (dk dtk_X7_openElse 17 rfl) kfl_X7_29 kk_100 (kl_100 hq) (by decide) rfl kr_100_3 ?_
  refine T_getI 80 9 (dk dtk_X7_openElse 18 rfl) kfl_X7_173 kk_80 (kl_80 hq) (by decide) rfl ?_
  obtain ⟨h4, h⟩ := h
  obtain ⟨x5, ex5⟩ : ∃ z, z = si x2 84 (l1 : Int32).toNatClampNeg (x2.1 80 9) := ⟨_, rfl⟩
  have h := h x5 ex5
  refine T_iast 84 400 (dk dtk_X7_openElse 19 rfl) kk_84 (kl_84 hq) h4 ?_
  rw [← ex5]
  refine T_aload_n 1 (dk dtk_X7_openElse 20 rfl) rfl rfl ?_
  refine T_sub (lv2 := [(2, vi r3), (0, vr 100)]) [0, 1] rfl ?_
  refine KD_Vv [] [] rfl (dk dtk_X7_openElse 21 rfl) kcv_X7_112 rfl kk_100 rfl (kl_100 hq) (Nat.le_of_ble_eq_true rfl) (Nat.le_of_ble_eq_true rfl) (gok_i (av_c rfl (av_c (gkr (kl_100 hq)) av_n)) as_n) rfl h (fun x6 h => ?_)
  refine T_aload_n 1 (dk dtk_X7_openElse 22 rfl) rfl rfl ?_
  refine KC_Vi [] [] rfl (dk dtk_X7_openElse 23 rfl) kcv_X7_71 rfl kk_100 rfl (kl_100 hq) (Nat.le_of_ble_eq_true rfl) (Nat.le_of_ble_eq_true rfl) (gok_i (av_c rfl (av_c (gkr (kl_100 hq)) av_n)) as_n) rfl h (fun r8 x7 h => ?_)
  refine T_bipush (v := 54) (dk dtk_X7_openElse 24 rfl) (by decide +kernel) ?_
  refine T_icmp_ne 61 (dk dtk_X7_openElse 25 rfl) (by decide) (fun c9 => ?_) (fun c9 => ?_)
  · have h := h.1 c9
    refine T_aload_n 1 (dk dtk_X7_openElse 31 rfl) rfl rfl ?_
    refine T_iconst (v := 4) (dk dtk_X7_openElse 32 rfl) (by decide +kernel) ?_
    refine T_iload_n 0 (dk dtk_X7_openElse 33 rfl) rfl rfl ?_
    refine T_sub (lv2 := []) [] rfl ?_
    refine KD_Vv [vi 4, vi r3] [] rfl (dk dtk_X7_openElse 34 rfl) kcv_X7_187 rfl kk_100 rfl (kl_100 hq) (Nat.le_of_ble_eq_true rfl) (Nat.le_of_ble_eq_true rfl) (gok_i av_n as_n) rfl h (fun x10 h => ?_)
    exact KE_vret (dk dtk_X7_openElse 35 rfl) rfl h
  · have h := h.2 c9
    refine T_aload_n 1 (dk dtk_X7_openElse 26 rfl) rfl rfl ?_
    refine T_iconst (v := 5) (dk dtk_X7_openElse 27 rfl) (by decide +kernel) ?_
    refine T_iload_n 0 (dk dtk_X7_openElse 28 rfl) rfl rfl ?_
    refine T_sub (lv2 := []) [] rfl ?_
    refine KC_Vv [vi 5, vi r3] [] rfl (dk dtk_X7_openElse 29 rfl) kcv_X7_211 rfl kk_100 rfl (kl_100 hq) (Nat.le_of_ble_eq_true rfl) (Nat.le_of_ble_eq_true rfl) (gok_i av_n as_n) rfl h (fun x11 h => ?_)
    refine T_goto 67 (dk dtk_X7_openElse 30 rfl) (by decide) ?_
    exact KE_vret (dk dtk_X7_openElse 35 rfl) rfl h
set_option maxRecDepth 100000 in
theorem dtk_X7_endIf : dck cX7_endIf [(0, .aload_n 0, 1), (1, .getfield 29, 3), (4, .getfield 214, 3), (7, .iload_n 1, 1), (8, .aload_n 0, 1), (9, .getfield 29, 3), (12, .getfield 173, 3), (15, .iastore, 1), (16, .iconst 0, 1), (17, .istore_n 2, 1), (18, .iload_n 2, 1), (19, .bipush 20, 2), (21, .if_icmp .ge 65, 3), (24, .aload_n 0, 1), (25, .getfield 184, 3), (28, .ifCond .le 58, 3), (31, .aload_n 0, 1), (32, .getfield 34, 3), (35, .aload_n 0, 1), (36, .getfield 184, 3), (39, .iconst 1, 1), (40, .isub, 1), (41, .iaload, 1), (42, .iconst 5, 1), (43, .if_icmp .ne 43, 3), (46, .aload_n 0, 1), (47, .dup, 1), (48, .getfield 184, 3), (51, .iconst 1, 1), (52, .isub, 1), (53, .putfield 184, 3), (56, .aload_n 0, 1), (57, .getfield 29, 3), (60, .getfield 214, 3), (63, .aload_n 0, 1), (64, .getfield 37, 3), (67, .aload_n 0, 1), (68, .getfield 184, 3), (71, .iaload, 1), (72, .aload_n 0, 1), (73, .getfield 29, 3), (76, .getfield 173, 3), (79, .iastore, 1), (80, .iinc 2 1, 3), (83, .goto (-65), 3), (86, .return_, 1)] = true := by decide +kernel
set_option maxRecDepth 100000 in
set_option maxHeartbeats 4000000 in
theorem kg_X7_endIf_0 {G : kG} {q : kP} {d : Nat} {x : gd} {P : Option gv → gd → Prop} (hq : kV q) (l1 : Int32)
    (h : vp_in l1 400 ∧ (∀ x2 : gd, x2 = si x 84 (l1 : Int32).toNatClampNeg (x.1 80 9) → KT G q d zk_X7_endIf 18 [(0, vr 100), (2, vi 0)] [] x2 P)) :
    KT G q d zk_X7_endIf 0 [(0, vr 100), (1, vi l1)] [] x P := by
  refine T_aload_n 0 (dk dtk_X7_endIf 0 rfl) rfl rfl ?_
  refine T_getR 100 3 80 (dk dtk_X7_endIf 1 rfl) kfl_X7_29 kk_100 (kl_100 hq) (by decide) rfl kr_100_3 ?_
  refine T_getR 80 3 84 (dk dtk_X7_endIf 2 rfl) kfl_X7_214 kk_80 (kl_80 hq) (by decide) rfl kr_80_3 ?_
  refine T_iload_n 1 (dk dtk_X7_endIf 3 rfl) rfl rfl ?_
  refine T_aload_n 0 (dk dtk_X7_endIf 4 rfl) rfl rfl ?_
  refine T_getR 100 3 80 (dk dtk_X7_endIf 5 rfl) kfl_X7_29 kk_100 (kl_100 hq) (by decide) rfl kr_100_3 ?_
  refine T_getI 80 9 (dk dtk_X7_endIf 6 rfl) kfl_X7_173 kk_80 (kl_80 hq) (by decide) rfl ?_
  obtain ⟨h1, h⟩ := h
  obtain ⟨x2, ex2⟩ : ∃ z, z = si x 84 (l1 : Int32).toNatClampNeg (x.1 80 9) := ⟨_, rfl⟩
  have h := h x2 ex2
  refine T_iast 84 400 (dk dtk_X7_endIf 7 rfl) kk_84 (kl_84 hq) h1 ?_
  rw [← ex2]
  refine T_iconst (v := 0) (dk dtk_X7_endIf 8 rfl) (by decide +kernel) ?_
  refine T_istore_n (lv2 := [(2, vi 0), (0, vr 100), (1, vi l1)]) (dk dtk_X7_endIf 9 rfl) rfl (by decide) rfl ?_
  exact T_sub [1, 0] rfl h
set_option maxRecDepth 100000 in
set_option maxHeartbeats 4000000 in
theorem kg_X7_endIf_18 {G : kG} {q : kP} {d : Nat} {x : gd} {P : Option gv → gd → Prop} (hq : kV q) (l2 : Int32)
    (h : (((20 : Int32) ≤ l2 → P none x) ∧ (¬ ((20 : Int32) ≤ l2) → (((x.1 100 13) ≤ (0 : Int32) → P none x) ∧ (¬ ((x.1 100 13) ≤ (0 : Int32)) → vp_in ((x.1 100 13) - 1) 20 ∧ ((¬ ((x.1 111 ((x.1 100 13) - 1 : Int32).toNatClampNeg) = (5 : Int32)) → P none x) ∧ ((x.1 111 ((x.1 100 13) - 1 : Int32).toNatClampNeg) = (5 : Int32) → (∀ x5 : gd, x5 = si x 100 13 ((x.1 100 13) - 1) → vp_in (x5.1 100 13) 20 ∧ vp_in (x5.1 112 (x5.1 100 13 : Int32).toNatClampNeg) 400 ∧ (∀ x8 : gd, x8 = si x5 84 (x5.1 112 (x5.1 100 13 : Int32).toNatClampNeg : Int32).toNatClampNeg (x5.1 80 9) → KT G q d zk_X7_endIf 18 [(0, vr 100), (2, vi (l2 + 1))] [] x8 P))))))))) :
    KT G q d zk_X7_endIf 18 [(0, vr 100), (2, vi l2)] [] x P := by
  refine T_iload_n 1 (dk dtk_X7_endIf 10 rfl) rfl rfl ?_
  refine T_bipush (v := 20) (dk dtk_X7_endIf 11 rfl) (by decide +kernel) ?_
  refine T_icmp_ge 86 (dk dtk_X7_endIf 12 rfl) (by decide) (fun c1 => ?_) (fun c1 => ?_)
  · have h := h.1 c1
    exact KT_vret (dk dtk_X7_endIf 45 rfl) rfl h
  · have h := h.2 c1
    refine T_aload_n 0 (dk dtk_X7_endIf 13 rfl) rfl rfl ?_
    refine T_getI 100 13 (dk dtk_X7_endIf 14 rfl) kfl_X7_184 kk_100 (kl_100 hq) (by decide) rfl ?_
    refine T_if_le 86 (dk dtk_X7_endIf 15 rfl) (by decide) (fun c2 => ?_) (fun c2 => ?_)
    · have h := h.1 c2
      exact KT_vret (dk dtk_X7_endIf 45 rfl) rfl h
    · have h := h.2 c2
      refine T_aload_n 0 (dk dtk_X7_endIf 16 rfl) rfl rfl ?_
      refine T_getR 100 10 111 (dk dtk_X7_endIf 17 rfl) kfl_X7_34 kk_100 (kl_100 hq) (by decide) rfl kr_100_10 ?_
      refine T_aload_n 0 (dk dtk_X7_endIf 18 rfl) rfl rfl ?_
      refine T_getI 100 13 (dk dtk_X7_endIf 19 rfl) kfl_X7_184 kk_100 (kl_100 hq) (by decide) rfl ?_
      refine T_iconst (v := 1) (dk dtk_X7_endIf 20 rfl) (by decide +kernel) ?_
      refine T_isub (dk dtk_X7_endIf 21 rfl) ?_
      obtain ⟨h3, h⟩ := h
      refine T_iald 111 20 (dk dtk_X7_endIf 22 rfl) kk_111 (kl_111 hq) h3 ?_
      refine T_iconst (v := 5) (dk dtk_X7_endIf 23 rfl) (by decide +kernel) ?_
      refine T_icmp_ne 86 (dk dtk_X7_endIf 24 rfl) (by decide) (fun c4 => ?_) (fun c4 => ?_)
      · have h := h.1 c4
        exact KT_vret (dk dtk_X7_endIf 45 rfl) rfl h
      · have h := h.2 c4
        refine T_aload_n 0 (dk dtk_X7_endIf 25 rfl) rfl rfl ?_
        refine T_dup (dk dtk_X7_endIf 26 rfl) rfl ?_
        refine T_getI 100 13 (dk dtk_X7_endIf 27 rfl) kfl_X7_184 kk_100 (kl_100 hq) (by decide) rfl ?_
        refine T_iconst (v := 1) (dk dtk_X7_endIf 28 rfl) (by decide +kernel) ?_
        refine T_isub (dk dtk_X7_endIf 29 rfl) ?_
        obtain ⟨x5, ex5⟩ : ∃ z, z = si x 100 13 ((x.1 100 13) - 1) := ⟨_, rfl⟩
        have h := h x5 ex5
        refine T_putI 100 13 (dk dtk_X7_endIf 30 rfl) kfl_X7_184 kk_100 (kl_100 hq) (by decide) rfl ⟨rfl, rfl⟩ ?_
        rw [← ex5]
        refine T_aload_n 0 (dk dtk_X7_endIf 31 rfl) rfl rfl ?_
        refine T_getR 100 3 80 (dk dtk_X7_endIf 32 rfl) kfl_X7_29 kk_100 (kl_100 hq) (by decide) rfl kr_100_3 ?_
        refine T_getR 80 3 84 (dk dtk_X7_endIf 33 rfl) kfl_X7_214 kk_80 (kl_80 hq) (by decide) rfl kr_80_3 ?_
        refine T_aload_n 0 (dk dtk_X7_endIf 34 rfl) rfl rfl ?_
        refine T_getR 100 11 112 (dk dtk_X7_endIf 35 rfl) kfl_X7_37 kk_100 (kl_100 hq) (by decide) rfl kr_100_11 ?_
        refine T_aload_n 0 (dk dtk_X7_endIf 36 rfl) rfl rfl ?_
        refine T_getI 100 13 (dk dtk_X7_endIf 37 rfl) kfl_X7_184 kk_100 (kl_100 hq) (by decide) rfl ?_
        obtain ⟨h6, h⟩ := h
        refine T_iald 112 20 (dk dtk_X7_endIf 38 rfl) kk_112 (kl_112 hq) h6 ?_
        refine T_aload_n 0 (dk dtk_X7_endIf 39 rfl) rfl rfl ?_
        refine T_getR 100 3 80 (dk dtk_X7_endIf 40 rfl) kfl_X7_29 kk_100 (kl_100 hq) (by decide) rfl kr_100_3 ?_
        refine T_getI 80 9 (dk dtk_X7_endIf 41 rfl) kfl_X7_173 kk_80 (kl_80 hq) (by decide) rfl ?_
        obtain ⟨h7, h⟩ := h
        obtain ⟨x8, ex8⟩ : ∃ z, z = si x5 84 (x5.1 112 (x5.1 100 13 : Int32).toNatClampNeg : Int32).toNatClampNeg (x5.1 80 9) := ⟨_, rfl⟩
        have h := h x8 ex8
        refine T_iast 84 400 (dk dtk_X7_endIf 42 rfl) kk_84 (kl_84 hq) h7 ?_
        rw [← ex8]
        refine T_iinc (v := l2 + 1) (lv2 := [(2, vi (l2 + 1)), (0, vr 100)]) 1 (dk dtk_X7_endIf 43 rfl) rfl rfl (by decide) rfl ?_
        refine T_goto 18 (dk dtk_X7_endIf 44 rfl) (by decide) ?_
        exact T_sub [1, 0] rfl h
set_option maxRecDepth 100000 in
theorem dtk_X7_testStatement : dck cX7_testStatement [(0, .aload_n 0, 1), (1, .getfield 11, 3), (4, .getfield 232, 3), (7, .aload_n 0, 1), (8, .getfield 52, 3), (11, .iaload, 1), (12, .istore_n 2, 1), (13, .aload_n 0, 1), (14, .invokevirtual 112, 3), (17, .aload_n 0, 1), (18, .aload_n 0, 1), (19, .getfield 184, 3), (22, .iconst 1, 1), (23, .iadd, 1), (24, .invokevirtual 201, 3), (27, .istore_n 3, 1), (28, .aload_n 0, 1), (29, .getfield 29, 3), (32, .bipush 17, 2), (34, .iload_n 2, 1), (35, .aload_n 0, 1), (36, .getfield 181, 3), (39, .invokevirtual 191, 3), (42, .istore 4, 2), (44, .aload_n 0, 1), (45, .getfield 29, 3), (48, .getfield 233, 3), (51, .iload 4, 2), (53, .iload_n 3, 1), (54, .iastore, 1), (55, .aload_n 0, 1), (56, .iload_n 1, 1), (57, .iload 4, 2), (59, .invokevirtual 187, 3), (62, .return_, 1)] = true := by decide +kernel
set_option maxRecDepth 100000 in
set_option maxHeartbeats 4000000 in
theorem kg_X7_testStatement_0 {G : kG} {q : kP} {d : Nat} {x : gd} {P : Option gv → gd → Prop} {X : String → gd → Prop} (hq : kV q) (l1 : Int32)
    (h : vp_in (x.1 100 4) 702 ∧ KE G q (d + 6) zk_X7_pass 0 [(0, vr 100)] [] x (rv (fun x2 => KE G q (d + 6) zk_X7_sum 0 [(0, vr 100), (1, vi ((x2.1 100 13) + 1))] [] x2 (ri (fun r4 x3 => KT G q (d + 6) zk_X8_add 0 [(0, vr 80), (1, vi 17), (2, vi (x.1 25 (x.1 100 4 : Int32).toNatClampNeg)), (3, vi (x3.1 100 9))] [] x3 (ri (fun r6 x5 => vp_in r6 400 ∧ (∀ x8 : gd, x8 = si x5 88 (r6 : Int32).toNatClampNeg r4 → KE G q (d + 6) zk_X7_openBlock 0 [(0, vr 100), (1, vi l1), (2, vi r6)] [] x8 (rv (fun x9 => P none x9)) X))))) X)) X) :
    KE G q (d + 7) zk_X7_testStatement 0 [(0, vr 100), (1, vi l1)] [] x P X := by
  refine T_aload_n 0 (dk dtk_X7_testStatement 0 rfl) rfl rfl ?_
  refine T_getR 100 0 20 (dk dtk_X7_testStatement 1 rfl) kfl_X7_11 kk_100 (kl_100 hq) (by decide) rfl kr_100_0 ?_
  refine T_getR 20 4 25 (dk dtk_X7_testStatement 2 rfl) kfl_X7_232 kk_20 (kl_20 hq) (by decide) rfl kr_20_4 ?_
  refine T_aload_n 0 (dk dtk_X7_testStatement 3 rfl) rfl rfl ?_
  refine T_getI 100 4 (dk dtk_X7_testStatement 4 rfl) kfl_X7_52 kk_100 (kl_100 hq) (by decide) rfl ?_
  obtain ⟨h1, h⟩ := h
  refine T_iald 25 702 (dk dtk_X7_testStatement 5 rfl) kk_25 (kl_25 hq) h1 ?_
  refine T_istore_n (lv2 := [(2, vi (x.1 25 (x.1 100 4 : Int32).toNatClampNeg)), (0, vr 100), (1, vi l1)]) (dk dtk_X7_testStatement 6 rfl) rfl (by decide) rfl ?_
  refine T_aload_n 1 (dk dtk_X7_testStatement 7 rfl) rfl rfl ?_
  refine KD_Vv [] [] rfl (dk dtk_X7_testStatement 8 rfl) kcv_X7_112 rfl kk_100 rfl (kl_100 hq) (Nat.le_of_ble_eq_true rfl) (Nat.le_of_ble_eq_true rfl) (gok_i (av_c rfl (av_c (gkr (kl_100 hq)) (av_c rfl av_n))) as_n) rfl h (fun x2 h => ?_)
  refine T_aload_n 1 (dk dtk_X7_testStatement 9 rfl) rfl rfl ?_
  refine T_aload_n 1 (dk dtk_X7_testStatement 10 rfl) rfl rfl ?_
  refine T_getI 100 13 (dk dtk_X7_testStatement 11 rfl) kfl_X7_184 kk_100 (kl_100 hq) (by decide) rfl ?_
  refine T_iconst (v := 1) (dk dtk_X7_testStatement 12 rfl) (by decide +kernel) ?_
  refine T_iadd (dk dtk_X7_testStatement 13 rfl) ?_
  refine KD_Vi [vi ((x2.1 100 13) + 1)] [] rfl (dk dtk_X7_testStatement 14 rfl) kcv_X7_201 rfl kk_100 rfl (kl_100 hq) (Nat.le_of_ble_eq_true rfl) (Nat.le_of_ble_eq_true rfl) (gok_i (av_c rfl (av_c (gkr (kl_100 hq)) (av_c rfl av_n))) as_n) rfl h (fun r4 x3 h => ?_)
  refine T_istore_n (lv2 := [(3, vi r4), (2, vi (x.1 25 (x.1 100 4 : Int32).toNatClampNeg)), (0, vr 100), (1, vi l1)]) (dk dtk_X7_testStatement 15 rfl) rfl (by decide) rfl ?_
  refine T_aload_n 2 (dk dtk_X7_testStatement 16 rfl) rfl rfl ?_
  refine T_getR 100 3 80 (dk dtk_X7_testStatement 17 rfl) kfl_X7_29 kk_100 (kl_100 hq) (by decide) rfl kr_100_3 ?_
  refine T_bipush (v := 17) (dk dtk_X7_testStatement 18 rfl) (by decide +kernel) ?_
  refine T_iload_n 1 (dk dtk_X7_testStatement 19 rfl) rfl rfl ?_
  refine T_aload_n 2 (dk dtk_X7_testStatement 20 rfl) rfl rfl ?_
  refine T_getI 100 9 (dk dtk_X7_testStatement 21 rfl) kfl_X7_181 kk_100 (kl_100 hq) (by decide) rfl ?_
  refine T_sub (lv2 := [(3, vi r4), (0, vr 100), (1, vi l1)]) [0, 2, 3] rfl ?_
  refine KC_Vi [vi 17, vi (x.1 25 (x.1 100 4 : Int32).toNatClampNeg), vi (x3.1 100 9)] [] rfl (dk dtk_X7_testStatement 22 rfl) kcv_X7_191 rfl kk_80 rfl (kl_80 hq) (Nat.le_of_ble_eq_true rfl) (Nat.le_of_ble_eq_true rfl) (gok_i (av_c rfl (av_c (gkr (kl_100 hq)) (av_c rfl av_n))) as_n) rfl h (fun r6 x5 h => ?_)
  refine T_istore (lv2 := [(4, vi r6), (3, vi r4), (0, vr 100), (1, vi l1)]) (dk dtk_X7_testStatement 23 rfl) (by decide) rfl ?_
  refine T_aload_n 2 (dk dtk_X7_testStatement 24 rfl) rfl rfl ?_
  refine T_getR 100 3 80 (dk dtk_X7_testStatement 25 rfl) kfl_X7_29 kk_100 (kl_100 hq) (by decide) rfl kr_100_3 ?_
  refine T_getR 80 7 88 (dk dtk_X7_testStatement 26 rfl) kfl_X7_233 kk_80 (kl_80 hq) (by decide) rfl kr_80_7 ?_
  refine T_iload 0 (dk dtk_X7_testStatement 27 rfl) rfl ?_
  refine T_iload_n 1 (dk dtk_X7_testStatement 28 rfl) rfl rfl ?_
  obtain ⟨h7, h⟩ := h
  obtain ⟨x8, ex8⟩ : ∃ z, z = si x5 88 (r6 : Int32).toNatClampNeg r4 := ⟨_, rfl⟩
  have h := h x8 ex8
  refine T_iast 88 400 (dk dtk_X7_testStatement 29 rfl) kk_88 (kl_88 hq) h7 ?_
  rw [← ex8]
  refine T_aload_n 2 (dk dtk_X7_testStatement 30 rfl) rfl rfl ?_
  refine T_iload_n 3 (dk dtk_X7_testStatement 31 rfl) rfl rfl ?_
  refine T_iload 0 (dk dtk_X7_testStatement 32 rfl) rfl ?_
  refine T_sub (lv2 := []) [] rfl ?_
  refine KD_Vv [vi l1, vi r6] [] rfl (dk dtk_X7_testStatement 33 rfl) kcv_X7_187 rfl kk_100 rfl (kl_100 hq) (Nat.le_of_ble_eq_true rfl) (Nat.le_of_ble_eq_true rfl) (gok_i av_n as_n) rfl h (fun x9 h => ?_)
  exact KE_vret (dk dtk_X7_testStatement 34 rfl) rfl h
end
