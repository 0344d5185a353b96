set_option maxRecDepth 100000 in
theorem dtk_X1_clear : dck cX1_clear [(0, .aload_n 0, 1), (1, .iload_n 1, 1), (2, .putfield 7, 3), (5, .aload_n 0, 1), (6, .iload_n 2, 1), (7, .putfield 13, 3), (10, .aload_n 0, 1), (11, .iload_n 3, 1), (12, .putfield 16, 3), (15, .aload_n 0, 1), (16, .iconst 0, 1), (17, .putfield 19, 3), (20, .aload_n 0, 1), (21, .iconst 0, 1), (22, .putfield 22, 3), (25, .aload_n 0, 1), (26, .iconst 0, 1), (27, .putfield 25, 3), (30, .aload_n 0, 1), (31, .iconst 0, 1), (32, .putfield 29, 3), (35, .return_, 1)] = true := by decide +kernel
set_option maxRecDepth 100000 in
set_option maxHeartbeats 4000000 in
theorem kg_X1_clear_0 {G : kG} {q : kP} {d : Nat} {x : gd} {P : Option gv → gd → Prop} (hq : kV q) {o : Nat} (ho : kiD q o) (l1 : Int32) (l2 : Int32) (l3 : Int32)
    (h : (∀ x1 : gd, x1 = si x o 0 l1 → (∀ x2 : gd, x2 = si x1 o 1 l2 → (∀ x3 : gd, x3 = si x2 o 2 l3 → (∀ x4 : gd, x4 = si x3 o 3 0 → (∀ x5 : gd, x5 = si x4 o 4 0 → (∀ x6 : gd, x6 = si x5 o 5 0 → (∀ x7 : gd, x7 = si x6 o 6 0 → P none x7)))))))) :
    KT G q d zk_X1_clear 0 [(0, vr o), (1, vi l1), (2, vi l2), (3, vi l3)] [] x P := by
  refine T_aload_n 0 (dk dtk_X1_clear 0 rfl) rfl rfl ?_
  refine T_iload_n 1 (dk dtk_X1_clear 1 rfl) rfl rfl ?_
  obtain ⟨x1, ex1⟩ : ∃ z, z = si x o 0 l1 := ⟨_, rfl⟩
  have h := h x1 ex1
  refine T_putI o 0 (dk dtk_X1_clear 2 rfl) kfl_X1_7 (kk_D0 ho) (kl_D0 hq ho) (by decide) rfl ⟨rfl, rfl⟩ ?_
  rw [← ex1]
  refine T_aload_n 0 (dk dtk_X1_clear 3 rfl) rfl rfl ?_
  refine T_iload_n 2 (dk dtk_X1_clear 4 rfl) rfl rfl ?_
  obtain ⟨x2, ex2⟩ : ∃ z, z = si x1 o 1 l2 := ⟨_, rfl⟩
  have h := h x2 ex2
  refine T_putI o 1 (dk dtk_X1_clear 5 rfl) kfl_X1_13 (kk_D0 ho) (kl_D0 hq ho) (by decide) rfl ⟨rfl, rfl⟩ ?_
  rw [← ex2]
  refine T_aload_n 0 (dk dtk_X1_clear 6 rfl) rfl rfl ?_
  refine T_iload_n 3 (dk dtk_X1_clear 7 rfl) rfl rfl ?_
  obtain ⟨x3, ex3⟩ : ∃ z, z = si x2 o 2 l3 := ⟨_, rfl⟩
  have h := h x3 ex3
  refine T_putI o 2 (dk dtk_X1_clear 8 rfl) kfl_X1_16 (kk_D0 ho) (kl_D0 hq ho) (by decide) rfl ⟨rfl, rfl⟩ ?_
  rw [← ex3]
  refine T_aload_n 0 (dk dtk_X1_clear 9 rfl) rfl rfl ?_
  refine T_iconst (v := 0) (dk dtk_X1_clear 10 rfl) (by decide +kernel) ?_
  obtain ⟨x4, ex4⟩ : ∃ z, z = si x3 o 3 0 := ⟨_, rfl⟩
  have h := h x4 ex4
  refine T_putI o 3 (dk dtk_X1_clear 11 rfl) kfl_X1_19 (kk_D0 ho) (kl_D0 hq ho) (by decide) rfl ⟨rfl, rfl⟩ ?_
  rw [← ex4]
  refine T_aload_n 0 (dk dtk_X1_clear 12 rfl) rfl rfl ?_
  refine T_iconst (v := 0) (dk dtk_X1_clear 13 rfl) (by decide +kernel) ?_
  obtain ⟨x5, ex5⟩ : ∃ z, z = si x4 o 4 0 := ⟨_, rfl⟩
  have h := h x5 ex5
  refine T_putI o 4 (dk dtk_X1_clear 14 rfl) kfl_X1_22 (kk_D0 ho) (kl_D0 hq ho) (by decide) rfl ⟨rfl, rfl⟩ ?_
  rw [← ex5]
  refine T_aload_n 0 (dk dtk_X1_clear 15 rfl) rfl rfl ?_
  refine T_iconst (v := 0) (dk dtk_X1_clear 16 rfl) (by decide +kernel) ?_
  obtain ⟨x6, ex6⟩ : ∃ z, z = si x5 o 5 0 := ⟨_, rfl⟩
  have h := h x6 ex6
  refine T_putI o 5 (dk dtk_X1_clear 17 rfl) kfl_X1_25 (kk_D0 ho) (kl_D0 hq ho) (by decide) rfl ⟨rfl, rfl⟩ ?_
  rw [← ex6]
  refine T_aload_n 0 (dk dtk_X1_clear 18 rfl) rfl rfl ?_
  refine T_iconst (v := 0) (dk dtk_X1_clear 19 rfl) (by decide +kernel) ?_
  obtain ⟨x7, ex7⟩ : ∃ z, z = si x6 o 6 0 := ⟨_, rfl⟩
  have h := h x7 ex7
  refine T_putI o 6 (dk dtk_X1_clear 20 rfl) kfl_X1_29 (kk_D0 ho) (kl_D0 hq ho) (by decide) rfl ⟨rfl, rfl⟩ ?_
  rw [← ex7]
  exact KT_vret (dk dtk_X1_clear 21 rfl) rfl h
set_option maxRecDepth 100000 in
theorem dtk_X8_add : dck cX8_add [(0, .aload_n 0, 1), (1, .getfield 39, 3), (4, .aload_n 0, 1), (5, .getfield 9, 3), (8, .arraylength, 1), (9, .if_icmp .ge 10, 3), (12, .aload_n 0, 1), (13, .getfield 39, 3), (16, .goto 10, 3), (19, .aload_n 0, 1), (20, .getfield 9, 3), (23, .arraylength, 1), (24, .iconst 1, 1), (25, .isub, 1), (26, .istore 4, 2), (28, .aload_n 0, 1), (29, .getfield 9, 3), (32, .iload 4, 2), (34, .iload_n 1, 1), (35, .iastore, 1), (36, .aload_n 0, 1), (37, .getfield 15, 3), (40, .iload 4, 2), (42, .iload_n 2, 1), (43, .iastore, 1), (44, .aload_n 0, 1), (45, .getfield 18, 3), (48, .iload 4, 2), (50, .iload_n 3, 1), (51, .iastore, 1), (52, .aload_n 0, 1), (53, .getfield 21, 3), (56, .iload 4, 2), (58, .iconst (-1), 1), (59, .iastore, 1), (60, .aload_n 0, 1), (61, .getfield 24, 3), (64, .iload 4, 2), (66, .iconst (-1), 1), (67, .iastore, 1), (68, .aload_n 0, 1), (69, .getfield 27, 3), (72, .iload 4, 2), (74, .iconst 0, 1), (75, .iastore, 1), (76, .aload_n 0, 1), (77, .getfield 30, 3), (80, .iload 4, 2), (82, .iconst (-1), 1), (83, .iastore, 1), (84, .aload_n 0, 1), (85, .getfield 33, 3), (88, .iload 4, 2), (90, .iconst (-1), 1), (91, .iastore, 1), (92, .aload_n 0, 1), (93, .getfield 36, 3), (96, .iload 4, 2), (98, .iconst (-1), 1), (99, .iastore, 1), (100, .aload_n 0, 1), (101, .iload 4, 2), (103, .iconst 1, 1), (104, .iadd, 1), (105, .putfield 39, 3), (108, .iload 4, 2), (110, .ireturn, 1)] = true := by decide +kernel
set_option maxRecDepth 100000 in
set_option maxHeartbeats 4000000 in
theorem kg_X8_add_0 {G : kG} {q : kP} {d : Nat} {x : gd} {P : Option gv → gd → Prop} (hq : kV q) (l1 : Int32) (l2 : Int32) (l3 : Int32)
    (h : (((Int32.ofNat 400) ≤ (x.1 80 9) → KT G q d zk_X8_add 26 [(0, vr 80), (1, vi l1), (2, vi l2), (3, vi l3)] [vi ((Int32.ofNat 400) - 1)] x P) ∧ (¬ ((Int32.ofNat 400) ≤ (x.1 80 9)) → KT G q d zk_X8_add 26 [(0, vr 80), (1, vi l1), (2, vi l2), (3, vi l3)] [vi (x.1 80 9)] x P))) :
    KT G q d zk_X8_add 0 [(0, vr 80), (1, vi l1), (2, vi l2), (3, vi l3)] [] x P := by
  refine T_aload_n 0 (dk dtk_X8_add 0 rfl) rfl rfl ?_
  refine T_getI 80 9 (dk dtk_X8_add 1 rfl) kfl_X8_39 kk_80 (kl_80 hq) (by decide) rfl ?_
  refine T_aload_n 0 (dk dtk_X8_add 2 rfl) rfl rfl ?_
  refine T_getR 80 0 81 (dk dtk_X8_add 3 rfl) kfl_X8_9 kk_80 (kl_80 hq) (by decide) rfl kr_80_0 ?_
  refine T_alen 81 400 0 (v := Int32.ofNat 400) (dk dtk_X8_add 4 rfl) kk_81 (kl_81 hq) rfl rfl ?_
  refine T_icmp_ge 19 (dk dtk_X8_add 5 rfl) (by decide) (fun c1 => ?_) (fun c1 => ?_)
  · have h := h.1 c1
    refine T_aload_n 0 (dk dtk_X8_add 9 rfl) rfl rfl ?_
    refine T_getR 80 0 81 (dk dtk_X8_add 10 rfl) kfl_X8_9 kk_80 (kl_80 hq) (by decide) rfl kr_80_0 ?_
    refine T_alen 81 400 0 (v := Int32.ofNat 400) (dk dtk_X8_add 11 rfl) kk_81 (kl_81 hq) rfl rfl ?_
    refine T_iconst (v := 1) (dk dtk_X8_add 12 rfl) (by decide +kernel) ?_
    refine T_isub (dk dtk_X8_add 13 rfl) ?_
    exact h
  · have h := h.2 c1
    refine T_aload_n 0 (dk dtk_X8_add 6 rfl) rfl rfl ?_
    refine T_getI 80 9 (dk dtk_X8_add 7 rfl) kfl_X8_39 kk_80 (kl_80 hq) (by decide) rfl ?_
    refine T_goto 26 (dk dtk_X8_add 8 rfl) (by decide) ?_
    exact h
set_option maxRecDepth 100000 in
set_option maxHeartbeats 4000000 in
theorem kg_X8_add_26 {G : kG} {q : kP} {d : Nat} {x : gd} {P : Option gv → gd → Prop} (hq : kV q) (l1 : Int32) (l2 : Int32) (l3 : Int32) (s0 : Int32)
    (h : vp_in s0 400 ∧ (∀ x2 : gd, x2 = si x 81 (s0 : Int32).toNatClampNeg l1 → vp_in s0 400 ∧ (∀ x4 : gd, x4 = si x2 82 (s0 : Int32).toNatClampNeg l2 → vp_in s0 400 ∧ (∀ x6 : gd, x6 = si x4 83 (s0 : Int32).toNatClampNeg l3 → vp_in s0 400 ∧ (∀ x8 : gd, x8 = si x6 84 (s0 : Int32).toNatClampNeg (-1) → vp_in s0 400 ∧ (∀ x10 : gd, x10 = si x8 85 (s0 : Int32).toNatClampNeg (-1) → vp_in s0 400 ∧ (∀ x12 : gd, x12 = si x10 86 (s0 : Int32).toNatClampNeg 0 → vp_in s0 400 ∧ (∀ x14 : gd, x14 = si x12 87 (s0 : Int32).toNatClampNeg (-1) → vp_in s0 400 ∧ (∀ x16 : gd, x16 = si x14 88 (s0 : Int32).toNatClampNeg (-1) → vp_in s0 400 ∧ (∀ x18 : gd, x18 = si x16 89 (s0 : Int32).toNatClampNeg (-1) → (∀ x19 : gd, x19 = si x18 80 9 (s0 + 1) → P (some (vi s0)) x19))))))))))) :
    KT G q d zk_X8_add 26 [(0, vr 80), (1, vi l1), (2, vi l2), (3, vi l3)] [vi s0] x P := by
  refine T_istore (lv2 := [(4, vi s0), (0, vr 80), (1, vi l1), (2, vi l2), (3, vi l3)]) (dk dtk_X8_add 14 rfl) (by decide) rfl ?_
  refine T_aload_n 1 (dk dtk_X8_add 15 rfl) rfl rfl ?_
  refine T_getR 80 0 81 (dk dtk_X8_add 16 rfl) kfl_X8_9 kk_80 (kl_80 hq) (by decide) rfl kr_80_0 ?_
  refine T_iload 0 (dk dtk_X8_add 17 rfl) rfl ?_
  refine T_iload_n 2 (dk dtk_X8_add 18 rfl) rfl rfl ?_
  obtain ⟨h1, h⟩ := h
  obtain ⟨x2, ex2⟩ : ∃ z, z = si x 81 (s0 : Int32).toNatClampNeg l1 := ⟨_, rfl⟩
  have h := h x2 ex2
  refine T_iast 81 400 (dk dtk_X8_add 19 rfl) kk_81 (kl_81 hq) h1 ?_
  rw [← ex2]
  refine T_aload_n 1 (dk dtk_X8_add 20 rfl) rfl rfl ?_
  refine T_getR 80 1 82 (dk dtk_X8_add 21 rfl) kfl_X8_15 kk_80 (kl_80 hq) (by decide) rfl kr_80_1 ?_
  refine T_iload 0 (dk dtk_X8_add 22 rfl) rfl ?_
  refine T_iload_n 3 (dk dtk_X8_add 23 rfl) rfl rfl ?_
  obtain ⟨h3, h⟩ := h
  obtain ⟨x4, ex4⟩ : ∃ z, z = si x2 82 (s0 : Int32).toNatClampNeg l2 := ⟨_, rfl⟩
  have h := h x4 ex4
  refine T_iast 82 400 (dk dtk_X8_add 24 rfl) kk_82 (kl_82 hq) h3 ?_
  rw [← ex4]
  refine T_aload_n 1 (dk dtk_X8_add 25 rfl) rfl rfl ?_
  refine T_getR 80 2 83 (dk dtk_X8_add 26 rfl) kfl_X8_18 kk_80 (kl_80 hq) (by decide) rfl kr_80_2 ?_
  refine T_iload 0 (dk dtk_X8_add 27 rfl) rfl ?_
  refine T_iload_n 4 (dk dtk_X8_add 28 rfl) rfl rfl ?_
  obtain ⟨h5, h⟩ := h
  obtain ⟨x6, ex6⟩ : ∃ z, z = si x4 83 (s0 : Int32).toNatClampNeg l3 := ⟨_, rfl⟩
  have h := h x6 ex6
  refine T_iast 83 400 (dk dtk_X8_add 29 rfl) kk_83 (kl_83 hq) h5 ?_
  rw [← ex6]
  refine T_aload_n 1 (dk dtk_X8_add 30 rfl) rfl rfl ?_
  refine T_getR 80 3 84 (dk dtk_X8_add 31 rfl) kfl_X8_21 kk_80 (kl_80 hq) (by decide) rfl kr_80_3 ?_
  refine T_iload 0 (dk dtk_X8_add 32 rfl) rfl ?_
  refine T_iconst (v := (-1)) (dk dtk_X8_add 33 rfl) (by decide +kernel) ?_
  obtain ⟨h7, h⟩ := h
  obtain ⟨x8, ex8⟩ : ∃ z, z = si x6 84 (s0 : Int32).toNatClampNeg (-1) := ⟨_, rfl⟩
  have h := h x8 ex8
  refine T_iast 84 400 (dk dtk_X8_add 34 rfl) kk_84 (kl_84 hq) h7 ?_
  rw [← ex8]
  refine T_aload_n 1 (dk dtk_X8_add 35 rfl) rfl rfl ?_
  refine T_getR 80 4 85 (dk dtk_X8_add 36 rfl) kfl_X8_24 kk_80 (kl_80 hq) (by decide) rfl kr_80_4 ?_
  refine T_iload 0 (dk dtk_X8_add 37 rfl) rfl ?_
  refine T_iconst (v := (-1)) (dk dtk_X8_add 38 rfl) (by decide +kernel) ?_
  obtain ⟨h9, h⟩ := h
  obtain ⟨x10, ex10⟩ : ∃ z, z = si x8 85 (s0 : Int32).toNatClampNeg (-1) := ⟨_, rfl⟩
  have h := h x10 ex10
  refine T_iast 85 400 (dk dtk_X8_add 39 rfl) kk_85 (kl_85 hq) h9 ?_
  rw [← ex10]
  refine T_aload_n 1 (dk dtk_X8_add 40 rfl) rfl rfl ?_
  refine T_getR 80 5 86 (dk dtk_X8_add 41 rfl) kfl_X8_27 kk_80 (kl_80 hq) (by decide) rfl kr_80_5 ?_
  refine T_iload 0 (dk dtk_X8_add 42 rfl) rfl ?_
  refine T_iconst (v := 0) (dk dtk_X8_add 43 rfl) (by decide +kernel) ?_
  obtain ⟨h11, h⟩ := h
  obtain ⟨x12, ex12⟩ : ∃ z, z = si x10 86 (s0 : Int32).toNatClampNeg 0 := ⟨_, rfl⟩
  have h := h x12 ex12
  refine T_iast 86 400 (dk dtk_X8_add 44 rfl) kk_86 (kl_86 hq) h11 ?_
  rw [← ex12]
  refine T_aload_n 1 (dk dtk_X8_add 45 rfl) rfl rfl ?_
  refine T_getR 80 6 87 (dk dtk_X8_add 46 rfl) kfl_X8_30 kk_80 (kl_80 hq) (by decide) rfl kr_80_6 ?_
  refine T_iload 0 (dk dtk_X8_add 47 rfl) rfl ?_
  refine T_iconst (v := (-1)) (dk dtk_X8_add 48 rfl) (by decide +kernel) ?_
  obtain ⟨h13, h⟩ := h
  obtain ⟨x14, ex14⟩ : ∃ z, z = si x12 87 (s0 : Int32).toNatClampNeg (-1) := ⟨_, rfl⟩
  have h := h x14 ex14
  refine T_iast 87 400 (dk dtk_X8_add 49 rfl) kk_87 (kl_87 hq) h13 ?_
  rw [← ex14]
  refine T_aload_n 1 (dk dtk_X8_add 50 rfl) rfl rfl ?_
  refine T_getR 80 7 88 (dk dtk_X8_add 51 rfl) kfl_X8_33 kk_80 (kl_80 hq) (by decide) rfl kr_80_7 ?_
  refine T_iload 0 (dk dtk_X8_add 52 rfl) rfl ?_
  refine T_iconst (v := (-1)) (dk dtk_X8_add 53 rfl) (by decide +kernel) ?_
  obtain ⟨h15, h⟩ := h
  obtain ⟨x16, ex16⟩ : ∃ z, z = si x14 88 (s0 : Int32).toNatClampNeg (-1) := ⟨_, rfl⟩
  have h := h x16 ex16
  refine T_iast 88 400 (dk dtk_X8_add 54 rfl) kk_88 (kl_88 hq) h15 ?_
  rw [← ex16]
  refine T_aload_n 1 (dk dtk_X8_add 55 rfl) rfl rfl ?_
  refine T_getR 80 8 89 (dk dtk_X8_add 56 rfl) kfl_X8_36 kk_80 (kl_80 hq) (by decide) rfl kr_80_8 ?_
  refine T_iload 0 (dk dtk_X8_add 57 rfl) rfl ?_
  refine T_iconst (v := (-1)) (dk dtk_X8_add 58 rfl) (by decide +kernel) ?_
  obtain ⟨h17, h⟩ := h
  obtain ⟨x18, ex18⟩ : ∃ z, z = si x16 89 (s0 : Int32).toNatClampNeg (-1) := ⟨_, rfl⟩
  have h := h x18 ex18
  refine T_iast 89 400 (dk dtk_X8_add 59 rfl) kk_89 (kl_89 hq) h17 ?_
  rw [← ex18]
  refine T_aload_n 1 (dk dtk_X8_add 60 rfl) rfl rfl ?_
  refine T_iload 0 (dk dtk_X8_add 61 rfl) rfl ?_
  refine T_iconst (v := 1) (dk dtk_X8_add 62 rfl) (by decide +kernel) ?_
  refine T_iadd (dk dtk_X8_add 63 rfl) ?_
  obtain ⟨x19, ex19⟩ : ∃ z, z = si x18 80 9 (s0 + 1) := ⟨_, rfl⟩
  have h := h x19 ex19
  refine T_putI 80 9 (dk dtk_X8_add 64 rfl) kfl_X8_39 kk_80 (kl_80 hq) (by decide) rfl ⟨rfl, rfl⟩ ?_
  rw [← ex19]
  refine T_iload 0 (dk dtk_X8_add 65 rfl) rfl ?_
  exact KT_iret (dk dtk_X8_add 66 rfl) rfl rfl h
set_option maxRecDepth 100000 in
theorem dtk_X9_addByte : dck cX9_addByte [(0, .aload_n 0, 1), (1, .getfield 31, 3), (4, .sipush 3000, 3), (7, .if_icmp .ge 24, 3), (10, .aload_n 0, 1), (11, .getfield 9, 3), (14, .aload_n 0, 1), (15, .getfield 31, 3), (18, .iload_n 1, 1), (19, .i2b, 1), (20, .bastore, 1), (21, .aload_n 0, 1), (22, .dup, 1), (23, .getfield 31, 3), (26, .iconst 1, 1), (27, .iadd, 1), (28, .putfield 31, 3), (31, .return_, 1)] = true := by decide +kernel
set_option maxRecDepth 100000 in
set_option maxHeartbeats 4000000 in
theorem kg_X9_addByte_0 {G : kG} {q : kP} {d : Nat} {x : gd} {P : Option gv → gd → Prop} (hq : kV q) (l1 : Int32)
    (h : (((3000 : Int32) ≤ (x.1 20 1) → P none x) ∧ (¬ ((3000 : Int32) ≤ (x.1 20 1)) → vp_in (x.1 20 1) 3000 ∧ (∀ x3 : gd, x3 = si x 21 (x.1 20 1 : Int32).toNatClampNeg (vp_nar .byte ((l1 : Int32).toInt8.toInt32)) → (∀ x4 : gd, x4 = si x3 20 1 ((x3.1 20 1) + 1) → P none x4))))) :
    KT G q d zk_X9_addByte 0 [(0, vr 20), (1, vi l1)] [] x P := by
  refine T_aload_n 0 (dk dtk_X9_addByte 0 rfl) rfl rfl ?_
  refine T_getI 20 1 (dk dtk_X9_addByte 1 rfl) kfl_X9_31 kk_20 (kl_20 hq) (by decide) rfl ?_
  refine T_sipush (v := 3000) (dk dtk_X9_addByte 2 rfl) (by decide +kernel) ?_
  refine T_icmp_ge 31 (dk dtk_X9_addByte 3 rfl) (by decide) (fun c1 => ?_) (fun c1 => ?_)
  · have h := h.1 c1
    exact KT_vret (dk dtk_X9_addByte 17 rfl) rfl h
  · have h := h.2 c1
    refine T_aload_n 0 (dk dtk_X9_addByte 4 rfl) rfl rfl ?_
    refine T_getR 20 0 21 (dk dtk_X9_addByte 5 rfl) kfl_X9_9 kk_20 (kl_20 hq) (by decide) rfl kr_20_0 ?_
    refine T_aload_n 0 (dk dtk_X9_addByte 6 rfl) rfl rfl ?_
    refine T_getI 20 1 (dk dtk_X9_addByte 7 rfl) kfl_X9_31 kk_20 (kl_20 hq) (by decide) rfl ?_
    refine T_iload_n 1 (dk dtk_X9_addByte 8 rfl) rfl rfl ?_
    refine T_i2b (dk dtk_X9_addByte 9 rfl) ?_
    obtain ⟨h2, h⟩ := h
    obtain ⟨x3, ex3⟩ : ∃ z, z = si x 21 (x.1 20 1 : Int32).toNatClampNeg (vp_nar .byte ((l1 : Int32).toInt8.toInt32)) := ⟨_, rfl⟩
    have h := h x3 ex3
    refine T_bast 21 3000 (dk dtk_X9_addByte 10 rfl) kk_21 (kl_21 hq) h2 ?_
    rw [← ex3]
    refine T_aload_n 0 (dk dtk_X9_addByte 11 rfl) rfl rfl ?_
    refine T_dup (dk dtk_X9_addByte 12 rfl) rfl ?_
    refine T_getI 20 1 (dk dtk_X9_addByte 13 rfl) kfl_X9_31 kk_20 (kl_20 hq) (by decide) rfl ?_
    refine T_iconst (v := 1) (dk dtk_X9_addByte 14 rfl) (by decide +kernel) ?_
    refine T_iadd (dk dtk_X9_addByte 15 rfl) ?_
    obtain ⟨x4, ex4⟩ : ∃ z, z = si x3 20 1 ((x3.1 20 1) + 1) := ⟨_, rfl⟩
    have h := h x4 ex4
    refine T_putI 20 1 (dk dtk_X9_addByte 16 rfl) kfl_X9_31 kk_20 (kl_20 hq) (by decide) rfl ⟨rfl, rfl⟩ ?_
    rw [← ex4]
    exact KT_vret (dk dtk_X9_addByte 17 rfl) rfl h
set_option maxRecDepth 100000 in
theorem dtk_X9_cut : dck cX9_cut [(0, .aload_n 0, 1), (1, .iconst 0, 1), (2, .putfield 35, 3), (5, .aload_n 0, 1), (6, .iconst 1, 1), (7, .putfield 38, 3), (10, .aload_n 0, 1), (11, .iconst 0, 1), (12, .putfield 41, 3), (15, .iconst 1, 1), (16, .istore_n 1, 1), (17, .iconst 0, 1), (18, .istore_n 2, 1), (19, .iload_n 2, 1), (20, .sipush 700, 3), (23, .if_icmp .gt 99, 3), (26, .iload_n 1, 1), (27, .ifCond .eq 95, 3), (30, .aload_n 0, 1), (31, .invokevirtual 44, 3), (34, .aload_n 0, 1), (35, .getfield 35, 3), (38, .aload_n 0, 1), (39, .getfield 31, 3), (42, .if_icmp .lt 6, 3), (45, .goto 77, 3), (48, .aload_n 0, 1), (49, .getfield 19, 3), (52, .aload_n 0, 1), (53, .getfield 41, 3), (56, .aload_n 0, 1), (57, .getfield 35, 3), (60, .iastore, 1), (61, .aload_n 0, 1), (62, .getfield 22, 3), (65, .aload_n 0, 1), (66, .getfield 41, 3), (69, .aload_n 0, 1), (70, .getfield 38, 3), (73, .iastore, 1), (74, .aload_n 0, 1), (75, .getfield 15, 3), (78, .aload_n 0, 1), (79, .getfield 41, 3), (82, .aload_n 0, 1), (83, .invokevirtual 47, 3), (86, .iastore, 1), (87, .aload_n 0, 1), (88, .getfield 15, 3), (91, .aload_n 0, 1), (92, .getfield 41, 3), (95, .iaload, 1), (96, .iconst 1, 1), (97, .if_icmp .eq 7, 3), (100, .iconst 1, 1), (101, .goto 4, 3), (104, .iconst 0, 1), (105, .istore_n 1, 1), (106, .aload_n 0, 1), (107, .dup, 1), (108, .getfield 41, 3), (111, .iconst 1, 1), (112, .iadd, 1), (113, .putfield 41, 3), (116, .iinc 2 1, 3), (119, .goto (-100), 3), (122, .aload_n 0, 1), (123, .getfield 15, 3), (126, .aload_n 0, 1), (127, .getfield 41, 3), (130, .iconst 0, 1), (131, .iastore, 1), (132, .aload_n 0, 1), (133, .getfield 19, 3), (136, .aload_n 0, 1), (137, .getfield 41, 3), (140, .aload_n 0, 1), (141, .getfield 31, 3), (144, .iastore, 1), (145, .aload_n 0, 1), (146, .getfield 22, 3), (149, .aload_n 0, 1), (150, .getfield 41, 3), (153, .aload_n 0, 1), (154, .getfield 38, 3), (157, .iastore, 1), (158, .return_, 1)] = true := by decide +kernel
set_option maxRecDepth 100000 in
set_option maxHeartbeats 4000000 in
theorem kg_X9_cut_0 {G : kG} {q : kP} {d : Nat} {x : gd} {P : Option gv → gd → Prop} (hq : kV q) 
    (h : (∀ x1 : gd, x1 = si x 20 8 0 → (∀ x2 : gd, x2 = si x1 20 9 1 → (∀ x3 : gd, x3 = si x2 20 7 0 → KT G q (d + 1) zk_X9_cut 19 [(0, vr 20), (1, vi 1), (2, vi 0)] [] x3 P)))) :
    KT G q (d + 1) zk_X9_cut 0 [(0, vr 20)] [] x P := by
  refine T_aload_n 0 (dk dtk_X9_cut 0 rfl) rfl rfl ?_
  refine T_iconst (v := 0) (dk dtk_X9_cut 1 rfl) (by decide +kernel) ?_
  obtain ⟨x1, ex1⟩ : ∃ z, z = si x 20 8 0 := ⟨_, rfl⟩
  have h := h x1 ex1
  refine T_putI 20 8 (dk dtk_X9_cut 2 rfl) kfl_X9_35 kk_20 (kl_20 hq) (by decide) rfl ⟨rfl, rfl⟩ ?_
  rw [← ex1]
  refine T_aload_n 0 (dk dtk_X9_cut 3 rfl) rfl rfl ?_
  refine T_iconst (v := 1) (dk dtk_X9_cut 4 rfl) (by decide +kernel) ?_
  obtain ⟨x2, ex2⟩ : ∃ z, z = si x1 20 9 1 := ⟨_, rfl⟩
  have h := h x2 ex2
  refine T_putI 20 9 (dk dtk_X9_cut 5 rfl) kfl_X9_38 kk_20 (kl_20 hq) (by decide) rfl ⟨rfl, rfl⟩ ?_
  rw [← ex2]
  refine T_aload_n 0 (dk dtk_X9_cut 6 rfl) rfl rfl ?_
  refine T_iconst (v := 0) (dk dtk_X9_cut 7 rfl) (by decide +kernel) ?_
  obtain ⟨x3, ex3⟩ : ∃ z, z = si x2 20 7 0 := ⟨_, rfl⟩
  have h := h x3 ex3
  refine T_putI 20 7 (dk dtk_X9_cut 8 rfl) kfl_X9_41 kk_20 (kl_20 hq) (by decide) rfl ⟨rfl, rfl⟩ ?_
  rw [← ex3]
  refine T_iconst (v := 1) (dk dtk_X9_cut 9 rfl) (by decide +kernel) ?_
  refine T_istore_n (lv2 := [(1, vi 1), (0, vr 20)]) (dk dtk_X9_cut 10 rfl) rfl (by decide) rfl ?_
  refine T_iconst (v := 0) (dk dtk_X9_cut 11 rfl) (by decide +kernel) ?_
  refine T_istore_n (lv2 := [(2, vi 0), (1, vi 1), (0, vr 20)]) (dk dtk_X9_cut 12 rfl) rfl (by decide) rfl ?_
  exact T_sub [2, 1, 0] rfl h
set_option maxRecDepth 100000 in
set_option maxHeartbeats 4000000 in
theorem kg_X9_cut_19 {G : kG} {q : kP} {d : Nat} {x : gd} {P : Option gv → gd → Prop} (hq : kV q) (l1 : Int32) (l2 : Int32)
    (h : (((700 : Int32) < l2 → KT G q (d + 1) zk_X9_cut 122 [(0, vr 20)] [] x P) ∧ (¬ ((700 : Int32) < l2) → ((l1 = (0 : Int32) → KT G q (d + 1) zk_X9_cut 122 [(0, vr 20)] [] x P) ∧ (¬ (l1 = (0 : Int32)) → KT G q d zk_X9_skipBlanks 0 [(0, vr 20)] [] x (rv (fun x3 => (((x3.1 20 8) < (x3.1 20 1) → vp_in (x3.1 20 7) 702 ∧ (∀ x6 : gd, x6 = si x3 24 (x3.1 20 7 : Int32).toNatClampNeg (x3.1 20 8) → vp_in (x6.1 20 7) 702 ∧ (∀ x8 : gd, x8 = si x6 25 (x6.1 20 7 : Int32).toNatClampNeg (x6.1 20 9) → KT G q d zk_X9_cutOne 0 [(0, vr 20)] [] x8 (ri (fun r10 x9 => vp_in (x8.1 20 7) 702 ∧ (∀ x12 : gd, x12 = si x9 23 (x8.1 20 7 : Int32).toNatClampNeg r10 → vp_in (x12.1 20 7) 702 ∧ (((x12.1 23 (x12.1 20 7 : Int32).toNatClampNeg) = (1 : Int32) → (∀ x15 : gd, x15 = si x12 20 7 ((x12.1 20 7) + 1) → KT G q (d + 1) zk_X9_cut 19 [(0, vr 20), (1, vi 0), (2, vi (l2 + 1))] [] x15 P)) ∧ (¬ ((x12.1 23 (x12.1 20 7 : Int32).toNatClampNeg) = (1 : Int32)) → (∀ x16 : gd, x16 = si x12 20 7 ((x12.1 20 7) + 1) → KT G q (d + 1) zk_X9_cut 19 [(0, vr 20), (1, vi 1), (2, vi (l2 + 1))] [] x16 P))))))))) ∧ (¬ ((x3.1 20 8) < (x3.1 20 1)) → KT G q (d + 1) zk_X9_cut 122 [(0, vr 20)] [] x3 P))))))))) :
    KT G q (d + 1) zk_X9_cut 19 [(0, vr 20), (1, vi l1), (2, vi l2)] [] x P := by
  refine T_iload_n 2 (dk dtk_X9_cut 13 rfl) rfl rfl ?_
  refine T_sipush (v := 700) (dk dtk_X9_cut 14 rfl) (by decide +kernel) ?_
  refine T_icmp_gt 122 (dk dtk_X9_cut 15 rfl) (by decide) (fun c1 => ?_) (fun c1 => ?_)
  · have h := h.1 c1
    exact T_sub [0] rfl h
  · have h := h.2 c1
    refine T_iload_n 1 (dk dtk_X9_cut 16 rfl) rfl rfl ?_
    refine T_if_eq 122 (dk dtk_X9_cut 17 rfl) (by decide) (fun c2 => ?_) (fun c2 => ?_)
    · have h := h.1 c2
      exact T_sub [0] rfl h
    · have h := h.2 c2
      refine T_aload_n 0 (dk dtk_X9_cut 18 rfl) rfl rfl ?_
      refine T_sub (lv2 := [(0, vr 20), (2, vi l2)]) [0, 2] rfl ?_
      refine KC_Vv [] [] rfl (dk dtk_X9_cut 19 rfl) kcv_X9_44 rfl kk_20 rfl (kl_20 hq) (Nat.le_of_ble_eq_true rfl) (Nat.le_of_ble_eq_true rfl) (gok_i (av_c (gkr (kl_20 hq)) (av_c rfl av_n)) as_n) rfl h (fun x3 h => ?_)
      refine T_aload_n 0 (dk dtk_X9_cut 20 rfl) rfl rfl ?_
      refine T_getI 20 8 (dk dtk_X9_cut 21 rfl) kfl_X9_35 kk_20 (kl_20 hq) (by decide) rfl ?_
      refine T_aload_n 0 (dk dtk_X9_cut 22 rfl) rfl rfl ?_
      refine T_getI 20 1 (dk dtk_X9_cut 23 rfl) kfl_X9_31 kk_20 (kl_20 hq) (by decide) rfl ?_
      refine T_icmp_lt 48 (dk dtk_X9_cut 24 rfl) (by decide) (fun c4 => ?_) (fun c4 => ?_)
      · have h := h.1 c4
        refine T_aload_n 0 (dk dtk_X9_cut 26 rfl) rfl rfl ?_
        refine T_getR 20 3 24 (dk dtk_X9_cut 27 rfl) kfl_X9_19 kk_20 (kl_20 hq) (by decide) rfl kr_20_3 ?_
        refine T_aload_n 0 (dk dtk_X9_cut 28 rfl) rfl rfl ?_
        refine T_getI 20 7 (dk dtk_X9_cut 29 rfl) kfl_X9_41 kk_20 (kl_20 hq) (by decide) rfl ?_
        refine T_aload_n 0 (dk dtk_X9_cut 30 rfl) rfl rfl ?_
        refine T_getI 20 8 (dk dtk_X9_cut 31 rfl) kfl_X9_35 kk_20 (kl_20 hq) (by decide) rfl ?_
        obtain ⟨h5, h⟩ := h
        obtain ⟨x6, ex6⟩ : ∃ z, z = si x3 24 (x3.1 20 7 : Int32).toNatClampNeg (x3.1 20 8) := ⟨_, rfl⟩
        have h := h x6 ex6
        refine T_iast 24 702 (dk dtk_X9_cut 32 rfl) kk_24 (kl_24 hq) h5 ?_
        rw [← ex6]
        refine T_aload_n 0 (dk dtk_X9_cut 33 rfl) rfl rfl ?_
        refine T_getR 20 4 25 (dk dtk_X9_cut 34 rfl) kfl_X9_22 kk_20 (kl_20 hq) (by decide) rfl kr_20_4 ?_
        refine T_aload_n 0 (dk dtk_X9_cut 35 rfl) rfl rfl ?_
        refine T_getI 20 7 (dk dtk_X9_cut 36 rfl) kfl_X9_41 kk_20 (kl_20 hq) (by decide) rfl ?_
        refine T_aload_n 0 (dk dtk_X9_cut 37 rfl) rfl rfl ?_
        refine T_getI 20 9 (dk dtk_X9_cut 38 rfl) kfl_X9_38 kk_20 (kl_20 hq) (by decide) rfl ?_
        obtain ⟨h7, h⟩ := h
        obtain ⟨x8, ex8⟩ : ∃ z, z = si x6 25 (x6.1 20 7 : Int32).toNatClampNeg (x6.1 20 9) := ⟨_, rfl⟩
        have h := h x8 ex8
        refine T_iast 25 702 (dk dtk_X9_cut 39 rfl) kk_25 (kl_25 hq) h7 ?_
        rw [← ex8]
        refine T_aload_n 0 (dk dtk_X9_cut 40 rfl) rfl rfl ?_
        refine T_getR 20 2 23 (dk dtk_X9_cut 41 rfl) kfl_X9_15 kk_20 (kl_20 hq) (by decide) rfl kr_20_2 ?_
        refine T_aload_n 0 (dk dtk_X9_cut 42 rfl) rfl rfl ?_
        refine T_getI 20 7 (dk dtk_X9_cut 43 rfl) kfl_X9_41 kk_20 (kl_20 hq) (by decide) rfl ?_
        refine T_aload_n 0 (dk dtk_X9_cut 44 rfl) rfl rfl ?_
        refine KC_Vi [] [vi (x8.1 20 7), vr 23] rfl (dk dtk_X9_cut 45 rfl) kcv_X9_47 rfl kk_20 rfl (kl_20 hq) (Nat.le_of_ble_eq_true rfl) (Nat.le_of_ble_eq_true rfl) (gok_i (av_c (gkr (kl_20 hq)) (av_c rfl av_n)) (as_c rfl (as_c (gkr (kl_23 hq)) as_n))) rfl h (fun r10 x9 h => ?_)
        obtain ⟨h11, h⟩ := h
        obtain ⟨x12, ex12⟩ : ∃ z, z = si x9 23 (x8.1 20 7 : Int32).toNatClampNeg r10 := ⟨_, rfl⟩
        have h := h x12 ex12
        refine T_iast 23 702 (dk dtk_X9_cut 46 rfl) kk_23 (kl_23 hq) h11 ?_
        rw [← ex12]
        refine T_aload_n 0 (dk dtk_X9_cut 47 rfl) rfl rfl ?_
        refine T_getR 20 2 23 (dk dtk_X9_cut 48 rfl) kfl_X9_15 kk_20 (kl_20 hq) (by decide) rfl kr_20_2 ?_
        refine T_aload_n 0 (dk dtk_X9_cut 49 rfl) rfl rfl ?_
        refine T_getI 20 7 (dk dtk_X9_cut 50 rfl) kfl_X9_41 kk_20 (kl_20 hq) (by decide) rfl ?_
        obtain ⟨h13, h⟩ := h
        refine T_iald 23 702 (dk dtk_X9_cut 51 rfl) kk_23 (kl_23 hq) h13 ?_
        refine T_iconst (v := 1) (dk dtk_X9_cut 52 rfl) (by decide +kernel) ?_
        refine T_icmp_eq 104 (dk dtk_X9_cut 53 rfl) (by decide) (fun c14 => ?_) (fun c14 => ?_)
        · have h := h.1 c14
          refine T_iconst (v := 0) (dk dtk_X9_cut 56 rfl) (by decide +kernel) ?_
          refine T_istore_n (lv2 := [(1, vi 0), (0, vr 20), (2, vi l2)]) (dk dtk_X9_cut 57 rfl) rfl (by decide) rfl ?_
          refine T_aload_n 1 (dk dtk_X9_cut 58 rfl) rfl rfl ?_
          refine T_dup (dk dtk_X9_cut 59 rfl) rfl ?_
          refine T_getI 20 7 (dk dtk_X9_cut 60 rfl) kfl_X9_41 kk_20 (kl_20 hq) (by decide) rfl ?_
          refine T_iconst (v := 1) (dk dtk_X9_cut 61 rfl) (by decide +kernel) ?_
          refine T_iadd (dk dtk_X9_cut 62 rfl) ?_
          obtain ⟨x15, ex15⟩ : ∃ z, z = si x12 20 7 ((x12.1 20 7) + 1) := ⟨_, rfl⟩
          have h := h x15 ex15
          refine T_putI 20 7 (dk dtk_X9_cut 63 rfl) kfl_X9_41 kk_20 (kl_20 hq) (by decide) rfl ⟨rfl, rfl⟩ ?_
          rw [← ex15]
          refine T_iinc (v := l2 + 1) (lv2 := [(2, vi (l2 + 1)), (1, vi 0), (0, vr 20)]) 2 (dk dtk_X9_cut 64 rfl) rfl rfl (by decide) rfl ?_
          refine T_goto 19 (dk dtk_X9_cut 65 rfl) (by decide) ?_
          exact T_sub [2, 1, 0] rfl h
        · have h := h.2 c14
          refine T_iconst (v := 1) (dk dtk_X9_cut 54 rfl) (by decide +kernel) ?_
          refine T_goto 105 (dk dtk_X9_cut 55 rfl) (by decide) ?_
          refine T_istore_n (lv2 := [(1, vi 1), (0, vr 20), (2, vi l2)]) (dk dtk_X9_cut 57 rfl) rfl (by decide) rfl ?_
          refine T_aload_n 1 (dk dtk_X9_cut 58 rfl) rfl rfl ?_
          refine T_dup (dk dtk_X9_cut 59 rfl) rfl ?_
          refine T_getI 20 7 (dk dtk_X9_cut 60 rfl) kfl_X9_41 kk_20 (kl_20 hq) (by decide) rfl ?_
          refine T_iconst (v := 1) (dk dtk_X9_cut 61 rfl) (by decide +kernel) ?_
          refine T_iadd (dk dtk_X9_cut 62 rfl) ?_
          obtain ⟨x16, ex16⟩ : ∃ z, z = si x12 20 7 ((x12.1 20 7) + 1) := ⟨_, rfl⟩
          have h := h x16 ex16
          refine T_putI 20 7 (dk dtk_X9_cut 63 rfl) kfl_X9_41 kk_20 (kl_20 hq) (by decide) rfl ⟨rfl, rfl⟩ ?_
          rw [← ex16]
          refine T_iinc (v := l2 + 1) (lv2 := [(2, vi (l2 + 1)), (1, vi 1), (0, vr 20)]) 2 (dk dtk_X9_cut 64 rfl) rfl rfl (by decide) rfl ?_
          refine T_goto 19 (dk dtk_X9_cut 65 rfl) (by decide) ?_
          exact T_sub [2, 1, 0] rfl h
      · have h := h.2 c4
        refine T_goto 122 (dk dtk_X9_cut 25 rfl) (by decide) ?_
        exact T_sub [0] rfl h
set_option maxRecDepth 100000 in
set_option maxHeartbeats 4000000 in
theorem kg_X9_cut_122 {G : kG} {q : kP} {d : Nat} {x : gd} {P : Option gv → gd → Prop} (hq : kV q) 
    (h : vp_in (x.1 20 7) 702 ∧ (∀ x2 : gd, x2 = si x 23 (x.1 20 7 : Int32).toNatClampNeg 0 → vp_in (x2.1 20 7) 702 ∧ (∀ x4 : gd, x4 = si x2 24 (x2.1 20 7 : Int32).toNatClampNeg (x2.1 20 1) → vp_in (x4.1 20 7) 702 ∧ (∀ x6 : gd, x6 = si x4 25 (x4.1 20 7 : Int32).toNatClampNeg (x4.1 20 9) → P none x6)))) :
    KT G q (d + 1) zk_X9_cut 122 [(0, vr 20)] [] x P := by
  refine T_aload_n 0 (dk dtk_X9_cut 66 rfl) rfl rfl ?_
  refine T_getR 20 2 23 (dk dtk_X9_cut 67 rfl) kfl_X9_15 kk_20 (kl_20 hq) (by decide) rfl kr_20_2 ?_
  refine T_aload_n 0 (dk dtk_X9_cut 68 rfl) rfl rfl ?_
  refine T_getI 20 7 (dk dtk_X9_cut 69 rfl) kfl_X9_41 kk_20 (kl_20 hq) (by decide) rfl ?_
  refine T_iconst (v := 0) (dk dtk_X9_cut 70 rfl) (by decide +kernel) ?_
  obtain ⟨h1, h⟩ := h
  obtain ⟨x2, ex2⟩ : ∃ z, z = si x 23 (x.1 20 7 : Int32).toNatClampNeg 0 := ⟨_, rfl⟩
  have h := h x2 ex2
  refine T_iast 23 702 (dk dtk_X9_cut 71 rfl) kk_23 (kl_23 hq) h1 ?_
  rw [← ex2]
  refine T_aload_n 0 (dk dtk_X9_cut 72 rfl) rfl rfl ?_
  refine T_getR 20 3 24 (dk dtk_X9_cut 73 rfl) kfl_X9_19 kk_20 (kl_20 hq) (by decide) rfl kr_20_3 ?_
  refine T_aload_n 0 (dk dtk_X9_cut 74 rfl) rfl rfl ?_
  refine T_getI 20 7 (dk dtk_X9_cut 75 rfl) kfl_X9_41 kk_20 (kl_20 hq) (by decide) rfl ?_
  refine T_aload_n 0 (dk dtk_X9_cut 76 rfl) rfl rfl ?_
  refine T_getI 20 1 (dk dtk_X9_cut 77 rfl) kfl_X9_31 kk_20 (kl_20 hq) (by decide) rfl ?_
  obtain ⟨h3, h⟩ := h
  obtain ⟨x4, ex4⟩ : ∃ z, z = si x2 24 (x2.1 20 7 : Int32).toNatClampNeg (x2.1 20 1) := ⟨_, rfl⟩
  have h := h x4 ex4
  refine T_iast 24 702 (dk dtk_X9_cut 78 rfl) kk_24 (kl_24 hq) h3 ?_
  rw [← ex4]
  refine T_aload_n 0 (dk dtk_X9_cut 79 rfl) rfl rfl ?_
  refine T_getR 20 4 25 (dk dtk_X9_cut 80 rfl) kfl_X9_22 kk_20 (kl_20 hq) (by decide) rfl kr_20_4 ?_
  refine T_aload_n 0 (dk dtk_X9_cut 81 rfl) rfl rfl ?_
  refine T_getI 20 7 (dk dtk_X9_cut 82 rfl) kfl_X9_41 kk_20 (kl_20 hq) (by decide) rfl ?_
  refine T_aload_n 0 (dk dtk_X9_cut 83 rfl) rfl rfl ?_
  refine T_getI 20 9 (dk dtk_X9_cut 84 rfl) kfl_X9_38 kk_20 (kl_20 hq) (by decide) rfl ?_
  obtain ⟨h5, h⟩ := h
  obtain ⟨x6, ex6⟩ : ∃ z, z = si x4 25 (x4.1 20 7 : Int32).toNatClampNeg (x4.1 20 9) := ⟨_, rfl⟩
  have h := h x6 ex6
  refine T_iast 25 702 (dk dtk_X9_cut 85 rfl) kk_25 (kl_25 hq) h5 ?_
  rw [← ex6]
  exact KT_vret (dk dtk_X9_cut 86 rfl) rfl h
set_option maxRecDepth 100000 in
theorem dtk_X9_sameName : dck cX9_sameName [(0, .aload_n 0, 1), (1, .getfield 28, 3), (4, .iload_n 1, 1), (5, .iaload, 1), (6, .aload_n 0, 1), (7, .getfield 28, 3), (10, .iload_n 2, 1), (11, .iaload, 1), (12, .if_icmp .ne 18, 3), (15, .aload_n 0, 1), (16, .getfield 25, 3), (19, .iload_n 1, 1), (20, .iaload, 1), (21, .aload_n 0, 1), (22, .getfield 25, 3), (25, .iload_n 2, 1), (26, .iaload, 1), (27, .if_icmp .eq 5, 3), (30, .iconst 0, 1), (31, .ireturn, 1), (32, .iconst 0, 1), (33, .istore_n 3, 1), (34, .iload_n 3, 1), (35, .aload_n 0, 1), (36, .getfield 25, 3), (39, .iload_n 1, 1), (40, .iaload, 1), (41, .if_icmp .ge 40, 3), (44, .aload_n 0, 1), (45, .getfield 9, 3), (48, .aload_n 0, 1), (49, .getfield 19, 3), (52, .iload_n 1, 1), (53, .iaload, 1), (54, .iload_n 3, 1), (55, .iadd, 1), (56, .baload, 1), (57, .aload_n 0, 1), (58, .getfield 9, 3), (61, .aload_n 0, 1), (62, .getfield 19, 3), (65, .iload_n 2, 1), (66, .iaload, 1), (67, .iload_n 3, 1), (68, .iadd, 1), (69, .baload, 1), (70, .if_icmp .eq 5, 3), (73, .iconst 0, 1), (74, .ireturn, 1), (75, .iinc 3 1, 3), (78, .goto (-44), 3), (81, .iconst 1, 1), (82, .ireturn, 1)] = true := by decide +kernel
set_option maxRecDepth 100000 in
set_option maxHeartbeats 4000000 in
theorem kg_X9_sameName_0 {G : kG} {q : kP} {d : Nat} {x : gd} {P : Option gv → gd → Prop} (hq : kV q) (l1 : Int32) (l2 : Int32)
    (h : vp_in l1 702 ∧ vp_in l2 702 ∧ ((¬ ((x.1 27 (l1 : Int32).toNatClampNeg) = (x.1 27 (l2 : Int32).toNatClampNeg)) → P (some (vi 0)) x) ∧ ((x.1 27 (l1 : Int32).toNatClampNeg) = (x.1 27 (l2 : Int32).toNatClampNeg) → vp_in l1 702 ∧ vp_in l2 702 ∧ (((x.1 26 (l1 : Int32).toNatClampNeg) = (x.1 26 (l2 : Int32).toNatClampNeg) → KT G q d zk_X9_sameName 34 [(0, vr 20), (1, vi l1), (2, vi l2), (3, vi 0)] [] x P) ∧ (¬ ((x.1 26 (l1 : Int32).toNatClampNeg) = (x.1 26 (l2 : Int32).toNatClampNeg)) → P (some (vi 0)) x))))) :
    KT G q d zk_X9_sameName 0 [(0, vr 20), (1, vi l1), (2, vi l2)] [] x P := by
  refine T_aload_n 0 (dk dtk_X9_sameName 0 rfl) rfl rfl ?_
  refine T_getR 20 6 27 (dk dtk_X9_sameName 1 rfl) kfl_X9_28 kk_20 (kl_20 hq) (by decide) rfl kr_20_6 ?_
  refine T_iload_n 1 (dk dtk_X9_sameName 2 rfl) rfl rfl ?_
  obtain ⟨h1, h⟩ := h
  refine T_iald 27 702 (dk dtk_X9_sameName 3 rfl) kk_27 (kl_27 hq) h1 ?_
  refine T_aload_n 0 (dk dtk_X9_sameName 4 rfl) rfl rfl ?_
  refine T_getR 20 6 27 (dk dtk_X9_sameName 5 rfl) kfl_X9_28 kk_20 (kl_20 hq) (by decide) rfl kr_20_6 ?_
  refine T_iload_n 2 (dk dtk_X9_sameName 6 rfl) rfl rfl ?_
  obtain ⟨h2, h⟩ := h
  refine T_iald 27 702 (dk dtk_X9_sameName 7 rfl) kk_27 (kl_27 hq) h2 ?_
  refine T_icmp_ne 30 (dk dtk_X9_sameName 8 rfl) (by decide) (fun c3 => ?_) (fun c3 => ?_)
  · have h := h.1 c3
    refine T_iconst (v := 0) (dk dtk_X9_sameName 18 rfl) (by decide +kernel) ?_
    exact KT_iret (dk dtk_X9_sameName 19 rfl) rfl rfl h
  · have h := h.2 c3
    refine T_aload_n 0 (dk dtk_X9_sameName 9 rfl) rfl rfl ?_
    refine T_getR 20 5 26 (dk dtk_X9_sameName 10 rfl) kfl_X9_25 kk_20 (kl_20 hq) (by decide) rfl kr_20_5 ?_
    refine T_iload_n 1 (dk dtk_X9_sameName 11 rfl) rfl rfl ?_
    obtain ⟨h4, h⟩ := h
    refine T_iald 26 702 (dk dtk_X9_sameName 12 rfl) kk_26 (kl_26 hq) h4 ?_
    refine T_aload_n 0 (dk dtk_X9_sameName 13 rfl) rfl rfl ?_
    refine T_getR 20 5 26 (dk dtk_X9_sameName 14 rfl) kfl_X9_25 kk_20 (kl_20 hq) (by decide) rfl kr_20_5 ?_
    refine T_iload_n 2 (dk dtk_X9_sameName 15 rfl) rfl rfl ?_
    obtain ⟨h5, h⟩ := h
    refine T_iald 26 702 (dk dtk_X9_sameName 16 rfl) kk_26 (kl_26 hq) h5 ?_
    refine T_icmp_eq 32 (dk dtk_X9_sameName 17 rfl) (by decide) (fun c6 => ?_) (fun c6 => ?_)
    · have h := h.1 c6
      refine T_iconst (v := 0) (dk dtk_X9_sameName 20 rfl) (by decide +kernel) ?_
      refine T_istore_n (lv2 := [(3, vi 0), (0, vr 20), (1, vi l1), (2, vi l2)]) (dk dtk_X9_sameName 21 rfl) rfl (by decide) rfl ?_
      exact T_sub [1, 2, 3, 0] rfl h
    · have h := h.2 c6
      refine T_iconst (v := 0) (dk dtk_X9_sameName 18 rfl) (by decide +kernel) ?_
      exact KT_iret (dk dtk_X9_sameName 19 rfl) rfl rfl h
set_option maxRecDepth 100000 in
set_option maxHeartbeats 4000000 in
theorem kg_X9_sameName_34 {G : kG} {q : kP} {d : Nat} {x : gd} {P : Option gv → gd → Prop} (hq : kV q) (l1 : Int32) (l2 : Int32) (l3 : Int32)
    (h : vp_in l1 702 ∧ (((x.1 26 (l1 : Int32).toNatClampNeg) ≤ l3 → P (some (vi 1)) x) ∧ (¬ ((x.1 26 (l1 : Int32).toNatClampNeg) ≤ l3) → vp_in l1 702 ∧ vp_in ((x.1 24 (l1 : Int32).toNatClampNeg) + l3) 3000 ∧ vp_in l2 702 ∧ vp_in ((x.1 24 (l2 : Int32).toNatClampNeg) + l3) 3000 ∧ (((x.1 21 ((x.1 24 (l1 : Int32).toNatClampNeg) + l3 : Int32).toNatClampNeg) = (x.1 21 ((x.1 24 (l2 : Int32).toNatClampNeg) + l3 : Int32).toNatClampNeg) → KT G q d zk_X9_sameName 34 [(0, vr 20), (1, vi l1), (2, vi l2), (3, vi (l3 + 1))] [] x P) ∧ (¬ ((x.1 21 ((x.1 24 (l1 : Int32).toNatClampNeg) + l3 : Int32).toNatClampNeg) = (x.1 21 ((x.1 24 (l2 : Int32).toNatClampNeg) + l3 : Int32).toNatClampNeg)) → P (some (vi 0)) x))))) :
    KT G q d zk_X9_sameName 34 [(0, vr 20), (1, vi l1), (2, vi l2), (3, vi l3)] [] x P := by
  refine T_iload_n 3 (dk dtk_X9_sameName 22 rfl) rfl rfl ?_
  refine T_aload_n 0 (dk dtk_X9_sameName 23 rfl) rfl rfl ?_
  refine T_getR 20 5 26 (dk dtk_X9_sameName 24 rfl) kfl_X9_25 kk_20 (kl_20 hq) (by decide) rfl kr_20_5 ?_
  refine T_iload_n 1 (dk dtk_X9_sameName 25 rfl) rfl rfl ?_
  obtain ⟨h1, h⟩ := h
  refine T_iald 26 702 (dk dtk_X9_sameName 26 rfl) kk_26 (kl_26 hq) h1 ?_
  refine T_icmp_ge 81 (dk dtk_X9_sameName 27 rfl) (by decide) (fun c2 => ?_) (fun c2 => ?_)
  · have h := h.1 c2
    refine T_iconst (v := 1) (dk dtk_X9_sameName 51 rfl) (by decide +kernel) ?_
    exact KT_iret (dk dtk_X9_sameName 52 rfl) rfl rfl h
  · have h := h.2 c2
    refine T_aload_n 0 (dk dtk_X9_sameName 28 rfl) rfl rfl ?_
    refine T_getR 20 0 21 (dk dtk_X9_sameName 29 rfl) kfl_X9_9 kk_20 (kl_20 hq) (by decide) rfl kr_20_0 ?_
    refine T_aload_n 0 (dk dtk_X9_sameName 30 rfl) rfl rfl ?_
    refine T_getR 20 3 24 (dk dtk_X9_sameName 31 rfl) kfl_X9_19 kk_20 (kl_20 hq) (by decide) rfl kr_20_3 ?_
    refine T_iload_n 1 (dk dtk_X9_sameName 32 rfl) rfl rfl ?_
    obtain ⟨h3, h⟩ := h
    refine T_iald 24 702 (dk dtk_X9_sameName 33 rfl) kk_24 (kl_24 hq) h3 ?_
    refine T_iload_n 3 (dk dtk_X9_sameName 34 rfl) rfl rfl ?_
    refine T_iadd (dk dtk_X9_sameName 35 rfl) ?_
    obtain ⟨h4, h⟩ := h
    refine T_bald 21 3000 (dk dtk_X9_sameName 36 rfl) kk_21 (kl_21 hq) h4 ?_
    refine T_aload_n 0 (dk dtk_X9_sameName 37 rfl) rfl rfl ?_
    refine T_getR 20 0 21 (dk dtk_X9_sameName 38 rfl) kfl_X9_9 kk_20 (kl_20 hq) (by decide) rfl kr_20_0 ?_
    refine T_aload_n 0 (dk dtk_X9_sameName 39 rfl) rfl rfl ?_
    refine T_getR 20 3 24 (dk dtk_X9_sameName 40 rfl) kfl_X9_19 kk_20 (kl_20 hq) (by decide) rfl kr_20_3 ?_
    refine T_iload_n 2 (dk dtk_X9_sameName 41 rfl) rfl rfl ?_
    obtain ⟨h5, h⟩ := h
    refine T_iald 24 702 (dk dtk_X9_sameName 42 rfl) kk_24 (kl_24 hq) h5 ?_
    refine T_iload_n 3 (dk dtk_X9_sameName 43 rfl) rfl rfl ?_
    refine T_iadd (dk dtk_X9_sameName 44 rfl) ?_
    obtain ⟨h6, h⟩ := h
    refine T_bald 21 3000 (dk dtk_X9_sameName 45 rfl) kk_21 (kl_21 hq) h6 ?_
    refine T_icmp_eq 75 (dk dtk_X9_sameName 46 rfl) (by decide) (fun c7 => ?_) (fun c7 => ?_)
    · have h := h.1 c7
      refine T_iinc (v := l3 + 1) (lv2 := [(3, vi (l3 + 1)), (0, vr 20), (1, vi l1), (2, vi l2)]) 3 (dk dtk_X9_sameName 49 rfl) rfl rfl (by decide) rfl ?_
      refine T_goto 34 (dk dtk_X9_sameName 50 rfl) (by decide) ?_
      exact T_sub [1, 2, 3, 0] rfl h
    · have h := h.2 c7
      refine T_iconst (v := 0) (dk dtk_X9_sameName 47 rfl) (by decide +kernel) ?_
      exact KT_iret (dk dtk_X9_sameName 48 rfl) rfl rfl h
set_option maxRecDepth 100000 in
theorem dtk_X9_byteAt : dck cX9_byteAt [(0, .iload_n 1, 1), (1, .aload_n 0, 1), (2, .getfield 31, 3), (5, .if_icmp .ge 16, 3), (8, .aload_n 0, 1), (9, .getfield 9, 3), (12, .iload_n 1, 1), (13, .baload, 1), (14, .sipush 255, 3), (17, .iand, 1), (18, .goto 4, 3), (21, .iconst 0, 1), (22, .ireturn, 1)] = true := by decide +kernel
set_option maxRecDepth 100000 in
set_option maxHeartbeats 4000000 in
theorem kg_X9_byteAt_0 {G : kG} {q : kP} {d : Nat} {x : gd} {P : Option gv → gd → Prop} (hq : kV q) (l1 : Int32)
    (h : (((x.1 20 1) ≤ l1 → P (some (vi 0)) x) ∧ (¬ ((x.1 20 1) ≤ l1) → vp_in l1 3000 ∧ P (some (vi ((x.1 21 (l1 : Int32).toNatClampNeg) &&& 255))) x))) :
    KT G q d zk_X9_byteAt 0 [(0, vr 20), (1, vi l1)] [] x P := by
  refine T_iload_n 1 (dk dtk_X9_byteAt 0 rfl) rfl rfl ?_
  refine T_aload_n 0 (dk dtk_X9_byteAt 1 rfl) rfl rfl ?_
  refine T_getI 20 1 (dk dtk_X9_byteAt 2 rfl) kfl_X9_31 kk_20 (kl_20 hq) (by decide) rfl ?_
  refine T_icmp_ge 21 (dk dtk_X9_byteAt 3 rfl) (by decide) (fun c1 => ?_) (fun c1 => ?_)
  · have h := h.1 c1
    refine T_iconst (v := 0) (dk dtk_X9_byteAt 11 rfl) (by decide +kernel) ?_
    exact KT_iret (dk dtk_X9_byteAt 12 rfl) rfl rfl h
  · have h := h.2 c1
    refine T_aload_n 0 (dk dtk_X9_byteAt 4 rfl) rfl rfl ?_
    refine T_getR 20 0 21 (dk dtk_X9_byteAt 5 rfl) kfl_X9_9 kk_20 (kl_20 hq) (by decide) rfl kr_20_0 ?_
    refine T_iload_n 1 (dk dtk_X9_byteAt 6 rfl) rfl rfl ?_
    obtain ⟨h2, h⟩ := h
    refine T_bald 21 3000 (dk dtk_X9_byteAt 7 rfl) kk_21 (kl_21 hq) h2 ?_
    refine T_sipush (v := 255) (dk dtk_X9_byteAt 8 rfl) (by decide +kernel) ?_
    refine T_iand (dk dtk_X9_byteAt 9 rfl) ?_
    refine T_goto 22 (dk dtk_X9_byteAt 10 rfl) (by decide) ?_
    exact KT_iret (dk dtk_X9_byteAt 12 rfl) rfl rfl h
set_option maxRecDepth 100000 in
theorem dtk_X9_skipBlanks : dck cX9_skipBlanks [(0, .iconst 0, 1), (1, .istore_n 1, 1), (2, .aload_n 0, 1), (3, .getfield 35, 3), (6, .aload_n 0, 1), (7, .getfield 31, 3), (10, .if_icmp .ge 95, 3), (13, .aload_n 0, 1), (14, .aload_n 0, 1), (15, .getfield 35, 3), (18, .invokevirtual 51, 3), (21, .istore_n 2, 1), (22, .iload_n 2, 1), (23, .bipush 10, 2), (25, .if_icmp .ne 18, 3), (28, .aload_n 0, 1), (29, .dup, 1), (30, .getfield 38, 3), (33, .iconst 1, 1), (34, .iadd, 1), (35, .putfield 38, 3), (38, .iconst 0, 1), (39, .istore_n 1, 1), (40, .goto 52, 3), (43, .iload_n 2, 1), (44, .bipush 47, 2), (46, .if_icmp .ne 23, 3), (49, .aload_n 0, 1), (50, .aload_n 0, 1), (51, .getfield 35, 3), (54, .iconst 1, 1), (55, .iadd, 1), (56, .invokevirtual 51, 3), (59, .bipush 47, 2), (61, .if_icmp .ne 8, 3), (64, .iconst 1, 1), (65, .istore_n 1, 1), (66, .goto 26, 3), (69, .iload_n 1, 1), (70, .ifCond .ne 22, 3), (73, .iload_n 2, 1), (74, .bipush 32, 2), (76, .if_icmp .eq 16, 3), (79, .iload_n 2, 1), (80, .bipush 9, 2), (82, .if_icmp .eq 10, 3), (85, .iload_n 2, 1), (86, .bipush 13, 2), (88, .if_icmp .eq 4, 3), (91, .return_, 1), (92, .aload_n 0, 1), (93, .dup, 1), (94, .getfield 35, 3), (97, .iconst 1, 1), (98, .iadd, 1), (99, .putfield 35, 3), (102, .goto (-100), 3), (105, .return_, 1)] = true := by decide +kernel
set_option maxRecDepth 100000 in
set_option maxHeartbeats 4000000 in
theorem kg_X9_skipBlanks_0 {G : kG} {q : kP} {d : Nat} {x : gd} {P : Option gv → gd → Prop} (hq : kV q) 
    (h : KT G q (d + 1) zk_X9_skipBlanks 2 [(0, vr 20), (1, vi 0)] [] x P) :
    KT G q (d + 1) zk_X9_skipBlanks 0 [(0, vr 20)] [] x P := by
  refine T_iconst (v := 0) (dk dtk_X9_skipBlanks 0 rfl) (by decide +kernel) ?_
  refine T_istore_n (lv2 := [(1, vi 0), (0, vr 20)]) (dk dtk_X9_skipBlanks 1 rfl) rfl (by decide) rfl ?_
  exact T_sub [1, 0] rfl h
set_option maxRecDepth 100000 in
set_option maxHeartbeats 4000000 in
theorem kg_X9_skipBlanks_2 {G : kG} {q : kP} {d : Nat} {x : gd} {P : Option gv → gd → Prop} (hq : kV q) (l1 : Int32)
    (h : (((x.1 20 1) ≤ (x.1 20 8) → P none x) ∧ (¬ ((x.1 20 1) ≤ (x.1 20 8)) → KT G q d zk_X9_byteAt 0 [(0, vr 20), (1, vi (x.1 20 8))] [] x (ri (fun r3 x2 => ((¬ (r3 = (10 : Int32)) → ((¬ (r3 = (47 : Int32)) → KT G q (d + 1) zk_X9_skipBlanks 69 [(0, vr 20), (1, vi l1), (2, vi r3)] [] x2 P) ∧ (r3 = (47 : Int32) → KT G q d zk_X9_byteAt 0 [(0, vr 20), (1, vi ((x2.1 20 8) + 1))] [] x2 (ri (fun r7 x6 => ((¬ (r7 = (47 : Int32)) → KT G q (d + 1) zk_X9_skipBlanks 69 [(0, vr 20), (1, vi l1), (2, vi r3)] [] x6 P) ∧ (r7 = (47 : Int32) → (∀ x9 : gd, x9 = si x6 20 8 ((x6.1 20 8) + 1) → KT G q (d + 1) zk_X9_skipBlanks 2 [(0, vr 20), (1, vi 1)] [] x9 P)))))))) ∧ (r3 = (10 : Int32) → (∀ x10 : gd, x10 = si x2 20 9 ((x2.1 20 9) + 1) → (∀ x11 : gd, x11 = si x10 20 8 ((x10.1 20 8) + 1) → KT G q (d + 1) zk_X9_skipBlanks 2 [(0, vr 20), (1, vi 0)] [] x11 P))))))))) :
    KT G q (d + 1) zk_X9_skipBlanks 2 [(0, vr 20), (1, vi l1)] [] x P := by
  refine T_aload_n 0 (dk dtk_X9_skipBlanks 2 rfl) rfl rfl ?_
  refine T_getI 20 8 (dk dtk_X9_skipBlanks 3 rfl) kfl_X9_35 kk_20 (kl_20 hq) (by decide) rfl ?_
  refine T_aload_n 0 (dk dtk_X9_skipBlanks 4 rfl) rfl rfl ?_
  refine T_getI 20 1 (dk dtk_X9_skipBlanks 5 rfl) kfl_X9_31 kk_20 (kl_20 hq) (by decide) rfl ?_
  refine T_icmp_ge 105 (dk dtk_X9_skipBlanks 6 rfl) (by decide) (fun c1 => ?_) (fun c1 => ?_)
  · have h := h.1 c1
    exact KT_vret (dk dtk_X9_skipBlanks 57 rfl) rfl h
  · have h := h.2 c1
    refine T_aload_n 0 (dk dtk_X9_skipBlanks 7 rfl) rfl rfl ?_
    refine T_aload_n 0 (dk dtk_X9_skipBlanks 8 rfl) rfl rfl ?_
    refine T_getI 20 8 (dk dtk_X9_skipBlanks 9 rfl) kfl_X9_35 kk_20 (kl_20 hq) (by decide) rfl ?_
    refine KC_Vi [vi (x.1 20 8)] [] rfl (dk dtk_X9_skipBlanks 10 rfl) kcv_X9_51 rfl kk_20 rfl (kl_20 hq) (Nat.le_of_ble_eq_true rfl) (Nat.le_of_ble_eq_true rfl) (gok_i (av_c (gkr (kl_20 hq)) (av_c rfl av_n)) as_n) rfl h (fun r3 x2 h => ?_)
    refine T_istore_n (lv2 := [(2, vi r3), (0, vr 20), (1, vi l1)]) (dk dtk_X9_skipBlanks 11 rfl) rfl (by decide) rfl ?_
    refine T_iload_n 0 (dk dtk_X9_skipBlanks 12 rfl) rfl rfl ?_
    refine T_bipush (v := 10) (dk dtk_X9_skipBlanks 13 rfl) (by decide +kernel) ?_
    refine T_icmp_ne 43 (dk dtk_X9_skipBlanks 14 rfl) (by decide) (fun c4 => ?_) (fun c4 => ?_)
    · have h := h.1 c4
      refine T_iload_n 0 (dk dtk_X9_skipBlanks 24 rfl) rfl rfl ?_
      refine T_bipush (v := 47) (dk dtk_X9_skipBlanks 25 rfl) (by decide +kernel) ?_
      refine T_icmp_ne 69 (dk dtk_X9_skipBlanks 26 rfl) (by decide) (fun c5 => ?_) (fun c5 => ?_)
      · have h := h.1 c5
        exact T_sub [1, 2, 0] rfl h
      · have h := h.2 c5
        refine T_aload_n 1 (dk dtk_X9_skipBlanks 27 rfl) rfl rfl ?_
        refine T_aload_n 1 (dk dtk_X9_skipBlanks 28 rfl) rfl rfl ?_
        refine T_getI 20 8 (dk dtk_X9_skipBlanks 29 rfl) kfl_X9_35 kk_20 (kl_20 hq) (by decide) rfl ?_
        refine T_iconst (v := 1) (dk dtk_X9_skipBlanks 30 rfl) (by decide +kernel) ?_
        refine T_iadd (dk dtk_X9_skipBlanks 31 rfl) ?_
        refine KC_Vi [vi ((x2.1 20 8) + 1)] [] rfl (dk dtk_X9_skipBlanks 32 rfl) kcv_X9_51 rfl kk_20 rfl (kl_20 hq) (Nat.le_of_ble_eq_true rfl) (Nat.le_of_ble_eq_true rfl) (gok_i (av_c rfl (av_c (gkr (kl_20 hq)) (av_c rfl av_n))) as_n) rfl h (fun r7 x6 h => ?_)
        refine T_bipush (v := 47) (dk dtk_X9_skipBlanks 33 rfl) (by decide +kernel) ?_
        refine T_icmp_ne 69 (dk dtk_X9_skipBlanks 34 rfl) (by decide) (fun c8 => ?_) (fun c8 => ?_)
        · have h := h.1 c8
          exact T_sub [1, 2, 0] rfl h
        · have h := h.2 c8
          refine T_iconst (v := 1) (dk dtk_X9_skipBlanks 35 rfl) (by decide +kernel) ?_
          refine T_istore_n (lv2 := [(1, vi 1), (2, vi r3), (0, vr 20)]) (dk dtk_X9_skipBlanks 36 rfl) rfl (by decide) rfl ?_
          refine T_goto 92 (dk dtk_X9_skipBlanks 37 rfl) (by decide) ?_
          refine T_aload_n 2 (dk dtk_X9_skipBlanks 50 rfl) rfl rfl ?_
          refine T_dup (dk dtk_X9_skipBlanks 51 rfl) rfl ?_
          refine T_getI 20 8 (dk dtk_X9_skipBlanks 52 rfl) kfl_X9_35 kk_20 (kl_20 hq) (by decide) rfl ?_
          refine T_iconst (v := 1) (dk dtk_X9_skipBlanks 53 rfl) (by decide +kernel) ?_
          refine T_iadd (dk dtk_X9_skipBlanks 54 rfl) ?_
          obtain ⟨x9, ex9⟩ : ∃ z, z = si x6 20 8 ((x6.1 20 8) + 1) := ⟨_, rfl⟩
          have h := h x9 ex9
          refine T_putI 20 8 (dk dtk_X9_skipBlanks 55 rfl) kfl_X9_35 kk_20 (kl_20 hq) (by decide) rfl ⟨rfl, rfl⟩ ?_
          rw [← ex9]
          refine T_goto 2 (dk dtk_X9_skipBlanks 56 rfl) (by decide) ?_
          exact T_sub [2, 0] rfl h
    · have h := h.2 c4
      refine T_aload_n 1 (dk dtk_X9_skipBlanks 15 rfl) rfl rfl ?_
      refine T_dup (dk dtk_X9_skipBlanks 16 rfl) rfl ?_
      refine T_getI 20 9 (dk dtk_X9_skipBlanks 17 rfl) kfl_X9_38 kk_20 (kl_20 hq) (by decide) rfl ?_
      refine T_iconst (v := 1) (dk dtk_X9_skipBlanks 18 rfl) (by decide +kernel) ?_
      refine T_iadd (dk dtk_X9_skipBlanks 19 rfl) ?_
      obtain ⟨x10, ex10⟩ : ∃ z, z = si x2 20 9 ((x2.1 20 9) + 1) := ⟨_, rfl⟩
      have h := h x10 ex10
      refine T_putI 20 9 (dk dtk_X9_skipBlanks 20 rfl) kfl_X9_38 kk_20 (kl_20 hq) (by decide) rfl ⟨rfl, rfl⟩ ?_
      rw [← ex10]
      refine T_iconst (v := 0) (dk dtk_X9_skipBlanks 21 rfl) (by decide +kernel) ?_
      refine T_istore_n (lv2 := [(1, vi 0), (2, vi r3), (0, vr 20)]) (dk dtk_X9_skipBlanks 22 rfl) rfl (by decide) rfl ?_
      refine T_goto 92 (dk dtk_X9_skipBlanks 23 rfl) (by decide) ?_
      refine T_aload_n 2 (dk dtk_X9_skipBlanks 50 rfl) rfl rfl ?_
      refine T_dup (dk dtk_X9_skipBlanks 51 rfl) rfl ?_
      refine T_getI 20 8 (dk dtk_X9_skipBlanks 52 rfl) kfl_X9_35 kk_20 (kl_20 hq) (by decide) rfl ?_
      refine T_iconst (v := 1) (dk dtk_X9_skipBlanks 53 rfl) (by decide +kernel) ?_
      refine T_iadd (dk dtk_X9_skipBlanks 54 rfl) ?_
      obtain ⟨x11, ex11⟩ : ∃ z, z = si x10 20 8 ((x10.1 20 8) + 1) := ⟨_, rfl⟩
      have h := h x11 ex11
      refine T_putI 20 8 (dk dtk_X9_skipBlanks 55 rfl) kfl_X9_35 kk_20 (kl_20 hq) (by decide) rfl ⟨rfl, rfl⟩ ?_
      rw [← ex11]
      refine T_goto 2 (dk dtk_X9_skipBlanks 56 rfl) (by decide) ?_
      exact T_sub [2, 0] rfl h
set_option maxRecDepth 100000 in
set_option maxHeartbeats 4000000 in
theorem kg_X9_skipBlanks_69 {G : kG} {q : kP} {d : Nat} {x : gd} {P : Option gv → gd → Prop} (hq : kV q) (l1 : Int32) (l2 : Int32)
    (h : ((¬ (l1 = (0 : Int32)) → (∀ x2 : gd, x2 = si x 20 8 ((x.1 20 8) + 1) → KT G q (d + 1) zk_X9_skipBlanks 2 [(0, vr 20), (1, vi l1)] [] x2 P)) ∧ (l1 = (0 : Int32) → ((l2 = (32 : Int32) → (∀ x4 : gd, x4 = si x 20 8 ((x.1 20 8) + 1) → KT G q (d + 1) zk_X9_skipBlanks 2 [(0, vr 20), (1, vi l1)] [] x4 P)) ∧ (¬ (l2 = (32 : Int32)) → ((l2 = (9 : Int32) → (∀ x6 : gd, x6 = si x 20 8 ((x.1 20 8) + 1) → KT G q (d + 1) zk_X9_skipBlanks 2 [(0, vr 20), (1, vi l1)] [] x6 P)) ∧ (¬ (l2 = (9 : Int32)) → ((l2 = (13 : Int32) → (∀ x8 : gd, x8 = si x 20 8 ((x.1 20 8) + 1) → KT G q (d + 1) zk_X9_skipBlanks 2 [(0, vr 20), (1, vi l1)] [] x8 P)) ∧ (¬ (l2 = (13 : Int32)) → P none x))))))))) :
    KT G q (d + 1) zk_X9_skipBlanks 69 [(0, vr 20), (1, vi l1), (2, vi l2)] [] x P := by
  refine T_iload_n 1 (dk dtk_X9_skipBlanks 38 rfl) rfl rfl ?_
  refine T_if_ne 92 (dk dtk_X9_skipBlanks 39 rfl) (by decide) (fun c1 => ?_) (fun c1 => ?_)
  · have h := h.1 c1
    refine T_aload_n 0 (dk dtk_X9_skipBlanks 50 rfl) rfl rfl ?_
    refine T_dup (dk dtk_X9_skipBlanks 51 rfl) rfl ?_
    refine T_getI 20 8 (dk dtk_X9_skipBlanks 52 rfl) kfl_X9_35 kk_20 (kl_20 hq) (by decide) rfl ?_
    refine T_iconst (v := 1) (dk dtk_X9_skipBlanks 53 rfl) (by decide +kernel) ?_
    refine T_iadd (dk dtk_X9_skipBlanks 54 rfl) ?_
    obtain ⟨x2, ex2⟩ : ∃ z, z = si x 20 8 ((x.1 20 8) + 1) := ⟨_, rfl⟩
    have h := h x2 ex2
    refine T_putI 20 8 (dk dtk_X9_skipBlanks 55 rfl) kfl_X9_35 kk_20 (kl_20 hq) (by decide) rfl ⟨rfl, rfl⟩ ?_
    rw [← ex2]
    refine T_goto 2 (dk dtk_X9_skipBlanks 56 rfl) (by decide) ?_
    exact T_sub [0, 1] rfl h
  · have h := h.2 c1
    refine T_iload_n 2 (dk dtk_X9_skipBlanks 40 rfl) rfl rfl ?_
    refine T_bipush (v := 32) (dk dtk_X9_skipBlanks 41 rfl) (by decide +kernel) ?_
    refine T_icmp_eq 92 (dk dtk_X9_skipBlanks 42 rfl) (by decide) (fun c3 => ?_) (fun c3 => ?_)
    · have h := h.1 c3
      refine T_aload_n 0 (dk dtk_X9_skipBlanks 50 rfl) rfl rfl ?_
      refine T_dup (dk dtk_X9_skipBlanks 51 rfl) rfl ?_
      refine T_getI 20 8 (dk dtk_X9_skipBlanks 52 rfl) kfl_X9_35 kk_20 (kl_20 hq) (by decide) rfl ?_
      refine T_iconst (v := 1) (dk dtk_X9_skipBlanks 53 rfl) (by decide +kernel) ?_
      refine T_iadd (dk dtk_X9_skipBlanks 54 rfl) ?_
      obtain ⟨x4, ex4⟩ : ∃ z, z = si x 20 8 ((x.1 20 8) + 1) := ⟨_, rfl⟩
      have h := h x4 ex4
      refine T_putI 20 8 (dk dtk_X9_skipBlanks 55 rfl) kfl_X9_35 kk_20 (kl_20 hq) (by decide) rfl ⟨rfl, rfl⟩ ?_
      rw [← ex4]
      refine T_goto 2 (dk dtk_X9_skipBlanks 56 rfl) (by decide) ?_
      exact T_sub [0, 1] rfl h
    · have h := h.2 c3
      refine T_iload_n 2 (dk dtk_X9_skipBlanks 43 rfl) rfl rfl ?_
      refine T_bipush (v := 9) (dk dtk_X9_skipBlanks 44 rfl) (by decide +kernel) ?_
      refine T_icmp_eq 92 (dk dtk_X9_skipBlanks 45 rfl) (by decide) (fun c5 => ?_) (fun c5 => ?_)
      · have h := h.1 c5
        refine T_aload_n 0 (dk dtk_X9_skipBlanks 50 rfl) rfl rfl ?_
        refine T_dup (dk dtk_X9_skipBlanks 51 rfl) rfl ?_
        refine T_getI 20 8 (dk dtk_X9_skipBlanks 52 rfl) kfl_X9_35 kk_20 (kl_20 hq) (by decide) rfl ?_
        refine T_iconst (v := 1) (dk dtk_X9_skipBlanks 53 rfl) (by decide +kernel) ?_
        refine T_iadd (dk dtk_X9_skipBlanks 54 rfl) ?_
        obtain ⟨x6, ex6⟩ : ∃ z, z = si x 20 8 ((x.1 20 8) + 1) := ⟨_, rfl⟩
        have h := h x6 ex6
        refine T_putI 20 8 (dk dtk_X9_skipBlanks 55 rfl) kfl_X9_35 kk_20 (kl_20 hq) (by decide) rfl ⟨rfl, rfl⟩ ?_
        rw [← ex6]
        refine T_goto 2 (dk dtk_X9_skipBlanks 56 rfl) (by decide) ?_
        exact T_sub [0, 1] rfl h
      · have h := h.2 c5
        refine T_iload_n 2 (dk dtk_X9_skipBlanks 46 rfl) rfl rfl ?_
        refine T_bipush (v := 13) (dk dtk_X9_skipBlanks 47 rfl) (by decide +kernel) ?_
        refine T_icmp_eq 92 (dk dtk_X9_skipBlanks 48 rfl) (by decide) (fun c7 => ?_) (fun c7 => ?_)
        · have h := h.1 c7
          refine T_aload_n 0 (dk dtk_X9_skipBlanks 50 rfl) rfl rfl ?_
          refine T_dup (dk dtk_X9_skipBlanks 51 rfl) rfl ?_
          refine T_getI 20 8 (dk dtk_X9_skipBlanks 52 rfl) kfl_X9_35 kk_20 (kl_20 hq) (by decide) rfl ?_
          refine T_iconst (v := 1) (dk dtk_X9_skipBlanks 53 rfl) (by decide +kernel) ?_
          refine T_iadd (dk dtk_X9_skipBlanks 54 rfl) ?_
          obtain ⟨x8, ex8⟩ : ∃ z, z = si x 20 8 ((x.1 20 8) + 1) := ⟨_, rfl⟩
          have h := h x8 ex8
          refine T_putI 20 8 (dk dtk_X9_skipBlanks 55 rfl) kfl_X9_35 kk_20 (kl_20 hq) (by decide) rfl ⟨rfl, rfl⟩ ?_
          rw [← ex8]
          refine T_goto 2 (dk dtk_X9_skipBlanks 56 rfl) (by decide) ?_
          exact T_sub [0, 1] rfl h
        · have h := h.2 c7
          exact KT_vret (dk dtk_X9_skipBlanks 49 rfl) rfl h
set_option maxRecDepth 100000 in
theorem dtk_X9_cutOne : dck cX9_cutOne [(0, .aload_n 0, 1), (1, .getfield 35, 3), (4, .istore_n 1, 1), (5, .aload_n 0, 1), (6, .aload_n 0, 1), (7, .getfield 35, 3), (10, .invokevirtual 51, 3), (13, .istore_n 2, 1), (14, .iload_n 2, 1), (15, .invokestatic 55, 3), (18, .ifCond .eq 13, 3), (21, .aload_n 0, 1), (22, .invokevirtual 59, 3), (25, .aload_n 0, 1), (26, .iload_n 1, 1), (27, .invokevirtual 62, 3), (30, .ireturn, 1), (31, .iload_n 2, 1), (32, .invokestatic 65, 3), (35, .ifCond .eq 13, 3), (38, .aload_n 0, 1), (39, .invokevirtual 59, 3), (42, .aload_n 0, 1), (43, .iload_n 1, 1), (44, .invokevirtual 68, 3), (47, .ireturn, 1), (48, .aload_n 0, 1), (49, .iload_n 2, 1), (50, .aload_n 0, 1), (51, .aload_n 0, 1), (52, .getfield 35, 3), (55, .iconst 1, 1), (56, .iadd, 1), (57, .invokevirtual 51, 3), (60, .invokevirtual 71, 3), (63, .ireturn, 1)] = true := by decide +kernel
set_option maxRecDepth 100000 in
set_option maxHeartbeats 4000000 in
theorem kg_X9_cutOne_0 {G : kG} {q : kP} {d : Nat} {x : gd} {P : Option gv → gd → Prop} (hq : kV q) 
    (h : KT G q d zk_X9_byteAt 0 [(0, vr 20), (1, vi (x.1 20 8))] [] x (ri (fun r2 x1 => KT G q d zk_X9_isLetter 0 [(0, vi r2)] [] x1 (ri (fun r4 x3 => ((r4 = (0 : Int32) → KT G q d zk_X9_isDigit 0 [(0, vi r2)] [] x3 (ri (fun r7 x6 => ((r7 = (0 : Int32) → KT G q d zk_X9_byteAt 0 [(0, vr 20), (1, vi ((x6.1 20 8) + 1))] [] x6 (ri (fun r10 x9 => KT G q d zk_X9_sign 0 [(0, vr 20), (1, vi r2), (2, vi r10)] [] x9 (ri (fun r12 x11 => P (some (vi r12)) x11))))) ∧ (¬ (r7 = (0 : Int32)) → KT G q d zk_X9_passLettersAndDigits 0 [(0, vr 20)] [] x6 (rv (fun x13 => KT G q d zk_X9_wholeOrBad 0 [(0, vr 20), (1, vi (x.1 20 8))] [] x13 (ri (fun r15 x14 => P (some (vi r15)) x14))))))))) ∧ (¬ (r4 = (0 : Int32)) → KT G q d zk_X9_passLettersAndDigits 0 [(0, vr 20)] [] x3 (rv (fun x16 => KT G q d zk_X9_nameOrWord 0 [(0, vr 20), (1, vi (x.1 20 8))] [] x16 (ri (fun r18 x17 => P (some (vi r18)) x17))))))))))) :
    KT G q (d + 1) zk_X9_cutOne 0 [(0, vr 20)] [] x P := by
  refine T_aload_n 0 (dk dtk_X9_cutOne 0 rfl) rfl rfl ?_
  refine T_getI 20 8 (dk dtk_X9_cutOne 1 rfl) kfl_X9_35 kk_20 (kl_20 hq) (by decide) rfl ?_
  refine T_istore_n (lv2 := [(1, vi (x.1 20 8)), (0, vr 20)]) (dk dtk_X9_cutOne 2 rfl) rfl (by decide) rfl ?_
  refine T_aload_n 1 (dk dtk_X9_cutOne 3 rfl) rfl rfl ?_
  refine T_aload_n 1 (dk dtk_X9_cutOne 4 rfl) rfl rfl ?_
  refine T_getI 20 8 (dk dtk_X9_cutOne 5 rfl) kfl_X9_35 kk_20 (kl_20 hq) (by decide) rfl ?_
  refine KC_Vi [vi (x.1 20 8)] [] rfl (dk dtk_X9_cutOne 6 rfl) kcv_X9_51 rfl kk_20 rfl (kl_20 hq) (Nat.le_of_ble_eq_true rfl) (Nat.le_of_ble_eq_true rfl) (gok_i (av_c rfl (av_c (gkr (kl_20 hq)) av_n)) as_n) rfl h (fun r2 x1 h => ?_)
  refine T_istore_n (lv2 := [(2, vi r2), (1, vi (x.1 20 8)), (0, vr 20)]) (dk dtk_X9_cutOne 7 rfl) rfl (by decide) rfl ?_
  refine T_iload_n 0 (dk dtk_X9_cutOne 8 rfl) rfl rfl ?_
  refine KC_Si [vi r2] [] rfl (dk dtk_X9_cutOne 9 rfl) kcs_X9_55 rfl (Nat.le_of_ble_eq_true rfl) (Nat.le_of_ble_eq_true rfl) (gok_i (av_c rfl (av_c rfl (av_c (gkr (kl_20 hq)) av_n))) as_n) rfl h (fun r4 x3 h => ?_)
  refine T_if_eq 31 (dk dtk_X9_cutOne 10 rfl) (by decide) (fun c5 => ?_) (fun c5 => ?_)
  · have h := h.1 c5
    refine T_iload_n 0 (dk dtk_X9_cutOne 17 rfl) rfl rfl ?_
    refine KC_Si [vi r2] [] rfl (dk dtk_X9_cutOne 18 rfl) kcs_X9_65 rfl (Nat.le_of_ble_eq_true rfl) (Nat.le_of_ble_eq_true rfl) (gok_i (av_c rfl (av_c rfl (av_c (gkr (kl_20 hq)) av_n))) as_n) rfl h (fun r7 x6 h => ?_)
    refine T_if_eq 48 (dk dtk_X9_cutOne 19 rfl) (by decide) (fun c8 => ?_) (fun c8 => ?_)
    · have h := h.1 c8
      refine T_aload_n 2 (dk dtk_X9_cutOne 26 rfl) rfl rfl ?_
      refine T_iload_n 0 (dk dtk_X9_cutOne 27 rfl) rfl rfl ?_
      refine T_aload_n 2 (dk dtk_X9_cutOne 28 rfl) rfl rfl ?_
      refine T_aload_n 2 (dk dtk_X9_cutOne 29 rfl) rfl rfl ?_
      refine T_getI 20 8 (dk dtk_X9_cutOne 30 rfl) kfl_X9_35 kk_20 (kl_20 hq) (by decide) rfl ?_
      refine T_iconst (v := 1) (dk dtk_X9_cutOne 31 rfl) (by decide +kernel) ?_
      refine T_iadd (dk dtk_X9_cutOne 32 rfl) ?_
      refine T_sub (lv2 := []) [] rfl ?_
      refine KC_Vi [vi ((x6.1 20 8) + 1)] [vi r2, vr 20] rfl (dk dtk_X9_cutOne 33 rfl) kcv_X9_51 rfl kk_20 rfl (kl_20 hq) (Nat.le_of_ble_eq_true rfl) (Nat.le_of_ble_eq_true rfl) (gok_i av_n (as_c rfl (as_c (gkr (kl_20 hq)) as_n))) rfl h (fun r10 x9 h => ?_)
      refine KC_Vi [vi r2, vi r10] [] rfl (dk dtk_X9_cutOne 34 rfl) kcv_X9_71 rfl kk_20 rfl (kl_20 hq) (Nat.le_of_ble_eq_true rfl) (Nat.le_of_ble_eq_true rfl) (gok_i av_n as_n) rfl h (fun r12 x11 h => ?_)
      exact KT_iret (dk dtk_X9_cutOne 35 rfl) rfl rfl h
    · have h := h.2 c8
      refine T_aload_n 2 (dk dtk_X9_cutOne 20 rfl) rfl rfl ?_
      refine T_sub (lv2 := [(1, vi (x.1 20 8)), (0, vr 20)]) [1, 2] rfl ?_
      refine KC_Vv [] [] rfl (dk dtk_X9_cutOne 21 rfl) kcv_X9_59 rfl kk_20 rfl (kl_20 hq) (Nat.le_of_ble_eq_true rfl) (Nat.le_of_ble_eq_true rfl) (gok_i (av_c rfl (av_c (gkr (kl_20 hq)) av_n)) as_n) rfl h (fun x13 h => ?_)
      refine T_aload_n 1 (dk dtk_X9_cutOne 22 rfl) rfl rfl ?_
      refine T_iload_n 0 (dk dtk_X9_cutOne 23 rfl) rfl rfl ?_
      refine T_sub (lv2 := []) [] rfl ?_
      refine KC_Vi [vi (x.1 20 8)] [] rfl (dk dtk_X9_cutOne 24 rfl) kcv_X9_68 rfl kk_20 rfl (kl_20 hq) (Nat.le_of_ble_eq_true rfl) (Nat.le_of_ble_eq_true rfl) (gok_i av_n as_n) rfl h (fun r15 x14 h => ?_)
      exact KT_iret (dk dtk_X9_cutOne 25 rfl) rfl rfl h
  · have h := h.2 c5
    refine T_aload_n 2 (dk dtk_X9_cutOne 11 rfl) rfl rfl ?_
    refine T_sub (lv2 := [(1, vi (x.1 20 8)), (0, vr 20)]) [1, 2] rfl ?_
    refine KC_Vv [] [] rfl (dk dtk_X9_cutOne 12 rfl) kcv_X9_59 rfl kk_20 rfl (kl_20 hq) (Nat.le_of_ble_eq_true rfl) (Nat.le_of_ble_eq_true rfl) (gok_i (av_c rfl (av_c (gkr (kl_20 hq)) av_n)) as_n) rfl h (fun x16 h => ?_)
    refine T_aload_n 1 (dk dtk_X9_cutOne 13 rfl) rfl rfl ?_
    refine T_iload_n 0 (dk dtk_X9_cutOne 14 rfl) rfl rfl ?_
    refine T_sub (lv2 := []) [] rfl ?_
    refine KC_Vi [vi (x.1 20 8)] [] rfl (dk dtk_X9_cutOne 15 rfl) kcv_X9_62 rfl kk_20 rfl (kl_20 hq) (Nat.le_of_ble_eq_true rfl) (Nat.le_of_ble_eq_true rfl) (gok_i av_n as_n) rfl h (fun r18 x17 h => ?_)
    exact KT_iret (dk dtk_X9_cutOne 16 rfl) rfl rfl h
set_option maxRecDepth 100000 in
theorem dtk_X9_passLettersAndDigits : dck cX9_passLettersAndDigits [(0, .aload_n 0, 1), (1, .getfield 35, 3), (4, .istore_n 1, 1), (5, .aload_n 0, 1), (6, .getfield 35, 3), (9, .aload_n 0, 1), (10, .getfield 31, 3), (13, .if_icmp .ge 42, 3), (16, .aload_n 0, 1), (17, .aload_n 0, 1), (18, .getfield 35, 3), (21, .invokevirtual 51, 3), (24, .istore_n 2, 1), (25, .iload_n 2, 1), (26, .invokestatic 55, 3), (29, .ifCond .ne 13, 3), (32, .iload_n 2, 1), (33, .invokestatic 65, 3), (36, .ifCond .ne 6, 3), (39, .goto 16, 3), (42, .aload_n 0, 1), (43, .dup, 1), (44, .getfield 35, 3), (47, .iconst 1, 1), (48, .iadd, 1), (49, .putfield 35, 3), (52, .goto (-47), 3), (55, .aload_n 0, 1), (56, .getfield 25, 3), (59, .aload_n 0, 1), (60, .getfield 41, 3), (63, .aload_n 0, 1), (64, .getfield 35, 3), (67, .iload_n 1, 1), (68, .isub, 1), (69, .iastore, 1), (70, .return_, 1)] = true := by decide +kernel
set_option maxRecDepth 100000 in
set_option maxHeartbeats 4000000 in
theorem kg_X9_passLettersAndDigits_0 {G : kG} {q : kP} {d : Nat} {x : gd} {P : Option gv → gd → Prop} (hq : kV q) 
    (h : KT G q (d + 1) zk_X9_passLettersAndDigits 5 [(0, vr 20), (1, vi (x.1 20 8))] [] x P) :
    KT G q (d + 1) zk_X9_passLettersAndDigits 0 [(0, vr 20)] [] x P := by
  refine T_aload_n 0 (dk dtk_X9_passLettersAndDigits 0 rfl) rfl rfl ?_
  refine T_getI 20 8 (dk dtk_X9_passLettersAndDigits 1 rfl) kfl_X9_35 kk_20 (kl_20 hq) (by decide) rfl ?_
  refine T_istore_n (lv2 := [(1, vi (x.1 20 8)), (0, vr 20)]) (dk dtk_X9_passLettersAndDigits 2 rfl) rfl (by decide) rfl ?_
  exact T_sub [1, 0] rfl h
set_option maxRecDepth 100000 in
set_option maxHeartbeats 4000000 in
theorem kg_X9_passLettersAndDigits_5 {G : kG} {q : kP} {d : Nat} {x : gd} {P : Option gv → gd → Prop} (hq : kV q) (l1 : Int32)
    (h : (((x.1 20 1) ≤ (x.1 20 8) → vp_in (x.1 20 7) 702 ∧ (∀ x3 : gd, x3 = si x 26 (x.1 20 7 : Int32).toNatClampNeg ((x.1 20 8) - l1) → P none x3)) ∧ (¬ ((x.1 20 1) ≤ (x.1 20 8)) → KT G q d zk_X9_byteAt 0 [(0, vr 20), (1, vi (x.1 20 8))] [] x (ri (fun r5 x4 => KT G q d zk_X9_isLetter 0 [(0, vi r5)] [] x4 (ri (fun r7 x6 => ((¬ (r7 = (0 : Int32)) → (∀ x9 : gd, x9 = si x6 20 8 ((x6.1 20 8) + 1) → KT G q (d + 1) zk_X9_passLettersAndDigits 5 [(0, vr 20), (1, vi l1)] [] x9 P)) ∧ (r7 = (0 : Int32) → KT G q d zk_X9_isDigit 0 [(0, vi r5)] [] x6 (ri (fun r11 x10 => ((¬ (r11 = (0 : Int32)) → (∀ x13 : gd, x13 = si x10 20 8 ((x10.1 20 8) + 1) → KT G q (d + 1) zk_X9_passLettersAndDigits 5 [(0, vr 20), (1, vi l1)] [] x13 P)) ∧ (r11 = (0 : Int32) → vp_in (x10.1 20 7) 702 ∧ (∀ x15 : gd, x15 = si x10 26 (x10.1 20 7 : Int32).toNatClampNeg ((x10.1 20 8) - l1) → P none x15)))))))))))))) :
    KT G q (d + 1) zk_X9_passLettersAndDigits 5 [(0, vr 20), (1, vi l1)] [] x P := by
  refine T_aload_n 0 (dk dtk_X9_passLettersAndDigits 3 rfl) rfl rfl ?_
  refine T_getI 20 8 (dk dtk_X9_passLettersAndDigits 4 rfl) kfl_X9_35 kk_20 (kl_20 hq) (by decide) rfl ?_
  refine T_aload_n 0 (dk dtk_X9_passLettersAndDigits 5 rfl) rfl rfl ?_
  refine T_getI 20 1 (dk dtk_X9_passLettersAndDigits 6 rfl) kfl_X9_31 kk_20 (kl_20 hq) (by decide) rfl ?_
  refine T_icmp_ge 55 (dk dtk_X9_passLettersAndDigits 7 rfl) (by decide) (fun c1 => ?_) (fun c1 => ?_)
  · have h := h.1 c1
    refine T_aload_n 0 (dk dtk_X9_passLettersAndDigits 27 rfl) rfl rfl ?_
    refine T_getR 20 5 26 (dk dtk_X9_passLettersAndDigits 28 rfl) kfl_X9_25 kk_20 (kl_20 hq) (by decide) rfl kr_20_5 ?_
    refine T_aload_n 0 (dk dtk_X9_passLettersAndDigits 29 rfl) rfl rfl ?_
    refine T_getI 20 7 (dk dtk_X9_passLettersAndDigits 30 rfl) kfl_X9_41 kk_20 (kl_20 hq) (by decide) rfl ?_
    refine T_aload_n 0 (dk dtk_X9_passLettersAndDigits 31 rfl) rfl rfl ?_
    refine T_getI 20 8 (dk dtk_X9_passLettersAndDigits 32 rfl) kfl_X9_35 kk_20 (kl_20 hq) (by decide) rfl ?_
    refine T_iload_n 1 (dk dtk_X9_passLettersAndDigits 33 rfl) rfl rfl ?_
    refine T_isub (dk dtk_X9_passLettersAndDigits 34 rfl) ?_
    obtain ⟨h2, h⟩ := h
    obtain ⟨x3, ex3⟩ : ∃ z, z = si x 26 (x.1 20 7 : Int32).toNatClampNeg ((x.1 20 8) - l1) := ⟨_, rfl⟩
    have h := h x3 ex3
    refine T_iast 26 702 (dk dtk_X9_passLettersAndDigits 35 rfl) kk_26 (kl_26 hq) h2 ?_
    rw [← ex3]
    exact KT_vret (dk dtk_X9_passLettersAndDigits 36 rfl) rfl h
  · have h := h.2 c1
    refine T_aload_n 0 (dk dtk_X9_passLettersAndDigits 8 rfl) rfl rfl ?_
    refine T_aload_n 0 (dk dtk_X9_passLettersAndDigits 9 rfl) rfl rfl ?_
    refine T_getI 20 8 (dk dtk_X9_passLettersAndDigits 10 rfl) kfl_X9_35 kk_20 (kl_20 hq) (by decide) rfl ?_
    refine KC_Vi [vi (x.1 20 8)] [] rfl (dk dtk_X9_passLettersAndDigits 11 rfl) kcv_X9_51 rfl kk_20 rfl (kl_20 hq) (Nat.le_of_ble_eq_true rfl) (Nat.le_of_ble_eq_true rfl) (gok_i (av_c (gkr (kl_20 hq)) (av_c rfl av_n)) as_n) rfl h (fun r5 x4 h => ?_)
    refine T_istore_n (lv2 := [(2, vi r5), (0, vr 20), (1, vi l1)]) (dk dtk_X9_passLettersAndDigits 12 rfl) rfl (by decide) rfl ?_
    refine T_iload_n 0 (dk dtk_X9_passLettersAndDigits 13 rfl) rfl rfl ?_
    refine KC_Si [vi r5] [] rfl (dk dtk_X9_passLettersAndDigits 14 rfl) kcs_X9_55 rfl (Nat.le_of_ble_eq_true rfl) (Nat.le_of_ble_eq_true rfl) (gok_i (av_c rfl (av_c (gkr (kl_20 hq)) (av_c rfl av_n))) as_n) rfl h (fun r7 x6 h => ?_)
    refine T_if_ne 42 (dk dtk_X9_passLettersAndDigits 15 rfl) (by decide) (fun c8 => ?_) (fun c8 => ?_)
    · have h := h.1 c8
      refine T_aload_n 1 (dk dtk_X9_passLettersAndDigits 20 rfl) rfl rfl ?_
      refine T_dup (dk dtk_X9_passLettersAndDigits 21 rfl) rfl ?_
      refine T_getI 20 8 (dk dtk_X9_passLettersAndDigits 22 rfl) kfl_X9_35 kk_20 (kl_20 hq) (by decide) rfl ?_
      refine T_iconst (v := 1) (dk dtk_X9_passLettersAndDigits 23 rfl) (by decide +kernel) ?_
      refine T_iadd (dk dtk_X9_passLettersAndDigits 24 rfl) ?_
      obtain ⟨x9, ex9⟩ : ∃ z, z = si x6 20 8 ((x6.1 20 8) + 1) := ⟨_, rfl⟩
      have h := h x9 ex9
      refine T_putI 20 8 (dk dtk_X9_passLettersAndDigits 25 rfl) kfl_X9_35 kk_20 (kl_20 hq) (by decide) rfl ⟨rfl, rfl⟩ ?_
      rw [← ex9]
      refine T_goto 5 (dk dtk_X9_passLettersAndDigits 26 rfl) (by decide) ?_
      exact T_sub [1, 2] rfl h
    · have h := h.2 c8
      refine T_iload_n 0 (dk dtk_X9_passLettersAndDigits 16 rfl) rfl rfl ?_
      refine T_sub (lv2 := [(0, vr 20), (1, vi l1)]) [1, 2] rfl ?_
      refine KC_Si [vi r5] [] rfl (dk dtk_X9_passLettersAndDigits 17 rfl) kcs_X9_65 rfl (Nat.le_of_ble_eq_true rfl) (Nat.le_of_ble_eq_true rfl) (gok_i (av_c (gkr (kl_20 hq)) (av_c rfl av_n)) as_n) rfl h (fun r11 x10 h => ?_)
      refine T_if_ne 42 (dk dtk_X9_passLettersAndDigits 18 rfl) (by decide) (fun c12 => ?_) (fun c12 => ?_)
      · have h := h.1 c12
        refine T_aload_n 0 (dk dtk_X9_passLettersAndDigits 20 rfl) rfl rfl ?_
        refine T_dup (dk dtk_X9_passLettersAndDigits 21 rfl) rfl ?_
        refine T_getI 20 8 (dk dtk_X9_passLettersAndDigits 22 rfl) kfl_X9_35 kk_20 (kl_20 hq) (by decide) rfl ?_
        refine T_iconst (v := 1) (dk dtk_X9_passLettersAndDigits 23 rfl) (by decide +kernel) ?_
        refine T_iadd (dk dtk_X9_passLettersAndDigits 24 rfl) ?_
        obtain ⟨x13, ex13⟩ : ∃ z, z = si x10 20 8 ((x10.1 20 8) + 1) := ⟨_, rfl⟩
        have h := h x13 ex13
        refine T_putI 20 8 (dk dtk_X9_passLettersAndDigits 25 rfl) kfl_X9_35 kk_20 (kl_20 hq) (by decide) rfl ⟨rfl, rfl⟩ ?_
        rw [← ex13]
        refine T_goto 5 (dk dtk_X9_passLettersAndDigits 26 rfl) (by decide) ?_
        exact h
      · have h := h.2 c12
        refine T_goto 55 (dk dtk_X9_passLettersAndDigits 19 rfl) (by decide) ?_
        refine T_aload_n 0 (dk dtk_X9_passLettersAndDigits 27 rfl) rfl rfl ?_
        refine T_getR 20 5 26 (dk dtk_X9_passLettersAndDigits 28 rfl) kfl_X9_25 kk_20 (kl_20 hq) (by decide) rfl kr_20_5 ?_
        refine T_aload_n 0 (dk dtk_X9_passLettersAndDigits 29 rfl) rfl rfl ?_
        refine T_getI 20 7 (dk dtk_X9_passLettersAndDigits 30 rfl) kfl_X9_41 kk_20 (kl_20 hq) (by decide) rfl ?_
        refine T_aload_n 0 (dk dtk_X9_passLettersAndDigits 31 rfl) rfl rfl ?_
        refine T_getI 20 8 (dk dtk_X9_passLettersAndDigits 32 rfl) kfl_X9_35 kk_20 (kl_20 hq) (by decide) rfl ?_
        refine T_iload_n 1 (dk dtk_X9_passLettersAndDigits 33 rfl) rfl rfl ?_
        refine T_isub (dk dtk_X9_passLettersAndDigits 34 rfl) ?_
        obtain ⟨h14, h⟩ := h
        obtain ⟨x15, ex15⟩ : ∃ z, z = si x10 26 (x10.1 20 7 : Int32).toNatClampNeg ((x10.1 20 8) - l1) := ⟨_, rfl⟩
        have h := h x15 ex15
        refine T_iast 26 702 (dk dtk_X9_passLettersAndDigits 35 rfl) kk_26 (kl_26 hq) h14 ?_
        rw [← ex15]
        exact KT_vret (dk dtk_X9_passLettersAndDigits 36 rfl) rfl h
