set_option maxRecDepth 100000 in
theorem dt_layStep : dck cX12_layStep [(0, .aload_n 0, 1), (1, .getfield 103, 3), (4, .aload_n 0, 1), (5, .getfield 502, 3), (8, .iload_n 1, 1), (9, .iastore, 1), (10, .aload_n 0, 1), (11, .getfield 106, 3), (14, .aload_n 0, 1), (15, .getfield 502, 3), (18, .iconst (-1), 1), (19, .iastore, 1), (20, .aload_n 0, 1), (21, .getfield 109, 3), (24, .aload_n 0, 1), (25, .getfield 502, 3), (28, .iconst (-1), 1), (29, .iastore, 1), (30, .aload_n 0, 1), (31, .getfield 112, 3), (34, .aload_n 0, 1), (35, .getfield 502, 3), (38, .iconst 0, 1), (39, .iastore, 1), (40, .aload_n 0, 1), (41, .getfield 115, 3), (44, .aload_n 0, 1), (45, .getfield 502, 3), (48, .iconst (-1), 1), (49, .iastore, 1), (50, .aload_n 0, 1), (51, .getfield 118, 3), (54, .aload_n 0, 1), (55, .getfield 502, 3), (58, .iconst (-1), 1), (59, .iastore, 1), (60, .aload_n 0, 1), (61, .getfield 121, 3), (64, .aload_n 0, 1), (65, .getfield 502, 3), (68, .iconst (-1), 1), (69, .iastore, 1), (70, .aload_n 0, 1), (71, .getfield 124, 3), (74, .aload_n 0, 1), (75, .getfield 502, 3), (78, .iconst (-1), 1), (79, .iastore, 1), (80, .aload_n 0, 1), (81, .getfield 127, 3), (84, .aload_n 0, 1), (85, .getfield 502, 3), (88, .aload_n 0, 1), (89, .invokevirtual 505, 3), (92, .iastore, 1), (93, .aload_n 0, 1), (94, .getfield 130, 3), (97, .aload_n 0, 1), (98, .getfield 502, 3), (101, .iload_n 2, 1), (102, .iconst (-1), 1), (103, .if_icmp .ne 7, 3), (106, .iconst 0, 1), (107, .goto 18, 3), (110, .aload_n 0, 1), (111, .aload_n 0, 1), (112, .getfield 17, 3), (115, .aload_n 0, 1), (116, .getfield 45, 3), (119, .iload_n 2, 1), (120, .iaload, 1), (121, .iaload, 1), (122, .invokevirtual 508, 3), (125, .iastore, 1), (126, .aload_n 0, 1), (127, .dup, 1), (128, .getfield 502, 3), (131, .iconst 1, 1), (132, .iadd, 1), (133, .putfield 502, 3), (136, .aload_n 0, 1), (137, .getfield 502, 3), (140, .iconst 1, 1), (141, .isub, 1), (142, .ireturn, 1)] = true := by decide +kernel
set_option maxRecDepth 100000 in
set_option maxHeartbeats 4000000 in
theorem sg_layStep_0 {G : mG} {d : Nat} {x : gd} {P : Option gv → gd → Prop} (l1 : Int32) (l2 : Int32)
    (h : vp_in (x.1 0 52) 1500 ∧ (∀ x2 : gd, x2 = si x 54 (x.1 0 52 : Int32).toNatClampNeg l1 → vp_in (x2.1 0 52) 1500 ∧ (∀ x4 : gd, x4 = si x2 55 (x2.1 0 52 : Int32).toNatClampNeg (-1) → vp_in (x4.1 0 52) 1500 ∧ (∀ x6 : gd, x6 = si x4 56 (x4.1 0 52 : Int32).toNatClampNeg (-1) → vp_in (x6.1 0 52) 1500 ∧ (∀ x8 : gd, x8 = si x6 57 (x6.1 0 52 : Int32).toNatClampNeg 0 → vp_in (x8.1 0 52) 1500 ∧ (∀ x10 : gd, x10 = si x8 58 (x8.1 0 52 : Int32).toNatClampNeg (-1) → vp_in (x10.1 0 52) 1500 ∧ (∀ x12 : gd, x12 = si x10 59 (x10.1 0 52 : Int32).toNatClampNeg (-1) → vp_in (x12.1 0 52) 1500 ∧ (∀ x14 : gd, x14 = si x12 60 (x12.1 0 52 : Int32).toNatClampNeg (-1) → vp_in (x14.1 0 52) 1500 ∧ (∀ x16 : gd, x16 = si x14 61 (x14.1 0 52 : Int32).toNatClampNeg (-1) → MT G d z_knownMask 0 [(0, vr 0)] [] x16 (ri (fun r18 x17 => vp_in (x16.1 0 52) 1500 ∧ (∀ x20 : gd, x20 = si x17 62 (x16.1 0 52 : Int32).toNatClampNeg r18 → ((¬ (l2 = (-1 : Int32)) → vp_in l2 3000 ∧ vp_in (x20.1 19 (l2 : Int32).toNatClampNeg) 710 ∧ MT G d z_lineOf 0 [(0, vr 0), (1, vi (x20.1 6 (x20.1 19 (l2 : Int32).toNatClampNeg : Int32).toNatClampNeg))] [] x20 (ri (fun r25 x24 => MT G (d + 1) z_layStep 125 [(0, vr 0)] [vi r25, vi (x20.1 0 52), vr 63] x24 P))) ∧ (l2 = (-1 : Int32) → MT G (d + 1) z_layStep 125 [(0, vr 0)] [vi 0, vi (x20.1 0 52), vr 63] x20 P)))))))))))))) :
    MT G (d + 1) z_layStep 0 [(0, vr 0), (1, vi l1), (2, vi l2)] [] x P := by
  refine T_aload_n 0 (dk dt_layStep 0 rfl) rfl rfl ?_
  refine T_getR 0 53 54 (dk dt_layStep 1 rfl) fl_103 mk_0 ml_0 (by decide) rfl rfl ?_
  refine T_aload_n 0 (dk dt_layStep 2 rfl) rfl rfl ?_
  refine T_getI 0 52 (dk dt_layStep 3 rfl) fl_502 mk_0 ml_0 (by decide) rfl ?_
  refine T_iload_n 1 (dk dt_layStep 4 rfl) rfl rfl ?_
  obtain ⟨h1, h⟩ := h
  obtain ⟨x2, ex2⟩ : ∃ z, z = si x 54 (x.1 0 52 : Int32).toNatClampNeg l1 := ⟨_, rfl⟩
  have h := h x2 ex2
  refine T_iast 54 1500 (dk dt_layStep 5 rfl) mk_54 ml_54 h1 ?_
  rw [← ex2]
  refine T_aload_n 0 (dk dt_layStep 6 rfl) rfl rfl ?_
  refine T_getR 0 54 55 (dk dt_layStep 7 rfl) fl_106 mk_0 ml_0 (by decide) rfl rfl ?_
  refine T_aload_n 0 (dk dt_layStep 8 rfl) rfl rfl ?_
  refine T_getI 0 52 (dk dt_layStep 9 rfl) fl_502 mk_0 ml_0 (by decide) rfl ?_
  refine T_iconst (v := (-1)) (dk dt_layStep 10 rfl) (by decide +kernel) ?_
  obtain ⟨h3, h⟩ := h
  obtain ⟨x4, ex4⟩ : ∃ z, z = si x2 55 (x2.1 0 52 : Int32).toNatClampNeg (-1) := ⟨_, rfl⟩
  have h := h x4 ex4
  refine T_iast 55 1500 (dk dt_layStep 11 rfl) mk_55 ml_55 h3 ?_
  rw [← ex4]
  refine T_aload_n 0 (dk dt_layStep 12 rfl) rfl rfl ?_
  refine T_getR 0 55 56 (dk dt_layStep 13 rfl) fl_109 mk_0 ml_0 (by decide) rfl rfl ?_
  refine T_aload_n 0 (dk dt_layStep 14 rfl) rfl rfl ?_
  refine T_getI 0 52 (dk dt_layStep 15 rfl) fl_502 mk_0 ml_0 (by decide) rfl ?_
  refine T_iconst (v := (-1)) (dk dt_layStep 16 rfl) (by decide +kernel) ?_
  obtain ⟨h5, h⟩ := h
  obtain ⟨x6, ex6⟩ : ∃ z, z = si x4 56 (x4.1 0 52 : Int32).toNatClampNeg (-1) := ⟨_, rfl⟩
  have h := h x6 ex6
  refine T_iast 56 1500 (dk dt_layStep 17 rfl) mk_56 ml_56 h5 ?_
  rw [← ex6]
  refine T_aload_n 0 (dk dt_layStep 18 rfl) rfl rfl ?_
  refine T_getR 0 56 57 (dk dt_layStep 19 rfl) fl_112 mk_0 ml_0 (by decide) rfl rfl ?_
  refine T_aload_n 0 (dk dt_layStep 20 rfl) rfl rfl ?_
  refine T_getI 0 52 (dk dt_layStep 21 rfl) fl_502 mk_0 ml_0 (by decide) rfl ?_
  refine T_iconst (v := 0) (dk dt_layStep 22 rfl) (by decide +kernel) ?_
  obtain ⟨h7, h⟩ := h
  obtain ⟨x8, ex8⟩ : ∃ z, z = si x6 57 (x6.1 0 52 : Int32).toNatClampNeg 0 := ⟨_, rfl⟩
  have h := h x8 ex8
  refine T_iast 57 1500 (dk dt_layStep 23 rfl) mk_57 ml_57 h7 ?_
  rw [← ex8]
  refine T_aload_n 0 (dk dt_layStep 24 rfl) rfl rfl ?_
  refine T_getR 0 57 58 (dk dt_layStep 25 rfl) fl_115 mk_0 ml_0 (by decide) rfl rfl ?_
  refine T_aload_n 0 (dk dt_layStep 26 rfl) rfl rfl ?_
  refine T_getI 0 52 (dk dt_layStep 27 rfl) fl_502 mk_0 ml_0 (by decide) rfl ?_
  refine T_iconst (v := (-1)) (dk dt_layStep 28 rfl) (by decide +kernel) ?_
  obtain ⟨h9, h⟩ := h
  obtain ⟨x10, ex10⟩ : ∃ z, z = si x8 58 (x8.1 0 52 : Int32).toNatClampNeg (-1) := ⟨_, rfl⟩
  have h := h x10 ex10
  refine T_iast 58 1500 (dk dt_layStep 29 rfl) mk_58 ml_58 h9 ?_
  rw [← ex10]
  refine T_aload_n 0 (dk dt_layStep 30 rfl) rfl rfl ?_
  refine T_getR 0 58 59 (dk dt_layStep 31 rfl) fl_118 mk_0 ml_0 (by decide) rfl rfl ?_
  refine T_aload_n 0 (dk dt_layStep 32 rfl) rfl rfl ?_
  refine T_getI 0 52 (dk dt_layStep 33 rfl) fl_502 mk_0 ml_0 (by decide) rfl ?_
  refine T_iconst (v := (-1)) (dk dt_layStep 34 rfl) (by decide +kernel) ?_
  obtain ⟨h11, h⟩ := h
  obtain ⟨x12, ex12⟩ : ∃ z, z = si x10 59 (x10.1 0 52 : Int32).toNatClampNeg (-1) := ⟨_, rfl⟩
  have h := h x12 ex12
  refine T_iast 59 1500 (dk dt_layStep 35 rfl) mk_59 ml_59 h11 ?_
  rw [← ex12]
  refine T_aload_n 0 (dk dt_layStep 36 rfl) rfl rfl ?_
  refine T_getR 0 59 60 (dk dt_layStep 37 rfl) fl_121 mk_0 ml_0 (by decide) rfl rfl ?_
  refine T_aload_n 0 (dk dt_layStep 38 rfl) rfl rfl ?_
  refine T_getI 0 52 (dk dt_layStep 39 rfl) fl_502 mk_0 ml_0 (by decide) rfl ?_
  refine T_iconst (v := (-1)) (dk dt_layStep 40 rfl) (by decide +kernel) ?_
  obtain ⟨h13, h⟩ := h
  obtain ⟨x14, ex14⟩ : ∃ z, z = si x12 60 (x12.1 0 52 : Int32).toNatClampNeg (-1) := ⟨_, rfl⟩
  have h := h x14 ex14
  refine T_iast 60 1500 (dk dt_layStep 41 rfl) mk_60 ml_60 h13 ?_
  rw [← ex14]
  refine T_aload_n 0 (dk dt_layStep 42 rfl) rfl rfl ?_
  refine T_getR 0 60 61 (dk dt_layStep 43 rfl) fl_124 mk_0 ml_0 (by decide) rfl rfl ?_
  refine T_aload_n 0 (dk dt_layStep 44 rfl) rfl rfl ?_
  refine T_getI 0 52 (dk dt_layStep 45 rfl) fl_502 mk_0 ml_0 (by decide) rfl ?_
  refine T_iconst (v := (-1)) (dk dt_layStep 46 rfl) (by decide +kernel) ?_
  obtain ⟨h15, h⟩ := h
  obtain ⟨x16, ex16⟩ : ∃ z, z = si x14 61 (x14.1 0 52 : Int32).toNatClampNeg (-1) := ⟨_, rfl⟩
  have h := h x16 ex16
  refine T_iast 61 1500 (dk dt_layStep 47 rfl) mk_61 ml_61 h15 ?_
  rw [← ex16]
  refine T_aload_n 0 (dk dt_layStep 48 rfl) rfl rfl ?_
  refine T_getR 0 61 62 (dk dt_layStep 49 rfl) fl_127 mk_0 ml_0 (by decide) rfl rfl ?_
  refine T_aload_n 0 (dk dt_layStep 50 rfl) rfl rfl ?_
  refine T_getI 0 52 (dk dt_layStep 51 rfl) fl_502 mk_0 ml_0 (by decide) rfl ?_
  refine T_aload_n 0 (dk dt_layStep 52 rfl) rfl rfl ?_
  refine MT_callVi [] [vi (x16.1 0 52), vr 62] rfl (dk dt_layStep 53 rfl) cv_505 rfl rfl (Nat.le_of_ble_eq_true rfl) (Nat.le_of_ble_eq_true rfl) rfl rfl h (fun r18 x17 h => ?_)
  obtain ⟨h19, h⟩ := h
  obtain ⟨x20, ex20⟩ : ∃ z, z = si x17 62 (x16.1 0 52 : Int32).toNatClampNeg r18 := ⟨_, rfl⟩
  have h := h x20 ex20
  refine T_iast 62 1500 (dk dt_layStep 54 rfl) mk_62 ml_62 h19 ?_
  rw [← ex20]
  refine T_aload_n 0 (dk dt_layStep 55 rfl) rfl rfl ?_
  refine T_getR 0 62 63 (dk dt_layStep 56 rfl) fl_130 mk_0 ml_0 (by decide) rfl rfl ?_
  refine T_aload_n 0 (dk dt_layStep 57 rfl) rfl rfl ?_
  refine T_getI 0 52 (dk dt_layStep 58 rfl) fl_502 mk_0 ml_0 (by decide) rfl ?_
  refine T_iload_n 2 (dk dt_layStep 59 rfl) rfl rfl ?_
  refine T_iconst (v := (-1)) (dk dt_layStep 60 rfl) (by decide +kernel) ?_
  refine T_icmp_ne 110 (dk dt_layStep 61 rfl) (by decide) (fun c21 => ?_) (fun c21 => ?_)
  · have h := h.1 c21
    refine T_aload_n 0 (dk dt_layStep 64 rfl) rfl rfl ?_
    refine T_aload_n 0 (dk dt_layStep 65 rfl) rfl rfl ?_
    refine T_getR 0 5 6 (dk dt_layStep 66 rfl) fl_17 mk_0 ml_0 (by decide) rfl rfl ?_
    refine T_aload_n 0 (dk dt_layStep 67 rfl) rfl rfl ?_
    refine T_getR 0 18 19 (dk dt_layStep 68 rfl) fl_45 mk_0 ml_0 (by decide) rfl rfl ?_
    refine T_iload_n 2 (dk dt_layStep 69 rfl) rfl rfl ?_
    obtain ⟨h22, h⟩ := h
    refine T_iald 19 3000 (dk dt_layStep 70 rfl) mk_19 ml_19 h22 ?_
    obtain ⟨h23, h⟩ := h
    refine T_iald 6 710 (dk dt_layStep 71 rfl) mk_6 ml_6 h23 ?_
    refine MT_callVi [vi (x20.1 6 (x20.1 19 (l2 : Int32).toNatClampNeg : Int32).toNatClampNeg)] [vi (x20.1 0 52), vr 63] rfl (dk dt_layStep 72 rfl) cv_508 rfl rfl (Nat.le_of_ble_eq_true rfl) (Nat.le_of_ble_eq_true rfl) rfl rfl h (fun r25 x24 h => ?_)
    exact T_sub [0] rfl h
  · have h := h.2 c21
    refine T_iconst (v := 0) (dk dt_layStep 62 rfl) (by decide +kernel) ?_
    refine T_goto 125 (dk dt_layStep 63 rfl) (by decide) ?_
    exact T_sub [0] rfl h
set_option maxRecDepth 100000 in
set_option maxHeartbeats 4000000 in
theorem sg_layStep_125 {G : mG} {d : Nat} {x : gd} {P : Option gv → gd → Prop} (s0 : Int32) (s1 : Int32)
    (h : vp_in s1 1500 ∧ (∀ x2 : gd, x2 = si x 63 (s1 : Int32).toNatClampNeg s0 → (∀ x3 : gd, x3 = si x2 0 52 ((x2.1 0 52) + 1) → P (some (vi ((x3.1 0 52) - 1))) x3))) :
    MT G (d + 1) z_layStep 125 [(0, vr 0)] [vi s0, vi s1, vr 63] x P := by
  obtain ⟨h1, h⟩ := h
  obtain ⟨x2, ex2⟩ : ∃ z, z = si x 63 (s1 : Int32).toNatClampNeg s0 := ⟨_, rfl⟩
  have h := h x2 ex2
  refine T_iast 63 1500 (dk dt_layStep 73 rfl) mk_63 ml_63 h1 ?_
  rw [← ex2]
  refine T_aload_n 0 (dk dt_layStep 74 rfl) rfl rfl ?_
  refine T_dup (dk dt_layStep 75 rfl) rfl ?_
  refine T_getI 0 52 (dk dt_layStep 76 rfl) fl_502 mk_0 ml_0 (by decide) rfl ?_
  refine T_iconst (v := 1) (dk dt_layStep 77 rfl) (by decide +kernel) ?_
  refine T_iadd (dk dt_layStep 78 rfl) ?_
  obtain ⟨x3, ex3⟩ : ∃ z, z = si x2 0 52 ((x2.1 0 52) + 1) := ⟨_, rfl⟩
  have h := h x3 ex3
  refine T_putI 0 52 (dk dt_layStep 79 rfl) fl_502 mk_0 ml_0 (by decide) rfl ⟨rfl, rfl⟩ ?_
  rw [← ex3]
  refine T_aload_n 0 (dk dt_layStep 80 rfl) rfl rfl ?_
  refine T_getI 0 52 (dk dt_layStep 81 rfl) fl_502 mk_0 ml_0 (by decide) rfl ?_
  refine T_iconst (v := 1) (dk dt_layStep 82 rfl) (by decide +kernel) ?_
  refine T_isub (dk dt_layStep 83 rfl) ?_
  exact MT_iret (dk dt_layStep 84 rfl) rfl rfl h
set_option maxRecDepth 100000 in
theorem dt_layAct : dck cX12_layAct [(0, .aload_n 0, 1), (1, .bipush 6, 2), (3, .iload_n 3, 1), (4, .invokevirtual 511, 3), (7, .istore 4, 2), (9, .aload_n 0, 1), (10, .getfield 106, 3), (13, .iload 4, 2), (15, .iload_n 1, 1), (16, .iastore, 1), (17, .aload_n 0, 1), (18, .getfield 109, 3), (21, .iload 4, 2), (23, .iload_n 2, 1), (24, .iastore, 1), (25, .iload 4, 2), (27, .ireturn, 1)] = true := by decide +kernel
set_option maxRecDepth 100000 in
set_option maxHeartbeats 4000000 in
theorem sg_layAct_0 {G : mG} {d : Nat} {x : gd} {P : Option gv → gd → Prop} (l1 : Int32) (l2 : Int32) (l3 : Int32)
    (h : MT G d z_layStep 0 [(0, vr 0), (1, vi 6), (2, vi l3)] [] x (ri (fun r2 x1 => vp_in r2 1500 ∧ (∀ x4 : gd, x4 = si x1 55 (r2 : Int32).toNatClampNeg l1 → vp_in r2 1500 ∧ (∀ x6 : gd, x6 = si x4 56 (r2 : Int32).toNatClampNeg l2 → P (some (vi r2)) x6))))) :
    MT G (d + 1) z_layAct 0 [(0, vr 0), (1, vi l1), (2, vi l2), (3, vi l3)] [] x P := by
  refine T_aload_n 0 (dk dt_layAct 0 rfl) rfl rfl ?_
  refine T_bipush (v := 6) (dk dt_layAct 1 rfl) (by decide +kernel) ?_
  refine T_iload_n 3 (dk dt_layAct 2 rfl) rfl rfl ?_
  refine MT_callVi [vi 6, vi l3] [] rfl (dk dt_layAct 3 rfl) cv_511 rfl rfl (Nat.le_of_ble_eq_true rfl) (Nat.le_of_ble_eq_true rfl) rfl rfl h (fun r2 x1 h => ?_)
  refine T_istore (lv2 := [(4, vi r2), (0, vr 0), (1, vi l1), (2, vi l2), (3, vi l3)]) (dk dt_layAct 4 rfl) (by decide) rfl ?_
  refine T_aload_n 1 (dk dt_layAct 5 rfl) rfl rfl ?_
  refine T_getR 0 54 55 (dk dt_layAct 6 rfl) fl_106 mk_0 ml_0 (by decide) rfl rfl ?_
  refine T_iload 0 (dk dt_layAct 7 rfl) rfl ?_
  refine T_iload_n 2 (dk dt_layAct 8 rfl) rfl rfl ?_
  obtain ⟨h3, h⟩ := h
  obtain ⟨x4, ex4⟩ : ∃ z, z = si x1 55 (r2 : Int32).toNatClampNeg l1 := ⟨_, rfl⟩
  have h := h x4 ex4
  refine T_iast 55 1500 (dk dt_layAct 9 rfl) mk_55 ml_55 h3 ?_
  rw [← ex4]
  refine T_aload_n 1 (dk dt_layAct 10 rfl) rfl rfl ?_
  refine T_getR 0 55 56 (dk dt_layAct 11 rfl) fl_109 mk_0 ml_0 (by decide) rfl rfl ?_
  refine T_iload 0 (dk dt_layAct 12 rfl) rfl ?_
  refine T_iload_n 3 (dk dt_layAct 13 rfl) rfl rfl ?_
  obtain ⟨h5, h⟩ := h
  obtain ⟨x6, ex6⟩ : ∃ z, z = si x4 56 (r2 : Int32).toNatClampNeg l2 := ⟨_, rfl⟩
  have h := h x6 ex6
  refine T_iast 56 1500 (dk dt_layAct 14 rfl) mk_56 ml_56 h5 ?_
  rw [← ex6]
  refine T_iload 0 (dk dt_layAct 15 rfl) rfl ?_
  exact MT_iret (dk dt_layAct 16 rfl) rfl rfl h
set_option maxRecDepth 100000 in
theorem dt_cellOf : dck cX12_cellOf [(0, .aload_n 0, 1), (1, .iload_n 1, 1), (2, .iconst 0, 1), (3, .invokevirtual 489, 3), (6, .istore_n 3, 1), (7, .iload_n 3, 1), (8, .iconst (-1), 1), (9, .if_icmp .eq 13, 3), (12, .aload_n 0, 1), (13, .getfield 63, 3), (16, .iload_n 3, 1), (17, .baload, 1), (18, .iload_n 2, 1), (19, .if_icmp .eq 11, 3), (22, .aload_n 0, 1), (23, .iconst 5, 1), (24, .iload_n 1, 1), (25, .invokevirtual 495, 3), (28, .iconst (-1), 1), (29, .ireturn, 1), (30, .iload_n 3, 1), (31, .ireturn, 1)] = true := by decide +kernel
set_option maxRecDepth 100000 in
set_option maxHeartbeats 4000000 in
theorem sg_cellOf_0 {G : mG} {d : Nat} {x : gd} {P : Option gv → gd → Prop} (l1 : Int32) (l2 : Int32)
    (h : MT G d z_meant 0 [(0, vr 0), (1, vi l1), (2, vi 0)] [] x (ri (fun r2 x1 => ((r2 = (-1 : Int32) → MT G (d + 1) z_cellOf 22 [(0, vr 0), (1, vi l1)] [] x1 P) ∧ (¬ (r2 = (-1 : Int32)) → vp_in r2 40 ∧ (((x1.1 34 (r2 : Int32).toNatClampNeg) = l2 → P (some (vi r2)) x1) ∧ (¬ ((x1.1 34 (r2 : Int32).toNatClampNeg) = l2) → MT G (d + 1) z_cellOf 22 [(0, vr 0), (1, vi l1)] [] x1 P))))))) :
    MT G (d + 1) z_cellOf 0 [(0, vr 0), (1, vi l1), (2, vi l2)] [] x P := by
  refine T_aload_n 0 (dk dt_cellOf 0 rfl) rfl rfl ?_
  refine T_iload_n 1 (dk dt_cellOf 1 rfl) rfl rfl ?_
  refine T_iconst (v := 0) (dk dt_cellOf 2 rfl) (by decide +kernel) ?_
  refine MT_callVi [vi l1, vi 0] [] rfl (dk dt_cellOf 3 rfl) cv_489 rfl rfl (Nat.le_of_ble_eq_true rfl) (Nat.le_of_ble_eq_true rfl) rfl rfl h (fun r2 x1 h => ?_)
  refine T_istore_n (lv2 := [(3, vi r2), (0, vr 0), (1, vi l1), (2, vi l2)]) (dk dt_cellOf 4 rfl) rfl (by decide) rfl ?_
  refine T_iload_n 0 (dk dt_cellOf 5 rfl) rfl rfl ?_
  refine T_iconst (v := (-1)) (dk dt_cellOf 6 rfl) (by decide +kernel) ?_
  refine T_icmp_eq 22 (dk dt_cellOf 7 rfl) (by decide) (fun c3 => ?_) (fun c3 => ?_)
  · have h := h.1 c3
    exact T_sub [1, 2] rfl h
  · have h := h.2 c3
    refine T_aload_n 1 (dk dt_cellOf 8 rfl) rfl rfl ?_
    refine T_getR 0 33 34 (dk dt_cellOf 9 rfl) fl_63 mk_0 ml_0 (by decide) rfl rfl ?_
    refine T_iload_n 0 (dk dt_cellOf 10 rfl) rfl rfl ?_
    obtain ⟨h4, h⟩ := h
    refine T_zald 34 40 (dk dt_cellOf 11 rfl) mk_34 ml_34 h4 ?_
    refine T_iload_n 3 (dk dt_cellOf 12 rfl) rfl rfl ?_
    refine T_icmp_eq 30 (dk dt_cellOf 13 rfl) (by decide) (fun c5 => ?_) (fun c5 => ?_)
    · have h := h.1 c5
      refine T_iload_n 0 (dk dt_cellOf 20 rfl) rfl rfl ?_
      exact MT_iret (dk dt_cellOf 21 rfl) rfl rfl h
    · have h := h.2 c5
      exact T_sub [1, 2] rfl h
set_option maxRecDepth 100000 in
set_option maxHeartbeats 4000000 in
theorem sg_cellOf_22 {G : mG} {d : Nat} {x : gd} {P : Option gv → gd → Prop} (l1 : Int32)
    (h : MT G d z_wrongAt 0 [(0, vr 0), (1, vi 5), (2, vi l1)] [] x (rv (fun x1 => P (some (vi (-1))) x1))) :
    MT G (d + 1) z_cellOf 22 [(0, vr 0), (1, vi l1)] [] x P := by
  refine T_aload_n 0 (dk dt_cellOf 14 rfl) rfl rfl ?_
  refine T_iconst (v := 5) (dk dt_cellOf 15 rfl) (by decide +kernel) ?_
  refine T_iload_n 1 (dk dt_cellOf 16 rfl) rfl rfl ?_
  refine MT_callVv [vi 5, vi l1] [] rfl (dk dt_cellOf 17 rfl) cv_495 rfl rfl (Nat.le_of_ble_eq_true rfl) (Nat.le_of_ble_eq_true rfl) rfl rfl h (fun x1 h => ?_)
  refine T_iconst (v := (-1)) (dk dt_cellOf 18 rfl) (by decide +kernel) ?_
  exact MT_iret (dk dt_cellOf 19 rfl) rfl rfl h
set_option maxRecDepth 100000 in
theorem dt_numberOf : dck cX12_numberOf [(0, .aload_n 0, 1), (1, .iload_n 1, 1), (2, .iload_n 2, 1), (3, .invokevirtual 489, 3), (6, .istore_n 3, 1), (7, .iload_n 3, 1), (8, .iconst (-1), 1), (9, .if_icmp .ne 11, 3), (12, .aload_n 0, 1), (13, .iconst 5, 1), (14, .iload_n 1, 1), (15, .invokevirtual 495, 3), (18, .iconst 0, 1), (19, .ireturn, 1), (20, .aload_n 0, 1), (21, .getfield 57, 3), (24, .iload_n 3, 1), (25, .iaload, 1), (26, .ireturn, 1)] = true := by decide +kernel
set_option maxRecDepth 100000 in
set_option maxHeartbeats 4000000 in
theorem sg_numberOf_0 {G : mG} {d : Nat} {x : gd} {P : Option gv → gd → Prop} (l1 : Int32) (l2 : Int32)
    (h : MT G d z_meant 0 [(0, vr 0), (1, vi l1), (2, vi l2)] [] x (ri (fun r2 x1 => ((¬ (r2 = (-1 : Int32)) → vp_in r2 40 ∧ P (some (vi (x1.1 32 (r2 : Int32).toNatClampNeg))) x1) ∧ (r2 = (-1 : Int32) → MT G d z_wrongAt 0 [(0, vr 0), (1, vi 5), (2, vi l1)] [] x1 (rv (fun x5 => P (some (vi 0)) x5))))))) :
    MT G (d + 1) z_numberOf 0 [(0, vr 0), (1, vi l1), (2, vi l2)] [] x P := by
  refine T_aload_n 0 (dk dt_numberOf 0 rfl) rfl rfl ?_
  refine T_iload_n 1 (dk dt_numberOf 1 rfl) rfl rfl ?_
  refine T_iload_n 2 (dk dt_numberOf 2 rfl) rfl rfl ?_
  refine MT_callVi [vi l1, vi l2] [] rfl (dk dt_numberOf 3 rfl) cv_489 rfl rfl (Nat.le_of_ble_eq_true rfl) (Nat.le_of_ble_eq_true rfl) rfl rfl h (fun r2 x1 h => ?_)
  refine T_istore_n (lv2 := [(3, vi r2), (0, vr 0), (1, vi l1), (2, vi l2)]) (dk dt_numberOf 4 rfl) rfl (by decide) rfl ?_
  refine T_iload_n 0 (dk dt_numberOf 5 rfl) rfl rfl ?_
  refine T_iconst (v := (-1)) (dk dt_numberOf 6 rfl) (by decide +kernel) ?_
  refine T_icmp_ne 20 (dk dt_numberOf 7 rfl) (by decide) (fun c3 => ?_) (fun c3 => ?_)
  · have h := h.1 c3
    refine T_aload_n 1 (dk dt_numberOf 14 rfl) rfl rfl ?_
    refine T_getR 0 31 32 (dk dt_numberOf 15 rfl) fl_57 mk_0 ml_0 (by decide) rfl rfl ?_
    refine T_iload_n 0 (dk dt_numberOf 16 rfl) rfl rfl ?_
    obtain ⟨h4, h⟩ := h
    refine T_iald 32 40 (dk dt_numberOf 17 rfl) mk_32 ml_32 h4 ?_
    exact MT_iret (dk dt_numberOf 18 rfl) rfl rfl h
  · have h := h.2 c3
    refine T_aload_n 1 (dk dt_numberOf 8 rfl) rfl rfl ?_
    refine T_iconst (v := 5) (dk dt_numberOf 9 rfl) (by decide +kernel) ?_
    refine T_iload_n 2 (dk dt_numberOf 10 rfl) rfl rfl ?_
    refine MT_callVv [vi 5, vi l1] [] rfl (dk dt_numberOf 11 rfl) cv_495 rfl rfl (Nat.le_of_ble_eq_true rfl) (Nat.le_of_ble_eq_true rfl) rfl rfl h (fun x5 h => ?_)
    refine T_iconst (v := 0) (dk dt_numberOf 12 rfl) (by decide +kernel) ?_
    exact MT_iret (dk dt_numberOf 13 rfl) rfl rfl h
set_option maxRecDepth 100000 in
theorem dt_isCellAlone : dck cX12_isCellAlone [(0, .aload_n 0, 1), (1, .getfield 33, 3), (4, .iload_n 1, 1), (5, .iaload, 1), (6, .bipush 10, 2), (8, .if_icmp .ne 41, 3), (11, .aload_n 0, 1), (12, .getfield 33, 3), (15, .aload_n 0, 1), (16, .getfield 36, 3), (19, .iload_n 1, 1), (20, .iaload, 1), (21, .iaload, 1), (22, .iconst 3, 1), (23, .if_icmp .ne 26, 3), (26, .aload_n 0, 1), (27, .aload_n 0, 1), (28, .getfield 45, 3), (31, .aload_n 0, 1), (32, .getfield 36, 3), (35, .iload_n 1, 1), (36, .iaload, 1), (37, .iaload, 1), (38, .invokevirtual 492, 3), (41, .iconst (-1), 1), (42, .if_icmp .ne 7, 3), (45, .iconst 1, 1), (46, .goto 4, 3), (49, .iconst 0, 1), (50, .ireturn, 1)] = true := by decide +kernel
set_option maxRecDepth 100000 in
set_option maxHeartbeats 4000000 in
theorem sg_isCellAlone_0 {G : mG} {d : Nat} {x : gd} {P : Option gv → gd → Prop} (l1 : Int32)
    (h : vp_in l1 3000 ∧ ((¬ ((x.1 15 (l1 : Int32).toNatClampNeg) = (10 : Int32)) → P (some (vi 0)) x) ∧ ((x.1 15 (l1 : Int32).toNatClampNeg) = (10 : Int32) → vp_in l1 3000 ∧ vp_in (x.1 16 (l1 : Int32).toNatClampNeg) 3000 ∧ ((¬ ((x.1 15 (x.1 16 (l1 : Int32).toNatClampNeg : Int32).toNatClampNeg) = (3 : Int32)) → P (some (vi 0)) x) ∧ ((x.1 15 (x.1 16 (l1 : Int32).toNatClampNeg : Int32).toNatClampNeg) = (3 : Int32) → vp_in l1 3000 ∧ vp_in (x.1 16 (l1 : Int32).toNatClampNeg) 3000 ∧ MT G d z_slotOf 0 [(0, vr 0), (1, vi (x.1 19 (x.1 16 (l1 : Int32).toNatClampNeg : Int32).toNatClampNeg))] [] x (ri (fun r9 x8 => ((¬ (r9 = (-1 : Int32)) → P (some (vi 0)) x8) ∧ (r9 = (-1 : Int32) → P (some (vi 1)) x8))))))))) :
    MT G (d + 1) z_isCellAlone 0 [(0, vr 0), (1, vi l1)] [] x P := by
  refine T_aload_n 0 (dk dt_isCellAlone 0 rfl) rfl rfl ?_
  refine T_getR 0 14 15 (dk dt_isCellAlone 1 rfl) fl_33 mk_0 ml_0 (by decide) rfl rfl ?_
  refine T_iload_n 1 (dk dt_isCellAlone 2 rfl) rfl rfl ?_
  obtain ⟨h1, h⟩ := h
  refine T_iald 15 3000 (dk dt_isCellAlone 3 rfl) mk_15 ml_15 h1 ?_
  refine T_bipush (v := 10) (dk dt_isCellAlone 4 rfl) (by decide +kernel) ?_
  refine T_icmp_ne 49 (dk dt_isCellAlone 5 rfl) (by decide) (fun c2 => ?_) (fun c2 => ?_)
  · have h := h.1 c2
    refine T_iconst (v := 0) (dk dt_isCellAlone 28 rfl) (by decide +kernel) ?_
    exact MT_iret (dk dt_isCellAlone 29 rfl) rfl rfl h
  · have h := h.2 c2
    refine T_aload_n 0 (dk dt_isCellAlone 6 rfl) rfl rfl ?_
    refine T_getR 0 14 15 (dk dt_isCellAlone 7 rfl) fl_33 mk_0 ml_0 (by decide) rfl rfl ?_
    refine T_aload_n 0 (dk dt_isCellAlone 8 rfl) rfl rfl ?_
    refine T_getR 0 15 16 (dk dt_isCellAlone 9 rfl) fl_36 mk_0 ml_0 (by decide) rfl rfl ?_
    refine T_iload_n 1 (dk dt_isCellAlone 10 rfl) rfl rfl ?_
    obtain ⟨h3, h⟩ := h
    refine T_iald 16 3000 (dk dt_isCellAlone 11 rfl) mk_16 ml_16 h3 ?_
    obtain ⟨h4, h⟩ := h
    refine T_iald 15 3000 (dk dt_isCellAlone 12 rfl) mk_15 ml_15 h4 ?_
    refine T_iconst (v := 3) (dk dt_isCellAlone 13 rfl) (by decide +kernel) ?_
    refine T_icmp_ne 49 (dk dt_isCellAlone 14 rfl) (by decide) (fun c5 => ?_) (fun c5 => ?_)
    · have h := h.1 c5
      refine T_iconst (v := 0) (dk dt_isCellAlone 28 rfl) (by decide +kernel) ?_
      exact MT_iret (dk dt_isCellAlone 29 rfl) rfl rfl h
    · have h := h.2 c5
      refine T_aload_n 0 (dk dt_isCellAlone 15 rfl) rfl rfl ?_
      refine T_aload_n 0 (dk dt_isCellAlone 16 rfl) rfl rfl ?_
      refine T_getR 0 18 19 (dk dt_isCellAlone 17 rfl) fl_45 mk_0 ml_0 (by decide) rfl rfl ?_
      refine T_aload_n 0 (dk dt_isCellAlone 18 rfl) rfl rfl ?_
      refine T_getR 0 15 16 (dk dt_isCellAlone 19 rfl) fl_36 mk_0 ml_0 (by decide) rfl rfl ?_
      refine T_iload_n 1 (dk dt_isCellAlone 20 rfl) rfl rfl ?_
      obtain ⟨h6, h⟩ := h
      refine T_iald 16 3000 (dk dt_isCellAlone 21 rfl) mk_16 ml_16 h6 ?_
      obtain ⟨h7, h⟩ := h
      refine T_iald 19 3000 (dk dt_isCellAlone 22 rfl) mk_19 ml_19 h7 ?_
      refine MT_callVi [vi (x.1 19 (x.1 16 (l1 : Int32).toNatClampNeg : Int32).toNatClampNeg)] [] rfl (dk dt_isCellAlone 23 rfl) cv_492 rfl rfl (Nat.le_of_ble_eq_true rfl) (Nat.le_of_ble_eq_true rfl) rfl rfl h (fun r9 x8 h => ?_)
      refine T_iconst (v := (-1)) (dk dt_isCellAlone 24 rfl) (by decide +kernel) ?_
      refine T_icmp_ne 49 (dk dt_isCellAlone 25 rfl) (by decide) (fun c10 => ?_) (fun c10 => ?_)
      · have h := h.1 c10
        refine T_iconst (v := 0) (dk dt_isCellAlone 28 rfl) (by decide +kernel) ?_
        exact MT_iret (dk dt_isCellAlone 29 rfl) rfl rfl h
      · have h := h.2 c10
        refine T_iconst (v := 1) (dk dt_isCellAlone 26 rfl) (by decide +kernel) ?_
        refine T_goto 50 (dk dt_isCellAlone 27 rfl) (by decide) ?_
        exact MT_iret (dk dt_isCellAlone 29 rfl) rfl rfl h
set_option maxRecDepth 100000 in
theorem dt_layR : dck cX12_layR [(0, .aload_n 0, 1), (1, .getfield 33, 3), (4, .iload_n 1, 1), (5, .iaload, 1), (6, .bipush 10, 2), (8, .if_icmp .ne 50, 3), (11, .aload_n 0, 1), (12, .iload_n 1, 1), (13, .invokevirtual 514, 3), (16, .ifCond .ne 42, 3), (19, .aload_n 0, 1), (20, .aload_n 0, 1), (21, .getfield 36, 3), (24, .iload_n 1, 1), (25, .iaload, 1), (26, .iconst 0, 1), (27, .invokevirtual 517, 3), (30, .istore 4, 2), (32, .aload_n 0, 1), (33, .iconst 0, 1), (34, .iload_n 3, 1), (35, .invokevirtual 511, 3), (38, .istore 5, 2), (40, .aload_n 0, 1), (41, .getfield 118, 3), (44, .iload 5, 2), (46, .iload 4, 2), (48, .iastore, 1), (49, .aload_n 0, 1), (50, .getfield 124, 3), (53, .iload 5, 2), (55, .iload_n 2, 1), (56, .iastore, 1), (57, .return_, 1), (58, .aload_n 0, 1), (59, .getfield 33, 3), (62, .iload_n 1, 1), (63, .iaload, 1), (64, .bipush 10, 2), (66, .if_icmp .ne 55, 3), (69, .aload_n 0, 1), (70, .aload_n 0, 1), (71, .getfield 45, 3), (74, .aload_n 0, 1), (75, .getfield 36, 3), (78, .iload_n 1, 1), (79, .iaload, 1), (80, .iaload, 1), (81, .iconst 0, 1), (82, .invokevirtual 520, 3), (85, .istore 4, 2), (87, .aload_n 0, 1), (88, .iconst 0, 1), (89, .iload 4, 2), (91, .iconst (-1), 1), (92, .if_icmp .ne 7, 3), (95, .iconst 0, 1), (96, .goto 10, 3), (99, .aload_n 0, 1), (100, .getfield 57, 3), (103, .iload 4, 2), (105, .iaload, 1), (106, .iload_n 3, 1), (107, .invokevirtual 523, 3), (110, .istore 5, 2), (112, .aload_n 0, 1), (113, .getfield 124, 3), (116, .iload 5, 2), (118, .iload_n 2, 1), (119, .iastore, 1), (120, .return_, 1), (121, .aload_n 0, 1), (122, .getfield 36, 3), (125, .iload_n 1, 1), (126, .iaload, 1), (127, .istore 4, 2), (129, .aload_n 0, 1), (130, .getfield 36, 3), (133, .iload 4, 2), (135, .iaload, 1), (136, .iconst (-1), 1), (137, .if_icmp .eq 7, 3), (140, .iconst 1, 1), (141, .goto 4, 3), (144, .iconst 0, 1), (145, .istore 5, 2), (147, .aload_n 0, 1), (148, .aload_n 0, 1), (149, .getfield 45, 3), (152, .iload 4, 2), (154, .iaload, 1), (155, .iload 5, 2), (157, .invokevirtual 520, 3), (160, .istore 6, 2), (162, .aload_n 0, 1), (163, .aload_n 0, 1), (164, .getfield 36, 3), (167, .iload 4, 2), (169, .iaload, 1), (170, .iconst 0, 1), (171, .invokevirtual 517, 3), (174, .istore 7, 2), (176, .aload_n 0, 1), (177, .getfield 33, 3), (180, .iload_n 1, 1), (181, .iaload, 1), (182, .bipush 11, 2), (184, .if_icmp .ne 7, 3), (187, .iconst (-1), 1), (188, .goto 14, 3), (191, .aload_n 0, 1), (192, .aload_n 0, 1), (193, .getfield 39, 3), (196, .iload_n 1, 1), (197, .iaload, 1), (198, .iconst 0, 1), (199, .invokevirtual 517, 3), (202, .istore 8, 2), (204, .aload_n 0, 1), (205, .getfield 33, 3), (208, .iload_n 1, 1), (209, .iaload, 1), (210, .bipush 14, 2), (212, .if_icmp .ne 17, 3), (215, .aload_n 0, 1), (216, .aload_n 0, 1), (217, .getfield 42, 3), (220, .iload_n 1, 1), (221, .iaload, 1), (222, .iconst 0, 1), (223, .invokevirtual 517, 3), (226, .goto 4, 3), (229, .iconst (-1), 1), (230, .istore 9, 2), (232, .aload_n 0, 1), (233, .aload_n 0, 1), (234, .getfield 33, 3), (237, .iload_n 1, 1), (238, .iaload, 1), (239, .bipush 11, 2), (241, .if_icmp .ne 7, 3), (244, .iconst 0, 1), (245, .goto 34, 3), (248, .aload_n 0, 1), (249, .getfield 33, 3), (252, .iload_n 1, 1), (253, .iaload, 1), (254, .bipush 12, 2), (256, .if_icmp .ne 7, 3), (259, .iconst 2, 1), (260, .goto 19, 3), (263, .aload_n 0, 1), (264, .getfield 33, 3), (267, .iload_n 1, 1), (268, .iaload, 1), (269, .bipush 13, 2), (271, .if_icmp .ne 7, 3), (274, .iconst 3, 1), (275, .goto 4, 3), (278, .iconst 4, 1), (279, .iload 6, 2), (281, .iconst (-1), 1), (282, .if_icmp .ne 7, 3), (285, .iconst 0, 1), (286, .goto 10, 3), (289, .aload_n 0, 1), (290, .getfield 57, 3), (293, .iload 6, 2), (295, .iaload, 1), (296, .iload_n 3, 1), (297, .invokevirtual 523, 3), (300, .istore 10, 2), (302, .aload_n 0, 1), (303, .getfield 112, 3), (306, .iload 10, 2), (308, .iload 6, 2), (310, .iconst (-1), 1), (311, .if_icmp .eq 8, 3), (314, .iload 5, 2), (316, .ifCond .ne 7, 3), (319, .iconst 0, 1), (320, .goto 10, 3), (323, .aload_n 0, 1), (324, .getfield 60, 3), (327, .iload 6, 2), (329, .iaload, 1), (330, .iastore, 1), (331, .aload_n 0, 1), (332, .getfield 115, 3), (335, .iload 10, 2), (337, .iload 7, 2), (339, .iastore, 1), (340, .aload_n 0, 1), (341, .getfield 118, 3), (344, .iload 10, 2), (346, .iload 8, 2), (348, .iastore, 1), (349, .aload_n 0, 1), (350, .getfield 121, 3), (353, .iload 10, 2), (355, .iload 9, 2), (357, .iastore, 1), (358, .aload_n 0, 1), (359, .getfield 124, 3), (362, .iload 10, 2), (364, .iload_n 2, 1), (365, .iastore, 1), (366, .return_, 1)] = true := by decide +kernel
set_option maxRecDepth 100000 in
set_option maxHeartbeats 4000000 in
theorem sg_layR_0 {G : mG} {d : Nat} {x : gd} {P : Option gv → gd → Prop} (l1 : Int32) (l2 : Int32) (l3 : Int32)
    (h : vp_in l1 3000 ∧ ((¬ ((x.1 15 (l1 : Int32).toNatClampNeg) = (10 : Int32)) → MT G (d + 1) z_layR 58 [(0, vr 0), (1, vi l1), (2, vi l2), (3, vi l3)] [] x P) ∧ ((x.1 15 (l1 : Int32).toNatClampNeg) = (10 : Int32) → MT G d z_isCellAlone 0 [(0, vr 0), (1, vi l1)] [] x (ri (fun r4 x3 => ((¬ (r4 = (0 : Int32)) → MT G (d + 1) z_layR 58 [(0, vr 0), (1, vi l1), (2, vi l2), (3, vi l3)] [] x3 P) ∧ (r4 = (0 : Int32) → vp_in l1 3000 ∧ MT G d z_workOf 0 [(0, vr 0), (1, vi (x3.1 16 (l1 : Int32).toNatClampNeg)), (2, vi 0)] [] x3 (ri (fun r8 x7 => MT G d z_layStep 0 [(0, vr 0), (1, vi 0), (2, vi l3)] [] x7 (ri (fun r10 x9 => vp_in r10 1500 ∧ (∀ x12 : gd, x12 = si x9 59 (r10 : Int32).toNatClampNeg r8 → vp_in r10 1500 ∧ (∀ x14 : gd, x14 = si x12 61 (r10 : Int32).toNatClampNeg l2 → P none x14))))))))))))) :
    MT G (d + 1) z_layR 0 [(0, vr 0), (1, vi l1), (2, vi l2), (3, vi l3)] [] x P := by
  refine T_aload_n 0 (dk dt_layR 0 rfl) rfl rfl ?_
  refine T_getR 0 14 15 (dk dt_layR 1 rfl) fl_33 mk_0 ml_0 (by decide) rfl rfl ?_
  refine T_iload_n 1 (dk dt_layR 2 rfl) rfl rfl ?_
  obtain ⟨h1, h⟩ := h
  refine T_iald 15 3000 (dk dt_layR 3 rfl) mk_15 ml_15 h1 ?_
  refine T_bipush (v := 10) (dk dt_layR 4 rfl) (by decide +kernel) ?_
  refine T_icmp_ne 58 (dk dt_layR 5 rfl) (by decide) (fun c2 => ?_) (fun c2 => ?_)
  · have h := h.1 c2
    exact h
  · have h := h.2 c2
    refine T_aload_n 0 (dk dt_layR 6 rfl) rfl rfl ?_
    refine T_iload_n 1 (dk dt_layR 7 rfl) rfl rfl ?_
    refine MT_callVi [vi l1] [] rfl (dk dt_layR 8 rfl) cv_514 rfl rfl (Nat.le_of_ble_eq_true rfl) (Nat.le_of_ble_eq_true rfl) rfl rfl h (fun r4 x3 h => ?_)
    refine T_if_ne 58 (dk dt_layR 9 rfl) (by decide) (fun c5 => ?_) (fun c5 => ?_)
    · have h := h.1 c5
      exact h
    · have h := h.2 c5
      refine T_aload_n 0 (dk dt_layR 10 rfl) rfl rfl ?_
      refine T_aload_n 0 (dk dt_layR 11 rfl) rfl rfl ?_
      refine T_getR 0 15 16 (dk dt_layR 12 rfl) fl_36 mk_0 ml_0 (by decide) rfl rfl ?_
      refine T_iload_n 1 (dk dt_layR 13 rfl) rfl rfl ?_
      obtain ⟨h6, h⟩ := h
      refine T_iald 16 3000 (dk dt_layR 14 rfl) mk_16 ml_16 h6 ?_
      refine T_iconst (v := 0) (dk dt_layR 15 rfl) (by decide +kernel) ?_
      refine MT_callVi [vi (x3.1 16 (l1 : Int32).toNatClampNeg), vi 0] [] rfl (dk dt_layR 16 rfl) cv_517 rfl rfl (Nat.le_of_ble_eq_true rfl) (Nat.le_of_ble_eq_true rfl) rfl rfl h (fun r8 x7 h => ?_)
      refine T_istore (lv2 := [(4, vi r8), (0, vr 0), (1, vi l1), (2, vi l2), (3, vi l3)]) (dk dt_layR 17 rfl) (by decide) rfl ?_
      refine T_aload_n 1 (dk dt_layR 18 rfl) rfl rfl ?_
      refine T_iconst (v := 0) (dk dt_layR 19 rfl) (by decide +kernel) ?_
      refine T_iload_n 4 (dk dt_layR 20 rfl) rfl rfl ?_
      refine MT_callVi [vi 0, vi l3] [] rfl (dk dt_layR 21 rfl) cv_511 rfl rfl (Nat.le_of_ble_eq_true rfl) (Nat.le_of_ble_eq_true rfl) rfl rfl h (fun r10 x9 h => ?_)
      refine T_istore (lv2 := [(5, vi r10), (4, vi r8), (0, vr 0), (1, vi l1), (2, vi l2), (3, vi l3)]) (dk dt_layR 22 rfl) (by decide) rfl ?_
      refine T_aload_n 2 (dk dt_layR 23 rfl) rfl rfl ?_
      refine T_getR 0 58 59 (dk dt_layR 24 rfl) fl_118 mk_0 ml_0 (by decide) rfl rfl ?_
      refine T_iload 0 (dk dt_layR 25 rfl) rfl ?_
      refine T_iload 1 (dk dt_layR 26 rfl) rfl ?_
      obtain ⟨h11, h⟩ := h
      obtain ⟨x12, ex12⟩ : ∃ z, z = si x9 59 (r10 : Int32).toNatClampNeg r8 := ⟨_, rfl⟩
      have h := h x12 ex12
      refine T_iast 59 1500 (dk dt_layR 27 rfl) mk_59 ml_59 h11 ?_
      rw [← ex12]
      refine T_aload_n 2 (dk dt_layR 28 rfl) rfl rfl ?_
      refine T_getR 0 60 61 (dk dt_layR 29 rfl) fl_124 mk_0 ml_0 (by decide) rfl rfl ?_
      refine T_iload 0 (dk dt_layR 30 rfl) rfl ?_
      refine T_iload_n 4 (dk dt_layR 31 rfl) rfl rfl ?_
      obtain ⟨h13, h⟩ := h
      obtain ⟨x14, ex14⟩ : ∃ z, z = si x12 61 (r10 : Int32).toNatClampNeg l2 := ⟨_, rfl⟩
      have h := h x14 ex14
      refine T_iast 61 1500 (dk dt_layR 32 rfl) mk_61 ml_61 h13 ?_
      rw [← ex14]
      exact MT_vret (dk dt_layR 33 rfl) rfl h
set_option maxRecDepth 100000 in
set_option maxHeartbeats 4000000 in
theorem sg_layR_58 {G : mG} {d : Nat} {x : gd} {P : Option gv → gd → Prop} (l1 : Int32) (l2 : Int32) (l3 : Int32)
    (h : vp_in l1 3000 ∧ ((¬ ((x.1 15 (l1 : Int32).toNatClampNeg) = (10 : Int32)) → vp_in l1 3000 ∧ vp_in (x.1 16 (l1 : Int32).toNatClampNeg) 3000 ∧ (((x.1 16 (x.1 16 (l1 : Int32).toNatClampNeg : Int32).toNatClampNeg) = (-1 : Int32) → MT G (d + 1) z_layR 145 [(0, vr 0), (1, vi l1), (2, vi l2), (3, vi l3), (4, vi (x.1 16 (l1 : Int32).toNatClampNeg))] [vi 0] x P) ∧ (¬ ((x.1 16 (x.1 16 (l1 : Int32).toNatClampNeg : Int32).toNatClampNeg) = (-1 : Int32)) → MT G (d + 1) z_layR 145 [(0, vr 0), (1, vi l1), (2, vi l2), (3, vi l3), (4, vi (x.1 16 (l1 : Int32).toNatClampNeg))] [vi 1] x P))) ∧ ((x.1 15 (l1 : Int32).toNatClampNeg) = (10 : Int32) → vp_in l1 3000 ∧ vp_in (x.1 16 (l1 : Int32).toNatClampNeg) 3000 ∧ MT G d z_cellOf 0 [(0, vr 0), (1, vi (x.1 19 (x.1 16 (l1 : Int32).toNatClampNeg : Int32).toNatClampNeg)), (2, vi 0)] [] x (ri (fun r9 x8 => ((¬ (r9 = (-1 : Int32)) → vp_in r9 40 ∧ MT G (d + 1) z_layR 106 [(0, vr 0), (2, vi l2), (3, vi l3)] [vi (x8.1 32 (r9 : Int32).toNatClampNeg), vi 0, vr 0] x8 P) ∧ (r9 = (-1 : Int32) → MT G (d + 1) z_layR 106 [(0, vr 0), (2, vi l2), (3, vi l3)] [vi 0, vi 0, vr 0] x8 P))))))) :
    MT G (d + 1) z_layR 58 [(0, vr 0), (1, vi l1), (2, vi l2), (3, vi l3)] [] x P := by
  refine T_aload_n 0 (dk dt_layR 34 rfl) rfl rfl ?_
  refine T_getR 0 14 15 (dk dt_layR 35 rfl) fl_33 mk_0 ml_0 (by decide) rfl rfl ?_
  refine T_iload_n 1 (dk dt_layR 36 rfl) rfl rfl ?_
  obtain ⟨h1, h⟩ := h
  refine T_iald 15 3000 (dk dt_layR 37 rfl) mk_15 ml_15 h1 ?_
  refine T_bipush (v := 10) (dk dt_layR 38 rfl) (by decide +kernel) ?_
  refine T_icmp_ne 121 (dk dt_layR 39 rfl) (by decide) (fun c2 => ?_) (fun c2 => ?_)
  · have h := h.1 c2
    refine T_aload_n 0 (dk dt_layR 71 rfl) rfl rfl ?_
    refine T_getR 0 15 16 (dk dt_layR 72 rfl) fl_36 mk_0 ml_0 (by decide) rfl rfl ?_
    refine T_iload_n 1 (dk dt_layR 73 rfl) rfl rfl ?_
    obtain ⟨h3, h⟩ := h
    refine T_iald 16 3000 (dk dt_layR 74 rfl) mk_16 ml_16 h3 ?_
    refine T_istore (lv2 := [(4, vi (x.1 16 (l1 : Int32).toNatClampNeg)), (0, vr 0), (1, vi l1), (2, vi l2), (3, vi l3)]) (dk dt_layR 75 rfl) (by decide) rfl ?_
    refine T_aload_n 1 (dk dt_layR 76 rfl) rfl rfl ?_
    refine T_getR 0 15 16 (dk dt_layR 77 rfl) fl_36 mk_0 ml_0 (by decide) rfl rfl ?_
    refine T_iload 0 (dk dt_layR 78 rfl) rfl ?_
    obtain ⟨h4, h⟩ := h
    refine T_iald 16 3000 (dk dt_layR 79 rfl) mk_16 ml_16 h4 ?_
    refine T_iconst (v := (-1)) (dk dt_layR 80 rfl) (by decide +kernel) ?_
    refine T_icmp_eq 144 (dk dt_layR 81 rfl) (by decide) (fun c5 => ?_) (fun c5 => ?_)
    · have h := h.1 c5
      refine T_iconst (v := 0) (dk dt_layR 84 rfl) (by decide +kernel) ?_
      exact T_sub [1, 2, 3, 4, 0] rfl h
    · have h := h.2 c5
      refine T_iconst (v := 1) (dk dt_layR 82 rfl) (by decide +kernel) ?_
      refine T_goto 145 (dk dt_layR 83 rfl) (by decide) ?_
      exact T_sub [1, 2, 3, 4, 0] rfl h
  · have h := h.2 c2
    refine T_aload_n 0 (dk dt_layR 40 rfl) rfl rfl ?_
    refine T_aload_n 0 (dk dt_layR 41 rfl) rfl rfl ?_
    refine T_getR 0 18 19 (dk dt_layR 42 rfl) fl_45 mk_0 ml_0 (by decide) rfl rfl ?_
    refine T_aload_n 0 (dk dt_layR 43 rfl) rfl rfl ?_
    refine T_getR 0 15 16 (dk dt_layR 44 rfl) fl_36 mk_0 ml_0 (by decide) rfl rfl ?_
    refine T_iload_n 1 (dk dt_layR 45 rfl) rfl rfl ?_
    obtain ⟨h6, h⟩ := h
    refine T_iald 16 3000 (dk dt_layR 46 rfl) mk_16 ml_16 h6 ?_
    obtain ⟨h7, h⟩ := h
    refine T_iald 19 3000 (dk dt_layR 47 rfl) mk_19 ml_19 h7 ?_
    refine T_iconst (v := 0) (dk dt_layR 48 rfl) (by decide +kernel) ?_
    refine MT_callVi [vi (x.1 19 (x.1 16 (l1 : Int32).toNatClampNeg : Int32).toNatClampNeg), vi 0] [] rfl (dk dt_layR 49 rfl) cv_520 rfl rfl (Nat.le_of_ble_eq_true rfl) (Nat.le_of_ble_eq_true rfl) rfl rfl h (fun r9 x8 h => ?_)
    refine T_istore (lv2 := [(4, vi r9), (0, vr 0), (1, vi l1), (2, vi l2), (3, vi l3)]) (dk dt_layR 50 rfl) (by decide) rfl ?_
    refine T_aload_n 1 (dk dt_layR 51 rfl) rfl rfl ?_
    refine T_iconst (v := 0) (dk dt_layR 52 rfl) (by decide +kernel) ?_
    refine T_iload 0 (dk dt_layR 53 rfl) rfl ?_
    refine T_iconst (v := (-1)) (dk dt_layR 54 rfl) (by decide +kernel) ?_
    refine T_icmp_ne 99 (dk dt_layR 55 rfl) (by decide) (fun c10 => ?_) (fun c10 => ?_)
    · have h := h.1 c10
      refine T_aload_n 1 (dk dt_layR 58 rfl) rfl rfl ?_
      refine T_getR 0 31 32 (dk dt_layR 59 rfl) fl_57 mk_0 ml_0 (by decide) rfl rfl ?_
      refine T_iload 0 (dk dt_layR 60 rfl) rfl ?_
      obtain ⟨h11, h⟩ := h
      refine T_iald 32 40 (dk dt_layR 61 rfl) mk_32 ml_32 h11 ?_
      exact T_sub [1, 3, 4] rfl h
    · have h := h.2 c10
      refine T_iconst (v := 0) (dk dt_layR 56 rfl) (by decide +kernel) ?_
      refine T_goto 106 (dk dt_layR 57 rfl) (by decide) ?_
      exact T_sub [1, 3, 4] rfl h
set_option maxRecDepth 100000 in
set_option maxHeartbeats 4000000 in
theorem sg_layR_106 {G : mG} {d : Nat} {x : gd} {P : Option gv → gd → Prop} (l2 : Int32) (l3 : Int32) (s0 : Int32) (s1 : Int32)
    (h : MT G d z_layAct 0 [(0, vr 0), (1, vi s1), (2, vi s0), (3, vi l3)] [] x (ri (fun r2 x1 => vp_in r2 1500 ∧ (∀ x4 : gd, x4 = si x1 61 (r2 : Int32).toNatClampNeg l2 → P none x4)))) :
    MT G (d + 1) z_layR 106 [(0, vr 0), (2, vi l2), (3, vi l3)] [vi s0, vi s1, vr 0] x P := by
  refine T_iload_n 2 (dk dt_layR 62 rfl) rfl rfl ?_
  refine MT_callVi [vi s1, vi s0, vi l3] [] rfl (dk dt_layR 63 rfl) cv_523 rfl rfl (Nat.le_of_ble_eq_true rfl) (Nat.le_of_ble_eq_true rfl) rfl rfl h (fun r2 x1 h => ?_)
  refine T_istore (lv2 := [(5, vi r2), (0, vr 0), (2, vi l2), (3, vi l3)]) (dk dt_layR 64 rfl) (by decide) rfl ?_
  refine T_aload_n 1 (dk dt_layR 65 rfl) rfl rfl ?_
  refine T_getR 0 60 61 (dk dt_layR 66 rfl) fl_124 mk_0 ml_0 (by decide) rfl rfl ?_
  refine T_iload 0 (dk dt_layR 67 rfl) rfl ?_
  refine T_iload_n 2 (dk dt_layR 68 rfl) rfl rfl ?_
  obtain ⟨h3, h⟩ := h
  obtain ⟨x4, ex4⟩ : ∃ z, z = si x1 61 (r2 : Int32).toNatClampNeg l2 := ⟨_, rfl⟩
  have h := h x4 ex4
  refine T_iast 61 1500 (dk dt_layR 69 rfl) mk_61 ml_61 h3 ?_
  rw [← ex4]
  exact MT_vret (dk dt_layR 70 rfl) rfl h
set_option maxRecDepth 100000 in
set_option maxHeartbeats 4000000 in
theorem sg_layR_145 {G : mG} {d : Nat} {x : gd} {P : Option gv → gd → Prop} (l1 : Int32) (l2 : Int32) (l3 : Int32) (l4 : Int32) (s0 : Int32)
    (h : vp_in l4 3000 ∧ MT G d z_cellOf 0 [(0, vr 0), (1, vi (x.1 19 (l4 : Int32).toNatClampNeg)), (2, vi s0)] [] x (ri (fun r3 x2 => vp_in l4 3000 ∧ MT G d z_workOf 0 [(0, vr 0), (1, vi (x2.1 16 (l4 : Int32).toNatClampNeg)), (2, vi 0)] [] x2 (ri (fun r6 x5 => vp_in l1 3000 ∧ ((¬ ((x5.1 15 (l1 : Int32).toNatClampNeg) = (11 : Int32)) → vp_in l1 3000 ∧ MT G d z_workOf 0 [(0, vr 0), (1, vi (x5.1 17 (l1 : Int32).toNatClampNeg)), (2, vi 0)] [] x5 (ri (fun r11 x10 => MT G (d + 1) z_layR 202 [(0, vr 0), (1, vi l1), (2, vi l2), (3, vi l3), (5, vi s0), (6, vi r3), (7, vi r6)] [vi r11] x10 P))) ∧ ((x5.1 15 (l1 : Int32).toNatClampNeg) = (11 : Int32) → MT G (d + 1) z_layR 202 [(0, vr 0), (1, vi l1), (2, vi l2), (3, vi l3), (5, vi s0), (6, vi r3), (7, vi r6)] [vi (-1)] x5 P))))))) :
    MT G (d + 1) z_layR 145 [(0, vr 0), (1, vi l1), (2, vi l2), (3, vi l3), (4, vi l4)] [vi s0] x P := by
  refine T_istore (lv2 := [(5, vi s0), (0, vr 0), (1, vi l1), (2, vi l2), (3, vi l3), (4, vi l4)]) (dk dt_layR 85 rfl) (by decide) rfl ?_
  refine T_aload_n 1 (dk dt_layR 86 rfl) rfl rfl ?_
  refine T_aload_n 1 (dk dt_layR 87 rfl) rfl rfl ?_
  refine T_getR 0 18 19 (dk dt_layR 88 rfl) fl_45 mk_0 ml_0 (by decide) rfl rfl ?_
  refine T_iload 5 (dk dt_layR 89 rfl) rfl ?_
  obtain ⟨h1, h⟩ := h
  refine T_iald 19 3000 (dk dt_layR 90 rfl) mk_19 ml_19 h1 ?_
  refine T_iload 0 (dk dt_layR 91 rfl) rfl ?_
  refine MT_callVi [vi (x.1 19 (l4 : Int32).toNatClampNeg), vi s0] [] rfl (dk dt_layR 92 rfl) cv_520 rfl rfl (Nat.le_of_ble_eq_true rfl) (Nat.le_of_ble_eq_true rfl) rfl rfl h (fun r3 x2 h => ?_)
  refine T_istore (lv2 := [(6, vi r3), (5, vi s0), (0, vr 0), (1, vi l1), (2, vi l2), (3, vi l3), (4, vi l4)]) (dk dt_layR 93 rfl) (by decide) rfl ?_
  refine T_aload_n 2 (dk dt_layR 94 rfl) rfl rfl ?_
  refine T_aload_n 2 (dk dt_layR 95 rfl) rfl rfl ?_
  refine T_getR 0 15 16 (dk dt_layR 96 rfl) fl_36 mk_0 ml_0 (by decide) rfl rfl ?_
  refine T_iload 6 (dk dt_layR 97 rfl) rfl ?_
  obtain ⟨h4, h⟩ := h
  refine T_iald 16 3000 (dk dt_layR 98 rfl) mk_16 ml_16 h4 ?_
  refine T_iconst (v := 0) (dk dt_layR 99 rfl) (by decide +kernel) ?_
  refine MT_callVi [vi (x2.1 16 (l4 : Int32).toNatClampNeg), vi 0] [] rfl (dk dt_layR 100 rfl) cv_517 rfl rfl (Nat.le_of_ble_eq_true rfl) (Nat.le_of_ble_eq_true rfl) rfl rfl h (fun r6 x5 h => ?_)
  refine T_istore (lv2 := [(7, vi r6), (6, vi r3), (5, vi s0), (0, vr 0), (1, vi l1), (2, vi l2), (3, vi l3), (4, vi l4)]) (dk dt_layR 101 rfl) (by decide) rfl ?_
  refine T_aload_n 3 (dk dt_layR 102 rfl) rfl rfl ?_
  refine T_getR 0 14 15 (dk dt_layR 103 rfl) fl_33 mk_0 ml_0 (by decide) rfl rfl ?_
  refine T_iload_n 4 (dk dt_layR 104 rfl) rfl rfl ?_
  obtain ⟨h7, h⟩ := h
  refine T_iald 15 3000 (dk dt_layR 105 rfl) mk_15 ml_15 h7 ?_
  refine T_bipush (v := 11) (dk dt_layR 106 rfl) (by decide +kernel) ?_
  refine T_icmp_ne 191 (dk dt_layR 107 rfl) (by decide) (fun c8 => ?_) (fun c8 => ?_)
  · have h := h.1 c8
    refine T_aload_n 3 (dk dt_layR 110 rfl) rfl rfl ?_
    refine T_aload_n 3 (dk dt_layR 111 rfl) rfl rfl ?_
    refine T_getR 0 16 17 (dk dt_layR 112 rfl) fl_39 mk_0 ml_0 (by decide) rfl rfl ?_
    refine T_iload_n 4 (dk dt_layR 113 rfl) rfl rfl ?_
    obtain ⟨h9, h⟩ := h
    refine T_iald 17 3000 (dk dt_layR 114 rfl) mk_17 ml_17 h9 ?_
    refine T_iconst (v := 0) (dk dt_layR 115 rfl) (by decide +kernel) ?_
    refine MT_callVi [vi (x5.1 17 (l1 : Int32).toNatClampNeg), vi 0] [] rfl (dk dt_layR 116 rfl) cv_517 rfl rfl (Nat.le_of_ble_eq_true rfl) (Nat.le_of_ble_eq_true rfl) rfl rfl h (fun r11 x10 h => ?_)
    exact T_sub [3, 4, 5, 6, 2, 1, 0] rfl h
  · have h := h.2 c8
    refine T_iconst (v := (-1)) (dk dt_layR 108 rfl) (by decide +kernel) ?_
    refine T_goto 202 (dk dt_layR 109 rfl) (by decide) ?_
    exact T_sub [3, 4, 5, 6, 2, 1, 0] rfl h
set_option maxRecDepth 100000 in
set_option maxHeartbeats 4000000 in
theorem sg_layR_202 {G : mG} {d : Nat} {x : gd} {P : Option gv → gd → Prop} (l1 : Int32) (l2 : Int32) (l3 : Int32) (l5 : Int32) (l6 : Int32) (l7 : Int32) (s0 : Int32)
    (h : vp_in l1 3000 ∧ ((¬ ((x.1 15 (l1 : Int32).toNatClampNeg) = (14 : Int32)) → MT G (d + 1) z_layR 230 [(0, vr 0), (1, vi l1), (2, vi l2), (3, vi l3), (5, vi l5), (6, vi l6), (7, vi l7), (8, vi s0)] [vi (-1)] x P) ∧ ((x.1 15 (l1 : Int32).toNatClampNeg) = (14 : Int32) → vp_in l1 3000 ∧ MT G d z_workOf 0 [(0, vr 0), (1, vi (x.1 18 (l1 : Int32).toNatClampNeg)), (2, vi 0)] [] x (ri (fun r5 x4 => MT G (d + 1) z_layR 230 [(0, vr 0), (1, vi l1), (2, vi l2), (3, vi l3), (5, vi l5), (6, vi l6), (7, vi l7), (8, vi s0)] [vi r5] x4 P))))) :
    MT G (d + 1) z_layR 202 [(0, vr 0), (1, vi l1), (2, vi l2), (3, vi l3), (5, vi l5), (6, vi l6), (7, vi l7)] [vi s0] x P := by
  refine T_istore (lv2 := [(8, vi s0), (0, vr 0), (1, vi l1), (2, vi l2), (3, vi l3), (5, vi l5), (6, vi l6), (7, vi l7)]) (dk dt_layR 117 rfl) (by decide) rfl ?_
  refine T_aload_n 1 (dk dt_layR 118 rfl) rfl rfl ?_
  refine T_getR 0 14 15 (dk dt_layR 119 rfl) fl_33 mk_0 ml_0 (by decide) rfl rfl ?_
  refine T_iload_n 2 (dk dt_layR 120 rfl) rfl rfl ?_
  obtain ⟨h1, h⟩ := h
  refine T_iald 15 3000 (dk dt_layR 121 rfl) mk_15 ml_15 h1 ?_
  refine T_bipush (v := 14) (dk dt_layR 122 rfl) (by decide +kernel) ?_
  refine T_icmp_ne 229 (dk dt_layR 123 rfl) (by decide) (fun c2 => ?_) (fun c2 => ?_)
  · have h := h.1 c2
    refine T_iconst (v := (-1)) (dk dt_layR 132 rfl) (by decide +kernel) ?_
    exact T_sub [1, 2, 3, 4, 5, 6, 7, 0] rfl h
  · have h := h.2 c2
    refine T_aload_n 1 (dk dt_layR 124 rfl) rfl rfl ?_
    refine T_aload_n 1 (dk dt_layR 125 rfl) rfl rfl ?_
    refine T_getR 0 17 18 (dk dt_layR 126 rfl) fl_42 mk_0 ml_0 (by decide) rfl rfl ?_
    refine T_iload_n 2 (dk dt_layR 127 rfl) rfl rfl ?_
    obtain ⟨h3, h⟩ := h
    refine T_iald 18 3000 (dk dt_layR 128 rfl) mk_18 ml_18 h3 ?_
    refine T_iconst (v := 0) (dk dt_layR 129 rfl) (by decide +kernel) ?_
    refine MT_callVi [vi (x.1 18 (l1 : Int32).toNatClampNeg), vi 0] [] rfl (dk dt_layR 130 rfl) cv_517 rfl rfl (Nat.le_of_ble_eq_true rfl) (Nat.le_of_ble_eq_true rfl) rfl rfl h (fun r5 x4 h => ?_)
    refine T_goto 230 (dk dt_layR 131 rfl) (by decide) ?_
    exact T_sub [1, 2, 3, 4, 5, 6, 7, 0] rfl h
set_option maxRecDepth 100000 in
set_option maxHeartbeats 4000000 in
theorem sg_layR_230 {G : mG} {d : Nat} {x : gd} {P : Option gv → gd → Prop} (l1 : Int32) (l2 : Int32) (l3 : Int32) (l5 : Int32) (l6 : Int32) (l7 : Int32) (l8 : Int32) (s0 : Int32)
    (h : vp_in l1 3000 ∧ ((¬ ((x.1 15 (l1 : Int32).toNatClampNeg) = (11 : Int32)) → vp_in l1 3000 ∧ ((¬ ((x.1 15 (l1 : Int32).toNatClampNeg) = (12 : Int32)) → vp_in l1 3000 ∧ ((¬ ((x.1 15 (l1 : Int32).toNatClampNeg) = (13 : Int32)) → MT G (d + 1) z_layR 279 [(0, vr 0), (2, vi l2), (3, vi l3), (5, vi l5), (6, vi l6), (7, vi l7), (8, vi l8), (9, vi s0)] [vi 4, vr 0] x P) ∧ ((x.1 15 (l1 : Int32).toNatClampNeg) = (13 : Int32) → MT G (d + 1) z_layR 279 [(0, vr 0), (2, vi l2), (3, vi l3), (5, vi l5), (6, vi l6), (7, vi l7), (8, vi l8), (9, vi s0)] [vi 3, vr 0] x P))) ∧ ((x.1 15 (l1 : Int32).toNatClampNeg) = (12 : Int32) → MT G (d + 1) z_layR 279 [(0, vr 0), (2, vi l2), (3, vi l3), (5, vi l5), (6, vi l6), (7, vi l7), (8, vi l8), (9, vi s0)] [vi 2, vr 0] x P))) ∧ ((x.1 15 (l1 : Int32).toNatClampNeg) = (11 : Int32) → MT G (d + 1) z_layR 279 [(0, vr 0), (2, vi l2), (3, vi l3), (5, vi l5), (6, vi l6), (7, vi l7), (8, vi l8), (9, vi s0)] [vi 0, vr 0] x P))) :
    MT G (d + 1) z_layR 230 [(0, vr 0), (1, vi l1), (2, vi l2), (3, vi l3), (5, vi l5), (6, vi l6), (7, vi l7), (8, vi l8)] [vi s0] x P := by
  refine T_istore (lv2 := [(9, vi s0), (0, vr 0), (1, vi l1), (2, vi l2), (3, vi l3), (5, vi l5), (6, vi l6), (7, vi l7), (8, vi l8)]) (dk dt_layR 133 rfl) (by decide) rfl ?_
  refine T_aload_n 1 (dk dt_layR 134 rfl) rfl rfl ?_
  refine T_aload_n 1 (dk dt_layR 135 rfl) rfl rfl ?_
  refine T_getR 0 14 15 (dk dt_layR 136 rfl) fl_33 mk_0 ml_0 (by decide) rfl rfl ?_
  refine T_iload_n 2 (dk dt_layR 137 rfl) rfl rfl ?_
  obtain ⟨h1, h⟩ := h
  refine T_iald 15 3000 (dk dt_layR 138 rfl) mk_15 ml_15 h1 ?_
  refine T_bipush (v := 11) (dk dt_layR 139 rfl) (by decide +kernel) ?_
  refine T_icmp_ne 248 (dk dt_layR 140 rfl) (by decide) (fun c2 => ?_) (fun c2 => ?_)
  · have h := h.1 c2
    refine T_aload_n 1 (dk dt_layR 143 rfl) rfl rfl ?_
    refine T_getR 0 14 15 (dk dt_layR 144 rfl) fl_33 mk_0 ml_0 (by decide) rfl rfl ?_
    refine T_iload_n 2 (dk dt_layR 145 rfl) rfl rfl ?_
    obtain ⟨h3, h⟩ := h
    refine T_iald 15 3000 (dk dt_layR 146 rfl) mk_15 ml_15 h3 ?_
    refine T_bipush (v := 12) (dk dt_layR 147 rfl) (by decide +kernel) ?_
    refine T_icmp_ne 263 (dk dt_layR 148 rfl) (by decide) (fun c4 => ?_) (fun c4 => ?_)
    · have h := h.1 c4
      refine T_aload_n 1 (dk dt_layR 151 rfl) rfl rfl ?_
      refine T_getR 0 14 15 (dk dt_layR 152 rfl) fl_33 mk_0 ml_0 (by decide) rfl rfl ?_
      refine T_iload_n 2 (dk dt_layR 153 rfl) rfl rfl ?_
      obtain ⟨h5, h⟩ := h
      refine T_iald 15 3000 (dk dt_layR 154 rfl) mk_15 ml_15 h5 ?_
      refine T_bipush (v := 13) (dk dt_layR 155 rfl) (by decide +kernel) ?_
      refine T_icmp_ne 278 (dk dt_layR 156 rfl) (by decide) (fun c6 => ?_) (fun c6 => ?_)
      · have h := h.1 c6
        refine T_iconst (v := 4) (dk dt_layR 159 rfl) (by decide +kernel) ?_
        exact T_sub [1, 3, 4, 5, 6, 7, 8, 0] rfl h
      · have h := h.2 c6
        refine T_iconst (v := 3) (dk dt_layR 157 rfl) (by decide +kernel) ?_
        refine T_goto 279 (dk dt_layR 158 rfl) (by decide) ?_
        exact T_sub [1, 3, 4, 5, 6, 7, 8, 0] rfl h
    · have h := h.2 c4
      refine T_iconst (v := 2) (dk dt_layR 149 rfl) (by decide +kernel) ?_
      refine T_goto 279 (dk dt_layR 150 rfl) (by decide) ?_
      exact T_sub [1, 3, 4, 5, 6, 7, 8, 0] rfl h
  · have h := h.2 c2
    refine T_iconst (v := 0) (dk dt_layR 141 rfl) (by decide +kernel) ?_
    refine T_goto 279 (dk dt_layR 142 rfl) (by decide) ?_
    exact T_sub [1, 3, 4, 5, 6, 7, 8, 0] rfl h
set_option maxRecDepth 100000 in
set_option maxHeartbeats 4000000 in
theorem sg_layR_279 {G : mG} {d : Nat} {x : gd} {P : Option gv → gd → Prop} (l2 : Int32) (l3 : Int32) (l5 : Int32) (l6 : Int32) (l7 : Int32) (l8 : Int32) (l9 : Int32) (s0 : Int32)
    (h : ((¬ (l6 = (-1 : Int32)) → vp_in l6 40 ∧ MT G (d + 1) z_layR 296 [(0, vr 0), (2, vi l2), (3, vi l3), (5, vi l5), (6, vi l6), (7, vi l7), (8, vi l8), (9, vi l9)] [vi (x.1 32 (l6 : Int32).toNatClampNeg), vi s0, vr 0] x P) ∧ (l6 = (-1 : Int32) → MT G (d + 1) z_layR 296 [(0, vr 0), (2, vi l2), (3, vi l3), (5, vi l5), (6, vi l6), (7, vi l7), (8, vi l8), (9, vi l9)] [vi 0, vi s0, vr 0] x P))) :
    MT G (d + 1) z_layR 279 [(0, vr 0), (2, vi l2), (3, vi l3), (5, vi l5), (6, vi l6), (7, vi l7), (8, vi l8), (9, vi l9)] [vi s0, vr 0] x P := by
  refine T_iload 4 (dk dt_layR 160 rfl) rfl ?_
  refine T_iconst (v := (-1)) (dk dt_layR 161 rfl) (by decide +kernel) ?_
  refine T_icmp_ne 289 (dk dt_layR 162 rfl) (by decide) (fun c1 => ?_) (fun c1 => ?_)
  · have h := h.1 c1
    refine T_aload_n 0 (dk dt_layR 165 rfl) rfl rfl ?_
    refine T_getR 0 31 32 (dk dt_layR 166 rfl) fl_57 mk_0 ml_0 (by decide) rfl rfl ?_
    refine T_iload 4 (dk dt_layR 167 rfl) rfl ?_
    obtain ⟨h2, h⟩ := h
    refine T_iald 32 40 (dk dt_layR 168 rfl) mk_32 ml_32 h2 ?_
    exact h
  · have h := h.2 c1
    refine T_iconst (v := 0) (dk dt_layR 163 rfl) (by decide +kernel) ?_
    refine T_goto 296 (dk dt_layR 164 rfl) (by decide) ?_
    exact h
set_option maxRecDepth 100000 in
set_option maxHeartbeats 4000000 in
theorem sg_layR_296 {G : mG} {d : Nat} {x : gd} {P : Option gv → gd → Prop} (l2 : Int32) (l3 : Int32) (l5 : Int32) (l6 : Int32) (l7 : Int32) (l8 : Int32) (l9 : Int32) (s0 : Int32) (s1 : Int32)
    (h : MT G d z_layAct 0 [(0, vr 0), (1, vi s1), (2, vi s0), (3, vi l3)] [] x (ri (fun r2 x1 => ((l6 = (-1 : Int32) → MT G (d + 1) z_layR 330 [(0, vr 0), (2, vi l2), (7, vi l7), (8, vi l8), (9, vi l9), (10, vi r2)] [vi 0, vi r2, vr 57] x1 P) ∧ (¬ (l6 = (-1 : Int32)) → ((¬ (l5 = (0 : Int32)) → vp_in l6 40 ∧ MT G (d + 1) z_layR 330 [(0, vr 0), (2, vi l2), (7, vi l7), (8, vi l8), (9, vi l9), (10, vi r2)] [vi (x1.1 33 (l6 : Int32).toNatClampNeg), vi r2, vr 57] x1 P) ∧ (l5 = (0 : Int32) → MT G (d + 1) z_layR 330 [(0, vr 0), (2, vi l2), (7, vi l7), (8, vi l8), (9, vi l9), (10, vi r2)] [vi 0, vi r2, vr 57] x1 P))))))) :
    MT G (d + 1) z_layR 296 [(0, vr 0), (2, vi l2), (3, vi l3), (5, vi l5), (6, vi l6), (7, vi l7), (8, vi l8), (9, vi l9)] [vi s0, vi s1, vr 0] x P := by
  refine T_iload_n 2 (dk dt_layR 169 rfl) rfl rfl ?_
  refine MT_callVi [vi s1, vi s0, vi l3] [] rfl (dk dt_layR 170 rfl) cv_523 rfl rfl (Nat.le_of_ble_eq_true rfl) (Nat.le_of_ble_eq_true rfl) rfl rfl h (fun r2 x1 h => ?_)
  refine T_istore (lv2 := [(10, vi r2), (0, vr 0), (2, vi l2), (3, vi l3), (5, vi l5), (6, vi l6), (7, vi l7), (8, vi l8), (9, vi l9)]) (dk dt_layR 171 rfl) (by decide) rfl ?_
  refine T_aload_n 1 (dk dt_layR 172 rfl) rfl rfl ?_
  refine T_getR 0 56 57 (dk dt_layR 173 rfl) fl_112 mk_0 ml_0 (by decide) rfl rfl ?_
  refine T_iload 0 (dk dt_layR 174 rfl) rfl ?_
  refine T_iload 5 (dk dt_layR 175 rfl) rfl ?_
  refine T_iconst (v := (-1)) (dk dt_layR 176 rfl) (by decide +kernel) ?_
  refine T_icmp_eq 319 (dk dt_layR 177 rfl) (by decide) (fun c3 => ?_) (fun c3 => ?_)
  · have h := h.1 c3
    refine T_iconst (v := 0) (dk dt_layR 180 rfl) (by decide +kernel) ?_
    refine T_goto 330 (dk dt_layR 181 rfl) (by decide) ?_
    exact T_sub [1, 2, 6, 7, 8, 0] rfl h
  · have h := h.2 c3
    refine T_iload 4 (dk dt_layR 178 rfl) rfl ?_
    refine T_if_ne 323 (dk dt_layR 179 rfl) (by decide) (fun c4 => ?_) (fun c4 => ?_)
    · have h := h.1 c4
      refine T_aload_n 1 (dk dt_layR 182 rfl) rfl rfl ?_
      refine T_getR 0 32 33 (dk dt_layR 183 rfl) fl_60 mk_0 ml_0 (by decide) rfl rfl ?_
      refine T_iload 5 (dk dt_layR 184 rfl) rfl ?_
      obtain ⟨h5, h⟩ := h
      refine T_iald 33 40 (dk dt_layR 185 rfl) mk_33 ml_33 h5 ?_
      exact T_sub [1, 2, 6, 7, 8, 0] rfl h
    · have h := h.2 c4
      refine T_iconst (v := 0) (dk dt_layR 180 rfl) (by decide +kernel) ?_
      refine T_goto 330 (dk dt_layR 181 rfl) (by decide) ?_
      exact T_sub [1, 2, 6, 7, 8, 0] rfl h
set_option maxRecDepth 100000 in
set_option maxHeartbeats 4000000 in
theorem sg_layR_330 {G : mG} {d : Nat} {x : gd} {P : Option gv → gd → Prop} (l2 : Int32) (l7 : Int32) (l8 : Int32) (l9 : Int32) (l10 : Int32) (s0 : Int32) (s1 : Int32)
    (h : vp_in s1 1500 ∧ (∀ x2 : gd, x2 = si x 57 (s1 : Int32).toNatClampNeg s0 → vp_in l10 1500 ∧ (∀ x4 : gd, x4 = si x2 58 (l10 : Int32).toNatClampNeg l7 → vp_in l10 1500 ∧ (∀ x6 : gd, x6 = si x4 59 (l10 : Int32).toNatClampNeg l8 → vp_in l10 1500 ∧ (∀ x8 : gd, x8 = si x6 60 (l10 : Int32).toNatClampNeg l9 → vp_in l10 1500 ∧ (∀ x10 : gd, x10 = si x8 61 (l10 : Int32).toNatClampNeg l2 → P none x10)))))) :
    MT G (d + 1) z_layR 330 [(0, vr 0), (2, vi l2), (7, vi l7), (8, vi l8), (9, vi l9), (10, vi l10)] [vi s0, vi s1, vr 57] x P := by
  obtain ⟨h1, h⟩ := h
  obtain ⟨x2, ex2⟩ : ∃ z, z = si x 57 (s1 : Int32).toNatClampNeg s0 := ⟨_, rfl⟩
  have h := h x2 ex2
  refine T_iast 57 1500 (dk dt_layR 186 rfl) mk_57 ml_57 h1 ?_
  rw [← ex2]
  refine T_aload_n 0 (dk dt_layR 187 rfl) rfl rfl ?_
  refine T_getR 0 57 58 (dk dt_layR 188 rfl) fl_115 mk_0 ml_0 (by decide) rfl rfl ?_
  refine T_iload 5 (dk dt_layR 189 rfl) rfl ?_
  refine T_iload 2 (dk dt_layR 190 rfl) rfl ?_
  obtain ⟨h3, h⟩ := h
  obtain ⟨x4, ex4⟩ : ∃ z, z = si x2 58 (l10 : Int32).toNatClampNeg l7 := ⟨_, rfl⟩
  have h := h x4 ex4
  refine T_iast 58 1500 (dk dt_layR 191 rfl) mk_58 ml_58 h3 ?_
  rw [← ex4]
  refine T_aload_n 0 (dk dt_layR 192 rfl) rfl rfl ?_
  refine T_getR 0 58 59 (dk dt_layR 193 rfl) fl_118 mk_0 ml_0 (by decide) rfl rfl ?_
  refine T_iload 5 (dk dt_layR 194 rfl) rfl ?_
  refine T_iload 3 (dk dt_layR 195 rfl) rfl ?_
  obtain ⟨h5, h⟩ := h
  obtain ⟨x6, ex6⟩ : ∃ z, z = si x4 59 (l10 : Int32).toNatClampNeg l8 := ⟨_, rfl⟩
  have h := h x6 ex6
  refine T_iast 59 1500 (dk dt_layR 196 rfl) mk_59 ml_59 h5 ?_
  rw [← ex6]
  refine T_aload_n 0 (dk dt_layR 197 rfl) rfl rfl ?_
  refine T_getR 0 59 60 (dk dt_layR 198 rfl) fl_121 mk_0 ml_0 (by decide) rfl rfl ?_
  refine T_iload 5 (dk dt_layR 199 rfl) rfl ?_
  refine T_iload 4 (dk dt_layR 200 rfl) rfl ?_
  obtain ⟨h7, h⟩ := h
  obtain ⟨x8, ex8⟩ : ∃ z, z = si x6 60 (l10 : Int32).toNatClampNeg l9 := ⟨_, rfl⟩
  have h := h x8 ex8
  refine T_iast 60 1500 (dk dt_layR 201 rfl) mk_60 ml_60 h7 ?_
  rw [← ex8]
  refine T_aload_n 0 (dk dt_layR 202 rfl) rfl rfl ?_
  refine T_getR 0 60 61 (dk dt_layR 203 rfl) fl_124 mk_0 ml_0 (by decide) rfl rfl ?_
  refine T_iload 5 (dk dt_layR 204 rfl) rfl ?_
  refine T_iload_n 1 (dk dt_layR 205 rfl) rfl rfl ?_
  obtain ⟨h9, h⟩ := h
  obtain ⟨x10, ex10⟩ : ∃ z, z = si x8 61 (l10 : Int32).toNatClampNeg l2 := ⟨_, rfl⟩
  have h := h x10 ex10
  refine T_iast 61 1500 (dk dt_layR 206 rfl) mk_61 ml_61 h9 ?_
  rw [← ex10]
  exact MT_vret (dk dt_layR 207 rfl) rfl h
set_option maxRecDepth 100000 in
theorem dt_layBlock : dck cX12_layBlock [(0, .aload_n 0, 1), (1, .getfield 480, 3), (4, .istore_n 2, 1), (5, .aload_n 0, 1), (6, .dup, 1), (7, .getfield 527, 3), (10, .iconst 1, 1), (11, .iadd, 1), (12, .putfield 527, 3), (15, .aload_n 0, 1), (16, .getfield 527, 3), (19, .istore_n 3, 1), (20, .aload_n 0, 1), (21, .getfield 36, 3), (24, .iload_n 1, 1), (25, .iaload, 1), (26, .istore 4, 2), (28, .iload 4, 2), (30, .iconst (-1), 1), (31, .if_icmp .eq 22, 3), (34, .aload_n 0, 1), (35, .iload 4, 2), (37, .iload_n 3, 1), (38, .invokevirtual 530, 3), (41, .aload_n 0, 1), (42, .getfield 48, 3), (45, .iload 4, 2), (47, .iaload, 1), (48, .istore 4, 2), (50, .goto (-22), 3), (53, .aload_n 0, 1), (54, .iload_n 2, 1), (55, .putfield 480, 3), (58, .return_, 1)] = true := by decide +kernel
set_option maxRecDepth 100000 in
set_option maxHeartbeats 4000000 in
theorem sg_layBlock_0 {G : mG} {d : Nat} {x : gd} {P : Option gv → gd → Prop} (l1 : Int32)
    (h : (∀ x1 : gd, x1 = si x 0 47 ((x.1 0 47) + 1) → vp_in l1 3000 ∧ MT G (d + 1) z_layBlock 28 [(0, vr 0), (2, vi (x.1 0 43)), (3, vi (x1.1 0 47)), (4, vi (x1.1 16 (l1 : Int32).toNatClampNeg))] [] x1 P)) :
    MT G (d + 1) z_layBlock 0 [(0, vr 0), (1, vi l1)] [] x P := by
  refine T_aload_n 0 (dk dt_layBlock 0 rfl) rfl rfl ?_
  refine T_getI 0 43 (dk dt_layBlock 1 rfl) fl_480 mk_0 ml_0 (by decide) rfl ?_
  refine T_istore_n (lv2 := [(2, vi (x.1 0 43)), (0, vr 0), (1, vi l1)]) (dk dt_layBlock 2 rfl) rfl (by decide) rfl ?_
  refine T_aload_n 1 (dk dt_layBlock 3 rfl) rfl rfl ?_
  refine T_dup (dk dt_layBlock 4 rfl) rfl ?_
  refine T_getI 0 47 (dk dt_layBlock 5 rfl) fl_527 mk_0 ml_0 (by decide) rfl ?_
  refine T_iconst (v := 1) (dk dt_layBlock 6 rfl) (by decide +kernel) ?_
  refine T_iadd (dk dt_layBlock 7 rfl) ?_
  obtain ⟨x1, ex1⟩ : ∃ z, z = si x 0 47 ((x.1 0 47) + 1) := ⟨_, rfl⟩
  have h := h x1 ex1
  refine T_putI 0 47 (dk dt_layBlock 8 rfl) fl_527 mk_0 ml_0 (by decide) rfl ⟨rfl, rfl⟩ ?_
  rw [← ex1]
  refine T_aload_n 1 (dk dt_layBlock 9 rfl) rfl rfl ?_
  refine T_getI 0 47 (dk dt_layBlock 10 rfl) fl_527 mk_0 ml_0 (by decide) rfl ?_
  refine T_istore_n (lv2 := [(3, vi (x1.1 0 47)), (2, vi (x.1 0 43)), (0, vr 0), (1, vi l1)]) (dk dt_layBlock 11 rfl) rfl (by decide) rfl ?_
  refine T_aload_n 2 (dk dt_layBlock 12 rfl) rfl rfl ?_
  refine T_getR 0 15 16 (dk dt_layBlock 13 rfl) fl_36 mk_0 ml_0 (by decide) rfl rfl ?_
  refine T_iload_n 3 (dk dt_layBlock 14 rfl) rfl rfl ?_
  obtain ⟨h2, h⟩ := h
  refine T_iald 16 3000 (dk dt_layBlock 15 rfl) mk_16 ml_16 h2 ?_
  refine T_istore (lv2 := [(4, vi (x1.1 16 (l1 : Int32).toNatClampNeg)), (3, vi (x1.1 0 47)), (2, vi (x.1 0 43)), (0, vr 0), (1, vi l1)]) (dk dt_layBlock 16 rfl) (by decide) rfl ?_
  exact T_sub [3, 2, 1, 0] rfl h
set_option maxRecDepth 100000 in
set_option maxHeartbeats 4000000 in
theorem sg_layBlock_28 {G : mG} {d : Nat} {x : gd} {P : Option gv → gd → Prop} (l2 : Int32) (l3 : Int32) (l4 : Int32)
    (h : ((l4 = (-1 : Int32) → (∀ x2 : gd, x2 = si x 0 43 l2 → P none x2)) ∧ (¬ (l4 = (-1 : Int32)) → MT G d z_layS 0 [(0, vr 0), (1, vi l4), (2, vi l3)] [] x (rv (fun x3 => vp_in l4 3000 ∧ MT G (d + 1) z_layBlock 28 [(0, vr 0), (2, vi l2), (3, vi l3), (4, vi (x3.1 20 (l4 : Int32).toNatClampNeg))] [] x3 P))))) :
    MT G (d + 1) z_layBlock 28 [(0, vr 0), (2, vi l2), (3, vi l3), (4, vi l4)] [] x P := by
  refine T_iload 3 (dk dt_layBlock 17 rfl) rfl ?_
  refine T_iconst (v := (-1)) (dk dt_layBlock 18 rfl) (by decide +kernel) ?_
  refine T_icmp_eq 53 (dk dt_layBlock 19 rfl) (by decide) (fun c1 => ?_) (fun c1 => ?_)
  · have h := h.1 c1
    refine T_aload_n 0 (dk dt_layBlock 30 rfl) rfl rfl ?_
    refine T_iload_n 1 (dk dt_layBlock 31 rfl) rfl rfl ?_
    obtain ⟨x2, ex2⟩ : ∃ z, z = si x 0 43 l2 := ⟨_, rfl⟩
    have h := h x2 ex2
    refine T_putI 0 43 (dk dt_layBlock 32 rfl) fl_480 mk_0 ml_0 (by decide) rfl ⟨rfl, rfl⟩ ?_
    rw [← ex2]
    exact MT_vret (dk dt_layBlock 33 rfl) rfl h
  · have h := h.2 c1
    refine T_aload_n 0 (dk dt_layBlock 20 rfl) rfl rfl ?_
    refine T_iload 3 (dk dt_layBlock 21 rfl) rfl ?_
    refine T_iload_n 2 (dk dt_layBlock 22 rfl) rfl rfl ?_
    refine MT_callVv [vi l4, vi l3] [] rfl (dk dt_layBlock 23 rfl) cv_530 rfl rfl (Nat.le_of_ble_eq_true rfl) (Nat.le_of_ble_eq_true rfl) rfl rfl h (fun x3 h => ?_)
    refine T_aload_n 0 (dk dt_layBlock 24 rfl) rfl rfl ?_
    refine T_getR 0 19 20 (dk dt_layBlock 25 rfl) fl_48 mk_0 ml_0 (by decide) rfl rfl ?_
    refine T_iload 3 (dk dt_layBlock 26 rfl) rfl ?_
    obtain ⟨h4, h⟩ := h
    refine T_iald 20 3000 (dk dt_layBlock 27 rfl) mk_20 ml_20 h4 ?_
    refine T_istore (lv2 := [(4, vi (x3.1 20 (l4 : Int32).toNatClampNeg)), (0, vr 0), (2, vi l2), (3, vi l3)]) (dk dt_layBlock 28 rfl) (by decide) rfl ?_
    refine T_goto 28 (dk dt_layBlock 29 rfl) (by decide) ?_
    exact T_sub [1, 2, 3, 0] rfl h
