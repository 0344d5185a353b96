set_option maxRecDepth 100000 in
theorem dt_lock : dck cX12_lock [(0, .aload_n 0, 1), (1, .iconst 0, 1), (2, .putfield 316, 3), (5, .aload_n 0, 1), (6, .invokevirtual 680, 3), (9, .ifCond .ne 39, 3), (12, .aload_n 0, 1), (13, .iload_n 1, 1), (14, .iconst 0, 1), (15, .aload_n 0, 1), (16, .getfield 458, 3), (19, .iconst 1, 1), (20, .isub, 1), (21, .invokestatic 322, 3), (24, .ifCond .eq 12, 3), (27, .iload_n 2, 1), (28, .iconst 0, 1), (29, .iconst 2, 1), (30, .invokestatic 322, 3), (33, .ifCond .ne 7, 3), (36, .iconst 1, 1), (37, .goto 4, 3), (40, .iconst 0, 1), (41, .iconst 2, 1), (42, .invokevirtual 558, 3), (45, .ifCond .eq 5, 3), (48, .iconst 0, 1), (49, .ireturn, 1), (50, .iconst 0, 1), (51, .istore_n 3, 1), (52, .iconst 0, 1), (53, .istore 4, 2), (55, .iload 4, 2), (57, .aload_n 0, 1), (58, .getfield 461, 3), (61, .if_icmp .ge 47, 3), (64, .iload_n 3, 1), (65, .aload_n 0, 1), (66, .getfield 163, 3), (69, .iload 4, 2), (71, .iaload, 1), (72, .iconst 1, 1), (73, .if_icmp .ne 23, 3), (76, .aload_n 0, 1), (77, .getfield 109, 3), (80, .aload_n 0, 1), (81, .getfield 154, 3), (84, .iload 4, 2), (86, .iaload, 1), (87, .iaload, 1), (88, .iload_n 1, 1), (89, .if_icmp .ne 7, 3), (92, .iconst 1, 1), (93, .goto 4, 3), (96, .iconst 0, 1), (97, .invokestatic 587, 3), (100, .iadd, 1), (101, .istore_n 3, 1), (102, .iinc 4 1, 3), (105, .goto (-50), 3), (108, .iload_n 2, 1), (109, .ifCond .ne 12, 3), (112, .aload_n 0, 1), (113, .getfield 145, 3), (116, .iload_n 1, 1), (117, .iaload, 1), (118, .goto 18, 3), (121, .iload_n 2, 1), (122, .iconst 1, 1), (123, .if_icmp .ne 12, 3), (126, .aload_n 0, 1), (127, .getfield 148, 3), (130, .iload_n 1, 1), (131, .iaload, 1), (132, .goto 4, 3), (135, .iload_n 3, 1), (136, .ireturn, 1)] = true := by decide +kernel
set_option maxRecDepth 100000 in
set_option maxHeartbeats 4000000 in
theorem sg_lock_0 {G : mG} {d : Nat} {x : gd} {P : Option gv → gd → Prop} (l1 : Int32) (l2 : Int32)
    (h : (∀ x1 : gd, x1 = si x 0 0 0 → MT G d z_noRun 0 [(0, vr 0)] [] x1 (ri (fun r3 x2 => ((¬ (r3 = (0 : Int32)) → P (some (vi 0)) x2) ∧ (r3 = (0 : Int32) → MT G d z_in 0 [(0, vi l1), (1, vi 0), (2, vi ((x2.1 0 24) - 1))] [] x2 (ri (fun r6 x5 => ((r6 = (0 : Int32) → MT G (d + 1) z_lock 41 [(0, vr 0), (1, vi l1), (2, vi l2)] [vi 1, vr 0] x5 P) ∧ (¬ (r6 = (0 : Int32)) → MT G d z_in 0 [(0, vi l2), (1, vi 0), (2, vi 2)] [] x5 (ri (fun r9 x8 => ((¬ (r9 = (0 : Int32)) → MT G (d + 1) z_lock 41 [(0, vr 0), (1, vi l1), (2, vi l2)] [vi 0, vr 0] x8 P) ∧ (r9 = (0 : Int32) → MT G (d + 1) z_lock 41 [(0, vr 0), (1, vi l1), (2, vi l2)] [vi 1, vr 0] x8 P)))))))))))))) :
    MT G (d + 1) z_lock 0 [(0, vr 0), (1, vi l1), (2, vi l2)] [] x P := by
  refine T_aload_n 0 (dk dt_lock 0 rfl) rfl rfl ?_
  refine T_iconst (v := 0) (dk dt_lock 1 rfl) (by decide +kernel) ?_
  obtain ⟨x1, ex1⟩ : ∃ z, z = si x 0 0 0 := ⟨_, rfl⟩
  have h := h x1 ex1
  refine T_putI 0 0 (dk dt_lock 2 rfl) fl_316 mk_0 ml_0 (by decide) rfl ⟨rfl, rfl⟩ ?_
  rw [← ex1]
  refine T_aload_n 0 (dk dt_lock 3 rfl) rfl rfl ?_
  refine MT_callVi [] [] rfl (dk dt_lock 4 rfl) cv_680 rfl rfl (Nat.le_of_ble_eq_true rfl) (Nat.le_of_ble_eq_true rfl) rfl rfl h (fun r3 x2 h => ?_)
  refine T_if_ne 48 (dk dt_lock 5 rfl) (by decide) (fun c4 => ?_) (fun c4 => ?_)
  · have h := h.1 c4
    refine T_iconst (v := 0) (dk dt_lock 26 rfl) (by decide +kernel) ?_
    exact MT_iret (dk dt_lock 27 rfl) rfl rfl h
  · have h := h.2 c4
    refine T_aload_n 0 (dk dt_lock 6 rfl) rfl rfl ?_
    refine T_iload_n 1 (dk dt_lock 7 rfl) rfl rfl ?_
    refine T_iconst (v := 0) (dk dt_lock 8 rfl) (by decide +kernel) ?_
    refine T_aload_n 0 (dk dt_lock 9 rfl) rfl rfl ?_
    refine T_getI 0 24 (dk dt_lock 10 rfl) fl_458 mk_0 ml_0 (by decide) rfl ?_
    refine T_iconst (v := 1) (dk dt_lock 11 rfl) (by decide +kernel) ?_
    refine T_isub (dk dt_lock 12 rfl) ?_
    refine MT_callSi [vi l1, vi 0, vi ((x2.1 0 24) - 1)] [vr 0] rfl (dk dt_lock 13 rfl) cs_322 rfl (Nat.le_of_ble_eq_true rfl) (Nat.le_of_ble_eq_true rfl) rfl rfl h (fun r6 x5 h => ?_)
    refine T_if_eq 36 (dk dt_lock 14 rfl) (by decide) (fun c7 => ?_) (fun c7 => ?_)
    · have h := h.1 c7
      refine T_iconst (v := 1) (dk dt_lock 20 rfl) (by decide +kernel) ?_
      refine T_goto 41 (dk dt_lock 21 rfl) (by decide) ?_
      exact h
    · have h := h.2 c7
      refine T_iload_n 2 (dk dt_lock 15 rfl) rfl rfl ?_
      refine T_iconst (v := 0) (dk dt_lock 16 rfl) (by decide +kernel) ?_
      refine T_iconst (v := 2) (dk dt_lock 17 rfl) (by decide +kernel) ?_
      refine MT_callSi [vi l2, vi 0, vi 2] [vr 0] rfl (dk dt_lock 18 rfl) cs_322 rfl (Nat.le_of_ble_eq_true rfl) (Nat.le_of_ble_eq_true rfl) rfl rfl h (fun r9 x8 h => ?_)
      refine T_if_ne 40 (dk dt_lock 19 rfl) (by decide) (fun c10 => ?_) (fun c10 => ?_)
      · have h := h.1 c10
        refine T_iconst (v := 0) (dk dt_lock 22 rfl) (by decide +kernel) ?_
        exact h
      · have h := h.2 c10
        refine T_iconst (v := 1) (dk dt_lock 20 rfl) (by decide +kernel) ?_
        refine T_goto 41 (dk dt_lock 21 rfl) (by decide) ?_
        exact h
set_option maxRecDepth 100000 in
set_option maxHeartbeats 4000000 in
theorem sg_lock_41 {G : mG} {d : Nat} {x : gd} {P : Option gv → gd → Prop} (l1 : Int32) (l2 : Int32) (s0 : Int32)
    (h : MT G d z_refuses 0 [(0, vr 0), (1, vi s0), (2, vi 2)] [] x (ri (fun r2 x1 => ((r2 = (0 : Int32) → MT G (d + 1) z_lock 55 [(0, vr 0), (1, vi l1), (2, vi l2), (3, vi 0), (4, vi 0)] [] x1 P) ∧ (¬ (r2 = (0 : Int32)) → P (some (vi 0)) x1))))) :
    MT G (d + 1) z_lock 41 [(0, vr 0), (1, vi l1), (2, vi l2)] [vi s0, vr 0] x P := by
  refine T_iconst (v := 2) (dk dt_lock 23 rfl) (by decide +kernel) ?_
  refine MT_callVi [vi s0, vi 2] [] rfl (dk dt_lock 24 rfl) cv_558 rfl rfl (Nat.le_of_ble_eq_true rfl) (Nat.le_of_ble_eq_true rfl) rfl rfl h (fun r2 x1 h => ?_)
  refine T_if_eq 50 (dk dt_lock 25 rfl) (by decide) (fun c3 => ?_) (fun c3 => ?_)
  · have h := h.1 c3
    refine T_iconst (v := 0) (dk dt_lock 28 rfl) (by decide +kernel) ?_
    refine T_istore_n (lv2 := [(3, vi 0), (0, vr 0), (1, vi l1), (2, vi l2)]) (dk dt_lock 29 rfl) rfl (by decide) rfl ?_
    refine T_iconst (v := 0) (dk dt_lock 30 rfl) (by decide +kernel) ?_
    refine T_istore (lv2 := [(4, vi 0), (3, vi 0), (0, vr 0), (1, vi l1), (2, vi l2)]) (dk dt_lock 31 rfl) (by decide) rfl ?_
    exact T_sub [2, 3, 4, 1, 0] rfl h
  · have h := h.2 c3
    refine T_iconst (v := 0) (dk dt_lock 26 rfl) (by decide +kernel) ?_
    exact MT_iret (dk dt_lock 27 rfl) rfl rfl h
set_option maxRecDepth 100000 in
set_option maxHeartbeats 4000000 in
theorem sg_lock_55 {G : mG} {d : Nat} {x : gd} {P : Option gv → gd → Prop} (l1 : Int32) (l2 : Int32) (l3 : Int32) (l4 : Int32)
    (h : (((x.1 0 25) ≤ l4 → ((¬ (l2 = (0 : Int32)) → ((¬ (l2 = (1 : Int32)) → P (some (vi l3)) x) ∧ (l2 = (1 : Int32) → vp_in l1 6 ∧ P (some (vi (x.1 72 (l1 : Int32).toNatClampNeg))) x))) ∧ (l2 = (0 : Int32) → vp_in l1 6 ∧ P (some (vi (x.1 71 (l1 : Int32).toNatClampNeg))) x))) ∧ (¬ ((x.1 0 25) ≤ l4) → vp_in l4 6 ∧ ((¬ ((x.1 77 (l4 : Int32).toNatClampNeg) = (1 : Int32)) → MT G (d + 1) z_lock 97 [(0, vr 0), (1, vi l1), (2, vi l2), (4, vi l4)] [vi 0, vi l3] x P) ∧ ((x.1 77 (l4 : Int32).toNatClampNeg) = (1 : Int32) → vp_in l4 6 ∧ vp_in (x.1 74 (l4 : Int32).toNatClampNeg) 1500 ∧ ((¬ ((x.1 56 (x.1 74 (l4 : Int32).toNatClampNeg : Int32).toNatClampNeg) = l1) → MT G (d + 1) z_lock 97 [(0, vr 0), (1, vi l1), (2, vi l2), (4, vi l4)] [vi 0, vi l3] x P) ∧ ((x.1 56 (x.1 74 (l4 : Int32).toNatClampNeg : Int32).toNatClampNeg) = l1 → MT G (d + 1) z_lock 97 [(0, vr 0), (1, vi l1), (2, vi l2), (4, vi l4)] [vi 1, vi l3] x P))))))) :
    MT G (d + 1) z_lock 55 [(0, vr 0), (1, vi l1), (2, vi l2), (3, vi l3), (4, vi l4)] [] x P := by
  refine T_iload 4 (dk dt_lock 32 rfl) rfl ?_
  refine T_aload_n 0 (dk dt_lock 33 rfl) rfl rfl ?_
  refine T_getI 0 25 (dk dt_lock 34 rfl) fl_461 mk_0 ml_0 (by decide) rfl ?_
  refine T_icmp_ge 108 (dk dt_lock 35 rfl) (by decide) (fun c1 => ?_) (fun c1 => ?_)
  · have h := h.1 c1
    refine T_iload_n 2 (dk dt_lock 60 rfl) rfl rfl ?_
    refine T_if_ne 121 (dk dt_lock 61 rfl) (by decide) (fun c2 => ?_) (fun c2 => ?_)
    · have h := h.1 c2
      refine T_iload_n 2 (dk dt_lock 67 rfl) rfl rfl ?_
      refine T_iconst (v := 1) (dk dt_lock 68 rfl) (by decide +kernel) ?_
      refine T_icmp_ne 135 (dk dt_lock 69 rfl) (by decide) (fun c3 => ?_) (fun c3 => ?_)
      · have h := h.1 c3
        refine T_iload_n 3 (dk dt_lock 75 rfl) rfl rfl ?_
        exact MT_iret (dk dt_lock 76 rfl) rfl rfl h
      · have h := h.2 c3
        refine T_aload_n 0 (dk dt_lock 70 rfl) rfl rfl ?_
        refine T_getR 0 71 72 (dk dt_lock 71 rfl) fl_148 mk_0 ml_0 (by decide) rfl rfl ?_
        refine T_iload_n 1 (dk dt_lock 72 rfl) rfl rfl ?_
        obtain ⟨h4, h⟩ := h
        refine T_iald 72 6 (dk dt_lock 73 rfl) mk_72 ml_72 h4 ?_
        refine T_goto 136 (dk dt_lock 74 rfl) (by decide) ?_
        exact MT_iret (dk dt_lock 76 rfl) rfl rfl h
    · have h := h.2 c2
      refine T_aload_n 0 (dk dt_lock 62 rfl) rfl rfl ?_
      refine T_getR 0 70 71 (dk dt_lock 63 rfl) fl_145 mk_0 ml_0 (by decide) rfl rfl ?_
      refine T_iload_n 1 (dk dt_lock 64 rfl) rfl rfl ?_
      obtain ⟨h5, h⟩ := h
      refine T_iald 71 6 (dk dt_lock 65 rfl) mk_71 ml_71 h5 ?_
      refine T_goto 136 (dk dt_lock 66 rfl) (by decide) ?_
      exact MT_iret (dk dt_lock 76 rfl) rfl rfl h
  · have h := h.2 c1
    refine T_iload_n 3 (dk dt_lock 36 rfl) rfl rfl ?_
    refine T_aload_n 0 (dk dt_lock 37 rfl) rfl rfl ?_
    refine T_getR 0 76 77 (dk dt_lock 38 rfl) fl_163 mk_0 ml_0 (by decide) rfl rfl ?_
    refine T_iload 4 (dk dt_lock 39 rfl) rfl ?_
    obtain ⟨h6, h⟩ := h
    refine T_iald 77 6 (dk dt_lock 40 rfl) mk_77 ml_77 h6 ?_
    refine T_iconst (v := 1) (dk dt_lock 41 rfl) (by decide +kernel) ?_
    refine T_icmp_ne 96 (dk dt_lock 42 rfl) (by decide) (fun c7 => ?_) (fun c7 => ?_)
    · have h := h.1 c7
      refine T_iconst (v := 0) (dk dt_lock 54 rfl) (by decide +kernel) ?_
      exact T_sub [0, 1, 2, 4] rfl h
    · have h := h.2 c7
      refine T_aload_n 0 (dk dt_lock 43 rfl) rfl rfl ?_
      refine T_getR 0 55 56 (dk dt_lock 44 rfl) fl_109 mk_0 ml_0 (by decide) rfl rfl ?_
      refine T_aload_n 0 (dk dt_lock 45 rfl) rfl rfl ?_
      refine T_getR 0 73 74 (dk dt_lock 46 rfl) fl_154 mk_0 ml_0 (by decide) rfl rfl ?_
      refine T_iload 4 (dk dt_lock 47 rfl) rfl ?_
      obtain ⟨h8, h⟩ := h
      refine T_iald 74 6 (dk dt_lock 48 rfl) mk_74 ml_74 h8 ?_
      obtain ⟨h9, h⟩ := h
      refine T_iald 56 1500 (dk dt_lock 49 rfl) mk_56 ml_56 h9 ?_
      refine T_iload_n 1 (dk dt_lock 50 rfl) rfl rfl ?_
      refine T_icmp_ne 96 (dk dt_lock 51 rfl) (by decide) (fun c10 => ?_) (fun c10 => ?_)
      · have h := h.1 c10
        refine T_iconst (v := 0) (dk dt_lock 54 rfl) (by decide +kernel) ?_
        exact T_sub [0, 1, 2, 4] rfl h
      · have h := h.2 c10
        refine T_iconst (v := 1) (dk dt_lock 52 rfl) (by decide +kernel) ?_
        refine T_goto 97 (dk dt_lock 53 rfl) (by decide) ?_
        exact T_sub [0, 1, 2, 4] rfl h
set_option maxRecDepth 100000 in
set_option maxHeartbeats 4000000 in
theorem sg_lock_97 {G : mG} {d : Nat} {x : gd} {P : Option gv → gd → Prop} (l1 : Int32) (l2 : Int32) (l4 : Int32) (s0 : Int32) (s1 : Int32)
    (h : MT G d z_one 0 [(0, vi s0)] [] x (ri (fun r2 x1 => MT G (d + 1) z_lock 55 [(0, vr 0), (1, vi l1), (2, vi l2), (3, vi (s1 + r2)), (4, vi (l4 + 1))] [] x1 P))) :
    MT G (d + 1) z_lock 97 [(0, vr 0), (1, vi l1), (2, vi l2), (4, vi l4)] [vi s0, vi s1] x P := by
  refine MT_callSi [vi s0] [vi s1] rfl (dk dt_lock 55 rfl) cs_587 rfl (Nat.le_of_ble_eq_true rfl) (Nat.le_of_ble_eq_true rfl) rfl rfl h (fun r2 x1 h => ?_)
  refine T_iadd (dk dt_lock 56 rfl) ?_
  refine T_istore_n (lv2 := [(3, vi (s1 + r2)), (0, vr 0), (1, vi l1), (2, vi l2), (4, vi l4)]) (dk dt_lock 57 rfl) rfl (by decide) rfl ?_
  refine T_iinc (v := l4 + 1) (lv2 := [(4, vi (l4 + 1)), (3, vi (s1 + r2)), (0, vr 0), (1, vi l1), (2, vi l2)]) 4 (dk dt_lock 58 rfl) rfl rfl (by decide) rfl ?_
  refine T_goto 55 (dk dt_lock 59 rfl) (by decide) ?_
  exact T_sub [2, 3, 4, 1, 0] rfl h
set_option maxRecDepth 100000 in
theorem dt_knownOf : dck cX12_knownOf [(0, .aload_n 0, 1), (1, .getfield 151, 3), (4, .iload_n 1, 1), (5, .iaload, 1), (6, .iconst 1, 1), (7, .if_icmp .eq 13, 3), (10, .aload_n 0, 1), (11, .getfield 151, 3), (14, .iload_n 1, 1), (15, .iaload, 1), (16, .iconst 3, 1), (17, .if_icmp .ne 17, 3), (20, .aload_n 0, 1), (21, .getfield 127, 3), (24, .aload_n 0, 1), (25, .getfield 154, 3), (28, .iload_n 1, 1), (29, .iaload, 1), (30, .iaload, 1), (31, .goto 4, 3), (34, .iconst 0, 1), (35, .ireturn, 1)] = true := by decide +kernel
set_option maxRecDepth 100000 in
set_option maxHeartbeats 4000000 in
theorem sg_knownOf_0 {G : mG} {d : Nat} {x : gd} {P : Option gv → gd → Prop} (l1 : Int32)
    (h : vp_in l1 6 ∧ (((x.1 73 (l1 : Int32).toNatClampNeg) = (1 : Int32) → vp_in l1 6 ∧ vp_in (x.1 74 (l1 : Int32).toNatClampNeg) 1500 ∧ P (some (vi (x.1 62 (x.1 74 (l1 : Int32).toNatClampNeg : Int32).toNatClampNeg))) x) ∧ (¬ ((x.1 73 (l1 : Int32).toNatClampNeg) = (1 : Int32)) → vp_in l1 6 ∧ ((¬ ((x.1 73 (l1 : Int32).toNatClampNeg) = (3 : Int32)) → P (some (vi 0)) x) ∧ ((x.1 73 (l1 : Int32).toNatClampNeg) = (3 : Int32) → vp_in l1 6 ∧ vp_in (x.1 74 (l1 : Int32).toNatClampNeg) 1500 ∧ P (some (vi (x.1 62 (x.1 74 (l1 : Int32).toNatClampNeg : Int32).toNatClampNeg))) x))))) :
    MT G d z_knownOf 0 [(0, vr 0), (1, vi l1)] [] x P := by
  refine T_aload_n 0 (dk dt_knownOf 0 rfl) rfl rfl ?_
  refine T_getR 0 72 73 (dk dt_knownOf 1 rfl) fl_151 mk_0 ml_0 (by decide) rfl rfl ?_
  refine T_iload_n 1 (dk dt_knownOf 2 rfl) rfl rfl ?_
  obtain ⟨h1, h⟩ := h
  refine T_iald 73 6 (dk dt_knownOf 3 rfl) mk_73 ml_73 h1 ?_
  refine T_iconst (v := 1) (dk dt_knownOf 4 rfl) (by decide +kernel) ?_
  refine T_icmp_eq 20 (dk dt_knownOf 5 rfl) (by decide) (fun c2 => ?_) (fun c2 => ?_)
  · have h := h.1 c2
    refine T_aload_n 0 (dk dt_knownOf 12 rfl) rfl rfl ?_
    refine T_getR 0 61 62 (dk dt_knownOf 13 rfl) fl_127 mk_0 ml_0 (by decide) rfl rfl ?_
    refine T_aload_n 0 (dk dt_knownOf 14 rfl) rfl rfl ?_
    refine T_getR 0 73 74 (dk dt_knownOf 15 rfl) fl_154 mk_0 ml_0 (by decide) rfl rfl ?_
    refine T_iload_n 1 (dk dt_knownOf 16 rfl) rfl rfl ?_
    obtain ⟨h3, h⟩ := h
    refine T_iald 74 6 (dk dt_knownOf 17 rfl) mk_74 ml_74 h3 ?_
    obtain ⟨h4, h⟩ := h
    refine T_iald 62 1500 (dk dt_knownOf 18 rfl) mk_62 ml_62 h4 ?_
    refine T_goto 35 (dk dt_knownOf 19 rfl) (by decide) ?_
    exact MT_iret (dk dt_knownOf 21 rfl) rfl rfl h
  · have h := h.2 c2
    refine T_aload_n 0 (dk dt_knownOf 6 rfl) rfl rfl ?_
    refine T_getR 0 72 73 (dk dt_knownOf 7 rfl) fl_151 mk_0 ml_0 (by decide) rfl rfl ?_
    refine T_iload_n 1 (dk dt_knownOf 8 rfl) rfl rfl ?_
    obtain ⟨h5, h⟩ := h
    refine T_iald 73 6 (dk dt_knownOf 9 rfl) mk_73 ml_73 h5 ?_
    refine T_iconst (v := 3) (dk dt_knownOf 10 rfl) (by decide +kernel) ?_
    refine T_icmp_ne 34 (dk dt_knownOf 11 rfl) (by decide) (fun c6 => ?_) (fun c6 => ?_)
    · have h := h.1 c6
      refine T_iconst (v := 0) (dk dt_knownOf 20 rfl) (by decide +kernel) ?_
      exact MT_iret (dk dt_knownOf 21 rfl) rfl rfl h
    · have h := h.2 c6
      refine T_aload_n 0 (dk dt_knownOf 12 rfl) rfl rfl ?_
      refine T_getR 0 61 62 (dk dt_knownOf 13 rfl) fl_127 mk_0 ml_0 (by decide) rfl rfl ?_
      refine T_aload_n 0 (dk dt_knownOf 14 rfl) rfl rfl ?_
      refine T_getR 0 73 74 (dk dt_knownOf 15 rfl) fl_154 mk_0 ml_0 (by decide) rfl rfl ?_
      refine T_iload_n 1 (dk dt_knownOf 16 rfl) rfl rfl ?_
      obtain ⟨h7, h⟩ := h
      refine T_iald 74 6 (dk dt_knownOf 17 rfl) mk_74 ml_74 h7 ?_
      obtain ⟨h8, h⟩ := h
      refine T_iald 62 1500 (dk dt_knownOf 18 rfl) mk_62 ml_62 h8 ?_
      refine T_goto 35 (dk dt_knownOf 19 rfl) (by decide) ?_
      exact MT_iret (dk dt_knownOf 21 rfl) rfl rfl h
set_option maxRecDepth 100000 in
theorem dt_ones : dck cX12_ones [(0, .iconst 0, 1), (1, .istore_n 1, 1), (2, .iconst 0, 1), (3, .istore_n 2, 1), (4, .iload_n 2, 1), (5, .bipush 24, 2), (7, .if_icmp .ge 17, 3), (10, .iload_n 1, 1), (11, .iload_n 0, 1), (12, .iload_n 2, 1), (13, .ishr, 1), (14, .iconst 1, 1), (15, .iand, 1), (16, .iadd, 1), (17, .istore_n 1, 1), (18, .iinc 2 1, 3), (21, .goto (-17), 3), (24, .iload_n 1, 1), (25, .ireturn, 1)] = true := by decide +kernel
set_option maxRecDepth 100000 in
set_option maxHeartbeats 4000000 in
theorem sg_ones_0 {G : mG} {d : Nat} {x : gd} {P : Option gv → gd → Prop} (l0 : Int32)
    (h : MT G d z_ones 4 [(0, vi l0), (1, vi 0), (2, vi 0)] [] x P) :
    MT G d z_ones 0 [(0, vi l0)] [] x P := by
  refine T_iconst (v := 0) (dk dt_ones 0 rfl) (by decide +kernel) ?_
  refine T_istore_n (lv2 := [(1, vi 0), (0, vi l0)]) (dk dt_ones 1 rfl) rfl (by decide) rfl ?_
  refine T_iconst (v := 0) (dk dt_ones 2 rfl) (by decide +kernel) ?_
  refine T_istore_n (lv2 := [(2, vi 0), (1, vi 0), (0, vi l0)]) (dk dt_ones 3 rfl) rfl (by decide) rfl ?_
  exact T_sub [2, 1, 0] rfl h
set_option maxRecDepth 100000 in
set_option maxHeartbeats 4000000 in
theorem sg_ones_4 {G : mG} {d : Nat} {x : gd} {P : Option gv → gd → Prop} (l0 : Int32) (l1 : Int32) (l2 : Int32)
    (h : (((24 : Int32) ≤ l2 → P (some (vi l1)) x) ∧ (¬ ((24 : Int32) ≤ l2) → MT G d z_ones 4 [(0, vi l0), (1, vi (l1 + ((l0 >>> (l2 &&& 31 : Int32)) &&& 1))), (2, vi (l2 + 1))] [] x P))) :
    MT G d z_ones 4 [(0, vi l0), (1, vi l1), (2, vi l2)] [] x P := by
  refine T_iload_n 2 (dk dt_ones 4 rfl) rfl rfl ?_
  refine T_bipush (v := 24) (dk dt_ones 5 rfl) (by decide +kernel) ?_
  refine T_icmp_ge 24 (dk dt_ones 6 rfl) (by decide) (fun c1 => ?_) (fun c1 => ?_)
  · have h := h.1 c1
    refine T_iload_n 1 (dk dt_ones 17 rfl) rfl rfl ?_
    exact MT_iret (dk dt_ones 18 rfl) rfl rfl h
  · have h := h.2 c1
    refine T_iload_n 1 (dk dt_ones 7 rfl) rfl rfl ?_
    refine T_iload_n 0 (dk dt_ones 8 rfl) rfl rfl ?_
    refine T_iload_n 2 (dk dt_ones 9 rfl) rfl rfl ?_
    refine T_ishr (dk dt_ones 10 rfl) ?_
    refine T_iconst (v := 1) (dk dt_ones 11 rfl) (by decide +kernel) ?_
    refine T_iand (dk dt_ones 12 rfl) ?_
    refine T_iadd (dk dt_ones 13 rfl) ?_
    refine T_istore_n (lv2 := [(1, vi (l1 + ((l0 >>> (l2 &&& 31 : Int32)) &&& 1))), (0, vi l0), (2, vi l2)]) (dk dt_ones 14 rfl) rfl (by decide) rfl ?_
    refine T_iinc (v := l2 + 1) (lv2 := [(2, vi (l2 + 1)), (1, vi (l1 + ((l0 >>> (l2 &&& 31 : Int32)) &&& 1))), (0, vi l0)]) 2 (dk dt_ones 15 rfl) rfl rfl (by decide) rfl ?_
    refine T_goto 4 (dk dt_ones 16 rfl) (by decide) ?_
    exact T_sub [2, 1, 0] rfl h
set_option maxRecDepth 100000 in
theorem dt_thread : dck cX12_thread [(0, .aload_n 0, 1), (1, .iconst 0, 1), (2, .putfield 316, 3), (5, .aload_n 0, 1), (6, .invokevirtual 680, 3), (9, .ifCond .ne 39, 3), (12, .aload_n 0, 1), (13, .iload_n 1, 1), (14, .iconst 0, 1), (15, .aload_n 0, 1), (16, .getfield 461, 3), (19, .iconst 1, 1), (20, .isub, 1), (21, .invokestatic 322, 3), (24, .ifCond .eq 12, 3), (27, .iload_n 2, 1), (28, .iconst 0, 1), (29, .iconst 4, 1), (30, .invokestatic 322, 3), (33, .ifCond .ne 7, 3), (36, .iconst 1, 1), (37, .goto 4, 3), (40, .iconst 0, 1), (41, .iconst 2, 1), (42, .invokevirtual 558, 3), (45, .ifCond .eq 5, 3), (48, .iconst 0, 1), (49, .ireturn, 1), (50, .iload_n 2, 1), (51, .ifCond .ne 12, 3), (54, .aload_n 0, 1), (55, .getfield 151, 3), (58, .iload_n 1, 1), (59, .iaload, 1), (60, .goto 72, 3), (63, .iload_n 2, 1), (64, .iconst 1, 1), (65, .if_icmp .ne 12, 3), (68, .aload_n 0, 1), (69, .getfield 157, 3), (72, .iload_n 1, 1), (73, .iaload, 1), (74, .goto 58, 3), (77, .iload_n 2, 1), (78, .iconst 2, 1), (79, .if_icmp .ne 12, 3), (82, .aload_n 0, 1), (83, .getfield 172, 3), (86, .iload_n 1, 1), (87, .iaload, 1), (88, .goto 44, 3), (91, .iload_n 2, 1), (92, .iconst 3, 1), (93, .if_icmp .ne 14, 3), (96, .aload_n 0, 1), (97, .iload_n 1, 1), (98, .invokevirtual 693, 3), (101, .invokestatic 696, 3), (104, .goto 28, 3), (107, .aload_n 0, 1), (108, .getfield 151, 3), (111, .iload_n 1, 1), (112, .iaload, 1), (113, .iconst 1, 1), (114, .if_icmp .ne 17, 3), (117, .aload_n 0, 1), (118, .getfield 130, 3), (121, .aload_n 0, 1), (122, .getfield 154, 3), (125, .iload_n 1, 1), (126, .iaload, 1), (127, .iaload, 1), (128, .goto 4, 3), (131, .iconst 0, 1), (132, .ireturn, 1)] = true := by decide +kernel
set_option maxRecDepth 100000 in
set_option maxHeartbeats 4000000 in
theorem sg_thread_0 {G : mG} {d : Nat} {x : gd} {P : Option gv → gd → Prop} (l1 : Int32) (l2 : Int32)
    (h : (∀ x1 : gd, x1 = si x 0 0 0 → MT G d z_noRun 0 [(0, vr 0)] [] x1 (ri (fun r3 x2 => ((¬ (r3 = (0 : Int32)) → P (some (vi 0)) x2) ∧ (r3 = (0 : Int32) → MT G d z_in 0 [(0, vi l1), (1, vi 0), (2, vi ((x2.1 0 25) - 1))] [] x2 (ri (fun r6 x5 => ((r6 = (0 : Int32) → MT G (d + 1) z_thread 41 [(0, vr 0), (1, vi l1), (2, vi l2)] [vi 1, vr 0] x5 P) ∧ (¬ (r6 = (0 : Int32)) → MT G d z_in 0 [(0, vi l2), (1, vi 0), (2, vi 4)] [] x5 (ri (fun r9 x8 => ((¬ (r9 = (0 : Int32)) → MT G (d + 1) z_thread 41 [(0, vr 0), (1, vi l1), (2, vi l2)] [vi 0, vr 0] x8 P) ∧ (r9 = (0 : Int32) → MT G (d + 1) z_thread 41 [(0, vr 0), (1, vi l1), (2, vi l2)] [vi 1, vr 0] x8 P)))))))))))))) :
    MT G (d + 1) z_thread 0 [(0, vr 0), (1, vi l1), (2, vi l2)] [] x P := by
  refine T_aload_n 0 (dk dt_thread 0 rfl) rfl rfl ?_
  refine T_iconst (v := 0) (dk dt_thread 1 rfl) (by decide +kernel) ?_
  obtain ⟨x1, ex1⟩ : ∃ z, z = si x 0 0 0 := ⟨_, rfl⟩
  have h := h x1 ex1
  refine T_putI 0 0 (dk dt_thread 2 rfl) fl_316 mk_0 ml_0 (by decide) rfl ⟨rfl, rfl⟩ ?_
  rw [← ex1]
  refine T_aload_n 0 (dk dt_thread 3 rfl) rfl rfl ?_
  refine MT_callVi [] [] rfl (dk dt_thread 4 rfl) cv_680 rfl rfl (Nat.le_of_ble_eq_true rfl) (Nat.le_of_ble_eq_true rfl) rfl rfl h (fun r3 x2 h => ?_)
  refine T_if_ne 48 (dk dt_thread 5 rfl) (by decide) (fun c4 => ?_) (fun c4 => ?_)
  · have h := h.1 c4
    refine T_iconst (v := 0) (dk dt_thread 26 rfl) (by decide +kernel) ?_
    exact MT_iret (dk dt_thread 27 rfl) rfl rfl h
  · have h := h.2 c4
    refine T_aload_n 0 (dk dt_thread 6 rfl) rfl rfl ?_
    refine T_iload_n 1 (dk dt_thread 7 rfl) rfl rfl ?_
    refine T_iconst (v := 0) (dk dt_thread 8 rfl) (by decide +kernel) ?_
    refine T_aload_n 0 (dk dt_thread 9 rfl) rfl rfl ?_
    refine T_getI 0 25 (dk dt_thread 10 rfl) fl_461 mk_0 ml_0 (by decide) rfl ?_
    refine T_iconst (v := 1) (dk dt_thread 11 rfl) (by decide +kernel) ?_
    refine T_isub (dk dt_thread 12 rfl) ?_
    refine MT_callSi [vi l1, vi 0, vi ((x2.1 0 25) - 1)] [vr 0] rfl (dk dt_thread 13 rfl) cs_322 rfl (Nat.le_of_ble_eq_true rfl) (Nat.le_of_ble_eq_true rfl) rfl rfl h (fun r6 x5 h => ?_)
    refine T_if_eq 36 (dk dt_thread 14 rfl) (by decide) (fun c7 => ?_) (fun c7 => ?_)
    · have h := h.1 c7
      refine T_iconst (v := 1) (dk dt_thread 20 rfl) (by decide +kernel) ?_
      refine T_goto 41 (dk dt_thread 21 rfl) (by decide) ?_
      exact h
    · have h := h.2 c7
      refine T_iload_n 2 (dk dt_thread 15 rfl) rfl rfl ?_
      refine T_iconst (v := 0) (dk dt_thread 16 rfl) (by decide +kernel) ?_
      refine T_iconst (v := 4) (dk dt_thread 17 rfl) (by decide +kernel) ?_
      refine MT_callSi [vi l2, vi 0, vi 4] [vr 0] rfl (dk dt_thread 18 rfl) cs_322 rfl (Nat.le_of_ble_eq_true rfl) (Nat.le_of_ble_eq_true rfl) rfl rfl h (fun r9 x8 h => ?_)
      refine T_if_ne 40 (dk dt_thread 19 rfl) (by decide) (fun c10 => ?_) (fun c10 => ?_)
      · have h := h.1 c10
        refine T_iconst (v := 0) (dk dt_thread 22 rfl) (by decide +kernel) ?_
        exact h
      · have h := h.2 c10
        refine T_iconst (v := 1) (dk dt_thread 20 rfl) (by decide +kernel) ?_
        refine T_goto 41 (dk dt_thread 21 rfl) (by decide) ?_
        exact h
set_option maxRecDepth 100000 in
set_option maxHeartbeats 4000000 in
theorem sg_thread_41 {G : mG} {d : Nat} {x : gd} {P : Option gv → gd → Prop} (l1 : Int32) (l2 : Int32) (s0 : Int32)
    (h : MT G d z_refuses 0 [(0, vr 0), (1, vi s0), (2, vi 2)] [] x (ri (fun r2 x1 => ((r2 = (0 : Int32) → ((¬ (l2 = (0 : Int32)) → ((¬ (l2 = (1 : Int32)) → ((¬ (l2 = (2 : Int32)) → ((¬ (l2 = (3 : Int32)) → vp_in l1 6 ∧ ((¬ ((x1.1 73 (l1 : Int32).toNatClampNeg) = (1 : Int32)) → P (some (vi 0)) x1) ∧ ((x1.1 73 (l1 : Int32).toNatClampNeg) = (1 : Int32) → vp_in l1 6 ∧ vp_in (x1.1 74 (l1 : Int32).toNatClampNeg) 1500 ∧ P (some (vi (x1.1 63 (x1.1 74 (l1 : Int32).toNatClampNeg : Int32).toNatClampNeg))) x1))) ∧ (l2 = (3 : Int32) → MT G d z_knownOf 0 [(0, vr 0), (1, vi l1)] [] x1 (ri (fun r13 x12 => MT G d z_ones 0 [(0, vi r13)] [] x12 (ri (fun r15 x14 => P (some (vi r15)) x14))))))) ∧ (l2 = (2 : Int32) → vp_in l1 6 ∧ P (some (vi (x1.1 80 (l1 : Int32).toNatClampNeg))) x1))) ∧ (l2 = (1 : Int32) → vp_in l1 6 ∧ P (some (vi (x1.1 75 (l1 : Int32).toNatClampNeg))) x1))) ∧ (l2 = (0 : Int32) → vp_in l1 6 ∧ P (some (vi (x1.1 73 (l1 : Int32).toNatClampNeg))) x1))) ∧ (¬ (r2 = (0 : Int32)) → P (some (vi 0)) x1))))) :
    MT G (d + 1) z_thread 41 [(0, vr 0), (1, vi l1), (2, vi l2)] [vi s0, vr 0] x P := by
  refine T_iconst (v := 2) (dk dt_thread 23 rfl) (by decide +kernel) ?_
  refine MT_callVi [vi s0, vi 2] [] rfl (dk dt_thread 24 rfl) cv_558 rfl rfl (Nat.le_of_ble_eq_true rfl) (Nat.le_of_ble_eq_true rfl) rfl rfl h (fun r2 x1 h => ?_)
  refine T_if_eq 50 (dk dt_thread 25 rfl) (by decide) (fun c3 => ?_) (fun c3 => ?_)
  · have h := h.1 c3
    refine T_iload_n 2 (dk dt_thread 28 rfl) rfl rfl ?_
    refine T_if_ne 63 (dk dt_thread 29 rfl) (by decide) (fun c4 => ?_) (fun c4 => ?_)
    · have h := h.1 c4
      refine T_iload_n 2 (dk dt_thread 35 rfl) rfl rfl ?_
      refine T_iconst (v := 1) (dk dt_thread 36 rfl) (by decide +kernel) ?_
      refine T_icmp_ne 77 (dk dt_thread 37 rfl) (by decide) (fun c5 => ?_) (fun c5 => ?_)
      · have h := h.1 c5
        refine T_iload_n 2 (dk dt_thread 43 rfl) rfl rfl ?_
        refine T_iconst (v := 2) (dk dt_thread 44 rfl) (by decide +kernel) ?_
        refine T_icmp_ne 91 (dk dt_thread 45 rfl) (by decide) (fun c6 => ?_) (fun c6 => ?_)
        · have h := h.1 c6
          refine T_iload_n 2 (dk dt_thread 51 rfl) rfl rfl ?_
          refine T_iconst (v := 3) (dk dt_thread 52 rfl) (by decide +kernel) ?_
          refine T_icmp_ne 107 (dk dt_thread 53 rfl) (by decide) (fun c7 => ?_) (fun c7 => ?_)
          · have h := h.1 c7
            refine T_aload_n 0 (dk dt_thread 59 rfl) rfl rfl ?_
            refine T_getR 0 72 73 (dk dt_thread 60 rfl) fl_151 mk_0 ml_0 (by decide) rfl rfl ?_
            refine T_iload_n 1 (dk dt_thread 61 rfl) rfl rfl ?_
            obtain ⟨h8, h⟩ := h
            refine T_iald 73 6 (dk dt_thread 62 rfl) mk_73 ml_73 h8 ?_
            refine T_iconst (v := 1) (dk dt_thread 63 rfl) (by decide +kernel) ?_
            refine T_icmp_ne 131 (dk dt_thread 64 rfl) (by decide) (fun c9 => ?_) (fun c9 => ?_)
            · have h := h.1 c9
              refine T_iconst (v := 0) (dk dt_thread 73 rfl) (by decide +kernel) ?_
              exact MT_iret (dk dt_thread 74 rfl) rfl rfl h
            · have h := h.2 c9
              refine T_aload_n 0 (dk dt_thread 65 rfl) rfl rfl ?_
              refine T_getR 0 62 63 (dk dt_thread 66 rfl) fl_130 mk_0 ml_0 (by decide) rfl rfl ?_
              refine T_aload_n 0 (dk dt_thread 67 rfl) rfl rfl ?_
              refine T_getR 0 73 74 (dk dt_thread 68 rfl) fl_154 mk_0 ml_0 (by decide) rfl rfl ?_
              refine T_iload_n 1 (dk dt_thread 69 rfl) rfl rfl ?_
              obtain ⟨h10, h⟩ := h
              refine T_iald 74 6 (dk dt_thread 70 rfl) mk_74 ml_74 h10 ?_
              obtain ⟨h11, h⟩ := h
              refine T_iald 63 1500 (dk dt_thread 71 rfl) mk_63 ml_63 h11 ?_
              refine T_goto 132 (dk dt_thread 72 rfl) (by decide) ?_
              exact MT_iret (dk dt_thread 74 rfl) rfl rfl h
          · have h := h.2 c7
            refine T_aload_n 0 (dk dt_thread 54 rfl) rfl rfl ?_
            refine T_iload_n 1 (dk dt_thread 55 rfl) rfl rfl ?_
            refine MT_callVi [vi l1] [] rfl (dk dt_thread 56 rfl) cv_693 rfl rfl (Nat.le_of_ble_eq_true rfl) (Nat.le_of_ble_eq_true rfl) rfl rfl h (fun r13 x12 h => ?_)
            refine MT_callSi [vi r13] [] rfl (dk dt_thread 57 rfl) cs_696 rfl (Nat.le_of_ble_eq_true rfl) (Nat.le_of_ble_eq_true rfl) rfl rfl h (fun r15 x14 h => ?_)
            refine T_goto 132 (dk dt_thread 58 rfl) (by decide) ?_
            exact MT_iret (dk dt_thread 74 rfl) rfl rfl h
        · have h := h.2 c6
          refine T_aload_n 0 (dk dt_thread 46 rfl) rfl rfl ?_
          refine T_getR 0 79 80 (dk dt_thread 47 rfl) fl_172 mk_0 ml_0 (by decide) rfl rfl ?_
          refine T_iload_n 1 (dk dt_thread 48 rfl) rfl rfl ?_
          obtain ⟨h16, h⟩ := h
          refine T_iald 80 6 (dk dt_thread 49 rfl) mk_80 ml_80 h16 ?_
          refine T_goto 132 (dk dt_thread 50 rfl) (by decide) ?_
          exact MT_iret (dk dt_thread 74 rfl) rfl rfl h
      · have h := h.2 c5
        refine T_aload_n 0 (dk dt_thread 38 rfl) rfl rfl ?_
        refine T_getR 0 74 75 (dk dt_thread 39 rfl) fl_157 mk_0 ml_0 (by decide) rfl rfl ?_
        refine T_iload_n 1 (dk dt_thread 40 rfl) rfl rfl ?_
        obtain ⟨h17, h⟩ := h
        refine T_iald 75 6 (dk dt_thread 41 rfl) mk_75 ml_75 h17 ?_
        refine T_goto 132 (dk dt_thread 42 rfl) (by decide) ?_
        exact MT_iret (dk dt_thread 74 rfl) rfl rfl h
    · have h := h.2 c4
      refine T_aload_n 0 (dk dt_thread 30 rfl) rfl rfl ?_
      refine T_getR 0 72 73 (dk dt_thread 31 rfl) fl_151 mk_0 ml_0 (by decide) rfl rfl ?_
      refine T_iload_n 1 (dk dt_thread 32 rfl) rfl rfl ?_
      obtain ⟨h18, h⟩ := h
      refine T_iald 73 6 (dk dt_thread 33 rfl) mk_73 ml_73 h18 ?_
      refine T_goto 132 (dk dt_thread 34 rfl) (by decide) ?_
      exact MT_iret (dk dt_thread 74 rfl) rfl rfl h
  · have h := h.2 c3
    refine T_iconst (v := 0) (dk dt_thread 26 rfl) (by decide +kernel) ?_
    exact MT_iret (dk dt_thread 27 rfl) rfl rfl h
set_option maxRecDepth 100000 in
theorem dt_local : dck cX12_local [(0, .aload_n 0, 1), (1, .iconst 0, 1), (2, .putfield 316, 3), (5, .aload_n 0, 1), (6, .invokevirtual 680, 3), (9, .ifCond .ne 30, 3), (12, .aload_n 0, 1), (13, .iload_n 1, 1), (14, .iconst 0, 1), (15, .aload_n 0, 1), (16, .getfield 461, 3), (19, .iconst 1, 1), (20, .isub, 1), (21, .invokestatic 322, 3), (24, .ifCond .ne 7, 3), (27, .iconst 1, 1), (28, .goto 4, 3), (31, .iconst 0, 1), (32, .iconst 2, 1), (33, .invokevirtual 558, 3), (36, .ifCond .eq 5, 3), (39, .iconst 0, 1), (40, .ireturn, 1), (41, .aload_n 0, 1), (42, .iload_n 1, 1), (43, .invokevirtual 693, 3), (46, .istore_n 3, 1), (47, .iconst 0, 1), (48, .istore 4, 2), (50, .iconst 0, 1), (51, .istore 5, 2), (53, .iload 5, 2), (55, .bipush 8, 2), (57, .if_icmp .ge 41, 3), (60, .iload_n 3, 1), (61, .iload 5, 2), (63, .ishr, 1), (64, .iconst 1, 1), (65, .iand, 1), (66, .iconst 1, 1), (67, .if_icmp .ne 25, 3), (70, .iload 4, 2), (72, .iload_n 2, 1), (73, .if_icmp .ne 16, 3), (76, .aload_n 0, 1), (77, .getfield 160, 3), (80, .bipush 8, 2), (82, .iload_n 1, 1), (83, .imul, 1), (84, .iload 5, 2), (86, .iadd, 1), (87, .iaload, 1), (88, .ireturn, 1), (89, .iinc 4 1, 3), (92, .iinc 5 1, 3), (95, .goto (-42), 3), (98, .aload_n 0, 1), (99, .iconst 1, 1), (100, .iconst 2, 1), (101, .invokevirtual 558, 3), (104, .istore 5, 2), (106, .iconst 0, 1), (107, .ireturn, 1)] = true := by decide +kernel
set_option maxRecDepth 100000 in
set_option maxHeartbeats 4000000 in
theorem sg_local_0 {G : mG} {d : Nat} {x : gd} {P : Option gv → gd → Prop} (l1 : Int32) (l2 : Int32)
    (h : (∀ x1 : gd, x1 = si x 0 0 0 → MT G d z_noRun 0 [(0, vr 0)] [] x1 (ri (fun r3 x2 => ((¬ (r3 = (0 : Int32)) → P (some (vi 0)) x2) ∧ (r3 = (0 : Int32) → MT G d z_in 0 [(0, vi l1), (1, vi 0), (2, vi ((x2.1 0 25) - 1))] [] x2 (ri (fun r6 x5 => ((¬ (r6 = (0 : Int32)) → MT G (d + 1) z_local 32 [(0, vr 0), (1, vi l1), (2, vi l2)] [vi 0, vr 0] x5 P) ∧ (r6 = (0 : Int32) → MT G (d + 1) z_local 32 [(0, vr 0), (1, vi l1), (2, vi l2)] [vi 1, vr 0] x5 P)))))))))) :
    MT G (d + 1) z_local 0 [(0, vr 0), (1, vi l1), (2, vi l2)] [] x P := by
  refine T_aload_n 0 (dk dt_local 0 rfl) rfl rfl ?_
  refine T_iconst (v := 0) (dk dt_local 1 rfl) (by decide +kernel) ?_
  obtain ⟨x1, ex1⟩ : ∃ z, z = si x 0 0 0 := ⟨_, rfl⟩
  have h := h x1 ex1
  refine T_putI 0 0 (dk dt_local 2 rfl) fl_316 mk_0 ml_0 (by decide) rfl ⟨rfl, rfl⟩ ?_
  rw [← ex1]
  refine T_aload_n 0 (dk dt_local 3 rfl) rfl rfl ?_
  refine MT_callVi [] [] rfl (dk dt_local 4 rfl) cv_680 rfl rfl (Nat.le_of_ble_eq_true rfl) (Nat.le_of_ble_eq_true rfl) rfl rfl h (fun r3 x2 h => ?_)
  refine T_if_ne 39 (dk dt_local 5 rfl) (by decide) (fun c4 => ?_) (fun c4 => ?_)
  · have h := h.1 c4
    refine T_iconst (v := 0) (dk dt_local 21 rfl) (by decide +kernel) ?_
    exact MT_iret (dk dt_local 22 rfl) rfl rfl h
  · have h := h.2 c4
    refine T_aload_n 0 (dk dt_local 6 rfl) rfl rfl ?_
    refine T_iload_n 1 (dk dt_local 7 rfl) rfl rfl ?_
    refine T_iconst (v := 0) (dk dt_local 8 rfl) (by decide +kernel) ?_
    refine T_aload_n 0 (dk dt_local 9 rfl) rfl rfl ?_
    refine T_getI 0 25 (dk dt_local 10 rfl) fl_461 mk_0 ml_0 (by decide) rfl ?_
    refine T_iconst (v := 1) (dk dt_local 11 rfl) (by decide +kernel) ?_
    refine T_isub (dk dt_local 12 rfl) ?_
    refine MT_callSi [vi l1, vi 0, vi ((x2.1 0 25) - 1)] [vr 0] rfl (dk dt_local 13 rfl) cs_322 rfl (Nat.le_of_ble_eq_true rfl) (Nat.le_of_ble_eq_true rfl) rfl rfl h (fun r6 x5 h => ?_)
    refine T_if_ne 31 (dk dt_local 14 rfl) (by decide) (fun c7 => ?_) (fun c7 => ?_)
    · have h := h.1 c7
      refine T_iconst (v := 0) (dk dt_local 17 rfl) (by decide +kernel) ?_
      exact h
    · have h := h.2 c7
      refine T_iconst (v := 1) (dk dt_local 15 rfl) (by decide +kernel) ?_
      refine T_goto 32 (dk dt_local 16 rfl) (by decide) ?_
      exact h
set_option maxRecDepth 100000 in
set_option maxHeartbeats 4000000 in
theorem sg_local_32 {G : mG} {d : Nat} {x : gd} {P : Option gv → gd → Prop} (l1 : Int32) (l2 : Int32) (s0 : Int32)
    (h : MT G d z_refuses 0 [(0, vr 0), (1, vi s0), (2, vi 2)] [] x (ri (fun r2 x1 => ((r2 = (0 : Int32) → MT G d z_knownOf 0 [(0, vr 0), (1, vi l1)] [] x1 (ri (fun r5 x4 => MT G (d + 1) z_local 53 [(0, vr 0), (1, vi l1), (2, vi l2), (3, vi r5), (4, vi 0), (5, vi 0)] [] x4 P))) ∧ (¬ (r2 = (0 : Int32)) → P (some (vi 0)) x1))))) :
    MT G (d + 1) z_local 32 [(0, vr 0), (1, vi l1), (2, vi l2)] [vi s0, vr 0] x P := by
  refine T_iconst (v := 2) (dk dt_local 18 rfl) (by decide +kernel) ?_
  refine MT_callVi [vi s0, vi 2] [] rfl (dk dt_local 19 rfl) cv_558 rfl rfl (Nat.le_of_ble_eq_true rfl) (Nat.le_of_ble_eq_true rfl) rfl rfl h (fun r2 x1 h => ?_)
  refine T_if_eq 41 (dk dt_local 20 rfl) (by decide) (fun c3 => ?_) (fun c3 => ?_)
  · have h := h.1 c3
    refine T_aload_n 0 (dk dt_local 23 rfl) rfl rfl ?_
    refine T_iload_n 1 (dk dt_local 24 rfl) rfl rfl ?_
    refine MT_callVi [vi l1] [] rfl (dk dt_local 25 rfl) cv_693 rfl rfl (Nat.le_of_ble_eq_true rfl) (Nat.le_of_ble_eq_true rfl) rfl rfl h (fun r5 x4 h => ?_)
    refine T_istore_n (lv2 := [(3, vi r5), (0, vr 0), (1, vi l1), (2, vi l2)]) (dk dt_local 26 rfl) rfl (by decide) rfl ?_
    refine T_iconst (v := 0) (dk dt_local 27 rfl) (by decide +kernel) ?_
    refine T_istore (lv2 := [(4, vi 0), (3, vi r5), (0, vr 0), (1, vi l1), (2, vi l2)]) (dk dt_local 28 rfl) (by decide) rfl ?_
    refine T_iconst (v := 0) (dk dt_local 29 rfl) (by decide +kernel) ?_
    refine T_istore (lv2 := [(5, vi 0), (4, vi 0), (3, vi r5), (0, vr 0), (1, vi l1), (2, vi l2)]) (dk dt_local 30 rfl) (by decide) rfl ?_
    exact T_sub [3, 4, 5, 2, 1, 0] rfl h
  · have h := h.2 c3
    refine T_iconst (v := 0) (dk dt_local 21 rfl) (by decide +kernel) ?_
    exact MT_iret (dk dt_local 22 rfl) rfl rfl h
set_option maxRecDepth 100000 in
set_option maxHeartbeats 4000000 in
theorem sg_local_53 {G : mG} {d : Nat} {x : gd} {P : Option gv → gd → Prop} (l1 : Int32) (l2 : Int32) (l3 : Int32) (l4 : Int32) (l5 : Int32)
    (h : (((8 : Int32) ≤ l5 → MT G d z_refuses 0 [(0, vr 0), (1, vi 1), (2, vi 2)] [] x (ri (fun r3 x2 => P (some (vi 0)) x2))) ∧ (¬ ((8 : Int32) ≤ l5) → ((¬ (((l3 >>> (l5 &&& 31 : Int32)) &&& 1) = (1 : Int32)) → MT G (d + 1) z_local 53 [(0, vr 0), (1, vi l1), (2, vi l2), (3, vi l3), (4, vi l4), (5, vi (l5 + 1))] [] x P) ∧ (((l3 >>> (l5 &&& 31 : Int32)) &&& 1) = (1 : Int32) → ((¬ (l4 = l2) → MT G (d + 1) z_local 53 [(0, vr 0), (1, vi l1), (2, vi l2), (3, vi l3), (4, vi (l4 + 1)), (5, vi (l5 + 1))] [] x P) ∧ (l4 = l2 → vp_in ((8 * l1) + l5) 48 ∧ P (some (vi (x.1 76 ((8 * l1) + l5 : Int32).toNatClampNeg))) x))))))) :
    MT G (d + 1) z_local 53 [(0, vr 0), (1, vi l1), (2, vi l2), (3, vi l3), (4, vi l4), (5, vi l5)] [] x P := by
  refine T_iload 5 (dk dt_local 31 rfl) rfl ?_
  refine T_bipush (v := 8) (dk dt_local 32 rfl) (by decide +kernel) ?_
  refine T_icmp_ge 98 (dk dt_local 33 rfl) (by decide) (fun c1 => ?_) (fun c1 => ?_)
  · have h := h.1 c1
    refine T_aload_n 0 (dk dt_local 56 rfl) rfl rfl ?_
    refine T_iconst (v := 1) (dk dt_local 57 rfl) (by decide +kernel) ?_
    refine T_iconst (v := 2) (dk dt_local 58 rfl) (by decide +kernel) ?_
    refine MT_callVi [vi 1, vi 2] [] rfl (dk dt_local 59 rfl) cv_558 rfl rfl (Nat.le_of_ble_eq_true rfl) (Nat.le_of_ble_eq_true rfl) rfl rfl h (fun r3 x2 h => ?_)
    refine T_istore (lv2 := [(5, vi r3), (0, vr 0), (1, vi l1), (2, vi l2), (3, vi l3), (4, vi l4)]) (dk dt_local 60 rfl) (by decide) rfl ?_
    refine T_iconst (v := 0) (dk dt_local 61 rfl) (by decide +kernel) ?_
    exact MT_iret (dk dt_local 62 rfl) rfl rfl h
  · have h := h.2 c1
    refine T_iload_n 3 (dk dt_local 34 rfl) rfl rfl ?_
    refine T_iload 5 (dk dt_local 35 rfl) rfl ?_
    refine T_ishr (dk dt_local 36 rfl) ?_
    refine T_iconst (v := 1) (dk dt_local 37 rfl) (by decide +kernel) ?_
    refine T_iand (dk dt_local 38 rfl) ?_
    refine T_iconst (v := 1) (dk dt_local 39 rfl) (by decide +kernel) ?_
    refine T_icmp_ne 92 (dk dt_local 40 rfl) (by decide) (fun c4 => ?_) (fun c4 => ?_)
    · have h := h.1 c4
      refine T_iinc (v := l5 + 1) (lv2 := [(5, vi (l5 + 1)), (0, vr 0), (1, vi l1), (2, vi l2), (3, vi l3), (4, vi l4)]) 5 (dk dt_local 54 rfl) rfl rfl (by decide) rfl ?_
      refine T_goto 53 (dk dt_local 55 rfl) (by decide) ?_
      exact T_sub [1, 2, 3, 4, 5, 0] rfl h
    · have h := h.2 c4
      refine T_iload 4 (dk dt_local 41 rfl) rfl ?_
      refine T_iload_n 2 (dk dt_local 42 rfl) rfl rfl ?_
      refine T_icmp_ne 89 (dk dt_local 43 rfl) (by decide) (fun c5 => ?_) (fun c5 => ?_)
      · have h := h.1 c5
        refine T_iinc (v := l4 + 1) (lv2 := [(4, vi (l4 + 1)), (0, vr 0), (1, vi l1), (2, vi l2), (3, vi l3), (5, vi l5)]) 4 (dk dt_local 53 rfl) rfl rfl (by decide) rfl ?_
        refine T_iinc (v := l5 + 1) (lv2 := [(5, vi (l5 + 1)), (4, vi (l4 + 1)), (0, vr 0), (1, vi l1), (2, vi l2), (3, vi l3)]) 5 (dk dt_local 54 rfl) rfl rfl (by decide) rfl ?_
        refine T_goto 53 (dk dt_local 55 rfl) (by decide) ?_
        exact T_sub [2, 3, 4, 5, 1, 0] rfl h
      · have h := h.2 c5
        refine T_aload_n 0 (dk dt_local 44 rfl) rfl rfl ?_
        refine T_getR 0 75 76 (dk dt_local 45 rfl) fl_160 mk_0 ml_0 (by decide) rfl rfl ?_
        refine T_bipush (v := 8) (dk dt_local 46 rfl) (by decide +kernel) ?_
        refine T_iload_n 1 (dk dt_local 47 rfl) rfl rfl ?_
        refine T_imul (dk dt_local 48 rfl) ?_
        refine T_iload 5 (dk dt_local 49 rfl) rfl ?_
        refine T_iadd (dk dt_local 50 rfl) ?_
        obtain ⟨h6, h⟩ := h
        refine T_iald 76 48 (dk dt_local 51 rfl) mk_76 ml_76 h6 ?_
        exact MT_iret (dk dt_local 52 rfl) rfl rfl h
set_option maxRecDepth 100000 in
theorem dt_act : dck cX12_act [(0, .aload_n 0, 1), (1, .iconst 0, 1), (2, .putfield 316, 3), (5, .aload_n 0, 1), (6, .invokevirtual 680, 3), (9, .ifCond .ne 39, 3), (12, .aload_n 0, 1), (13, .iload_n 1, 1), (14, .iconst 0, 1), (15, .aload_n 0, 1), (16, .getfield 647, 3), (19, .iconst 1, 1), (20, .isub, 1), (21, .invokestatic 322, 3), (24, .ifCond .eq 12, 3), (27, .iload_n 2, 1), (28, .iconst 0, 1), (29, .iconst 4, 1), (30, .invokestatic 322, 3), (33, .ifCond .ne 7, 3), (36, .iconst 1, 1), (37, .goto 4, 3), (40, .iconst 0, 1), (41, .iconst 2, 1), (42, .invokevirtual 558, 3), (45, .ifCond .eq 5, 3), (48, .iconst 0, 1), (49, .ireturn, 1), (50, .iload_n 2, 1), (51, .ifCond .ne 12, 3), (54, .aload_n 0, 1), (55, .getfield 196, 3), (58, .iload_n 1, 1), (59, .iaload, 1), (60, .goto 51, 3), (63, .iload_n 2, 1), (64, .iconst 1, 1), (65, .if_icmp .ne 12, 3), (68, .aload_n 0, 1), (69, .getfield 199, 3), (72, .iload_n 1, 1), (73, .iaload, 1), (74, .goto 37, 3), (77, .iload_n 2, 1), (78, .iconst 2, 1), (79, .if_icmp .ne 12, 3), (82, .aload_n 0, 1), (83, .getfield 202, 3), (86, .iload_n 1, 1), (87, .iaload, 1), (88, .goto 23, 3), (91, .iload_n 2, 1), (92, .iconst 3, 1), (93, .if_icmp .ne 12, 3), (96, .aload_n 0, 1), (97, .getfield 205, 3), (100, .iload_n 1, 1), (101, .iaload, 1), (102, .goto 9, 3), (105, .aload_n 0, 1), (106, .getfield 208, 3), (109, .iload_n 1, 1), (110, .iaload, 1), (111, .ireturn, 1)] = true := by decide +kernel
set_option maxRecDepth 100000 in
set_option maxHeartbeats 4000000 in
theorem sg_act_0 {G : mG} {d : Nat} {x : gd} {P : Option gv → gd → Prop} (l1 : Int32) (l2 : Int32)
    (h : (∀ x1 : gd, x1 = si x 0 0 0 → MT G d z_noRun 0 [(0, vr 0)] [] x1 (ri (fun r3 x2 => ((¬ (r3 = (0 : Int32)) → P (some (vi 0)) x2) ∧ (r3 = (0 : Int32) → MT G d z_in 0 [(0, vi l1), (1, vi 0), (2, vi ((x2.1 0 96) - 1))] [] x2 (ri (fun r6 x5 => ((r6 = (0 : Int32) → MT G (d + 1) z_act 41 [(0, vr 0), (1, vi l1), (2, vi l2)] [vi 1, vr 0] x5 P) ∧ (¬ (r6 = (0 : Int32)) → MT G d z_in 0 [(0, vi l2), (1, vi 0), (2, vi 4)] [] x5 (ri (fun r9 x8 => ((¬ (r9 = (0 : Int32)) → MT G (d + 1) z_act 41 [(0, vr 0), (1, vi l1), (2, vi l2)] [vi 0, vr 0] x8 P) ∧ (r9 = (0 : Int32) → MT G (d + 1) z_act 41 [(0, vr 0), (1, vi l1), (2, vi l2)] [vi 1, vr 0] x8 P)))))))))))))) :
    MT G (d + 1) z_act 0 [(0, vr 0), (1, vi l1), (2, vi l2)] [] x P := by
  refine T_aload_n 0 (dk dt_act 0 rfl) rfl rfl ?_
  refine T_iconst (v := 0) (dk dt_act 1 rfl) (by decide +kernel) ?_
  obtain ⟨x1, ex1⟩ : ∃ z, z = si x 0 0 0 := ⟨_, rfl⟩
  have h := h x1 ex1
  refine T_putI 0 0 (dk dt_act 2 rfl) fl_316 mk_0 ml_0 (by decide) rfl ⟨rfl, rfl⟩ ?_
  rw [← ex1]
  refine T_aload_n 0 (dk dt_act 3 rfl) rfl rfl ?_
  refine MT_callVi [] [] rfl (dk dt_act 4 rfl) cv_680 rfl rfl (Nat.le_of_ble_eq_true rfl) (Nat.le_of_ble_eq_true rfl) rfl rfl h (fun r3 x2 h => ?_)
  refine T_if_ne 48 (dk dt_act 5 rfl) (by decide) (fun c4 => ?_) (fun c4 => ?_)
  · have h := h.1 c4
    refine T_iconst (v := 0) (dk dt_act 26 rfl) (by decide +kernel) ?_
    exact MT_iret (dk dt_act 27 rfl) rfl rfl h
  · have h := h.2 c4
    refine T_aload_n 0 (dk dt_act 6 rfl) rfl rfl ?_
    refine T_iload_n 1 (dk dt_act 7 rfl) rfl rfl ?_
    refine T_iconst (v := 0) (dk dt_act 8 rfl) (by decide +kernel) ?_
    refine T_aload_n 0 (dk dt_act 9 rfl) rfl rfl ?_
    refine T_getI 0 96 (dk dt_act 10 rfl) fl_647 mk_0 ml_0 (by decide) rfl ?_
    refine T_iconst (v := 1) (dk dt_act 11 rfl) (by decide +kernel) ?_
    refine T_isub (dk dt_act 12 rfl) ?_
    refine MT_callSi [vi l1, vi 0, vi ((x2.1 0 96) - 1)] [vr 0] rfl (dk dt_act 13 rfl) cs_322 rfl (Nat.le_of_ble_eq_true rfl) (Nat.le_of_ble_eq_true rfl) rfl rfl h (fun r6 x5 h => ?_)
    refine T_if_eq 36 (dk dt_act 14 rfl) (by decide) (fun c7 => ?_) (fun c7 => ?_)
    · have h := h.1 c7
      refine T_iconst (v := 1) (dk dt_act 20 rfl) (by decide +kernel) ?_
      refine T_goto 41 (dk dt_act 21 rfl) (by decide) ?_
      exact h
    · have h := h.2 c7
      refine T_iload_n 2 (dk dt_act 15 rfl) rfl rfl ?_
      refine T_iconst (v := 0) (dk dt_act 16 rfl) (by decide +kernel) ?_
      refine T_iconst (v := 4) (dk dt_act 17 rfl) (by decide +kernel) ?_
      refine MT_callSi [vi l2, vi 0, vi 4] [vr 0] rfl (dk dt_act 18 rfl) cs_322 rfl (Nat.le_of_ble_eq_true rfl) (Nat.le_of_ble_eq_true rfl) rfl rfl h (fun r9 x8 h => ?_)
      refine T_if_ne 40 (dk dt_act 19 rfl) (by decide) (fun c10 => ?_) (fun c10 => ?_)
      · have h := h.1 c10
        refine T_iconst (v := 0) (dk dt_act 22 rfl) (by decide +kernel) ?_
        exact h
      · have h := h.2 c10
        refine T_iconst (v := 1) (dk dt_act 20 rfl) (by decide +kernel) ?_
        refine T_goto 41 (dk dt_act 21 rfl) (by decide) ?_
        exact h
set_option maxRecDepth 100000 in
set_option maxHeartbeats 4000000 in
theorem sg_act_41 {G : mG} {d : Nat} {x : gd} {P : Option gv → gd → Prop} (l1 : Int32) (l2 : Int32) (s0 : Int32)
    (h : MT G d z_refuses 0 [(0, vr 0), (1, vi s0), (2, vi 2)] [] x (ri (fun r2 x1 => ((r2 = (0 : Int32) → ((¬ (l2 = (0 : Int32)) → ((¬ (l2 = (1 : Int32)) → ((¬ (l2 = (2 : Int32)) → ((¬ (l2 = (3 : Int32)) → vp_in l1 400 ∧ P (some (vi (x1.1 102 (l1 : Int32).toNatClampNeg))) x1) ∧ (l2 = (3 : Int32) → vp_in l1 400 ∧ P (some (vi (x1.1 101 (l1 : Int32).toNatClampNeg))) x1))) ∧ (l2 = (2 : Int32) → vp_in l1 400 ∧ P (some (vi (x1.1 100 (l1 : Int32).toNatClampNeg))) x1))) ∧ (l2 = (1 : Int32) → vp_in l1 400 ∧ P (some (vi (x1.1 99 (l1 : Int32).toNatClampNeg))) x1))) ∧ (l2 = (0 : Int32) → vp_in l1 400 ∧ P (some (vi (x1.1 98 (l1 : Int32).toNatClampNeg))) x1))) ∧ (¬ (r2 = (0 : Int32)) → P (some (vi 0)) x1))))) :
    MT G (d + 1) z_act 41 [(0, vr 0), (1, vi l1), (2, vi l2)] [vi s0, vr 0] x P := by
  refine T_iconst (v := 2) (dk dt_act 23 rfl) (by decide +kernel) ?_
  refine MT_callVi [vi s0, vi 2] [] rfl (dk dt_act 24 rfl) cv_558 rfl rfl (Nat.le_of_ble_eq_true rfl) (Nat.le_of_ble_eq_true rfl) rfl rfl h (fun r2 x1 h => ?_)
  refine T_if_eq 50 (dk dt_act 25 rfl) (by decide) (fun c3 => ?_) (fun c3 => ?_)
  · have h := h.1 c3
    refine T_iload_n 2 (dk dt_act 28 rfl) rfl rfl ?_
    refine T_if_ne 63 (dk dt_act 29 rfl) (by decide) (fun c4 => ?_) (fun c4 => ?_)
    · have h := h.1 c4
      refine T_iload_n 2 (dk dt_act 35 rfl) rfl rfl ?_
      refine T_iconst (v := 1) (dk dt_act 36 rfl) (by decide +kernel) ?_
      refine T_icmp_ne 77 (dk dt_act 37 rfl) (by decide) (fun c5 => ?_) (fun c5 => ?_)
      · have h := h.1 c5
        refine T_iload_n 2 (dk dt_act 43 rfl) rfl rfl ?_
        refine T_iconst (v := 2) (dk dt_act 44 rfl) (by decide +kernel) ?_
        refine T_icmp_ne 91 (dk dt_act 45 rfl) (by decide) (fun c6 => ?_) (fun c6 => ?_)
        · have h := h.1 c6
          refine T_iload_n 2 (dk dt_act 51 rfl) rfl rfl ?_
          refine T_iconst (v := 3) (dk dt_act 52 rfl) (by decide +kernel) ?_
          refine T_icmp_ne 105 (dk dt_act 53 rfl) (by decide) (fun c7 => ?_) (fun c7 => ?_)
          · have h := h.1 c7
            refine T_aload_n 0 (dk dt_act 59 rfl) rfl rfl ?_
            refine T_getR 0 101 102 (dk dt_act 60 rfl) fl_208 mk_0 ml_0 (by decide) rfl rfl ?_
            refine T_iload_n 1 (dk dt_act 61 rfl) rfl rfl ?_
            obtain ⟨h8, h⟩ := h
            refine T_iald 102 400 (dk dt_act 62 rfl) mk_102 ml_102 h8 ?_
            exact MT_iret (dk dt_act 63 rfl) rfl rfl h
          · have h := h.2 c7
            refine T_aload_n 0 (dk dt_act 54 rfl) rfl rfl ?_
            refine T_getR 0 100 101 (dk dt_act 55 rfl) fl_205 mk_0 ml_0 (by decide) rfl rfl ?_
            refine T_iload_n 1 (dk dt_act 56 rfl) rfl rfl ?_
            obtain ⟨h9, h⟩ := h
            refine T_iald 101 400 (dk dt_act 57 rfl) mk_101 ml_101 h9 ?_
            refine T_goto 111 (dk dt_act 58 rfl) (by decide) ?_
            exact MT_iret (dk dt_act 63 rfl) rfl rfl h
        · have h := h.2 c6
          refine T_aload_n 0 (dk dt_act 46 rfl) rfl rfl ?_
          refine T_getR 0 99 100 (dk dt_act 47 rfl) fl_202 mk_0 ml_0 (by decide) rfl rfl ?_
          refine T_iload_n 1 (dk dt_act 48 rfl) rfl rfl ?_
          obtain ⟨h10, h⟩ := h
          refine T_iald 100 400 (dk dt_act 49 rfl) mk_100 ml_100 h10 ?_
          refine T_goto 111 (dk dt_act 50 rfl) (by decide) ?_
          exact MT_iret (dk dt_act 63 rfl) rfl rfl h
      · have h := h.2 c5
        refine T_aload_n 0 (dk dt_act 38 rfl) rfl rfl ?_
        refine T_getR 0 98 99 (dk dt_act 39 rfl) fl_199 mk_0 ml_0 (by decide) rfl rfl ?_
        refine T_iload_n 1 (dk dt_act 40 rfl) rfl rfl ?_
        obtain ⟨h11, h⟩ := h
        refine T_iald 99 400 (dk dt_act 41 rfl) mk_99 ml_99 h11 ?_
        refine T_goto 111 (dk dt_act 42 rfl) (by decide) ?_
        exact MT_iret (dk dt_act 63 rfl) rfl rfl h
    · have h := h.2 c4
      refine T_aload_n 0 (dk dt_act 30 rfl) rfl rfl ?_
      refine T_getR 0 97 98 (dk dt_act 31 rfl) fl_196 mk_0 ml_0 (by decide) rfl rfl ?_
      refine T_iload_n 1 (dk dt_act 32 rfl) rfl rfl ?_
      obtain ⟨h12, h⟩ := h
      refine T_iald 98 400 (dk dt_act 33 rfl) mk_98 ml_98 h12 ?_
      refine T_goto 111 (dk dt_act 34 rfl) (by decide) ?_
      exact MT_iret (dk dt_act 63 rfl) rfl rfl h
  · have h := h.2 c3
    refine T_iconst (v := 0) (dk dt_act 26 rfl) (by decide +kernel) ?_
    exact MT_iret (dk dt_act 27 rfl) rfl rfl h
set_option maxRecDepth 100000 in
theorem dt_before : dck cX12_before [(0, .aload_n 0, 1), (1, .iconst 0, 1), (2, .putfield 316, 3), (5, .aload_n 0, 1), (6, .invokevirtual 680, 3), (9, .ifCond .ne 57, 3), (12, .aload_n 0, 1), (13, .iload_n 1, 1), (14, .iconst 0, 1), (15, .aload_n 0, 1), (16, .getfield 647, 3), (19, .iconst 1, 1), (20, .isub, 1), (21, .invokestatic 322, 3), (24, .ifCond .eq 17, 3), (27, .iload_n 2, 1), (28, .iconst 0, 1), (29, .aload_n 0, 1), (30, .getfield 647, 3), (33, .iconst 1, 1), (34, .isub, 1), (35, .invokestatic 322, 3), (38, .ifCond .ne 7, 3), (41, .iconst 1, 1), (42, .goto 4, 3), (45, .iconst 0, 1), (46, .iconst 2, 1), (47, .invokevirtual 558, 3), (50, .ifCond .ne 16, 3), (53, .aload_n 0, 1), (54, .iload_n 1, 1), (55, .iload_n 2, 1), (56, .invokevirtual 674, 3), (59, .ifCond .eq 7, 3), (62, .iconst 1, 1), (63, .goto 4, 3), (66, .iconst 0, 1), (67, .ireturn, 1)] = true := by decide +kernel
set_option maxRecDepth 100000 in
set_option maxHeartbeats 4000000 in
theorem sg_before_0 {G : mG} {d : Nat} {x : gd} {P : Option gv → gd → Prop} (l1 : Int32) (l2 : Int32)
    (h : (∀ x1 : gd, x1 = si x 0 0 0 → MT G d z_noRun 0 [(0, vr 0)] [] x1 (ri (fun r3 x2 => ((¬ (r3 = (0 : Int32)) → P (some (vi 0)) x2) ∧ (r3 = (0 : Int32) → MT G d z_in 0 [(0, vi l1), (1, vi 0), (2, vi ((x2.1 0 96) - 1))] [] x2 (ri (fun r6 x5 => ((r6 = (0 : Int32) → MT G (d + 1) z_before 46 [(0, vr 0), (1, vi l1), (2, vi l2)] [vi 1, vr 0] x5 P) ∧ (¬ (r6 = (0 : Int32)) → MT G d z_in 0 [(0, vi l2), (1, vi 0), (2, vi ((x5.1 0 96) - 1))] [] x5 (ri (fun r9 x8 => ((¬ (r9 = (0 : Int32)) → MT G (d + 1) z_before 46 [(0, vr 0), (1, vi l1), (2, vi l2)] [vi 0, vr 0] x8 P) ∧ (r9 = (0 : Int32) → MT G (d + 1) z_before 46 [(0, vr 0), (1, vi l1), (2, vi l2)] [vi 1, vr 0] x8 P)))))))))))))) :
    MT G (d + 1) z_before 0 [(0, vr 0), (1, vi l1), (2, vi l2)] [] x P := by
  refine T_aload_n 0 (dk dt_before 0 rfl) rfl rfl ?_
  refine T_iconst (v := 0) (dk dt_before 1 rfl) (by decide +kernel) ?_
  obtain ⟨x1, ex1⟩ : ∃ z, z = si x 0 0 0 := ⟨_, rfl⟩
  have h := h x1 ex1
  refine T_putI 0 0 (dk dt_before 2 rfl) fl_316 mk_0 ml_0 (by decide) rfl ⟨rfl, rfl⟩ ?_
  rw [← ex1]
  refine T_aload_n 0 (dk dt_before 3 rfl) rfl rfl ?_
  refine MT_callVi [] [] rfl (dk dt_before 4 rfl) cv_680 rfl rfl (Nat.le_of_ble_eq_true rfl) (Nat.le_of_ble_eq_true rfl) rfl rfl h (fun r3 x2 h => ?_)
  refine T_if_ne 66 (dk dt_before 5 rfl) (by decide) (fun c4 => ?_) (fun c4 => ?_)
  · have h := h.1 c4
    refine T_iconst (v := 0) (dk dt_before 36 rfl) (by decide +kernel) ?_
    exact MT_iret (dk dt_before 37 rfl) rfl rfl h
  · have h := h.2 c4
    refine T_aload_n 0 (dk dt_before 6 rfl) rfl rfl ?_
    refine T_iload_n 1 (dk dt_before 7 rfl) rfl rfl ?_
    refine T_iconst (v := 0) (dk dt_before 8 rfl) (by decide +kernel) ?_
    refine T_aload_n 0 (dk dt_before 9 rfl) rfl rfl ?_
    refine T_getI 0 96 (dk dt_before 10 rfl) fl_647 mk_0 ml_0 (by decide) rfl ?_
    refine T_iconst (v := 1) (dk dt_before 11 rfl) (by decide +kernel) ?_
    refine T_isub (dk dt_before 12 rfl) ?_
    refine MT_callSi [vi l1, vi 0, vi ((x2.1 0 96) - 1)] [vr 0] rfl (dk dt_before 13 rfl) cs_322 rfl (Nat.le_of_ble_eq_true rfl) (Nat.le_of_ble_eq_true rfl) rfl rfl h (fun r6 x5 h => ?_)
    refine T_if_eq 41 (dk dt_before 14 rfl) (by decide) (fun c7 => ?_) (fun c7 => ?_)
    · have h := h.1 c7
      refine T_iconst (v := 1) (dk dt_before 23 rfl) (by decide +kernel) ?_
      refine T_goto 46 (dk dt_before 24 rfl) (by decide) ?_
      exact h
    · have h := h.2 c7
      refine T_iload_n 2 (dk dt_before 15 rfl) rfl rfl ?_
      refine T_iconst (v := 0) (dk dt_before 16 rfl) (by decide +kernel) ?_
      refine T_aload_n 0 (dk dt_before 17 rfl) rfl rfl ?_
      refine T_getI 0 96 (dk dt_before 18 rfl) fl_647 mk_0 ml_0 (by decide) rfl ?_
      refine T_iconst (v := 1) (dk dt_before 19 rfl) (by decide +kernel) ?_
      refine T_isub (dk dt_before 20 rfl) ?_
      refine MT_callSi [vi l2, vi 0, vi ((x5.1 0 96) - 1)] [vr 0] rfl (dk dt_before 21 rfl) cs_322 rfl (Nat.le_of_ble_eq_true rfl) (Nat.le_of_ble_eq_true rfl) rfl rfl h (fun r9 x8 h => ?_)
      refine T_if_ne 45 (dk dt_before 22 rfl) (by decide) (fun c10 => ?_) (fun c10 => ?_)
      · have h := h.1 c10
        refine T_iconst (v := 0) (dk dt_before 25 rfl) (by decide +kernel) ?_
        exact h
      · have h := h.2 c10
        refine T_iconst (v := 1) (dk dt_before 23 rfl) (by decide +kernel) ?_
        refine T_goto 46 (dk dt_before 24 rfl) (by decide) ?_
        exact h
set_option maxRecDepth 100000 in
set_option maxHeartbeats 4000000 in
theorem sg_before_46 {G : mG} {d : Nat} {x : gd} {P : Option gv → gd → Prop} (l1 : Int32) (l2 : Int32) (s0 : Int32)
    (h : MT G d z_refuses 0 [(0, vr 0), (1, vi s0), (2, vi 2)] [] x (ri (fun r2 x1 => ((¬ (r2 = (0 : Int32)) → P (some (vi 0)) x1) ∧ (r2 = (0 : Int32) → MT G d z_isSooner 0 [(0, vr 0), (1, vi l1), (2, vi l2)] [] x1 (ri (fun r5 x4 => ((r5 = (0 : Int32) → P (some (vi 0)) x4) ∧ (¬ (r5 = (0 : Int32)) → P (some (vi 1)) x4))))))))) :
    MT G (d + 1) z_before 46 [(0, vr 0), (1, vi l1), (2, vi l2)] [vi s0, vr 0] x P := by
  refine T_iconst (v := 2) (dk dt_before 26 rfl) (by decide +kernel) ?_
  refine MT_callVi [vi s0, vi 2] [] rfl (dk dt_before 27 rfl) cv_558 rfl rfl (Nat.le_of_ble_eq_true rfl) (Nat.le_of_ble_eq_true rfl) rfl rfl h (fun r2 x1 h => ?_)
  refine T_if_ne 66 (dk dt_before 28 rfl) (by decide) (fun c3 => ?_) (fun c3 => ?_)
  · have h := h.1 c3
    refine T_iconst (v := 0) (dk dt_before 36 rfl) (by decide +kernel) ?_
    exact MT_iret (dk dt_before 37 rfl) rfl rfl h
  · have h := h.2 c3
    refine T_aload_n 0 (dk dt_before 29 rfl) rfl rfl ?_
    refine T_iload_n 1 (dk dt_before 30 rfl) rfl rfl ?_
    refine T_iload_n 2 (dk dt_before 31 rfl) rfl rfl ?_
    refine MT_callVi [vi l1, vi l2] [] rfl (dk dt_before 32 rfl) cv_674 rfl rfl (Nat.le_of_ble_eq_true rfl) (Nat.le_of_ble_eq_true rfl) rfl rfl h (fun r5 x4 h => ?_)
    refine T_if_eq 66 (dk dt_before 33 rfl) (by decide) (fun c6 => ?_) (fun c6 => ?_)
    · have h := h.1 c6
      refine T_iconst (v := 0) (dk dt_before 36 rfl) (by decide +kernel) ?_
      exact MT_iret (dk dt_before 37 rfl) rfl rfl h
    · have h := h.2 c6
      refine T_iconst (v := 1) (dk dt_before 34 rfl) (by decide +kernel) ?_
      refine T_goto 67 (dk dt_before 35 rfl) (by decide) ?_
      exact MT_iret (dk dt_before 37 rfl) rfl rfl h
set_option maxRecDepth 100000 in
theorem dt_race : dck cX12_race [(0, .aload_n 0, 1), (1, .iconst 0, 1), (2, .putfield 316, 3), (5, .aload_n 0, 1), (6, .invokevirtual 680, 3), (9, .ifCond .eq 5, 3), (12, .iconst 0, 1), (13, .ireturn, 1), (14, .iconst 0, 1), (15, .istore_n 3, 1), (16, .iconst 0, 1), (17, .istore 4, 2), (19, .iload 4, 2), (21, .aload_n 0, 1), (22, .getfield 647, 3), (25, .if_icmp .ge 65, 3), (28, .iload_n 2, 1), (29, .iconst 0, 1), (30, .iconst 1, 1), (31, .invokestatic 322, 3), (34, .ifCond .eq 56, 3), (37, .iconst 0, 1), (38, .istore 5, 2), (40, .iload 5, 2), (42, .iload 4, 2), (44, .if_icmp .ge 40, 3), (47, .aload_n 0, 1), (48, .iload 5, 2), (50, .iload 4, 2), (52, .invokevirtual 690, 3), (55, .ifCond .eq 23, 3), (58, .iload_n 3, 1), (59, .iload_n 1, 1), (60, .if_icmp .ne 15, 3), (63, .iload_n 2, 1), (64, .ifCond .ne 8, 3), (67, .iload 5, 2), (69, .goto 5, 3), (72, .iload 4, 2), (74, .ireturn, 1), (75, .iinc 3 1, 3), (78, .iinc 5 1, 3), (81, .goto (-41), 3), (84, .iinc 4 1, 3), (87, .goto (-68), 3), (90, .aload_n 0, 1), (91, .iconst 1, 1), (92, .iconst 2, 1), (93, .invokevirtual 558, 3), (96, .istore 4, 2), (98, .iconst 0, 1), (99, .ireturn, 1)] = true := by decide +kernel
set_option maxRecDepth 100000 in
set_option maxHeartbeats 4000000 in
theorem sg_race_0 {G : mG} {d : Nat} {x : gd} {P : Option gv → gd → Prop} (l1 : Int32) (l2 : Int32)
    (h : (∀ x1 : gd, x1 = si x 0 0 0 → MT G d z_noRun 0 [(0, vr 0)] [] x1 (ri (fun r3 x2 => ((r3 = (0 : Int32) → MT G (d + 1) z_race 19 [(0, vr 0), (1, vi l1), (2, vi l2), (3, vi 0), (4, vi 0)] [] x2 P) ∧ (¬ (r3 = (0 : Int32)) → P (some (vi 0)) x2)))))) :
    MT G (d + 1) z_race 0 [(0, vr 0), (1, vi l1), (2, vi l2)] [] x P := by
  refine T_aload_n 0 (dk dt_race 0 rfl) rfl rfl ?_
  refine T_iconst (v := 0) (dk dt_race 1 rfl) (by decide +kernel) ?_
  obtain ⟨x1, ex1⟩ : ∃ z, z = si x 0 0 0 := ⟨_, rfl⟩
  have h := h x1 ex1
  refine T_putI 0 0 (dk dt_race 2 rfl) fl_316 mk_0 ml_0 (by decide) rfl ⟨rfl, rfl⟩ ?_
  rw [← ex1]
  refine T_aload_n 0 (dk dt_race 3 rfl) rfl rfl ?_
  refine MT_callVi [] [] rfl (dk dt_race 4 rfl) cv_680 rfl rfl (Nat.le_of_ble_eq_true rfl) (Nat.le_of_ble_eq_true rfl) rfl rfl h (fun r3 x2 h => ?_)
  refine T_if_eq 14 (dk dt_race 5 rfl) (by decide) (fun c4 => ?_) (fun c4 => ?_)
  · have h := h.1 c4
    refine T_iconst (v := 0) (dk dt_race 8 rfl) (by decide +kernel) ?_
    refine T_istore_n (lv2 := [(3, vi 0), (0, vr 0), (1, vi l1), (2, vi l2)]) (dk dt_race 9 rfl) rfl (by decide) rfl ?_
    refine T_iconst (v := 0) (dk dt_race 10 rfl) (by decide +kernel) ?_
    refine T_istore (lv2 := [(4, vi 0), (3, vi 0), (0, vr 0), (1, vi l1), (2, vi l2)]) (dk dt_race 11 rfl) (by decide) rfl ?_
    exact T_sub [2, 3, 4, 1, 0] rfl h
  · have h := h.2 c4
    refine T_iconst (v := 0) (dk dt_race 6 rfl) (by decide +kernel) ?_
    exact MT_iret (dk dt_race 7 rfl) rfl rfl h
set_option maxRecDepth 100000 in
set_option maxHeartbeats 4000000 in
theorem sg_race_19 {G : mG} {d : Nat} {x : gd} {P : Option gv → gd → Prop} (l1 : Int32) (l2 : Int32) (l3 : Int32) (l4 : Int32)
    (h : (((x.1 0 96) ≤ l4 → MT G (d + 1) z_race 90 [(0, vr 0)] [] x P) ∧ (¬ ((x.1 0 96) ≤ l4) → MT G d z_in 0 [(0, vi l2), (1, vi 0), (2, vi 1)] [] x (ri (fun r3 x2 => ((r3 = (0 : Int32) → MT G (d + 1) z_race 90 [(0, vr 0)] [] x2 P) ∧ (¬ (r3 = (0 : Int32)) → MT G (d + 1) z_race 40 [(0, vr 0), (1, vi l1), (2, vi l2), (3, vi l3), (4, vi l4), (5, vi 0)] [] x2 P))))))) :
    MT G (d + 1) z_race 19 [(0, vr 0), (1, vi l1), (2, vi l2), (3, vi l3), (4, vi l4)] [] x P := by
  refine T_iload 4 (dk dt_race 12 rfl) rfl ?_
  refine T_aload_n 0 (dk dt_race 13 rfl) rfl rfl ?_
  refine T_getI 0 96 (dk dt_race 14 rfl) fl_647 mk_0 ml_0 (by decide) rfl ?_
  refine T_icmp_ge 90 (dk dt_race 15 rfl) (by decide) (fun c1 => ?_) (fun c1 => ?_)
  · have h := h.1 c1
    exact T_sub [0] rfl h
  · have h := h.2 c1
    refine T_iload_n 2 (dk dt_race 16 rfl) rfl rfl ?_
    refine T_iconst (v := 0) (dk dt_race 17 rfl) (by decide +kernel) ?_
    refine T_iconst (v := 1) (dk dt_race 18 rfl) (by decide +kernel) ?_
    refine MT_callSi [vi l2, vi 0, vi 1] [] rfl (dk dt_race 19 rfl) cs_322 rfl (Nat.le_of_ble_eq_true rfl) (Nat.le_of_ble_eq_true rfl) rfl rfl h (fun r3 x2 h => ?_)
    refine T_if_eq 90 (dk dt_race 20 rfl) (by decide) (fun c4 => ?_) (fun c4 => ?_)
    · have h := h.1 c4
      exact T_sub [0] rfl h
    · have h := h.2 c4
      refine T_iconst (v := 0) (dk dt_race 21 rfl) (by decide +kernel) ?_
      refine T_istore (lv2 := [(5, vi 0), (0, vr 0), (1, vi l1), (2, vi l2), (3, vi l3), (4, vi l4)]) (dk dt_race 22 rfl) (by decide) rfl ?_
      exact T_sub [1, 2, 3, 4, 5, 0] rfl h
set_option maxRecDepth 100000 in
set_option maxHeartbeats 4000000 in
theorem sg_race_40 {G : mG} {d : Nat} {x : gd} {P : Option gv → gd → Prop} (l1 : Int32) (l2 : Int32) (l3 : Int32) (l4 : Int32) (l5 : Int32)
    (h : ((l4 ≤ l5 → MT G (d + 1) z_race 19 [(0, vr 0), (1, vi l1), (2, vi l2), (3, vi l3), (4, vi (l4 + 1))] [] x P) ∧ (¬ (l4 ≤ l5) → MT G d z_isRace 0 [(0, vr 0), (1, vi l5), (2, vi l4)] [] x (ri (fun r3 x2 => ((r3 = (0 : Int32) → MT G (d + 1) z_race 40 [(0, vr 0), (1, vi l1), (2, vi l2), (3, vi l3), (4, vi l4), (5, vi (l5 + 1))] [] x2 P) ∧ (¬ (r3 = (0 : Int32)) → ((¬ (l3 = l1) → MT G (d + 1) z_race 40 [(0, vr 0), (1, vi l1), (2, vi l2), (3, vi (l3 + 1)), (4, vi l4), (5, vi (l5 + 1))] [] x2 P) ∧ (l3 = l1 → ((¬ (l2 = (0 : Int32)) → P (some (vi l4)) x2) ∧ (l2 = (0 : Int32) → P (some (vi l5)) x2))))))))))) :
    MT G (d + 1) z_race 40 [(0, vr 0), (1, vi l1), (2, vi l2), (3, vi l3), (4, vi l4), (5, vi l5)] [] x P := by
  refine T_iload 5 (dk dt_race 23 rfl) rfl ?_
  refine T_iload 4 (dk dt_race 24 rfl) rfl ?_
  refine T_icmp_ge 84 (dk dt_race 25 rfl) (by decide) (fun c1 => ?_) (fun c1 => ?_)
  · have h := h.1 c1
    refine T_iinc (v := l4 + 1) (lv2 := [(4, vi (l4 + 1)), (0, vr 0), (1, vi l1), (2, vi l2), (3, vi l3), (5, vi l5)]) 4 (dk dt_race 43 rfl) rfl rfl (by decide) rfl ?_
    refine T_goto 19 (dk dt_race 44 rfl) (by decide) ?_
    exact T_sub [1, 2, 3, 4, 0] rfl h
  · have h := h.2 c1
    refine T_aload_n 0 (dk dt_race 26 rfl) rfl rfl ?_
    refine T_iload 5 (dk dt_race 27 rfl) rfl ?_
    refine T_iload 4 (dk dt_race 28 rfl) rfl ?_
    refine MT_callVi [vi l5, vi l4] [] rfl (dk dt_race 29 rfl) cv_690 rfl rfl (Nat.le_of_ble_eq_true rfl) (Nat.le_of_ble_eq_true rfl) rfl rfl h (fun r3 x2 h => ?_)
    refine T_if_eq 78 (dk dt_race 30 rfl) (by decide) (fun c4 => ?_) (fun c4 => ?_)
    · have h := h.1 c4
      refine T_iinc (v := l5 + 1) (lv2 := [(5, vi (l5 + 1)), (0, vr 0), (1, vi l1), (2, vi l2), (3, vi l3), (4, vi l4)]) 5 (dk dt_race 41 rfl) rfl rfl (by decide) rfl ?_
      refine T_goto 40 (dk dt_race 42 rfl) (by decide) ?_
      exact T_sub [1, 2, 3, 4, 5, 0] rfl h
    · have h := h.2 c4
      refine T_iload_n 3 (dk dt_race 31 rfl) rfl rfl ?_
      refine T_iload_n 1 (dk dt_race 32 rfl) rfl rfl ?_
      refine T_icmp_ne 75 (dk dt_race 33 rfl) (by decide) (fun c5 => ?_) (fun c5 => ?_)
      · have h := h.1 c5
        refine T_iinc (v := l3 + 1) (lv2 := [(3, vi (l3 + 1)), (0, vr 0), (1, vi l1), (2, vi l2), (4, vi l4), (5, vi l5)]) 3 (dk dt_race 40 rfl) rfl rfl (by decide) rfl ?_
        refine T_iinc (v := l5 + 1) (lv2 := [(5, vi (l5 + 1)), (3, vi (l3 + 1)), (0, vr 0), (1, vi l1), (2, vi l2), (4, vi l4)]) 5 (dk dt_race 41 rfl) rfl rfl (by decide) rfl ?_
        refine T_goto 40 (dk dt_race 42 rfl) (by decide) ?_
        exact T_sub [2, 3, 4, 1, 5, 0] rfl h
      · have h := h.2 c5
        refine T_iload_n 2 (dk dt_race 34 rfl) rfl rfl ?_
        refine T_if_ne 72 (dk dt_race 35 rfl) (by decide) (fun c6 => ?_) (fun c6 => ?_)
        · have h := h.1 c6
          refine T_iload 4 (dk dt_race 38 rfl) rfl ?_
          exact MT_iret (dk dt_race 39 rfl) rfl rfl h
        · have h := h.2 c6
          refine T_iload 5 (dk dt_race 36 rfl) rfl ?_
          refine T_goto 74 (dk dt_race 37 rfl) (by decide) ?_
          exact MT_iret (dk dt_race 39 rfl) rfl rfl h
set_option maxRecDepth 100000 in
set_option maxHeartbeats 4000000 in
theorem sg_race_90 {G : mG} {d : Nat} {x : gd} {P : Option gv → gd → Prop} 
    (h : MT G d z_refuses 0 [(0, vr 0), (1, vi 1), (2, vi 2)] [] x (ri (fun r2 x1 => P (some (vi 0)) x1))) :
    MT G (d + 1) z_race 90 [(0, vr 0)] [] x P := by
  refine T_aload_n 0 (dk dt_race 45 rfl) rfl rfl ?_
  refine T_iconst (v := 1) (dk dt_race 46 rfl) (by decide +kernel) ?_
  refine T_iconst (v := 2) (dk dt_race 47 rfl) (by decide +kernel) ?_
  refine MT_callVi [vi 1, vi 2] [] rfl (dk dt_race 48 rfl) cv_558 rfl rfl (Nat.le_of_ble_eq_true rfl) (Nat.le_of_ble_eq_true rfl) rfl rfl h (fun r2 x1 h => ?_)
  refine T_istore (lv2 := [(4, vi r2), (0, vr 0)]) (dk dt_race 49 rfl) (by decide) rfl ?_
  refine T_iconst (v := 0) (dk dt_race 50 rfl) (by decide +kernel) ?_
  exact MT_iret (dk dt_race 51 rfl) rfl rfl h
set_option maxRecDepth 100000 in
theorem dt_takeCalls : dck cX12_takeCalls [(0, .aload_n 0, 1), (1, .iconst 0, 1), (2, .putfield 699, 3), (5, .iconst 0, 1), (6, .istore_n 2, 1), (7, .iconst 0, 1), (8, .istore_n 3, 1), (9, .iload_n 3, 1), (10, .aload_n 0, 1), (11, .getfield 647, 3), (14, .if_icmp .ge 200, 3), (17, .aload_n 0, 1), (18, .getfield 196, 3), (21, .iload_n 3, 1), (22, .iaload, 1), (23, .istore 4, 2), (25, .aload_n 0, 1), (26, .getfield 211, 3), (29, .iload_n 3, 1), (30, .baload, 1), (31, .ifCond .ne 177, 3), (34, .aload_n 0, 1), (35, .getfield 199, 3), (38, .iload_n 3, 1), (39, .iaload, 1), (40, .bipush 13, 2), (42, .if_icmp .eq 17, 3), (45, .aload_n 0, 1), (46, .getfield 199, 3), (49, .iload_n 3, 1), (50, .iaload, 1), (51, .bipush 14, 2), (53, .if_icmp .eq 6, 3), (56, .goto 152, 3), (59, .iload_n 2, 1), (60, .iload_n 1, 1), (61, .if_icmp .ge 97, 3), (64, .aload_n 0, 1), (65, .getfield 199, 3), (68, .iload_n 3, 1), (69, .iaload, 1), (70, .bipush 13, 2), (72, .if_icmp .ne 86, 3), (75, .aload_n 0, 1), (76, .getfield 699, 3), (79, .bipush 13, 2), (81, .if_icmp .ge 77, 3), (84, .aload_n 0, 1), (85, .getfield 227, 3), (88, .aload_n 0, 1), (89, .getfield 699, 3), (92, .aload_n 0, 1), (93, .getfield 202, 3), (96, .iload_n 3, 1), (97, .iaload, 1), (98, .iastore, 1), (99, .aload_n 0, 1), (100, .getfield 230, 3), (103, .aload_n 0, 1), (104, .getfield 699, 3), (107, .aload_n 0, 1), (108, .getfield 208, 3), (111, .iload_n 3, 1), (112, .iaload, 1), (113, .iastore, 1), (114, .aload_n 0, 1), (115, .getfield 236, 3), (118, .aload_n 0, 1), (119, .getfield 699, 3), (122, .iload_n 2, 1), (123, .iastore, 1), (124, .aload_n 0, 1), (125, .getfield 239, 3), (128, .aload_n 0, 1), (129, .getfield 699, 3), (132, .iconst (-1), 1), (133, .iastore, 1), (134, .aload_n 0, 1), (135, .getfield 251, 3), (138, .iload 4, 2), (140, .aload_n 0, 1), (141, .getfield 699, 3), (144, .iastore, 1), (145, .aload_n 0, 1), (146, .dup, 1), (147, .getfield 699, 3), (150, .iconst 1, 1), (151, .iadd, 1), (152, .putfield 699, 3), (155, .goto 50, 3), (158, .iload_n 2, 1), (159, .iload_n 1, 1), (160, .if_icmp .ge 45, 3), (163, .aload_n 0, 1), (164, .getfield 199, 3), (167, .iload_n 3, 1), (168, .iaload, 1), (169, .bipush 14, 2), (171, .if_icmp .ne 34, 3), (174, .aload_n 0, 1), (175, .getfield 239, 3), (178, .aload_n 0, 1), (179, .getfield 251, 3), (182, .iload 4, 2), (184, .iaload, 1), (185, .iload_n 2, 1), (186, .iastore, 1), (187, .aload_n 0, 1), (188, .getfield 233, 3), (191, .aload_n 0, 1), (192, .getfield 251, 3), (195, .iload 4, 2), (197, .iaload, 1), (198, .aload_n 0, 1), (199, .getfield 208, 3), (202, .iload_n 3, 1), (203, .iaload, 1), (204, .iastore, 1), (205, .iinc 2 1, 3), (208, .iinc 3 1, 3), (211, .goto (-202), 3), (214, .iload_n 2, 1), (215, .ireturn, 1)] = true := by decide +kernel
set_option maxRecDepth 100000 in
set_option maxHeartbeats 4000000 in
theorem sg_takeCalls_0 {G : mG} {d : Nat} {x : gd} {P : Option gv → gd → Prop} (l1 : Int32)
    (h : (∀ x1 : gd, x1 = si x 0 107 0 → MT G d z_takeCalls 9 [(0, vr 0), (1, vi l1), (2, vi 0), (3, vi 0)] [] x1 P)) :
    MT G d z_takeCalls 0 [(0, vr 0), (1, vi l1)] [] x P := by
  refine T_aload_n 0 (dk dt_takeCalls 0 rfl) rfl rfl ?_
  refine T_iconst (v := 0) (dk dt_takeCalls 1 rfl) (by decide +kernel) ?_
  obtain ⟨x1, ex1⟩ : ∃ z, z = si x 0 107 0 := ⟨_, rfl⟩
  have h := h x1 ex1
  refine T_putI 0 107 (dk dt_takeCalls 2 rfl) fl_699 mk_0 ml_0 (by decide) rfl ⟨rfl, rfl⟩ ?_
  rw [← ex1]
  refine T_iconst (v := 0) (dk dt_takeCalls 3 rfl) (by decide +kernel) ?_
  refine T_istore_n (lv2 := [(2, vi 0), (0, vr 0), (1, vi l1)]) (dk dt_takeCalls 4 rfl) rfl (by decide) rfl ?_
  refine T_iconst (v := 0) (dk dt_takeCalls 5 rfl) (by decide +kernel) ?_
  refine T_istore_n (lv2 := [(3, vi 0), (2, vi 0), (0, vr 0), (1, vi l1)]) (dk dt_takeCalls 6 rfl) rfl (by decide) rfl ?_
  exact T_sub [2, 3, 1, 0] rfl h
set_option maxRecDepth 100000 in
set_option maxHeartbeats 4000000 in
theorem sg_takeCalls_9 {G : mG} {d : Nat} {x : gd} {P : Option gv → gd → Prop} (l1 : Int32) (l2 : Int32) (l3 : Int32)
    (h : (((x.1 0 96) ≤ l3 → P (some (vi l2)) x) ∧ (¬ ((x.1 0 96) ≤ l3) → vp_in l3 400 ∧ vp_in l3 400 ∧ ((¬ ((x.1 103 (l3 : Int32).toNatClampNeg) = (0 : Int32)) → MT G d z_takeCalls 9 [(0, vr 0), (1, vi l1), (2, vi l2), (3, vi (l3 + 1))] [] x P) ∧ ((x.1 103 (l3 : Int32).toNatClampNeg) = (0 : Int32) → vp_in l3 400 ∧ (((x.1 99 (l3 : Int32).toNatClampNeg) = (13 : Int32) → MT G d z_takeCalls 59 [(0, vr 0), (1, vi l1), (2, vi l2), (3, vi l3), (4, vi (x.1 98 (l3 : Int32).toNatClampNeg))] [] x P) ∧ (¬ ((x.1 99 (l3 : Int32).toNatClampNeg) = (13 : Int32)) → vp_in l3 400 ∧ (((x.1 99 (l3 : Int32).toNatClampNeg) = (14 : Int32) → MT G d z_takeCalls 59 [(0, vr 0), (1, vi l1), (2, vi l2), (3, vi l3), (4, vi (x.1 98 (l3 : Int32).toNatClampNeg))] [] x P) ∧ (¬ ((x.1 99 (l3 : Int32).toNatClampNeg) = (14 : Int32)) → MT G d z_takeCalls 9 [(0, vr 0), (1, vi l1), (2, vi l2), (3, vi (l3 + 1))] [] x P))))))))) :
    MT G d z_takeCalls 9 [(0, vr 0), (1, vi l1), (2, vi l2), (3, vi l3)] [] x P := by
  refine T_iload_n 3 (dk dt_takeCalls 7 rfl) rfl rfl ?_
  refine T_aload_n 0 (dk dt_takeCalls 8 rfl) rfl rfl ?_
  refine T_getI 0 96 (dk dt_takeCalls 9 rfl) fl_647 mk_0 ml_0 (by decide) rfl ?_
  refine T_icmp_ge 214 (dk dt_takeCalls 10 rfl) (by decide) (fun c1 => ?_) (fun c1 => ?_)
  · have h := h.1 c1
    refine T_iload_n 2 (dk dt_takeCalls 121 rfl) rfl rfl ?_
    exact MT_iret (dk dt_takeCalls 122 rfl) rfl rfl h
  · have h := h.2 c1
    refine T_aload_n 0 (dk dt_takeCalls 11 rfl) rfl rfl ?_
    refine T_getR 0 97 98 (dk dt_takeCalls 12 rfl) fl_196 mk_0 ml_0 (by decide) rfl rfl ?_
    refine T_iload_n 3 (dk dt_takeCalls 13 rfl) rfl rfl ?_
    obtain ⟨h2, h⟩ := h
    refine T_iald 98 400 (dk dt_takeCalls 14 rfl) mk_98 ml_98 h2 ?_
    refine T_istore (lv2 := [(4, vi (x.1 98 (l3 : Int32).toNatClampNeg)), (0, vr 0), (1, vi l1), (2, vi l2), (3, vi l3)]) (dk dt_takeCalls 15 rfl) (by decide) rfl ?_
    refine T_aload_n 1 (dk dt_takeCalls 16 rfl) rfl rfl ?_
    refine T_getR 0 102 103 (dk dt_takeCalls 17 rfl) fl_211 mk_0 ml_0 (by decide) rfl rfl ?_
    refine T_iload_n 4 (dk dt_takeCalls 18 rfl) rfl rfl ?_
    obtain ⟨h3, h⟩ := h
    refine T_zald 103 400 (dk dt_takeCalls 19 rfl) mk_103 ml_103 h3 ?_
    refine T_if_ne 208 (dk dt_takeCalls 20 rfl) (by decide) (fun c4 => ?_) (fun c4 => ?_)
    · have h := h.1 c4
      refine T_iinc (v := l3 + 1) (lv2 := [(3, vi (l3 + 1)), (4, vi (x.1 98 (l3 : Int32).toNatClampNeg)), (0, vr 0), (1, vi l1), (2, vi l2)]) 4 (dk dt_takeCalls 119 rfl) rfl rfl (by decide) rfl ?_
      refine T_goto 9 (dk dt_takeCalls 120 rfl) (by decide) ?_
      exact T_sub [2, 3, 4, 0] rfl h
    · have h := h.2 c4
      refine T_aload_n 1 (dk dt_takeCalls 21 rfl) rfl rfl ?_
      refine T_getR 0 98 99 (dk dt_takeCalls 22 rfl) fl_199 mk_0 ml_0 (by decide) rfl rfl ?_
      refine T_iload_n 4 (dk dt_takeCalls 23 rfl) rfl rfl ?_
      obtain ⟨h5, h⟩ := h
      refine T_iald 99 400 (dk dt_takeCalls 24 rfl) mk_99 ml_99 h5 ?_
      refine T_bipush (v := 13) (dk dt_takeCalls 25 rfl) (by decide +kernel) ?_
      refine T_icmp_eq 59 (dk dt_takeCalls 26 rfl) (by decide) (fun c6 => ?_) (fun c6 => ?_)
      · have h := h.1 c6
        exact T_sub [1, 2, 3, 4, 0] rfl h
      · have h := h.2 c6
        refine T_aload_n 1 (dk dt_takeCalls 27 rfl) rfl rfl ?_
        refine T_getR 0 98 99 (dk dt_takeCalls 28 rfl) fl_199 mk_0 ml_0 (by decide) rfl rfl ?_
        refine T_iload_n 4 (dk dt_takeCalls 29 rfl) rfl rfl ?_
        obtain ⟨h7, h⟩ := h
        refine T_iald 99 400 (dk dt_takeCalls 30 rfl) mk_99 ml_99 h7 ?_
        refine T_bipush (v := 14) (dk dt_takeCalls 31 rfl) (by decide +kernel) ?_
        refine T_icmp_eq 59 (dk dt_takeCalls 32 rfl) (by decide) (fun c8 => ?_) (fun c8 => ?_)
        · have h := h.1 c8
          exact T_sub [1, 2, 3, 4, 0] rfl h
        · have h := h.2 c8
          refine T_goto 208 (dk dt_takeCalls 33 rfl) (by decide) ?_
          refine T_iinc (v := l3 + 1) (lv2 := [(3, vi (l3 + 1)), (4, vi (x.1 98 (l3 : Int32).toNatClampNeg)), (0, vr 0), (1, vi l1), (2, vi l2)]) 4 (dk dt_takeCalls 119 rfl) rfl rfl (by decide) rfl ?_
          refine T_goto 9 (dk dt_takeCalls 120 rfl) (by decide) ?_
          exact T_sub [2, 3, 4, 0] rfl h
set_option maxRecDepth 100000 in
set_option maxHeartbeats 4000000 in
theorem sg_takeCalls_59 {G : mG} {d : Nat} {x : gd} {P : Option gv → gd → Prop} (l1 : Int32) (l2 : Int32) (l3 : Int32) (l4 : Int32)
    (h : ((l1 ≤ l2 → MT G d z_takeCalls 158 [(0, vr 0), (1, vi l1), (2, vi l2), (3, vi l3), (4, vi l4)] [] x P) ∧ (¬ (l1 ≤ l2) → vp_in l3 400 ∧ ((¬ ((x.1 99 (l3 : Int32).toNatClampNeg) = (13 : Int32)) → MT G d z_takeCalls 158 [(0, vr 0), (1, vi l1), (2, vi l2), (3, vi l3), (4, vi l4)] [] x P) ∧ ((x.1 99 (l3 : Int32).toNatClampNeg) = (13 : Int32) → (((13 : Int32) ≤ (x.1 0 107) → MT G d z_takeCalls 158 [(0, vr 0), (1, vi l1), (2, vi l2), (3, vi l3), (4, vi l4)] [] x P) ∧ (¬ ((13 : Int32) ≤ (x.1 0 107)) → vp_in l3 400 ∧ vp_in (x.1 0 107) 14 ∧ (∀ x7 : gd, x7 = si x 109 (x.1 0 107 : Int32).toNatClampNeg (x.1 100 (l3 : Int32).toNatClampNeg) → vp_in l3 400 ∧ vp_in (x7.1 0 107) 14 ∧ (∀ x10 : gd, x10 = si x7 110 (x7.1 0 107 : Int32).toNatClampNeg (x7.1 102 (l3 : Int32).toNatClampNeg) → vp_in (x10.1 0 107) 14 ∧ (∀ x12 : gd, x12 = si x10 112 (x10.1 0 107 : Int32).toNatClampNeg l2 → vp_in (x12.1 0 107) 14 ∧ (∀ x14 : gd, x14 = si x12 113 (x12.1 0 107 : Int32).toNatClampNeg (-1) → vp_in l4 6 ∧ (∀ x16 : gd, x16 = si x14 118 (l4 : Int32).toNatClampNeg (x14.1 0 107) → (∀ x17 : gd, x17 = si x16 0 107 ((x16.1 0 107) + 1) → MT G d z_takeCalls 9 [(0, vr 0), (1, vi l1), (2, vi (l2 + 1)), (3, vi (l3 + 1))] [] x17 P))))))))))))) :
    MT G d z_takeCalls 59 [(0, vr 0), (1, vi l1), (2, vi l2), (3, vi l3), (4, vi l4)] [] x P := by
  refine T_iload_n 2 (dk dt_takeCalls 34 rfl) rfl rfl ?_
  refine T_iload_n 1 (dk dt_takeCalls 35 rfl) rfl rfl ?_
  refine T_icmp_ge 158 (dk dt_takeCalls 36 rfl) (by decide) (fun c1 => ?_) (fun c1 => ?_)
  · have h := h.1 c1
    exact h
  · have h := h.2 c1
    refine T_aload_n 0 (dk dt_takeCalls 37 rfl) rfl rfl ?_
    refine T_getR 0 98 99 (dk dt_takeCalls 38 rfl) fl_199 mk_0 ml_0 (by decide) rfl rfl ?_
    refine T_iload_n 3 (dk dt_takeCalls 39 rfl) rfl rfl ?_
    obtain ⟨h2, h⟩ := h
    refine T_iald 99 400 (dk dt_takeCalls 40 rfl) mk_99 ml_99 h2 ?_
    refine T_bipush (v := 13) (dk dt_takeCalls 41 rfl) (by decide +kernel) ?_
    refine T_icmp_ne 158 (dk dt_takeCalls 42 rfl) (by decide) (fun c3 => ?_) (fun c3 => ?_)
    · have h := h.1 c3
      exact h
    · have h := h.2 c3
      refine T_aload_n 0 (dk dt_takeCalls 43 rfl) rfl rfl ?_
      refine T_getI 0 107 (dk dt_takeCalls 44 rfl) fl_699 mk_0 ml_0 (by decide) rfl ?_
      refine T_bipush (v := 13) (dk dt_takeCalls 45 rfl) (by decide +kernel) ?_
      refine T_icmp_ge 158 (dk dt_takeCalls 46 rfl) (by decide) (fun c4 => ?_) (fun c4 => ?_)
      · have h := h.1 c4
        exact h
      · have h := h.2 c4
        refine T_aload_n 0 (dk dt_takeCalls 47 rfl) rfl rfl ?_
        refine T_getR 0 108 109 (dk dt_takeCalls 48 rfl) fl_227 mk_0 ml_0 (by decide) rfl rfl ?_
        refine T_aload_n 0 (dk dt_takeCalls 49 rfl) rfl rfl ?_
        refine T_getI 0 107 (dk dt_takeCalls 50 rfl) fl_699 mk_0 ml_0 (by decide) rfl ?_
        refine T_aload_n 0 (dk dt_takeCalls 51 rfl) rfl rfl ?_
        refine T_getR 0 99 100 (dk dt_takeCalls 52 rfl) fl_202 mk_0 ml_0 (by decide) rfl rfl ?_
        refine T_iload_n 3 (dk dt_takeCalls 53 rfl) rfl rfl ?_
        obtain ⟨h5, h⟩ := h
        refine T_iald 100 400 (dk dt_takeCalls 54 rfl) mk_100 ml_100 h5 ?_
        obtain ⟨h6, h⟩ := h
        obtain ⟨x7, ex7⟩ : ∃ z, z = si x 109 (x.1 0 107 : Int32).toNatClampNeg (x.1 100 (l3 : Int32).toNatClampNeg) := ⟨_, rfl⟩
        have h := h x7 ex7
        refine T_iast 109 14 (dk dt_takeCalls 55 rfl) mk_109 ml_109 h6 ?_
        rw [← ex7]
        refine T_aload_n 0 (dk dt_takeCalls 56 rfl) rfl rfl ?_
        refine T_getR 0 109 110 (dk dt_takeCalls 57 rfl) fl_230 mk_0 ml_0 (by decide) rfl rfl ?_
        refine T_aload_n 0 (dk dt_takeCalls 58 rfl) rfl rfl ?_
        refine T_getI 0 107 (dk dt_takeCalls 59 rfl) fl_699 mk_0 ml_0 (by decide) rfl ?_
        refine T_aload_n 0 (dk dt_takeCalls 60 rfl) rfl rfl ?_
        refine T_getR 0 101 102 (dk dt_takeCalls 61 rfl) fl_208 mk_0 ml_0 (by decide) rfl rfl ?_
        refine T_iload_n 3 (dk dt_takeCalls 62 rfl) rfl rfl ?_
        obtain ⟨h8, h⟩ := h
        refine T_iald 102 400 (dk dt_takeCalls 63 rfl) mk_102 ml_102 h8 ?_
        obtain ⟨h9, h⟩ := h
        obtain ⟨x10, ex10⟩ : ∃ z, z = si x7 110 (x7.1 0 107 : Int32).toNatClampNeg (x7.1 102 (l3 : Int32).toNatClampNeg) := ⟨_, rfl⟩
        have h := h x10 ex10
        refine T_iast 110 14 (dk dt_takeCalls 64 rfl) mk_110 ml_110 h9 ?_
        rw [← ex10]
        refine T_aload_n 0 (dk dt_takeCalls 65 rfl) rfl rfl ?_
        refine T_getR 0 111 112 (dk dt_takeCalls 66 rfl) fl_236 mk_0 ml_0 (by decide) rfl rfl ?_
        refine T_aload_n 0 (dk dt_takeCalls 67 rfl) rfl rfl ?_
        refine T_getI 0 107 (dk dt_takeCalls 68 rfl) fl_699 mk_0 ml_0 (by decide) rfl ?_
        refine T_iload_n 2 (dk dt_takeCalls 69 rfl) rfl rfl ?_
        obtain ⟨h11, h⟩ := h
        obtain ⟨x12, ex12⟩ : ∃ z, z = si x10 112 (x10.1 0 107 : Int32).toNatClampNeg l2 := ⟨_, rfl⟩
        have h := h x12 ex12
        refine T_iast 112 14 (dk dt_takeCalls 70 rfl) mk_112 ml_112 h11 ?_
        rw [← ex12]
        refine T_aload_n 0 (dk dt_takeCalls 71 rfl) rfl rfl ?_
        refine T_getR 0 112 113 (dk dt_takeCalls 72 rfl) fl_239 mk_0 ml_0 (by decide) rfl rfl ?_
        refine T_aload_n 0 (dk dt_takeCalls 73 rfl) rfl rfl ?_
        refine T_getI 0 107 (dk dt_takeCalls 74 rfl) fl_699 mk_0 ml_0 (by decide) rfl ?_
        refine T_iconst (v := (-1)) (dk dt_takeCalls 75 rfl) (by decide +kernel) ?_
        obtain ⟨h13, h⟩ := h
        obtain ⟨x14, ex14⟩ : ∃ z, z = si x12 113 (x12.1 0 107 : Int32).toNatClampNeg (-1) := ⟨_, rfl⟩
        have h := h x14 ex14
        refine T_iast 113 14 (dk dt_takeCalls 76 rfl) mk_113 ml_113 h13 ?_
        rw [← ex14]
        refine T_aload_n 0 (dk dt_takeCalls 77 rfl) rfl rfl ?_
        refine T_getR 0 117 118 (dk dt_takeCalls 78 rfl) fl_251 mk_0 ml_0 (by decide) rfl rfl ?_
        refine T_iload 4 (dk dt_takeCalls 79 rfl) rfl ?_
        refine T_aload_n 0 (dk dt_takeCalls 80 rfl) rfl rfl ?_
        refine T_getI 0 107 (dk dt_takeCalls 81 rfl) fl_699 mk_0 ml_0 (by decide) rfl ?_
        obtain ⟨h15, h⟩ := h
        obtain ⟨x16, ex16⟩ : ∃ z, z = si x14 118 (l4 : Int32).toNatClampNeg (x14.1 0 107) := ⟨_, rfl⟩
        have h := h x16 ex16
        refine T_iast 118 6 (dk dt_takeCalls 82 rfl) mk_118 ml_118 h15 ?_
        rw [← ex16]
        refine T_aload_n 0 (dk dt_takeCalls 83 rfl) rfl rfl ?_
        refine T_dup (dk dt_takeCalls 84 rfl) rfl ?_
        refine T_getI 0 107 (dk dt_takeCalls 85 rfl) fl_699 mk_0 ml_0 (by decide) rfl ?_
        refine T_iconst (v := 1) (dk dt_takeCalls 86 rfl) (by decide +kernel) ?_
        refine T_iadd (dk dt_takeCalls 87 rfl) ?_
        obtain ⟨x17, ex17⟩ : ∃ z, z = si x16 0 107 ((x16.1 0 107) + 1) := ⟨_, rfl⟩
        have h := h x17 ex17
        refine T_putI 0 107 (dk dt_takeCalls 88 rfl) fl_699 mk_0 ml_0 (by decide) rfl ⟨rfl, rfl⟩ ?_
        rw [← ex17]
        refine T_goto 205 (dk dt_takeCalls 89 rfl) (by decide) ?_
        refine T_iinc (v := l2 + 1) (lv2 := [(2, vi (l2 + 1)), (0, vr 0), (1, vi l1), (3, vi l3), (4, vi l4)]) 2 (dk dt_takeCalls 118 rfl) rfl rfl (by decide) rfl ?_
        refine T_iinc (v := l3 + 1) (lv2 := [(3, vi (l3 + 1)), (2, vi (l2 + 1)), (0, vr 0), (1, vi l1), (4, vi l4)]) 3 (dk dt_takeCalls 119 rfl) rfl rfl (by decide) rfl ?_
        refine T_goto 9 (dk dt_takeCalls 120 rfl) (by decide) ?_
        exact T_sub [2, 3, 1, 0] rfl h
set_option maxRecDepth 100000 in
set_option maxHeartbeats 4000000 in
theorem sg_takeCalls_158 {G : mG} {d : Nat} {x : gd} {P : Option gv → gd → Prop} (l1 : Int32) (l2 : Int32) (l3 : Int32) (l4 : Int32)
    (h : ((l1 ≤ l2 → MT G d z_takeCalls 9 [(0, vr 0), (1, vi l1), (2, vi (l2 + 1)), (3, vi (l3 + 1))] [] x P) ∧ (¬ (l1 ≤ l2) → vp_in l3 400 ∧ ((¬ ((x.1 99 (l3 : Int32).toNatClampNeg) = (14 : Int32)) → MT G d z_takeCalls 9 [(0, vr 0), (1, vi l1), (2, vi (l2 + 1)), (3, vi (l3 + 1))] [] x P) ∧ ((x.1 99 (l3 : Int32).toNatClampNeg) = (14 : Int32) → vp_in l4 6 ∧ vp_in (x.1 118 (l4 : Int32).toNatClampNeg) 14 ∧ (∀ x6 : gd, x6 = si x 113 (x.1 118 (l4 : Int32).toNatClampNeg : Int32).toNatClampNeg l2 → vp_in l4 6 ∧ vp_in l3 400 ∧ vp_in (x6.1 118 (l4 : Int32).toNatClampNeg) 14 ∧ (∀ x10 : gd, x10 = si x6 111 (x6.1 118 (l4 : Int32).toNatClampNeg : Int32).toNatClampNeg (x6.1 102 (l3 : Int32).toNatClampNeg) → MT G d z_takeCalls 9 [(0, vr 0), (1, vi l1), (2, vi (l2 + 1)), (3, vi (l3 + 1))] [] x10 P))))))) :
    MT G d z_takeCalls 158 [(0, vr 0), (1, vi l1), (2, vi l2), (3, vi l3), (4, vi l4)] [] x P := by
  refine T_iload_n 2 (dk dt_takeCalls 90 rfl) rfl rfl ?_
  refine T_iload_n 1 (dk dt_takeCalls 91 rfl) rfl rfl ?_
  refine T_icmp_ge 205 (dk dt_takeCalls 92 rfl) (by decide) (fun c1 => ?_) (fun c1 => ?_)
  · have h := h.1 c1
    refine T_iinc (v := l2 + 1) (lv2 := [(2, vi (l2 + 1)), (0, vr 0), (1, vi l1), (3, vi l3), (4, vi l4)]) 2 (dk dt_takeCalls 118 rfl) rfl rfl (by decide) rfl ?_
    refine T_iinc (v := l3 + 1) (lv2 := [(3, vi (l3 + 1)), (2, vi (l2 + 1)), (0, vr 0), (1, vi l1), (4, vi l4)]) 3 (dk dt_takeCalls 119 rfl) rfl rfl (by decide) rfl ?_
    refine T_goto 9 (dk dt_takeCalls 120 rfl) (by decide) ?_
    exact T_sub [2, 3, 1, 0] rfl h
  · have h := h.2 c1
    refine T_aload_n 0 (dk dt_takeCalls 93 rfl) rfl rfl ?_
    refine T_getR 0 98 99 (dk dt_takeCalls 94 rfl) fl_199 mk_0 ml_0 (by decide) rfl rfl ?_
    refine T_iload_n 3 (dk dt_takeCalls 95 rfl) rfl rfl ?_
    obtain ⟨h2, h⟩ := h
    refine T_iald 99 400 (dk dt_takeCalls 96 rfl) mk_99 ml_99 h2 ?_
    refine T_bipush (v := 14) (dk dt_takeCalls 97 rfl) (by decide +kernel) ?_
    refine T_icmp_ne 205 (dk dt_takeCalls 98 rfl) (by decide) (fun c3 => ?_) (fun c3 => ?_)
    · have h := h.1 c3
      refine T_iinc (v := l2 + 1) (lv2 := [(2, vi (l2 + 1)), (0, vr 0), (1, vi l1), (3, vi l3), (4, vi l4)]) 2 (dk dt_takeCalls 118 rfl) rfl rfl (by decide) rfl ?_
      refine T_iinc (v := l3 + 1) (lv2 := [(3, vi (l3 + 1)), (2, vi (l2 + 1)), (0, vr 0), (1, vi l1), (4, vi l4)]) 3 (dk dt_takeCalls 119 rfl) rfl rfl (by decide) rfl ?_
      refine T_goto 9 (dk dt_takeCalls 120 rfl) (by decide) ?_
      exact T_sub [2, 3, 1, 0] rfl h
    · have h := h.2 c3
      refine T_aload_n 0 (dk dt_takeCalls 99 rfl) rfl rfl ?_
      refine T_getR 0 112 113 (dk dt_takeCalls 100 rfl) fl_239 mk_0 ml_0 (by decide) rfl rfl ?_
      refine T_aload_n 0 (dk dt_takeCalls 101 rfl) rfl rfl ?_
      refine T_getR 0 117 118 (dk dt_takeCalls 102 rfl) fl_251 mk_0 ml_0 (by decide) rfl rfl ?_
      refine T_iload 4 (dk dt_takeCalls 103 rfl) rfl ?_
      obtain ⟨h4, h⟩ := h
      refine T_iald 118 6 (dk dt_takeCalls 104 rfl) mk_118 ml_118 h4 ?_
      refine T_iload_n 2 (dk dt_takeCalls 105 rfl) rfl rfl ?_
      obtain ⟨h5, h⟩ := h
      obtain ⟨x6, ex6⟩ : ∃ z, z = si x 113 (x.1 118 (l4 : Int32).toNatClampNeg : Int32).toNatClampNeg l2 := ⟨_, rfl⟩
      have h := h x6 ex6
      refine T_iast 113 14 (dk dt_takeCalls 106 rfl) mk_113 ml_113 h5 ?_
      rw [← ex6]
      refine T_aload_n 0 (dk dt_takeCalls 107 rfl) rfl rfl ?_
      refine T_getR 0 110 111 (dk dt_takeCalls 108 rfl) fl_233 mk_0 ml_0 (by decide) rfl rfl ?_
      refine T_aload_n 0 (dk dt_takeCalls 109 rfl) rfl rfl ?_
      refine T_getR 0 117 118 (dk dt_takeCalls 110 rfl) fl_251 mk_0 ml_0 (by decide) rfl rfl ?_
      refine T_iload 4 (dk dt_takeCalls 111 rfl) rfl ?_
      obtain ⟨h7, h⟩ := h
      refine T_iald 118 6 (dk dt_takeCalls 112 rfl) mk_118 ml_118 h7 ?_
      refine T_aload_n 0 (dk dt_takeCalls 113 rfl) rfl rfl ?_
      refine T_getR 0 101 102 (dk dt_takeCalls 114 rfl) fl_208 mk_0 ml_0 (by decide) rfl rfl ?_
      refine T_iload_n 3 (dk dt_takeCalls 115 rfl) rfl rfl ?_
      obtain ⟨h8, h⟩ := h
      refine T_iald 102 400 (dk dt_takeCalls 116 rfl) mk_102 ml_102 h8 ?_
      obtain ⟨h9, h⟩ := h
      obtain ⟨x10, ex10⟩ : ∃ z, z = si x6 111 (x6.1 118 (l4 : Int32).toNatClampNeg : Int32).toNatClampNeg (x6.1 102 (l3 : Int32).toNatClampNeg) := ⟨_, rfl⟩
      have h := h x10 ex10
      refine T_iast 111 14 (dk dt_takeCalls 117 rfl) mk_111 ml_111 h9 ?_
      rw [← ex10]
      refine T_iinc (v := l2 + 1) (lv2 := [(2, vi (l2 + 1)), (0, vr 0), (1, vi l1), (3, vi l3), (4, vi l4)]) 2 (dk dt_takeCalls 118 rfl) rfl rfl (by decide) rfl ?_
      refine T_iinc (v := l3 + 1) (lv2 := [(3, vi (l3 + 1)), (2, vi (l2 + 1)), (0, vr 0), (1, vi l1), (4, vi l4)]) 3 (dk dt_takeCalls 119 rfl) rfl rfl (by decide) rfl ?_
      refine T_goto 9 (dk dt_takeCalls 120 rfl) (by decide) ?_
      exact T_sub [2, 3, 1, 0] rfl h
