set_option maxRecDepth 100000 in
theorem dt_isRace : dck cX12_isRace [(0, .aload_n 0, 1), (1, .getfield 211, 3), (4, .iload_n 1, 1), (5, .baload, 1), (6, .ifCond .ne 88, 3), (9, .aload_n 0, 1), (10, .getfield 211, 3), (13, .iload_n 2, 1), (14, .baload, 1), (15, .ifCond .ne 79, 3), (18, .aload_n 0, 1), (19, .aload_n 0, 1), (20, .getfield 199, 3), (23, .iload_n 1, 1), (24, .iaload, 1), (25, .aload_n 0, 1), (26, .getfield 199, 3), (29, .iload_n 2, 1), (30, .iaload, 1), (31, .invokevirtual 671, 3), (34, .ifCond .eq 60, 3), (37, .aload_n 0, 1), (38, .getfield 202, 3), (41, .iload_n 1, 1), (42, .iaload, 1), (43, .aload_n 0, 1), (44, .getfield 202, 3), (47, .iload_n 2, 1), (48, .iaload, 1), (49, .if_icmp .ne 45, 3), (52, .aload_n 0, 1), (53, .getfield 73, 3), (56, .aload_n 0, 1), (57, .getfield 202, 3), (60, .iload_n 1, 1), (61, .iaload, 1), (62, .baload, 1), (63, .ifCond .ne 31, 3), (66, .aload_n 0, 1), (67, .getfield 196, 3), (70, .iload_n 1, 1), (71, .iaload, 1), (72, .aload_n 0, 1), (73, .getfield 196, 3), (76, .iload_n 2, 1), (77, .iaload, 1), (78, .if_icmp .eq 16, 3), (81, .aload_n 0, 1), (82, .iload_n 1, 1), (83, .iload_n 2, 1), (84, .invokevirtual 674, 3), (87, .ifCond .ne 7, 3), (90, .iconst 1, 1), (91, .goto 4, 3), (94, .iconst 0, 1), (95, .ireturn, 1)] = true := by decide +kernel
set_option maxRecDepth 100000 in
set_option maxHeartbeats 4000000 in
theorem sg_isRace_0 {G : mG} {d : Nat} {x : gd} {P : Option gv → gd → Prop} (l1 : Int32) (l2 : Int32)
    (h : vp_in l1 400 ∧ ((¬ ((x.1 103 (l1 : Int32).toNatClampNeg) = (0 : Int32)) → P (some (vi 0)) x) ∧ ((x.1 103 (l1 : Int32).toNatClampNeg) = (0 : Int32) → vp_in l2 400 ∧ ((¬ ((x.1 103 (l2 : Int32).toNatClampNeg) = (0 : Int32)) → P (some (vi 0)) x) ∧ ((x.1 103 (l2 : Int32).toNatClampNeg) = (0 : Int32) → vp_in l1 400 ∧ vp_in l2 400 ∧ MT G d z_mayRace 0 [(0, vr 0), (1, vi (x.1 99 (l1 : Int32).toNatClampNeg)), (2, vi (x.1 99 (l2 : Int32).toNatClampNeg))] [] x (ri (fun r8 x7 => ((r8 = (0 : Int32) → P (some (vi 0)) x7) ∧ (¬ (r8 = (0 : Int32)) → vp_in l1 400 ∧ vp_in l2 400 ∧ ((¬ ((x7.1 100 (l1 : Int32).toNatClampNeg) = (x7.1 100 (l2 : Int32).toNatClampNeg)) → P (some (vi 0)) x7) ∧ ((x7.1 100 (l1 : Int32).toNatClampNeg) = (x7.1 100 (l2 : Int32).toNatClampNeg) → vp_in l1 400 ∧ vp_in (x7.1 100 (l1 : Int32).toNatClampNeg) 24 ∧ ((¬ ((x7.1 37 (x7.1 100 (l1 : Int32).toNatClampNeg : Int32).toNatClampNeg) = (0 : Int32)) → P (some (vi 0)) x7) ∧ ((x7.1 37 (x7.1 100 (l1 : Int32).toNatClampNeg : Int32).toNatClampNeg) = (0 : Int32) → vp_in l1 400 ∧ vp_in l2 400 ∧ (((x7.1 98 (l1 : Int32).toNatClampNeg) = (x7.1 98 (l2 : Int32).toNatClampNeg) → P (some (vi 0)) x7) ∧ (¬ ((x7.1 98 (l1 : Int32).toNatClampNeg) = (x7.1 98 (l2 : Int32).toNatClampNeg)) → MT G d z_isSooner 0 [(0, vr 0), (1, vi l1), (2, vi l2)] [] x7 (ri (fun r20 x19 => ((¬ (r20 = (0 : Int32)) → P (some (vi 0)) x19) ∧ (r20 = (0 : Int32) → P (some (vi 1)) x19))))))))))))))))))) :
    MT G (d + 1) z_isRace 0 [(0, vr 0), (1, vi l1), (2, vi l2)] [] x P := by
  refine T_aload_n 0 (dk dt_isRace 0 rfl) rfl rfl ?_
  refine T_getR 0 102 103 (dk dt_isRace 1 rfl) fl_211 mk_0 ml_0 (by decide) rfl rfl ?_
  refine T_iload_n 1 (dk dt_isRace 2 rfl) rfl rfl ?_
  obtain ⟨h1, h⟩ := h
  refine T_zald 103 400 (dk dt_isRace 3 rfl) mk_103 ml_103 h1 ?_
  refine T_if_ne 94 (dk dt_isRace 4 rfl) (by decide) (fun c2 => ?_) (fun c2 => ?_)
  · have h := h.1 c2
    refine T_iconst (v := 0) (dk dt_isRace 54 rfl) (by decide +kernel) ?_
    exact MT_iret (dk dt_isRace 55 rfl) rfl rfl h
  · have h := h.2 c2
    refine T_aload_n 0 (dk dt_isRace 5 rfl) rfl rfl ?_
    refine T_getR 0 102 103 (dk dt_isRace 6 rfl) fl_211 mk_0 ml_0 (by decide) rfl rfl ?_
    refine T_iload_n 2 (dk dt_isRace 7 rfl) rfl rfl ?_
    obtain ⟨h3, h⟩ := h
    refine T_zald 103 400 (dk dt_isRace 8 rfl) mk_103 ml_103 h3 ?_
    refine T_if_ne 94 (dk dt_isRace 9 rfl) (by decide) (fun c4 => ?_) (fun c4 => ?_)
    · have h := h.1 c4
      refine T_iconst (v := 0) (dk dt_isRace 54 rfl) (by decide +kernel) ?_
      exact MT_iret (dk dt_isRace 55 rfl) rfl rfl h
    · have h := h.2 c4
      refine T_aload_n 0 (dk dt_isRace 10 rfl) rfl rfl ?_
      refine T_aload_n 0 (dk dt_isRace 11 rfl) rfl rfl ?_
      refine T_getR 0 98 99 (dk dt_isRace 12 rfl) fl_199 mk_0 ml_0 (by decide) rfl rfl ?_
      refine T_iload_n 1 (dk dt_isRace 13 rfl) rfl rfl ?_
      obtain ⟨h5, h⟩ := h
      refine T_iald 99 400 (dk dt_isRace 14 rfl) mk_99 ml_99 h5 ?_
      refine T_aload_n 0 (dk dt_isRace 15 rfl) rfl rfl ?_
      refine T_getR 0 98 99 (dk dt_isRace 16 rfl) fl_199 mk_0 ml_0 (by decide) rfl rfl ?_
      refine T_iload_n 2 (dk dt_isRace 17 rfl) rfl rfl ?_
      obtain ⟨h6, h⟩ := h
      refine T_iald 99 400 (dk dt_isRace 18 rfl) mk_99 ml_99 h6 ?_
      refine MT_callVi [vi (x.1 99 (l1 : Int32).toNatClampNeg), vi (x.1 99 (l2 : Int32).toNatClampNeg)] [] rfl (dk dt_isRace 19 rfl) cv_671 rfl rfl (Nat.le_of_ble_eq_true rfl) (Nat.le_of_ble_eq_true rfl) rfl rfl h (fun r8 x7 h => ?_)
      refine T_if_eq 94 (dk dt_isRace 20 rfl) (by decide) (fun c9 => ?_) (fun c9 => ?_)
      · have h := h.1 c9
        refine T_iconst (v := 0) (dk dt_isRace 54 rfl) (by decide +kernel) ?_
        exact MT_iret (dk dt_isRace 55 rfl) rfl rfl h
      · have h := h.2 c9
        refine T_aload_n 0 (dk dt_isRace 21 rfl) rfl rfl ?_
        refine T_getR 0 99 100 (dk dt_isRace 22 rfl) fl_202 mk_0 ml_0 (by decide) rfl rfl ?_
        refine T_iload_n 1 (dk dt_isRace 23 rfl) rfl rfl ?_
        obtain ⟨h10, h⟩ := h
        refine T_iald 100 400 (dk dt_isRace 24 rfl) mk_100 ml_100 h10 ?_
        refine T_aload_n 0 (dk dt_isRace 25 rfl) rfl rfl ?_
        refine T_getR 0 99 100 (dk dt_isRace 26 rfl) fl_202 mk_0 ml_0 (by decide) rfl rfl ?_
        refine T_iload_n 2 (dk dt_isRace 27 rfl) rfl rfl ?_
        obtain ⟨h11, h⟩ := h
        refine T_iald 100 400 (dk dt_isRace 28 rfl) mk_100 ml_100 h11 ?_
        refine T_icmp_ne 94 (dk dt_isRace 29 rfl) (by decide) (fun c12 => ?_) (fun c12 => ?_)
        · have h := h.1 c12
          refine T_iconst (v := 0) (dk dt_isRace 54 rfl) (by decide +kernel) ?_
          exact MT_iret (dk dt_isRace 55 rfl) rfl rfl h
        · have h := h.2 c12
          refine T_aload_n 0 (dk dt_isRace 30 rfl) rfl rfl ?_
          refine T_getR 0 36 37 (dk dt_isRace 31 rfl) fl_73 mk_0 ml_0 (by decide) rfl rfl ?_
          refine T_aload_n 0 (dk dt_isRace 32 rfl) rfl rfl ?_
          refine T_getR 0 99 100 (dk dt_isRace 33 rfl) fl_202 mk_0 ml_0 (by decide) rfl rfl ?_
          refine T_iload_n 1 (dk dt_isRace 34 rfl) rfl rfl ?_
          obtain ⟨h13, h⟩ := h
          refine T_iald 100 400 (dk dt_isRace 35 rfl) mk_100 ml_100 h13 ?_
          obtain ⟨h14, h⟩ := h
          refine T_zald 37 24 (dk dt_isRace 36 rfl) mk_37 ml_37 h14 ?_
          refine T_if_ne 94 (dk dt_isRace 37 rfl) (by decide) (fun c15 => ?_) (fun c15 => ?_)
          · have h := h.1 c15
            refine T_iconst (v := 0) (dk dt_isRace 54 rfl) (by decide +kernel) ?_
            exact MT_iret (dk dt_isRace 55 rfl) rfl rfl h
          · have h := h.2 c15
            refine T_aload_n 0 (dk dt_isRace 38 rfl) rfl rfl ?_
            refine T_getR 0 97 98 (dk dt_isRace 39 rfl) fl_196 mk_0 ml_0 (by decide) rfl rfl ?_
            refine T_iload_n 1 (dk dt_isRace 40 rfl) rfl rfl ?_
            obtain ⟨h16, h⟩ := h
            refine T_iald 98 400 (dk dt_isRace 41 rfl) mk_98 ml_98 h16 ?_
            refine T_aload_n 0 (dk dt_isRace 42 rfl) rfl rfl ?_
            refine T_getR 0 97 98 (dk dt_isRace 43 rfl) fl_196 mk_0 ml_0 (by decide) rfl rfl ?_
            refine T_iload_n 2 (dk dt_isRace 44 rfl) rfl rfl ?_
            obtain ⟨h17, h⟩ := h
            refine T_iald 98 400 (dk dt_isRace 45 rfl) mk_98 ml_98 h17 ?_
            refine T_icmp_eq 94 (dk dt_isRace 46 rfl) (by decide) (fun c18 => ?_) (fun c18 => ?_)
            · have h := h.1 c18
              refine T_iconst (v := 0) (dk dt_isRace 54 rfl) (by decide +kernel) ?_
              exact MT_iret (dk dt_isRace 55 rfl) rfl rfl h
            · have h := h.2 c18
              refine T_aload_n 0 (dk dt_isRace 47 rfl) rfl rfl ?_
              refine T_iload_n 1 (dk dt_isRace 48 rfl) rfl rfl ?_
              refine T_iload_n 2 (dk dt_isRace 49 rfl) rfl rfl ?_
              refine MT_callVi [vi l1, vi l2] [] rfl (dk dt_isRace 50 rfl) cv_674 rfl rfl (Nat.le_of_ble_eq_true rfl) (Nat.le_of_ble_eq_true rfl) rfl rfl h (fun r20 x19 h => ?_)
              refine T_if_ne 94 (dk dt_isRace 51 rfl) (by decide) (fun c21 => ?_) (fun c21 => ?_)
              · have h := h.1 c21
                refine T_iconst (v := 0) (dk dt_isRace 54 rfl) (by decide +kernel) ?_
                exact MT_iret (dk dt_isRace 55 rfl) rfl rfl h
              · have h := h.2 c21
                refine T_iconst (v := 1) (dk dt_isRace 52 rfl) (by decide +kernel) ?_
                refine T_goto 95 (dk dt_isRace 53 rfl) (by decide) ?_
                exact MT_iret (dk dt_isRace 55 rfl) rfl rfl h
set_option maxRecDepth 100000 in
theorem dt_noRun : dck cX12_noRun [(0, .aload_n 0, 1), (1, .aload_n 0, 1), (2, .getfield 569, 3), (5, .ifCond .ne 7, 3), (8, .iconst 1, 1), (9, .goto 4, 3), (12, .iconst 0, 1), (13, .iconst 1, 1), (14, .invokevirtual 558, 3), (17, .ireturn, 1)] = true := by decide +kernel
set_option maxRecDepth 100000 in
set_option maxHeartbeats 4000000 in
theorem sg_noRun_0 {G : mG} {d : Nat} {x : gd} {P : Option gv → gd → Prop} 
    (h : ((¬ ((x.1 0 67) = (0 : Int32)) → MT G (d + 1) z_noRun 13 [(0, vr 0)] [vi 0, vr 0] x P) ∧ ((x.1 0 67) = (0 : Int32) → MT G (d + 1) z_noRun 13 [(0, vr 0)] [vi 1, vr 0] x P))) :
    MT G (d + 1) z_noRun 0 [(0, vr 0)] [] x P := by
  refine T_aload_n 0 (dk dt_noRun 0 rfl) rfl rfl ?_
  refine T_aload_n 0 (dk dt_noRun 1 rfl) rfl rfl ?_
  refine T_getI 0 67 (dk dt_noRun 2 rfl) fl_569 mk_0 ml_0 (by decide) rfl ?_
  refine T_if_ne 12 (dk dt_noRun 3 rfl) (by decide) (fun c1 => ?_) (fun c1 => ?_)
  · have h := h.1 c1
    refine T_iconst (v := 0) (dk dt_noRun 6 rfl) (by decide +kernel) ?_
    exact h
  · have h := h.2 c1
    refine T_iconst (v := 1) (dk dt_noRun 4 rfl) (by decide +kernel) ?_
    refine T_goto 13 (dk dt_noRun 5 rfl) (by decide) ?_
    exact h
set_option maxRecDepth 100000 in
set_option maxHeartbeats 4000000 in
theorem sg_noRun_13 {G : mG} {d : Nat} {x : gd} {P : Option gv → gd → Prop} (s0 : Int32)
    (h : MT G d z_refuses 0 [(0, vr 0), (1, vi s0), (2, vi 1)] [] x (ri (fun r2 x1 => gbool r2 ∧ P (some (vi r2)) x1))) :
    MT G (d + 1) z_noRun 13 [(0, vr 0)] [vi s0, vr 0] x P := by
  refine T_iconst (v := 1) (dk dt_noRun 7 rfl) (by decide +kernel) ?_
  refine MT_callVi [vi s0, vi 1] [] rfl (dk dt_noRun 8 rfl) cv_558 rfl rfl (Nat.le_of_ble_eq_true rfl) (Nat.le_of_ble_eq_true rfl) rfl rfl h (fun r2 x1 h => ?_)
  exact MT_iret (dk dt_noRun 9 rfl) rfl h.1.1 h.2
set_option maxRecDepth 100000 in
theorem dt_begin : dck cX12_begin [(0, .aload_n 0, 1), (1, .iconst 0, 1), (2, .putfield 316, 3), (5, .aload_n 0, 1), (6, .aload_n 0, 1), (7, .getfield 565, 3), (10, .ifCond .ne 7, 3), (13, .iconst 1, 1), (14, .goto 4, 3), (17, .iconst 0, 1), (18, .iconst 1, 1), (19, .invokevirtual 558, 3), (22, .ifCond .ne 25, 3), (25, .aload_n 0, 1), (26, .iload_n 1, 1), (27, .iconst 0, 1), (28, .iconst 1, 1), (29, .invokestatic 322, 3), (32, .ifCond .ne 7, 3), (35, .iconst 1, 1), (36, .goto 4, 3), (39, .iconst 0, 1), (40, .iconst 2, 1), (41, .invokevirtual 558, 3), (44, .ifCond .eq 5, 3), (47, .iconst 0, 1), (48, .ireturn, 1), (49, .aload_n 0, 1), (50, .iload_n 1, 1), (51, .invokevirtual 677, 3), (54, .aload_n 0, 1), (55, .getfield 611, 3), (58, .ireturn, 1)] = true := by decide +kernel
set_option maxRecDepth 100000 in
set_option maxHeartbeats 4000000 in
theorem sg_begin_0 {G : mG} {d : Nat} {x : gd} {P : Option gv → gd → Prop} (l1 : Int32)
    (h : (∀ x1 : gd, x1 = si x 0 0 0 → ((¬ ((x1.1 0 66) = (0 : Int32)) → MT G (d + 1) z_begin 18 [(0, vr 0), (1, vi l1)] [vi 0, vr 0] x1 P) ∧ ((x1.1 0 66) = (0 : Int32) → MT G (d + 1) z_begin 18 [(0, vr 0), (1, vi l1)] [vi 1, vr 0] x1 P)))) :
    MT G (d + 1) z_begin 0 [(0, vr 0), (1, vi l1)] [] x P := by
  refine T_aload_n 0 (dk dt_begin 0 rfl) rfl rfl ?_
  refine T_iconst (v := 0) (dk dt_begin 1 rfl) (by decide +kernel) ?_
  obtain ⟨x1, ex1⟩ : ∃ z, z = si x 0 0 0 := ⟨_, rfl⟩
  have h := h x1 ex1
  refine T_putI 0 0 (dk dt_begin 2 rfl) fl_316 mk_0 ml_0 (by decide) rfl ⟨rfl, rfl⟩ ?_
  rw [← ex1]
  refine T_aload_n 0 (dk dt_begin 3 rfl) rfl rfl ?_
  refine T_aload_n 0 (dk dt_begin 4 rfl) rfl rfl ?_
  refine T_getI 0 66 (dk dt_begin 5 rfl) fl_565 mk_0 ml_0 (by decide) rfl ?_
  refine T_if_ne 17 (dk dt_begin 6 rfl) (by decide) (fun c2 => ?_) (fun c2 => ?_)
  · have h := h.1 c2
    refine T_iconst (v := 0) (dk dt_begin 9 rfl) (by decide +kernel) ?_
    exact h
  · have h := h.2 c2
    refine T_iconst (v := 1) (dk dt_begin 7 rfl) (by decide +kernel) ?_
    refine T_goto 18 (dk dt_begin 8 rfl) (by decide) ?_
    exact h
set_option maxRecDepth 100000 in
set_option maxHeartbeats 4000000 in
theorem sg_begin_18 {G : mG} {d : Nat} {x : gd} {P : Option gv → gd → Prop} (l1 : Int32) (s0 : Int32)
    (h : MT G d z_refuses 0 [(0, vr 0), (1, vi s0), (2, vi 1)] [] x (ri (fun r2 x1 => ((¬ (r2 = (0 : Int32)) → P (some (vi 0)) x1) ∧ (r2 = (0 : Int32) → MT G d z_in 0 [(0, vi l1), (1, vi 0), (2, vi 1)] [] x1 (ri (fun r5 x4 => ((¬ (r5 = (0 : Int32)) → MT G (d + 1) z_begin 40 [(0, vr 0), (1, vi l1)] [vi 0, vr 0] x4 P) ∧ (r5 = (0 : Int32) → MT G (d + 1) z_begin 40 [(0, vr 0), (1, vi l1)] [vi 1, vr 0] x4 P))))))))) :
    MT G (d + 1) z_begin 18 [(0, vr 0), (1, vi l1)] [vi s0, vr 0] x P := by
  refine T_iconst (v := 1) (dk dt_begin 10 rfl) (by decide +kernel) ?_
  refine MT_callVi [vi s0, vi 1] [] rfl (dk dt_begin 11 rfl) cv_558 rfl rfl (Nat.le_of_ble_eq_true rfl) (Nat.le_of_ble_eq_true rfl) rfl rfl h (fun r2 x1 h => ?_)
  refine T_if_ne 47 (dk dt_begin 12 rfl) (by decide) (fun c3 => ?_) (fun c3 => ?_)
  · have h := h.1 c3
    refine T_iconst (v := 0) (dk dt_begin 25 rfl) (by decide +kernel) ?_
    exact MT_iret (dk dt_begin 26 rfl) rfl rfl h
  · have h := h.2 c3
    refine T_aload_n 0 (dk dt_begin 13 rfl) rfl rfl ?_
    refine T_iload_n 1 (dk dt_begin 14 rfl) rfl rfl ?_
    refine T_iconst (v := 0) (dk dt_begin 15 rfl) (by decide +kernel) ?_
    refine T_iconst (v := 1) (dk dt_begin 16 rfl) (by decide +kernel) ?_
    refine MT_callSi [vi l1, vi 0, vi 1] [vr 0] rfl (dk dt_begin 17 rfl) cs_322 rfl (Nat.le_of_ble_eq_true rfl) (Nat.le_of_ble_eq_true rfl) rfl rfl h (fun r5 x4 h => ?_)
    refine T_if_ne 39 (dk dt_begin 18 rfl) (by decide) (fun c6 => ?_) (fun c6 => ?_)
    · have h := h.1 c6
      refine T_iconst (v := 0) (dk dt_begin 21 rfl) (by decide +kernel) ?_
      exact h
    · have h := h.2 c6
      refine T_iconst (v := 1) (dk dt_begin 19 rfl) (by decide +kernel) ?_
      refine T_goto 40 (dk dt_begin 20 rfl) (by decide) ?_
      exact h
set_option maxRecDepth 100000 in
set_option maxHeartbeats 4000000 in
theorem sg_begin_40 {G : mG} {d : Nat} {x : gd} {P : Option gv → gd → Prop} (l1 : Int32) (s0 : Int32)
    (h : MT G d z_refuses 0 [(0, vr 0), (1, vi s0), (2, vi 2)] [] x (ri (fun r2 x1 => ((r2 = (0 : Int32) → MT G d z_startRun 0 [(0, vr 0), (1, vi l1)] [] x1 (rv (fun x4 => P (some (vi (x4.1 0 84))) x4))) ∧ (¬ (r2 = (0 : Int32)) → P (some (vi 0)) x1))))) :
    MT G (d + 1) z_begin 40 [(0, vr 0), (1, vi l1)] [vi s0, vr 0] x P := by
  refine T_iconst (v := 2) (dk dt_begin 22 rfl) (by decide +kernel) ?_
  refine MT_callVi [vi s0, vi 2] [] rfl (dk dt_begin 23 rfl) cv_558 rfl rfl (Nat.le_of_ble_eq_true rfl) (Nat.le_of_ble_eq_true rfl) rfl rfl h (fun r2 x1 h => ?_)
  refine T_if_eq 49 (dk dt_begin 24 rfl) (by decide) (fun c3 => ?_) (fun c3 => ?_)
  · have h := h.1 c3
    refine T_aload_n 0 (dk dt_begin 27 rfl) rfl rfl ?_
    refine T_iload_n 1 (dk dt_begin 28 rfl) rfl rfl ?_
    refine MT_callVv [vi l1] [] rfl (dk dt_begin 29 rfl) cv_677 rfl rfl (Nat.le_of_ble_eq_true rfl) (Nat.le_of_ble_eq_true rfl) rfl rfl h (fun x4 h => ?_)
    refine T_aload_n 0 (dk dt_begin 30 rfl) rfl rfl ?_
    refine T_getI 0 84 (dk dt_begin 31 rfl) fl_611 mk_0 ml_0 (by decide) rfl ?_
    exact MT_iret (dk dt_begin 32 rfl) rfl rfl h
  · have h := h.2 c3
    refine T_iconst (v := 0) (dk dt_begin 25 rfl) (by decide +kernel) ?_
    exact MT_iret (dk dt_begin 26 rfl) rfl rfl h
set_option maxRecDepth 100000 in
theorem dt_choices : dck cX12_choices [(0, .aload_n 0, 1), (1, .iconst 0, 1), (2, .putfield 316, 3), (5, .aload_n 0, 1), (6, .invokevirtual 680, 3), (9, .ifCond .eq 7, 3), (12, .iconst 0, 1), (13, .goto 7, 3), (16, .aload_n 0, 1), (17, .getfield 611, 3), (20, .ireturn, 1)] = true := by decide +kernel
set_option maxRecDepth 100000 in
set_option maxHeartbeats 4000000 in
theorem sg_choices_0 {G : mG} {d : Nat} {x : gd} {P : Option gv → gd → Prop} 
    (h : (∀ x1 : gd, x1 = si x 0 0 0 → MT G d z_noRun 0 [(0, vr 0)] [] x1 (ri (fun r3 x2 => ((r3 = (0 : Int32) → P (some (vi (x2.1 0 84))) x2) ∧ (¬ (r3 = (0 : Int32)) → P (some (vi 0)) x2)))))) :
    MT G (d + 1) z_choices 0 [(0, vr 0)] [] x P := by
  refine T_aload_n 0 (dk dt_choices 0 rfl) rfl rfl ?_
  refine T_iconst (v := 0) (dk dt_choices 1 rfl) (by decide +kernel) ?_
  obtain ⟨x1, ex1⟩ : ∃ z, z = si x 0 0 0 := ⟨_, rfl⟩
  have h := h x1 ex1
  refine T_putI 0 0 (dk dt_choices 2 rfl) fl_316 mk_0 ml_0 (by decide) rfl ⟨rfl, rfl⟩ ?_
  rw [← ex1]
  refine T_aload_n 0 (dk dt_choices 3 rfl) rfl rfl ?_
  refine MT_callVi [] [] rfl (dk dt_choices 4 rfl) cv_680 rfl rfl (Nat.le_of_ble_eq_true rfl) (Nat.le_of_ble_eq_true rfl) rfl rfl h (fun r3 x2 h => ?_)
  refine T_if_eq 16 (dk dt_choices 5 rfl) (by decide) (fun c4 => ?_) (fun c4 => ?_)
  · have h := h.1 c4
    refine T_aload_n 0 (dk dt_choices 8 rfl) rfl rfl ?_
    refine T_getI 0 84 (dk dt_choices 9 rfl) fl_611 mk_0 ml_0 (by decide) rfl ?_
    exact MT_iret (dk dt_choices 10 rfl) rfl rfl h
  · have h := h.2 c4
    refine T_iconst (v := 0) (dk dt_choices 6 rfl) (by decide +kernel) ?_
    refine T_goto 20 (dk dt_choices 7 rfl) (by decide) ?_
    exact MT_iret (dk dt_choices 10 rfl) rfl rfl h
set_option maxRecDepth 100000 in
theorem dt_choice : dck cX12_choice [(0, .aload_n 0, 1), (1, .iconst 0, 1), (2, .putfield 316, 3), (5, .aload_n 0, 1), (6, .invokevirtual 680, 3), (9, .ifCond .ne 39, 3), (12, .aload_n 0, 1), (13, .iload_n 1, 1), (14, .iconst 0, 1), (15, .aload_n 0, 1), (16, .getfield 611, 3), (19, .iconst 1, 1), (20, .isub, 1), (21, .invokestatic 322, 3), (24, .ifCond .eq 12, 3), (27, .iload_n 2, 1), (28, .iconst 0, 1), (29, .iconst 4, 1), (30, .invokestatic 322, 3), (33, .ifCond .ne 7, 3), (36, .iconst 1, 1), (37, .goto 4, 3), (40, .iconst 0, 1), (41, .iconst 2, 1), (42, .invokevirtual 558, 3), (45, .ifCond .eq 5, 3), (48, .iconst 0, 1), (49, .ireturn, 1), (50, .aload_n 0, 1), (51, .getfield 184, 3), (54, .iload_n 1, 1), (55, .iaload, 1), (56, .istore_n 3, 1), (57, .aload_n 0, 1), (58, .getfield 187, 3), (61, .iload_n 1, 1), (62, .iaload, 1), (63, .istore 4, 2), (65, .iload_n 2, 1), (66, .ifCond .ne 5, 3), (69, .iload_n 3, 1), (70, .ireturn, 1), (71, .iload 4, 2), (73, .iconst (-1), 1), (74, .if_icmp .eq 39, 3), (77, .iload_n 2, 1), (78, .iconst 1, 1), (79, .if_icmp .eq 8, 3), (82, .iload_n 2, 1), (83, .iconst 2, 1), (84, .if_icmp .ne 7, 3), (87, .iconst 1, 1), (88, .goto 24, 3), (91, .iload_n 2, 1), (92, .iconst 3, 1), (93, .if_icmp .ne 18, 3), (96, .aload_n 0, 1), (97, .getfield 175, 3), (100, .bipush 10, 2), (102, .iload_n 3, 1), (103, .imul, 1), (104, .iload 4, 2), (106, .iadd, 1), (107, .iaload, 1), (108, .goto 4, 3), (111, .iconst (-1), 1), (112, .ireturn, 1), (113, .iload_n 2, 1), (114, .iconst 3, 1), (115, .if_icmp .ne 13, 3), (118, .aload_n 0, 1), (119, .iload_n 3, 1), (120, .invokevirtual 632, 3), (123, .aload_n 0, 1), (124, .getfield 623, 3), (127, .ireturn, 1), (128, .iload_n 2, 1), (129, .iconst 1, 1), (130, .if_icmp .ne 7, 3), (133, .iconst 0, 1), (134, .goto 22, 3), (137, .iload_n 2, 1), (138, .iconst 2, 1), (139, .if_icmp .ne 11, 3), (142, .aload_n 0, 1), (143, .iload_n 3, 1), (144, .invokevirtual 602, 3), (147, .goto 9, 3), (150, .aload_n 0, 1), (151, .getfield 190, 3), (154, .iload_n 1, 1), (155, .iaload, 1), (156, .ireturn, 1)] = true := by decide +kernel
set_option maxRecDepth 100000 in
set_option maxHeartbeats 4000000 in
theorem sg_choice_0 {G : mG} {d : Nat} {x : gd} {P : Option gv → gd → Prop} (l1 : Int32) (l2 : Int32)
    (h : (∀ x1 : gd, x1 = si x 0 0 0 → MT G d z_noRun 0 [(0, vr 0)] [] x1 (ri (fun r3 x2 => ((¬ (r3 = (0 : Int32)) → P (some (vi 0)) x2) ∧ (r3 = (0 : Int32) → MT G d z_in 0 [(0, vi l1), (1, vi 0), (2, vi ((x2.1 0 84) - 1))] [] x2 (ri (fun r6 x5 => ((r6 = (0 : Int32) → MT G (d + 1) z_choice 41 [(0, vr 0), (1, vi l1), (2, vi l2)] [vi 1, vr 0] x5 P) ∧ (¬ (r6 = (0 : Int32)) → MT G d z_in 0 [(0, vi l2), (1, vi 0), (2, vi 4)] [] x5 (ri (fun r9 x8 => ((¬ (r9 = (0 : Int32)) → MT G (d + 1) z_choice 41 [(0, vr 0), (1, vi l1), (2, vi l2)] [vi 0, vr 0] x8 P) ∧ (r9 = (0 : Int32) → MT G (d + 1) z_choice 41 [(0, vr 0), (1, vi l1), (2, vi l2)] [vi 1, vr 0] x8 P)))))))))))))) :
    MT G (d + 1) z_choice 0 [(0, vr 0), (1, vi l1), (2, vi l2)] [] x P := by
  refine T_aload_n 0 (dk dt_choice 0 rfl) rfl rfl ?_
  refine T_iconst (v := 0) (dk dt_choice 1 rfl) (by decide +kernel) ?_
  obtain ⟨x1, ex1⟩ : ∃ z, z = si x 0 0 0 := ⟨_, rfl⟩
  have h := h x1 ex1
  refine T_putI 0 0 (dk dt_choice 2 rfl) fl_316 mk_0 ml_0 (by decide) rfl ⟨rfl, rfl⟩ ?_
  rw [← ex1]
  refine T_aload_n 0 (dk dt_choice 3 rfl) rfl rfl ?_
  refine MT_callVi [] [] rfl (dk dt_choice 4 rfl) cv_680 rfl rfl (Nat.le_of_ble_eq_true rfl) (Nat.le_of_ble_eq_true rfl) rfl rfl h (fun r3 x2 h => ?_)
  refine T_if_ne 48 (dk dt_choice 5 rfl) (by decide) (fun c4 => ?_) (fun c4 => ?_)
  · have h := h.1 c4
    refine T_iconst (v := 0) (dk dt_choice 26 rfl) (by decide +kernel) ?_
    exact MT_iret (dk dt_choice 27 rfl) rfl rfl h
  · have h := h.2 c4
    refine T_aload_n 0 (dk dt_choice 6 rfl) rfl rfl ?_
    refine T_iload_n 1 (dk dt_choice 7 rfl) rfl rfl ?_
    refine T_iconst (v := 0) (dk dt_choice 8 rfl) (by decide +kernel) ?_
    refine T_aload_n 0 (dk dt_choice 9 rfl) rfl rfl ?_
    refine T_getI 0 84 (dk dt_choice 10 rfl) fl_611 mk_0 ml_0 (by decide) rfl ?_
    refine T_iconst (v := 1) (dk dt_choice 11 rfl) (by decide +kernel) ?_
    refine T_isub (dk dt_choice 12 rfl) ?_
    refine MT_callSi [vi l1, vi 0, vi ((x2.1 0 84) - 1)] [vr 0] rfl (dk dt_choice 13 rfl) cs_322 rfl (Nat.le_of_ble_eq_true rfl) (Nat.le_of_ble_eq_true rfl) rfl rfl h (fun r6 x5 h => ?_)
    refine T_if_eq 36 (dk dt_choice 14 rfl) (by decide) (fun c7 => ?_) (fun c7 => ?_)
    · have h := h.1 c7
      refine T_iconst (v := 1) (dk dt_choice 20 rfl) (by decide +kernel) ?_
      refine T_goto 41 (dk dt_choice 21 rfl) (by decide) ?_
      exact h
    · have h := h.2 c7
      refine T_iload_n 2 (dk dt_choice 15 rfl) rfl rfl ?_
      refine T_iconst (v := 0) (dk dt_choice 16 rfl) (by decide +kernel) ?_
      refine T_iconst (v := 4) (dk dt_choice 17 rfl) (by decide +kernel) ?_
      refine MT_callSi [vi l2, vi 0, vi 4] [vr 0] rfl (dk dt_choice 18 rfl) cs_322 rfl (Nat.le_of_ble_eq_true rfl) (Nat.le_of_ble_eq_true rfl) rfl rfl h (fun r9 x8 h => ?_)
      refine T_if_ne 40 (dk dt_choice 19 rfl) (by decide) (fun c10 => ?_) (fun c10 => ?_)
      · have h := h.1 c10
        refine T_iconst (v := 0) (dk dt_choice 22 rfl) (by decide +kernel) ?_
        exact h
      · have h := h.2 c10
        refine T_iconst (v := 1) (dk dt_choice 20 rfl) (by decide +kernel) ?_
        refine T_goto 41 (dk dt_choice 21 rfl) (by decide) ?_
        exact h
set_option maxRecDepth 100000 in
set_option maxHeartbeats 4000000 in
theorem sg_choice_41 {G : mG} {d : Nat} {x : gd} {P : Option gv → gd → Prop} (l1 : Int32) (l2 : Int32) (s0 : Int32)
    (h : MT G d z_refuses 0 [(0, vr 0), (1, vi s0), (2, vi 2)] [] x (ri (fun r2 x1 => ((r2 = (0 : Int32) → vp_in l1 200 ∧ vp_in l1 200 ∧ ((¬ (l2 = (0 : Int32)) → (((x1.1 87 (l1 : Int32).toNatClampNeg) = (-1 : Int32) → ((¬ (l2 = (3 : Int32)) → ((¬ (l2 = (1 : Int32)) → ((¬ (l2 = (2 : Int32)) → vp_in l1 200 ∧ P (some (vi (x1.1 88 (l1 : Int32).toNatClampNeg))) x1) ∧ (l2 = (2 : Int32) → MT G d z_sortOf 0 [(0, vr 0), (1, vi (x1.1 86 (l1 : Int32).toNatClampNeg))] [] x1 (ri (fun r13 x12 => P (some (vi r13)) x12))))) ∧ (l2 = (1 : Int32) → P (some (vi 0)) x1))) ∧ (l2 = (3 : Int32) → MT G d z_lookAt 0 [(0, vr 0), (1, vi (x1.1 86 (l1 : Int32).toNatClampNeg))] [] x1 (rv (fun x14 => P (some (vi (x14.1 0 88))) x14))))) ∧ (¬ ((x1.1 87 (l1 : Int32).toNatClampNeg) = (-1 : Int32)) → ((l2 = (1 : Int32) → P (some (vi 1)) x1) ∧ (¬ (l2 = (1 : Int32)) → ((¬ (l2 = (2 : Int32)) → ((¬ (l2 = (3 : Int32)) → P (some (vi (-1))) x1) ∧ (l2 = (3 : Int32) → vp_in ((10 * (x1.1 86 (l1 : Int32).toNatClampNeg)) + (x1.1 87 (l1 : Int32).toNatClampNeg)) 60 ∧ P (some (vi (x1.1 81 ((10 * (x1.1 86 (l1 : Int32).toNatClampNeg)) + (x1.1 87 (l1 : Int32).toNatClampNeg) : Int32).toNatClampNeg))) x1))) ∧ (l2 = (2 : Int32) → P (some (vi 1)) x1))))))) ∧ (l2 = (0 : Int32) → P (some (vi (x1.1 86 (l1 : Int32).toNatClampNeg))) x1))) ∧ (¬ (r2 = (0 : Int32)) → P (some (vi 0)) x1))))) :
    MT G (d + 1) z_choice 41 [(0, vr 0), (1, vi l1), (2, vi l2)] [vi s0, vr 0] x P := by
  refine T_iconst (v := 2) (dk dt_choice 23 rfl) (by decide +kernel) ?_
  refine MT_callVi [vi s0, vi 2] [] rfl (dk dt_choice 24 rfl) cv_558 rfl rfl (Nat.le_of_ble_eq_true rfl) (Nat.le_of_ble_eq_true rfl) rfl rfl h (fun r2 x1 h => ?_)
  refine T_if_eq 50 (dk dt_choice 25 rfl) (by decide) (fun c3 => ?_) (fun c3 => ?_)
  · have h := h.1 c3
    refine T_aload_n 0 (dk dt_choice 28 rfl) rfl rfl ?_
    refine T_getR 0 85 86 (dk dt_choice 29 rfl) fl_184 mk_0 ml_0 (by decide) rfl rfl ?_
    refine T_iload_n 1 (dk dt_choice 30 rfl) rfl rfl ?_
    obtain ⟨h4, h⟩ := h
    refine T_iald 86 200 (dk dt_choice 31 rfl) mk_86 ml_86 h4 ?_
    refine T_istore_n (lv2 := [(3, vi (x1.1 86 (l1 : Int32).toNatClampNeg)), (0, vr 0), (1, vi l1), (2, vi l2)]) (dk dt_choice 32 rfl) rfl (by decide) rfl ?_
    refine T_aload_n 1 (dk dt_choice 33 rfl) rfl rfl ?_
    refine T_getR 0 86 87 (dk dt_choice 34 rfl) fl_187 mk_0 ml_0 (by decide) rfl rfl ?_
    refine T_iload_n 2 (dk dt_choice 35 rfl) rfl rfl ?_
    obtain ⟨h5, h⟩ := h
    refine T_iald 87 200 (dk dt_choice 36 rfl) mk_87 ml_87 h5 ?_
    refine T_istore (lv2 := [(4, vi (x1.1 87 (l1 : Int32).toNatClampNeg)), (3, vi (x1.1 86 (l1 : Int32).toNatClampNeg)), (0, vr 0), (1, vi l1), (2, vi l2)]) (dk dt_choice 37 rfl) (by decide) rfl ?_
    refine T_iload_n 4 (dk dt_choice 38 rfl) rfl rfl ?_
    refine T_if_ne 71 (dk dt_choice 39 rfl) (by decide) (fun c6 => ?_) (fun c6 => ?_)
    · have h := h.1 c6
      refine T_iload 0 (dk dt_choice 42 rfl) rfl ?_
      refine T_iconst (v := (-1)) (dk dt_choice 43 rfl) (by decide +kernel) ?_
      refine T_icmp_eq 113 (dk dt_choice 44 rfl) (by decide) (fun c7 => ?_) (fun c7 => ?_)
      · have h := h.1 c7
        refine T_iload_n 4 (dk dt_choice 67 rfl) rfl rfl ?_
        refine T_iconst (v := 3) (dk dt_choice 68 rfl) (by decide +kernel) ?_
        refine T_icmp_ne 128 (dk dt_choice 69 rfl) (by decide) (fun c8 => ?_) (fun c8 => ?_)
        · have h := h.1 c8
          refine T_iload_n 4 (dk dt_choice 76 rfl) rfl rfl ?_
          refine T_iconst (v := 1) (dk dt_choice 77 rfl) (by decide +kernel) ?_
          refine T_icmp_ne 137 (dk dt_choice 78 rfl) (by decide) (fun c9 => ?_) (fun c9 => ?_)
          · have h := h.1 c9
            refine T_iload_n 4 (dk dt_choice 81 rfl) rfl rfl ?_
            refine T_iconst (v := 2) (dk dt_choice 82 rfl) (by decide +kernel) ?_
            refine T_icmp_ne 150 (dk dt_choice 83 rfl) (by decide) (fun c10 => ?_) (fun c10 => ?_)
            · have h := h.1 c10
              refine T_aload_n 2 (dk dt_choice 88 rfl) rfl rfl ?_
              refine T_getR 0 87 88 (dk dt_choice 89 rfl) fl_190 mk_0 ml_0 (by decide) rfl rfl ?_
              refine T_iload_n 3 (dk dt_choice 90 rfl) rfl rfl ?_
              obtain ⟨h11, h⟩ := h
              refine T_iald 88 200 (dk dt_choice 91 rfl) mk_88 ml_88 h11 ?_
              exact MT_iret (dk dt_choice 92 rfl) rfl rfl h
            · have h := h.2 c10
              refine T_aload_n 2 (dk dt_choice 84 rfl) rfl rfl ?_
              refine T_iload_n 1 (dk dt_choice 85 rfl) rfl rfl ?_
              refine MT_callVi [vi (x1.1 86 (l1 : Int32).toNatClampNeg)] [] rfl (dk dt_choice 86 rfl) cv_602 rfl rfl (Nat.le_of_ble_eq_true rfl) (Nat.le_of_ble_eq_true rfl) rfl rfl h (fun r13 x12 h => ?_)
              refine T_goto 156 (dk dt_choice 87 rfl) (by decide) ?_
              exact MT_iret (dk dt_choice 92 rfl) rfl rfl h
          · have h := h.2 c9
            refine T_iconst (v := 0) (dk dt_choice 79 rfl) (by decide +kernel) ?_
            refine T_goto 156 (dk dt_choice 80 rfl) (by decide) ?_
            exact MT_iret (dk dt_choice 92 rfl) rfl rfl h
        · have h := h.2 c8
          refine T_aload_n 2 (dk dt_choice 70 rfl) rfl rfl ?_
          refine T_iload_n 1 (dk dt_choice 71 rfl) rfl rfl ?_
          refine MT_callVv [vi (x1.1 86 (l1 : Int32).toNatClampNeg)] [] rfl (dk dt_choice 72 rfl) cv_632 rfl rfl (Nat.le_of_ble_eq_true rfl) (Nat.le_of_ble_eq_true rfl) rfl rfl h (fun x14 h => ?_)
          refine T_aload_n 2 (dk dt_choice 73 rfl) rfl rfl ?_
          refine T_getI 0 88 (dk dt_choice 74 rfl) fl_623 mk_0 ml_0 (by decide) rfl ?_
          exact MT_iret (dk dt_choice 75 rfl) rfl rfl h
      · have h := h.2 c7
        refine T_iload_n 4 (dk dt_choice 45 rfl) rfl rfl ?_
        refine T_iconst (v := 1) (dk dt_choice 46 rfl) (by decide +kernel) ?_
        refine T_icmp_eq 87 (dk dt_choice 47 rfl) (by decide) (fun c15 => ?_) (fun c15 => ?_)
        · have h := h.1 c15
          refine T_iconst (v := 1) (dk dt_choice 51 rfl) (by decide +kernel) ?_
          refine T_goto 112 (dk dt_choice 52 rfl) (by decide) ?_
          exact MT_iret (dk dt_choice 66 rfl) rfl rfl h
        · have h := h.2 c15
          refine T_iload_n 4 (dk dt_choice 48 rfl) rfl rfl ?_
          refine T_iconst (v := 2) (dk dt_choice 49 rfl) (by decide +kernel) ?_
          refine T_icmp_ne 91 (dk dt_choice 50 rfl) (by decide) (fun c16 => ?_) (fun c16 => ?_)
          · have h := h.1 c16
            refine T_iload_n 4 (dk dt_choice 53 rfl) rfl rfl ?_
            refine T_iconst (v := 3) (dk dt_choice 54 rfl) (by decide +kernel) ?_
            refine T_icmp_ne 111 (dk dt_choice 55 rfl) (by decide) (fun c17 => ?_) (fun c17 => ?_)
            · have h := h.1 c17
              refine T_iconst (v := (-1)) (dk dt_choice 65 rfl) (by decide +kernel) ?_
              exact MT_iret (dk dt_choice 66 rfl) rfl rfl h
            · have h := h.2 c17
              refine T_aload_n 2 (dk dt_choice 56 rfl) rfl rfl ?_
              refine T_getR 0 80 81 (dk dt_choice 57 rfl) fl_175 mk_0 ml_0 (by decide) rfl rfl ?_
              refine T_bipush (v := 10) (dk dt_choice 58 rfl) (by decide +kernel) ?_
              refine T_iload_n 1 (dk dt_choice 59 rfl) rfl rfl ?_
              refine T_imul (dk dt_choice 60 rfl) ?_
              refine T_iload 0 (dk dt_choice 61 rfl) rfl ?_
              refine T_iadd (dk dt_choice 62 rfl) ?_
              obtain ⟨h18, h⟩ := h
              refine T_iald 81 60 (dk dt_choice 63 rfl) mk_81 ml_81 h18 ?_
              refine T_goto 112 (dk dt_choice 64 rfl) (by decide) ?_
              exact MT_iret (dk dt_choice 66 rfl) rfl rfl h
          · have h := h.2 c16
            refine T_iconst (v := 1) (dk dt_choice 51 rfl) (by decide +kernel) ?_
            refine T_goto 112 (dk dt_choice 52 rfl) (by decide) ?_
            exact MT_iret (dk dt_choice 66 rfl) rfl rfl h
    · have h := h.2 c6
      refine T_iload_n 1 (dk dt_choice 40 rfl) rfl rfl ?_
      exact MT_iret (dk dt_choice 41 rfl) rfl rfl h
  · have h := h.2 c3
    refine T_iconst (v := 0) (dk dt_choice 26 rfl) (by decide +kernel) ?_
    exact MT_iret (dk dt_choice 27 rfl) rfl rfl h
set_option maxRecDepth 100000 in
theorem dt_go : dck cX12_go [(0, .aload_n 0, 1), (1, .iconst 0, 1), (2, .putfield 316, 3), (5, .aload_n 0, 1), (6, .invokevirtual 680, 3), (9, .ifCond .ne 53, 3), (12, .aload_n 0, 1), (13, .aload_n 0, 1), (14, .getfield 644, 3), (17, .sipush 400, 3), (20, .if_icmp .ne 7, 3), (23, .iconst 1, 1), (24, .goto 4, 3), (27, .iconst 0, 1), (28, .iconst 1, 1), (29, .invokevirtual 558, 3), (32, .ifCond .ne 30, 3), (35, .aload_n 0, 1), (36, .iload_n 1, 1), (37, .iconst 0, 1), (38, .aload_n 0, 1), (39, .getfield 611, 3), (42, .iconst 1, 1), (43, .isub, 1), (44, .invokestatic 322, 3), (47, .ifCond .ne 7, 3), (50, .iconst 1, 1), (51, .goto 4, 3), (54, .iconst 0, 1), (55, .iconst 2, 1), (56, .invokevirtual 558, 3), (59, .ifCond .eq 5, 3), (62, .iconst 0, 1), (63, .ireturn, 1), (64, .aload_n 0, 1), (65, .iload_n 1, 1), (66, .invokevirtual 683, 3), (69, .aload_n 0, 1), (70, .getfield 611, 3), (73, .ireturn, 1)] = true := by decide +kernel
set_option maxRecDepth 100000 in
set_option maxHeartbeats 4000000 in
theorem sg_go_0 {G : mG} {d : Nat} {x : gd} {P : Option gv → gd → Prop} (l1 : Int32)
    (h : (∀ x1 : gd, x1 = si x 0 0 0 → MT G d z_noRun 0 [(0, vr 0)] [] x1 (ri (fun r3 x2 => ((¬ (r3 = (0 : Int32)) → P (some (vi 0)) x2) ∧ (r3 = (0 : Int32) → ((¬ ((x2.1 0 94) = (400 : Int32)) → MT G (d + 1) z_go 28 [(0, vr 0), (1, vi l1)] [vi 0, vr 0] x2 P) ∧ ((x2.1 0 94) = (400 : Int32) → MT G (d + 1) z_go 28 [(0, vr 0), (1, vi l1)] [vi 1, vr 0] x2 P)))))))) :
    MT G (d + 1) z_go 0 [(0, vr 0), (1, vi l1)] [] x P := by
  refine T_aload_n 0 (dk dt_go 0 rfl) rfl rfl ?_
  refine T_iconst (v := 0) (dk dt_go 1 rfl) (by decide +kernel) ?_
  obtain ⟨x1, ex1⟩ : ∃ z, z = si x 0 0 0 := ⟨_, rfl⟩
  have h := h x1 ex1
  refine T_putI 0 0 (dk dt_go 2 rfl) fl_316 mk_0 ml_0 (by decide) rfl ⟨rfl, rfl⟩ ?_
  rw [← ex1]
  refine T_aload_n 0 (dk dt_go 3 rfl) rfl rfl ?_
  refine MT_callVi [] [] rfl (dk dt_go 4 rfl) cv_680 rfl rfl (Nat.le_of_ble_eq_true rfl) (Nat.le_of_ble_eq_true rfl) rfl rfl h (fun r3 x2 h => ?_)
  refine T_if_ne 62 (dk dt_go 5 rfl) (by decide) (fun c4 => ?_) (fun c4 => ?_)
  · have h := h.1 c4
    refine T_iconst (v := 0) (dk dt_go 32 rfl) (by decide +kernel) ?_
    exact MT_iret (dk dt_go 33 rfl) rfl rfl h
  · have h := h.2 c4
    refine T_aload_n 0 (dk dt_go 6 rfl) rfl rfl ?_
    refine T_aload_n 0 (dk dt_go 7 rfl) rfl rfl ?_
    refine T_getI 0 94 (dk dt_go 8 rfl) fl_644 mk_0 ml_0 (by decide) rfl ?_
    refine T_sipush (v := 400) (dk dt_go 9 rfl) (by decide +kernel) ?_
    refine T_icmp_ne 27 (dk dt_go 10 rfl) (by decide) (fun c5 => ?_) (fun c5 => ?_)
    · have h := h.1 c5
      refine T_iconst (v := 0) (dk dt_go 13 rfl) (by decide +kernel) ?_
      exact h
    · have h := h.2 c5
      refine T_iconst (v := 1) (dk dt_go 11 rfl) (by decide +kernel) ?_
      refine T_goto 28 (dk dt_go 12 rfl) (by decide) ?_
      exact h
set_option maxRecDepth 100000 in
set_option maxHeartbeats 4000000 in
theorem sg_go_28 {G : mG} {d : Nat} {x : gd} {P : Option gv → gd → Prop} (l1 : Int32) (s0 : Int32)
    (h : MT G d z_refuses 0 [(0, vr 0), (1, vi s0), (2, vi 1)] [] x (ri (fun r2 x1 => ((¬ (r2 = (0 : Int32)) → P (some (vi 0)) x1) ∧ (r2 = (0 : Int32) → MT G d z_in 0 [(0, vi l1), (1, vi 0), (2, vi ((x1.1 0 84) - 1))] [] x1 (ri (fun r5 x4 => ((¬ (r5 = (0 : Int32)) → MT G (d + 1) z_go 55 [(0, vr 0), (1, vi l1)] [vi 0, vr 0] x4 P) ∧ (r5 = (0 : Int32) → MT G (d + 1) z_go 55 [(0, vr 0), (1, vi l1)] [vi 1, vr 0] x4 P))))))))) :
    MT G (d + 1) z_go 28 [(0, vr 0), (1, vi l1)] [vi s0, vr 0] x P := by
  refine T_iconst (v := 1) (dk dt_go 14 rfl) (by decide +kernel) ?_
  refine MT_callVi [vi s0, vi 1] [] rfl (dk dt_go 15 rfl) cv_558 rfl rfl (Nat.le_of_ble_eq_true rfl) (Nat.le_of_ble_eq_true rfl) rfl rfl h (fun r2 x1 h => ?_)
  refine T_if_ne 62 (dk dt_go 16 rfl) (by decide) (fun c3 => ?_) (fun c3 => ?_)
  · have h := h.1 c3
    refine T_iconst (v := 0) (dk dt_go 32 rfl) (by decide +kernel) ?_
    exact MT_iret (dk dt_go 33 rfl) rfl rfl h
  · have h := h.2 c3
    refine T_aload_n 0 (dk dt_go 17 rfl) rfl rfl ?_
    refine T_iload_n 1 (dk dt_go 18 rfl) rfl rfl ?_
    refine T_iconst (v := 0) (dk dt_go 19 rfl) (by decide +kernel) ?_
    refine T_aload_n 0 (dk dt_go 20 rfl) rfl rfl ?_
    refine T_getI 0 84 (dk dt_go 21 rfl) fl_611 mk_0 ml_0 (by decide) rfl ?_
    refine T_iconst (v := 1) (dk dt_go 22 rfl) (by decide +kernel) ?_
    refine T_isub (dk dt_go 23 rfl) ?_
    refine MT_callSi [vi l1, vi 0, vi ((x1.1 0 84) - 1)] [vr 0] rfl (dk dt_go 24 rfl) cs_322 rfl (Nat.le_of_ble_eq_true rfl) (Nat.le_of_ble_eq_true rfl) rfl rfl h (fun r5 x4 h => ?_)
    refine T_if_ne 54 (dk dt_go 25 rfl) (by decide) (fun c6 => ?_) (fun c6 => ?_)
    · have h := h.1 c6
      refine T_iconst (v := 0) (dk dt_go 28 rfl) (by decide +kernel) ?_
      exact h
    · have h := h.2 c6
      refine T_iconst (v := 1) (dk dt_go 26 rfl) (by decide +kernel) ?_
      refine T_goto 55 (dk dt_go 27 rfl) (by decide) ?_
      exact h
set_option maxRecDepth 100000 in
set_option maxHeartbeats 4000000 in
theorem sg_go_55 {G : mG} {d : Nat} {x : gd} {P : Option gv → gd → Prop} (l1 : Int32) (s0 : Int32)
    (h : MT G d z_refuses 0 [(0, vr 0), (1, vi s0), (2, vi 2)] [] x (ri (fun r2 x1 => ((r2 = (0 : Int32) → MT G d z_doChoice 0 [(0, vr 0), (1, vi l1)] [] x1 (rv (fun x4 => P (some (vi (x4.1 0 84))) x4))) ∧ (¬ (r2 = (0 : Int32)) → P (some (vi 0)) x1))))) :
    MT G (d + 1) z_go 55 [(0, vr 0), (1, vi l1)] [vi s0, vr 0] x P := by
  refine T_iconst (v := 2) (dk dt_go 29 rfl) (by decide +kernel) ?_
  refine MT_callVi [vi s0, vi 2] [] rfl (dk dt_go 30 rfl) cv_558 rfl rfl (Nat.le_of_ble_eq_true rfl) (Nat.le_of_ble_eq_true rfl) rfl rfl h (fun r2 x1 h => ?_)
  refine T_if_eq 64 (dk dt_go 31 rfl) (by decide) (fun c3 => ?_) (fun c3 => ?_)
  · have h := h.1 c3
    refine T_aload_n 0 (dk dt_go 34 rfl) rfl rfl ?_
    refine T_iload_n 1 (dk dt_go 35 rfl) rfl rfl ?_
    refine MT_callVv [vi l1] [] rfl (dk dt_go 36 rfl) cv_683 rfl rfl (Nat.le_of_ble_eq_true rfl) (Nat.le_of_ble_eq_true rfl) rfl rfl h (fun x4 h => ?_)
    refine T_aload_n 0 (dk dt_go 37 rfl) rfl rfl ?_
    refine T_getI 0 84 (dk dt_go 38 rfl) fl_611 mk_0 ml_0 (by decide) rfl ?_
    exact MT_iret (dk dt_go 39 rfl) rfl rfl h
  · have h := h.2 c3
    refine T_iconst (v := 0) (dk dt_go 32 rfl) (by decide +kernel) ?_
    exact MT_iret (dk dt_go 33 rfl) rfl rfl h
set_option maxRecDepth 100000 in
theorem dt_draw : dck cX12_draw [(0, .aload_n 0, 1), (1, .iconst 0, 1), (2, .putfield 316, 3), (5, .aload_n 0, 1), (6, .invokevirtual 680, 3), (9, .ifCond .ne 27, 3), (12, .aload_n 0, 1), (13, .iload_n 2, 1), (14, .iconst 0, 1), (15, .sipush 400, 3), (18, .invokestatic 322, 3), (21, .ifCond .ne 7, 3), (24, .iconst 1, 1), (25, .goto 4, 3), (28, .iconst 0, 1), (29, .iconst 2, 1), (30, .invokevirtual 558, 3), (33, .ifCond .eq 5, 3), (36, .iconst 0, 1), (37, .ireturn, 1), (38, .iload_n 1, 1), (39, .istore_n 3, 1), (40, .iconst 0, 1), (41, .istore 4, 2), (43, .iload 4, 2), (45, .iload_n 2, 1), (46, .if_icmp .ge 53, 3), (49, .aload_n 0, 1), (50, .getfield 611, 3), (53, .ifCond .le 46, 3), (56, .aload_n 0, 1), (57, .getfield 644, 3), (60, .sipush 400, 3), (63, .if_icmp .ge 36, 3), (66, .iload_n 3, 1), (67, .ldc_w 686, 3), (70, .imul, 1), (71, .sipush 12345, 3), (74, .iadd, 1), (75, .istore_n 3, 1), (76, .aload_n 0, 1), (77, .iload_n 3, 1), (78, .bipush 16, 2), (80, .ishr, 1), (81, .sipush 32767, 3), (84, .iand, 1), (85, .aload_n 0, 1), (86, .getfield 611, 3), (89, .irem, 1), (90, .invokevirtual 683, 3), (93, .iinc 4 1, 3), (96, .goto (-53), 3), (99, .iload 4, 2), (101, .ireturn, 1)] = true := by decide +kernel
set_option maxRecDepth 100000 in
set_option maxHeartbeats 4000000 in
theorem sg_draw_0 {G : mG} {d : Nat} {x : gd} {P : Option gv → gd → Prop} (l1 : Int32) (l2 : Int32)
    (h : (∀ x1 : gd, x1 = si x 0 0 0 → MT G d z_noRun 0 [(0, vr 0)] [] x1 (ri (fun r3 x2 => ((¬ (r3 = (0 : Int32)) → P (some (vi 0)) x2) ∧ (r3 = (0 : Int32) → MT G d z_in 0 [(0, vi l2), (1, vi 0), (2, vi 400)] [] x2 (ri (fun r6 x5 => ((¬ (r6 = (0 : Int32)) → MT G (d + 1) z_draw 29 [(0, vr 0), (1, vi l1), (2, vi l2)] [vi 0, vr 0] x5 P) ∧ (r6 = (0 : Int32) → MT G (d + 1) z_draw 29 [(0, vr 0), (1, vi l1), (2, vi l2)] [vi 1, vr 0] x5 P)))))))))) :
    MT G (d + 1) z_draw 0 [(0, vr 0), (1, vi l1), (2, vi l2)] [] x P := by
  refine T_aload_n 0 (dk dt_draw 0 rfl) rfl rfl ?_
  refine T_iconst (v := 0) (dk dt_draw 1 rfl) (by decide +kernel) ?_
  obtain ⟨x1, ex1⟩ : ∃ z, z = si x 0 0 0 := ⟨_, rfl⟩
  have h := h x1 ex1
  refine T_putI 0 0 (dk dt_draw 2 rfl) fl_316 mk_0 ml_0 (by decide) rfl ⟨rfl, rfl⟩ ?_
  rw [← ex1]
  refine T_aload_n 0 (dk dt_draw 3 rfl) rfl rfl ?_
  refine MT_callVi [] [] rfl (dk dt_draw 4 rfl) cv_680 rfl rfl (Nat.le_of_ble_eq_true rfl) (Nat.le_of_ble_eq_true rfl) rfl rfl h (fun r3 x2 h => ?_)
  refine T_if_ne 36 (dk dt_draw 5 rfl) (by decide) (fun c4 => ?_) (fun c4 => ?_)
  · have h := h.1 c4
    refine T_iconst (v := 0) (dk dt_draw 18 rfl) (by decide +kernel) ?_
    exact MT_iret (dk dt_draw 19 rfl) rfl rfl h
  · have h := h.2 c4
    refine T_aload_n 0 (dk dt_draw 6 rfl) rfl rfl ?_
    refine T_iload_n 2 (dk dt_draw 7 rfl) rfl rfl ?_
    refine T_iconst (v := 0) (dk dt_draw 8 rfl) (by decide +kernel) ?_
    refine T_sipush (v := 400) (dk dt_draw 9 rfl) (by decide +kernel) ?_
    refine MT_callSi [vi l2, vi 0, vi 400] [vr 0] rfl (dk dt_draw 10 rfl) cs_322 rfl (Nat.le_of_ble_eq_true rfl) (Nat.le_of_ble_eq_true rfl) rfl rfl h (fun r6 x5 h => ?_)
    refine T_if_ne 28 (dk dt_draw 11 rfl) (by decide) (fun c7 => ?_) (fun c7 => ?_)
    · have h := h.1 c7
      refine T_iconst (v := 0) (dk dt_draw 14 rfl) (by decide +kernel) ?_
      exact h
    · have h := h.2 c7
      refine T_iconst (v := 1) (dk dt_draw 12 rfl) (by decide +kernel) ?_
      refine T_goto 29 (dk dt_draw 13 rfl) (by decide) ?_
      exact h
set_option maxRecDepth 100000 in
set_option maxHeartbeats 4000000 in
theorem sg_draw_29 {G : mG} {d : Nat} {x : gd} {P : Option gv → gd → Prop} (l1 : Int32) (l2 : Int32) (s0 : Int32)
    (h : MT G d z_refuses 0 [(0, vr 0), (1, vi s0), (2, vi 2)] [] x (ri (fun r2 x1 => ((r2 = (0 : Int32) → MT G (d + 1) z_draw 43 [(0, vr 0), (2, vi l2), (3, vi l1), (4, vi 0)] [] x1 P) ∧ (¬ (r2 = (0 : Int32)) → P (some (vi 0)) x1))))) :
    MT G (d + 1) z_draw 29 [(0, vr 0), (1, vi l1), (2, vi l2)] [vi s0, vr 0] x P := by
  refine T_iconst (v := 2) (dk dt_draw 15 rfl) (by decide +kernel) ?_
  refine MT_callVi [vi s0, vi 2] [] rfl (dk dt_draw 16 rfl) cv_558 rfl rfl (Nat.le_of_ble_eq_true rfl) (Nat.le_of_ble_eq_true rfl) rfl rfl h (fun r2 x1 h => ?_)
  refine T_if_eq 38 (dk dt_draw 17 rfl) (by decide) (fun c3 => ?_) (fun c3 => ?_)
  · have h := h.1 c3
    refine T_iload_n 1 (dk dt_draw 20 rfl) rfl rfl ?_
    refine T_istore_n (lv2 := [(3, vi l1), (0, vr 0), (1, vi l1), (2, vi l2)]) (dk dt_draw 21 rfl) rfl (by decide) rfl ?_
    refine T_iconst (v := 0) (dk dt_draw 22 rfl) (by decide +kernel) ?_
    refine T_istore (lv2 := [(4, vi 0), (3, vi l1), (0, vr 0), (1, vi l1), (2, vi l2)]) (dk dt_draw 23 rfl) (by decide) rfl ?_
    exact T_sub [2, 4, 1, 0] rfl h
  · have h := h.2 c3
    refine T_iconst (v := 0) (dk dt_draw 18 rfl) (by decide +kernel) ?_
    exact MT_iret (dk dt_draw 19 rfl) rfl rfl h
set_option maxRecDepth 100000 in
set_option maxHeartbeats 4000000 in
theorem sg_draw_43 {G : mG} {d : Nat} {x : gd} {P : Option gv → gd → Prop} (l2 : Int32) (l3 : Int32) (l4 : Int32)
    (h : ((l2 ≤ l4 → P (some (vi l4)) x) ∧ (¬ (l2 ≤ l4) → (((x.1 0 84) ≤ (0 : Int32) → P (some (vi l4)) x) ∧ (¬ ((x.1 0 84) ≤ (0 : Int32)) → (((400 : Int32) ≤ (x.1 0 94) → P (some (vi l4)) x) ∧ (¬ ((400 : Int32) ≤ (x.1 0 94)) → ¬ (x.1 0 84) = 0 ∧ MT G d z_doChoice 0 [(0, vr 0), (1, vi (((((l3 * 1103515245) + 12345) >>> (16 &&& 31 : Int32)) &&& 32767) - ((((l3 * 1103515245) + 12345) >>> (16 &&& 31 : Int32)) &&& 32767) / (x.1 0 84) * (x.1 0 84)))] [] x (rv (fun x5 => MT G (d + 1) z_draw 43 [(0, vr 0), (2, vi l2), (3, vi ((l3 * 1103515245) + 12345)), (4, vi (l4 + 1))] [] x5 P))))))))) :
    MT G (d + 1) z_draw 43 [(0, vr 0), (2, vi l2), (3, vi l3), (4, vi l4)] [] x P := by
  refine T_iload 3 (dk dt_draw 24 rfl) rfl ?_
  refine T_iload_n 1 (dk dt_draw 25 rfl) rfl rfl ?_
  refine T_icmp_ge 99 (dk dt_draw 26 rfl) (by decide) (fun c1 => ?_) (fun c1 => ?_)
  · have h := h.1 c1
    refine T_iload 3 (dk dt_draw 52 rfl) rfl ?_
    exact MT_iret (dk dt_draw 53 rfl) rfl rfl h
  · have h := h.2 c1
    refine T_aload_n 0 (dk dt_draw 27 rfl) rfl rfl ?_
    refine T_getI 0 84 (dk dt_draw 28 rfl) fl_611 mk_0 ml_0 (by decide) rfl ?_
    refine T_if_le 99 (dk dt_draw 29 rfl) (by decide) (fun c2 => ?_) (fun c2 => ?_)
    · have h := h.1 c2
      refine T_iload 3 (dk dt_draw 52 rfl) rfl ?_
      exact MT_iret (dk dt_draw 53 rfl) rfl rfl h
    · have h := h.2 c2
      refine T_aload_n 0 (dk dt_draw 30 rfl) rfl rfl ?_
      refine T_getI 0 94 (dk dt_draw 31 rfl) fl_644 mk_0 ml_0 (by decide) rfl ?_
      refine T_sipush (v := 400) (dk dt_draw 32 rfl) (by decide +kernel) ?_
      refine T_icmp_ge 99 (dk dt_draw 33 rfl) (by decide) (fun c3 => ?_) (fun c3 => ?_)
      · have h := h.1 c3
        refine T_iload 3 (dk dt_draw 52 rfl) rfl ?_
        exact MT_iret (dk dt_draw 53 rfl) rfl rfl h
      · have h := h.2 c3
        refine T_iload_n 2 (dk dt_draw 34 rfl) rfl rfl ?_
        refine T_ldcw (v := 1103515245) (dk dt_draw 35 rfl) kc_686 ?_
        refine T_imul (dk dt_draw 36 rfl) ?_
        refine T_sipush (v := 12345) (dk dt_draw 37 rfl) (by decide +kernel) ?_
        refine T_iadd (dk dt_draw 38 rfl) ?_
        refine T_istore_n (lv2 := [(3, vi ((l3 * 1103515245) + 12345)), (0, vr 0), (2, vi l2), (4, vi l4)]) (dk dt_draw 39 rfl) rfl (by decide) rfl ?_
        refine T_aload_n 1 (dk dt_draw 40 rfl) rfl rfl ?_
        refine T_iload_n 0 (dk dt_draw 41 rfl) rfl rfl ?_
        refine T_bipush (v := 16) (dk dt_draw 42 rfl) (by decide +kernel) ?_
        refine T_ishr (dk dt_draw 43 rfl) ?_
        refine T_sipush (v := 32767) (dk dt_draw 44 rfl) (by decide +kernel) ?_
        refine T_iand (dk dt_draw 45 rfl) ?_
        refine T_aload_n 1 (dk dt_draw 46 rfl) rfl rfl ?_
        refine T_getI 0 84 (dk dt_draw 47 rfl) fl_611 mk_0 ml_0 (by decide) rfl ?_
        obtain ⟨h4, h⟩ := h
        refine T_irem (dk dt_draw 48 rfl) h4 ?_
        refine MT_callVv [vi (((((l3 * 1103515245) + 12345) >>> (16 &&& 31 : Int32)) &&& 32767) - ((((l3 * 1103515245) + 12345) >>> (16 &&& 31 : Int32)) &&& 32767) / (x.1 0 84) * (x.1 0 84))] [] rfl (dk dt_draw 49 rfl) cv_683 rfl rfl (Nat.le_of_ble_eq_true rfl) (Nat.le_of_ble_eq_true rfl) rfl rfl h (fun x5 h => ?_)
        refine T_iinc (v := l4 + 1) (lv2 := [(4, vi (l4 + 1)), (3, vi ((l3 * 1103515245) + 12345)), (0, vr 0), (2, vi l2)]) 3 (dk dt_draw 50 rfl) rfl rfl (by decide) rfl ?_
        refine T_goto 43 (dk dt_draw 51 rfl) (by decide) ?_
        exact T_sub [2, 3, 1, 0] rfl h
set_option maxRecDepth 100000 in
theorem dt_again : dck cX12_again [(0, .aload_n 0, 1), (1, .iconst 0, 1), (2, .putfield 316, 3), (5, .aload_n 0, 1), (6, .invokevirtual 680, 3), (9, .ifCond .ne 28, 3), (12, .aload_n 0, 1), (13, .iload_n 1, 1), (14, .iconst 0, 1), (15, .aload_n 0, 1), (16, .getfield 644, 3), (19, .invokestatic 322, 3), (22, .ifCond .ne 7, 3), (25, .iconst 1, 1), (26, .goto 4, 3), (29, .iconst 0, 1), (30, .iconst 2, 1), (31, .invokevirtual 558, 3), (34, .ifCond .eq 5, 3), (37, .iconst 0, 1), (38, .ireturn, 1), (39, .aload_n 0, 1), (40, .aload_n 0, 1), (41, .getfield 608, 3), (44, .invokevirtual 677, 3), (47, .iconst 0, 1), (48, .istore_n 2, 1), (49, .iload_n 2, 1), (50, .iload_n 1, 1), (51, .if_icmp .ge 19, 3), (54, .aload_n 0, 1), (55, .aload_n 0, 1), (56, .getfield 193, 3), (59, .iload_n 2, 1), (60, .iaload, 1), (61, .invokevirtual 683, 3), (64, .iinc 2 1, 3), (67, .goto (-18), 3), (70, .aload_n 0, 1), (71, .getfield 611, 3), (74, .ireturn, 1)] = true := by decide +kernel
set_option maxRecDepth 100000 in
set_option maxHeartbeats 4000000 in
theorem sg_again_0 {G : mG} {d : Nat} {x : gd} {P : Option gv → gd → Prop} (l1 : Int32)
    (h : (∀ x1 : gd, x1 = si x 0 0 0 → MT G d z_noRun 0 [(0, vr 0)] [] x1 (ri (fun r3 x2 => ((¬ (r3 = (0 : Int32)) → P (some (vi 0)) x2) ∧ (r3 = (0 : Int32) → MT G d z_in 0 [(0, vi l1), (1, vi 0), (2, vi (x2.1 0 94))] [] x2 (ri (fun r6 x5 => ((¬ (r6 = (0 : Int32)) → MT G (d + 1) z_again 30 [(0, vr 0), (1, vi l1)] [vi 0, vr 0] x5 P) ∧ (r6 = (0 : Int32) → MT G (d + 1) z_again 30 [(0, vr 0), (1, vi l1)] [vi 1, vr 0] x5 P)))))))))) :
    MT G (d + 1) z_again 0 [(0, vr 0), (1, vi l1)] [] x P := by
  refine T_aload_n 0 (dk dt_again 0 rfl) rfl rfl ?_
  refine T_iconst (v := 0) (dk dt_again 1 rfl) (by decide +kernel) ?_
  obtain ⟨x1, ex1⟩ : ∃ z, z = si x 0 0 0 := ⟨_, rfl⟩
  have h := h x1 ex1
  refine T_putI 0 0 (dk dt_again 2 rfl) fl_316 mk_0 ml_0 (by decide) rfl ⟨rfl, rfl⟩ ?_
  rw [← ex1]
  refine T_aload_n 0 (dk dt_again 3 rfl) rfl rfl ?_
  refine MT_callVi [] [] rfl (dk dt_again 4 rfl) cv_680 rfl rfl (Nat.le_of_ble_eq_true rfl) (Nat.le_of_ble_eq_true rfl) rfl rfl h (fun r3 x2 h => ?_)
  refine T_if_ne 37 (dk dt_again 5 rfl) (by decide) (fun c4 => ?_) (fun c4 => ?_)
  · have h := h.1 c4
    refine T_iconst (v := 0) (dk dt_again 19 rfl) (by decide +kernel) ?_
    exact MT_iret (dk dt_again 20 rfl) rfl rfl h
  · have h := h.2 c4
    refine T_aload_n 0 (dk dt_again 6 rfl) rfl rfl ?_
    refine T_iload_n 1 (dk dt_again 7 rfl) rfl rfl ?_
    refine T_iconst (v := 0) (dk dt_again 8 rfl) (by decide +kernel) ?_
    refine T_aload_n 0 (dk dt_again 9 rfl) rfl rfl ?_
    refine T_getI 0 94 (dk dt_again 10 rfl) fl_644 mk_0 ml_0 (by decide) rfl ?_
    refine MT_callSi [vi l1, vi 0, vi (x2.1 0 94)] [vr 0] rfl (dk dt_again 11 rfl) cs_322 rfl (Nat.le_of_ble_eq_true rfl) (Nat.le_of_ble_eq_true rfl) rfl rfl h (fun r6 x5 h => ?_)
    refine T_if_ne 29 (dk dt_again 12 rfl) (by decide) (fun c7 => ?_) (fun c7 => ?_)
    · have h := h.1 c7
      refine T_iconst (v := 0) (dk dt_again 15 rfl) (by decide +kernel) ?_
      exact h
    · have h := h.2 c7
      refine T_iconst (v := 1) (dk dt_again 13 rfl) (by decide +kernel) ?_
      refine T_goto 30 (dk dt_again 14 rfl) (by decide) ?_
      exact h
set_option maxRecDepth 100000 in
set_option maxHeartbeats 4000000 in
theorem sg_again_30 {G : mG} {d : Nat} {x : gd} {P : Option gv → gd → Prop} (l1 : Int32) (s0 : Int32)
    (h : MT G d z_refuses 0 [(0, vr 0), (1, vi s0), (2, vi 2)] [] x (ri (fun r2 x1 => ((r2 = (0 : Int32) → MT G d z_startRun 0 [(0, vr 0), (1, vi (x1.1 0 68))] [] x1 (rv (fun x4 => MT G (d + 1) z_again 49 [(0, vr 0), (1, vi l1), (2, vi 0)] [] x4 P))) ∧ (¬ (r2 = (0 : Int32)) → P (some (vi 0)) x1))))) :
    MT G (d + 1) z_again 30 [(0, vr 0), (1, vi l1)] [vi s0, vr 0] x P := by
  refine T_iconst (v := 2) (dk dt_again 16 rfl) (by decide +kernel) ?_
  refine MT_callVi [vi s0, vi 2] [] rfl (dk dt_again 17 rfl) cv_558 rfl rfl (Nat.le_of_ble_eq_true rfl) (Nat.le_of_ble_eq_true rfl) rfl rfl h (fun r2 x1 h => ?_)
  refine T_if_eq 39 (dk dt_again 18 rfl) (by decide) (fun c3 => ?_) (fun c3 => ?_)
  · have h := h.1 c3
    refine T_aload_n 0 (dk dt_again 21 rfl) rfl rfl ?_
    refine T_aload_n 0 (dk dt_again 22 rfl) rfl rfl ?_
    refine T_getI 0 68 (dk dt_again 23 rfl) fl_608 mk_0 ml_0 (by decide) rfl ?_
    refine MT_callVv [vi (x1.1 0 68)] [] rfl (dk dt_again 24 rfl) cv_677 rfl rfl (Nat.le_of_ble_eq_true rfl) (Nat.le_of_ble_eq_true rfl) rfl rfl h (fun x4 h => ?_)
    refine T_iconst (v := 0) (dk dt_again 25 rfl) (by decide +kernel) ?_
    refine T_istore_n (lv2 := [(2, vi 0), (0, vr 0), (1, vi l1)]) (dk dt_again 26 rfl) rfl (by decide) rfl ?_
    exact T_sub [1, 2, 0] rfl h
  · have h := h.2 c3
    refine T_iconst (v := 0) (dk dt_again 19 rfl) (by decide +kernel) ?_
    exact MT_iret (dk dt_again 20 rfl) rfl rfl h
set_option maxRecDepth 100000 in
set_option maxHeartbeats 4000000 in
theorem sg_again_49 {G : mG} {d : Nat} {x : gd} {P : Option gv → gd → Prop} (l1 : Int32) (l2 : Int32)
    (h : ((l1 ≤ l2 → P (some (vi (x.1 0 84))) x) ∧ (¬ (l1 ≤ l2) → vp_in l2 400 ∧ MT G d z_doChoice 0 [(0, vr 0), (1, vi (x.1 96 (l2 : Int32).toNatClampNeg))] [] x (rv (fun x3 => MT G (d + 1) z_again 49 [(0, vr 0), (1, vi l1), (2, vi (l2 + 1))] [] x3 P))))) :
    MT G (d + 1) z_again 49 [(0, vr 0), (1, vi l1), (2, vi l2)] [] x P := by
  refine T_iload_n 2 (dk dt_again 27 rfl) rfl rfl ?_
  refine T_iload_n 1 (dk dt_again 28 rfl) rfl rfl ?_
  refine T_icmp_ge 70 (dk dt_again 29 rfl) (by decide) (fun c1 => ?_) (fun c1 => ?_)
  · have h := h.1 c1
    refine T_aload_n 0 (dk dt_again 38 rfl) rfl rfl ?_
    refine T_getI 0 84 (dk dt_again 39 rfl) fl_611 mk_0 ml_0 (by decide) rfl ?_
    exact MT_iret (dk dt_again 40 rfl) rfl rfl h
  · have h := h.2 c1
    refine T_aload_n 0 (dk dt_again 30 rfl) rfl rfl ?_
    refine T_aload_n 0 (dk dt_again 31 rfl) rfl rfl ?_
    refine T_getR 0 95 96 (dk dt_again 32 rfl) fl_193 mk_0 ml_0 (by decide) rfl rfl ?_
    refine T_iload_n 2 (dk dt_again 33 rfl) rfl rfl ?_
    obtain ⟨h2, h⟩ := h
    refine T_iald 96 400 (dk dt_again 34 rfl) mk_96 ml_96 h2 ?_
    refine MT_callVv [vi (x.1 96 (l2 : Int32).toNatClampNeg)] [] rfl (dk dt_again 35 rfl) cv_683 rfl rfl (Nat.le_of_ble_eq_true rfl) (Nat.le_of_ble_eq_true rfl) rfl rfl h (fun x3 h => ?_)
    refine T_iinc (v := l2 + 1) (lv2 := [(2, vi (l2 + 1)), (0, vr 0), (1, vi l1)]) 2 (dk dt_again 36 rfl) rfl rfl (by decide) rfl ?_
    refine T_goto 49 (dk dt_again 37 rfl) (by decide) ?_
    exact T_sub [1, 2, 0] rfl h
set_option maxRecDepth 100000 in
theorem dt_run : dck cX12_run [(0, .aload_n 0, 1), (1, .iconst 0, 1), (2, .putfield 316, 3), (5, .aload_n 0, 1), (6, .invokevirtual 680, 3), (9, .ifCond .ne 26, 3), (12, .aload_n 0, 1), (13, .iload_n 1, 1), (14, .iconst 0, 1), (15, .bipush 7, 2), (17, .invokestatic 322, 3), (20, .ifCond .ne 7, 3), (23, .iconst 1, 1), (24, .goto 4, 3), (27, .iconst 0, 1), (28, .iconst 2, 1), (29, .invokevirtual 558, 3), (32, .ifCond .eq 5, 3), (35, .iconst 0, 1), (36, .ireturn, 1), (37, .iconst 0, 1), (38, .istore_n 2, 1), (39, .iload_n 1, 1), (40, .tableswitch 178 0 6 #[44, 49, 54, 59, 75, 83, 129], 44), (84, .aload_n 0, 1), (85, .getfield 608, 3), (88, .ireturn, 1), (89, .aload_n 0, 1), (90, .getfield 644, 3), (93, .ireturn, 1), (94, .aload_n 0, 1), (95, .getfield 647, 3), (98, .ireturn, 1), (99, .aload_n 0, 1), (100, .getfield 611, 3), (103, .ifCond .ne 7, 3), (106, .iconst 1, 1), (107, .goto 4, 3), (110, .iconst 0, 1), (111, .invokestatic 587, 3), (114, .ireturn, 1), (115, .aload_n 0, 1), (116, .invokevirtual 687, 3), (119, .invokestatic 587, 3), (122, .ireturn, 1), (123, .iconst 0, 1), (124, .istore_n 3, 1), (125, .iload_n 3, 1), (126, .aload_n 0, 1), (127, .getfield 647, 3), (130, .if_icmp .ge 37, 3), (133, .iconst 0, 1), (134, .istore 4, 2), (136, .iload 4, 2), (138, .iload_n 3, 1), (139, .if_icmp .ge 22, 3), (142, .iload_n 2, 1), (143, .aload_n 0, 1), (144, .iload 4, 2), (146, .iload_n 3, 1), (147, .invokevirtual 690, 3), (150, .invokestatic 587, 3), (153, .iadd, 1), (154, .istore_n 2, 1), (155, .iinc 4 1, 3), (158, .goto (-22), 3), (161, .iinc 3 1, 3), (164, .goto (-39), 3), (167, .iload_n 2, 1), (168, .ireturn, 1), (169, .iconst 0, 1), (170, .istore_n 3, 1), (171, .iload_n 3, 1), (172, .aload_n 0, 1), (173, .getfield 647, 3), (176, .if_icmp .ge 40, 3), (179, .iload_n 2, 1), (180, .aload_n 0, 1), (181, .getfield 199, 3), (184, .iload_n 3, 1), (185, .iaload, 1), (186, .bipush 13, 2), (188, .if_icmp .ne 16, 3), (191, .aload_n 0, 1), (192, .getfield 211, 3), (195, .iload_n 3, 1), (196, .baload, 1), (197, .ifCond .ne 7, 3), (200, .iconst 1, 1), (201, .goto 4, 3), (204, .iconst 0, 1), (205, .invokestatic 587, 3), (208, .iadd, 1), (209, .istore_n 2, 1), (210, .iinc 3 1, 3), (213, .goto (-42), 3), (216, .iload_n 2, 1), (217, .ireturn, 1), (218, .iconst 0, 1), (219, .istore_n 3, 1), (220, .iload_n 3, 1), (221, .aload_n 0, 1), (222, .getfield 461, 3), (225, .if_icmp .ge 18, 3), (228, .iload_n 2, 1), (229, .aload_n 0, 1), (230, .getfield 172, 3), (233, .iload_n 3, 1), (234, .iaload, 1), (235, .iadd, 1), (236, .istore_n 2, 1), (237, .iinc 3 1, 3), (240, .goto (-20), 3), (243, .iload_n 2, 1), (244, .ireturn, 1)] = true := by decide +kernel
set_option maxRecDepth 100000 in
set_option maxHeartbeats 4000000 in
theorem sg_run_0 {G : mG} {d : Nat} {x : gd} {P : Option gv → gd → Prop} (l1 : Int32)
    (h : (∀ x1 : gd, x1 = si x 0 0 0 → MT G d z_noRun 0 [(0, vr 0)] [] x1 (ri (fun r3 x2 => ((¬ (r3 = (0 : Int32)) → P (some (vi 0)) x2) ∧ (r3 = (0 : Int32) → MT G d z_in 0 [(0, vi l1), (1, vi 0), (2, vi 7)] [] x2 (ri (fun r6 x5 => ((¬ (r6 = (0 : Int32)) → MT G (d + 1) z_run 28 [(0, vr 0), (1, vi l1)] [vi 0, vr 0] x5 P) ∧ (r6 = (0 : Int32) → MT G (d + 1) z_run 28 [(0, vr 0), (1, vi l1)] [vi 1, vr 0] x5 P)))))))))) :
    MT G (d + 1) z_run 0 [(0, vr 0), (1, vi l1)] [] x P := by
  refine T_aload_n 0 (dk dt_run 0 rfl) rfl rfl ?_
  refine T_iconst (v := 0) (dk dt_run 1 rfl) (by decide +kernel) ?_
  obtain ⟨x1, ex1⟩ : ∃ z, z = si x 0 0 0 := ⟨_, rfl⟩
  have h := h x1 ex1
  refine T_putI 0 0 (dk dt_run 2 rfl) fl_316 mk_0 ml_0 (by decide) rfl ⟨rfl, rfl⟩ ?_
  rw [← ex1]
  refine T_aload_n 0 (dk dt_run 3 rfl) rfl rfl ?_
  refine MT_callVi [] [] rfl (dk dt_run 4 rfl) cv_680 rfl rfl (Nat.le_of_ble_eq_true rfl) (Nat.le_of_ble_eq_true rfl) rfl rfl h (fun r3 x2 h => ?_)
  refine T_if_ne 35 (dk dt_run 5 rfl) (by decide) (fun c4 => ?_) (fun c4 => ?_)
  · have h := h.1 c4
    refine T_iconst (v := 0) (dk dt_run 18 rfl) (by decide +kernel) ?_
    exact MT_iret (dk dt_run 19 rfl) rfl rfl h
  · have h := h.2 c4
    refine T_aload_n 0 (dk dt_run 6 rfl) rfl rfl ?_
    refine T_iload_n 1 (dk dt_run 7 rfl) rfl rfl ?_
    refine T_iconst (v := 0) (dk dt_run 8 rfl) (by decide +kernel) ?_
    refine T_bipush (v := 7) (dk dt_run 9 rfl) (by decide +kernel) ?_
    refine MT_callSi [vi l1, vi 0, vi 7] [vr 0] rfl (dk dt_run 10 rfl) cs_322 rfl (Nat.le_of_ble_eq_true rfl) (Nat.le_of_ble_eq_true rfl) rfl rfl h (fun r6 x5 h => ?_)
    refine T_if_ne 27 (dk dt_run 11 rfl) (by decide) (fun c7 => ?_) (fun c7 => ?_)
    · have h := h.1 c7
      refine T_iconst (v := 0) (dk dt_run 14 rfl) (by decide +kernel) ?_
      exact h
    · have h := h.2 c7
      refine T_iconst (v := 1) (dk dt_run 12 rfl) (by decide +kernel) ?_
      refine T_goto 28 (dk dt_run 13 rfl) (by decide) ?_
      exact h
set_option maxRecDepth 100000 in
set_option maxHeartbeats 4000000 in
theorem sg_run_28 {G : mG} {d : Nat} {x : gd} {P : Option gv → gd → Prop} (l1 : Int32) (s0 : Int32)
    (h : MT G d z_refuses 0 [(0, vr 0), (1, vi s0), (2, vi 2)] [] x (ri (fun r2 x1 => ((r2 = (0 : Int32) → (((l1 = 0) → P (some (vi (x1.1 0 68))) x1) ∧ ((l1 = 1) → P (some (vi (x1.1 0 94))) x1) ∧ ((l1 = 2) → P (some (vi (x1.1 0 96))) x1) ∧ ((l1 = 3) → ((¬ ((x1.1 0 84) = (0 : Int32)) → MT G (d + 1) z_run 111 [(0, vr 0)] [vi 0] x1 P) ∧ ((x1.1 0 84) = (0 : Int32) → MT G (d + 1) z_run 111 [(0, vr 0)] [vi 1] x1 P))) ∧ ((l1 = 4) → MT G d z_isStuck 0 [(0, vr 0)] [] x1 (ri (fun r11 x10 => MT G d z_one 0 [(0, vi r11)] [] x10 (ri (fun r13 x12 => P (some (vi r13)) x12))))) ∧ ((l1 = 5) → MT G (d + 1) z_run 125 [(0, vr 0), (2, vi 0), (3, vi 0)] [] x1 P) ∧ ((l1 = 6) → MT G (d + 1) z_run 171 [(0, vr 0), (2, vi 0), (3, vi 0)] [] x1 P) ∧ ((∀ k ∈ [(0 : Int32), (1 : Int32), (2 : Int32), (3 : Int32), (4 : Int32), (5 : Int32), (6 : Int32)], ¬ l1 = k) → MT G (d + 1) z_run 220 [(0, vr 0), (2, vi 0), (3, vi 0)] [] x1 P))) ∧ (¬ (r2 = (0 : Int32)) → P (some (vi 0)) x1))))) :
    MT G (d + 1) z_run 28 [(0, vr 0), (1, vi l1)] [vi s0, vr 0] x P := by
  refine T_iconst (v := 2) (dk dt_run 15 rfl) (by decide +kernel) ?_
  refine MT_callVi [vi s0, vi 2] [] rfl (dk dt_run 16 rfl) cv_558 rfl rfl (Nat.le_of_ble_eq_true rfl) (Nat.le_of_ble_eq_true rfl) rfl rfl h (fun r2 x1 h => ?_)
  refine T_if_eq 37 (dk dt_run 17 rfl) (by decide) (fun c3 => ?_) (fun c3 => ?_)
  · have h := h.1 c3
    refine T_iconst (v := 0) (dk dt_run 20 rfl) (by decide +kernel) ?_
    refine T_istore_n (lv2 := [(2, vi 0), (0, vr 0), (1, vi l1)]) (dk dt_run 21 rfl) rfl (by decide) rfl ?_
    refine T_iload_n 2 (dk dt_run 22 rfl) rfl rfl ?_
    by_cases c4 : l1 = 0
    · have h := h.1 c4
      refine T_table 44 84 (dk dt_run 23 rfl) (by decide) (by rw [c4]; decide +kernel) (by decide) ?_
      refine T_aload_n 1 (dk dt_run 24 rfl) rfl rfl ?_
      refine T_getI 0 68 (dk dt_run 25 rfl) fl_608 mk_0 ml_0 (by decide) rfl ?_
      exact MT_iret (dk dt_run 26 rfl) rfl rfl h
    · have h := h.2
      by_cases c5 : l1 = 1
      · have h := h.1 c5
        refine T_table 49 89 (dk dt_run 23 rfl) (by decide) (by rw [c5]; decide +kernel) (by decide) ?_
        refine T_aload_n 1 (dk dt_run 27 rfl) rfl rfl ?_
        refine T_getI 0 94 (dk dt_run 28 rfl) fl_644 mk_0 ml_0 (by decide) rfl ?_
        exact MT_iret (dk dt_run 29 rfl) rfl rfl h
      · have h := h.2
        by_cases c6 : l1 = 2
        · have h := h.1 c6
          refine T_table 54 94 (dk dt_run 23 rfl) (by decide) (by rw [c6]; decide +kernel) (by decide) ?_
          refine T_aload_n 1 (dk dt_run 30 rfl) rfl rfl ?_
          refine T_getI 0 96 (dk dt_run 31 rfl) fl_647 mk_0 ml_0 (by decide) rfl ?_
          exact MT_iret (dk dt_run 32 rfl) rfl rfl h
        · have h := h.2
          by_cases c7 : l1 = 3
          · have h := h.1 c7
            refine T_table 59 99 (dk dt_run 23 rfl) (by decide) (by rw [c7]; decide +kernel) (by decide) ?_
            refine T_aload_n 1 (dk dt_run 33 rfl) rfl rfl ?_
            refine T_getI 0 84 (dk dt_run 34 rfl) fl_611 mk_0 ml_0 (by decide) rfl ?_
            refine T_if_ne 110 (dk dt_run 35 rfl) (by decide) (fun c8 => ?_) (fun c8 => ?_)
            · have h := h.1 c8
              refine T_iconst (v := 0) (dk dt_run 38 rfl) (by decide +kernel) ?_
              exact T_sub [1] rfl h
            · have h := h.2 c8
              refine T_iconst (v := 1) (dk dt_run 36 rfl) (by decide +kernel) ?_
              refine T_goto 111 (dk dt_run 37 rfl) (by decide) ?_
              exact T_sub [1] rfl h
          · have h := h.2
            by_cases c9 : l1 = 4
            · have h := h.1 c9
              refine T_table 75 115 (dk dt_run 23 rfl) (by decide) (by rw [c9]; decide +kernel) (by decide) ?_
              refine T_aload_n 1 (dk dt_run 41 rfl) rfl rfl ?_
              refine MT_callVi [] [] rfl (dk dt_run 42 rfl) cv_687 rfl rfl (Nat.le_of_ble_eq_true rfl) (Nat.le_of_ble_eq_true rfl) rfl rfl h (fun r11 x10 h => ?_)
              refine MT_callSi [vi r11] [] rfl (dk dt_run 43 rfl) cs_587 rfl (Nat.le_of_ble_eq_true rfl) (Nat.le_of_ble_eq_true rfl) rfl rfl h (fun r13 x12 h => ?_)
              exact MT_iret (dk dt_run 44 rfl) rfl rfl h
            · have h := h.2
              by_cases c14 : l1 = 5
              · have h := h.1 c14
                refine T_table 83 123 (dk dt_run 23 rfl) (by decide) (by rw [c14]; decide +kernel) (by decide) ?_
                refine T_iconst (v := 0) (dk dt_run 45 rfl) (by decide +kernel) ?_
                refine T_istore_n (lv2 := [(3, vi 0), (2, vi 0), (0, vr 0), (1, vi l1)]) (dk dt_run 46 rfl) rfl (by decide) rfl ?_
                exact T_sub [2, 1, 0] rfl h
              · have h := h.2
                by_cases c15 : l1 = 6
                · have h := h.1 c15
                  refine T_table 129 169 (dk dt_run 23 rfl) (by decide) (by rw [c15]; decide +kernel) (by decide) ?_
                  refine T_iconst (v := 0) (dk dt_run 70 rfl) (by decide +kernel) ?_
                  refine T_istore_n (lv2 := [(3, vi 0), (2, vi 0), (0, vr 0), (1, vi l1)]) (dk dt_run 71 rfl) rfl (by decide) rfl ?_
                  exact T_sub [2, 1, 0] rfl h
                · have h := h.2
                  have n16 : ∀ k ∈ [(0 : Int32), (1 : Int32), (2 : Int32), (3 : Int32), (4 : Int32), (5 : Int32), (6 : Int32)], ¬ l1 = k := (gno c4 (gno c5 (gno c6 (gno c7 (gno c9 (gno c14 (gno c15 gno0)))))))
                  have h := h n16
                  refine T_table 178 218 (dk dt_run 23 rfl) (by decide) (gtab_d [(0 : Int32), (1 : Int32), (2 : Int32), (3 : Int32), (4 : Int32), (5 : Int32), (6 : Int32)] (by decide +kernel) n16) (by decide) ?_
                  refine T_iconst (v := 0) (dk dt_run 98 rfl) (by decide +kernel) ?_
                  refine T_istore_n (lv2 := [(3, vi 0), (2, vi 0), (0, vr 0), (1, vi l1)]) (dk dt_run 99 rfl) rfl (by decide) rfl ?_
                  exact T_sub [2, 1, 0] rfl h
  · have h := h.2 c3
    refine T_iconst (v := 0) (dk dt_run 18 rfl) (by decide +kernel) ?_
    exact MT_iret (dk dt_run 19 rfl) rfl rfl h
set_option maxRecDepth 100000 in
set_option maxHeartbeats 4000000 in
theorem sg_run_111 {G : mG} {d : Nat} {x : gd} {P : Option gv → gd → Prop} (s0 : Int32)
    (h : MT G d z_one 0 [(0, vi s0)] [] x (ri (fun r2 x1 => P (some (vi r2)) x1))) :
    MT G (d + 1) z_run 111 [(0, vr 0)] [vi s0] x P := by
  refine MT_callSi [vi s0] [] rfl (dk dt_run 39 rfl) cs_587 rfl (Nat.le_of_ble_eq_true rfl) (Nat.le_of_ble_eq_true rfl) rfl rfl h (fun r2 x1 h => ?_)
  exact MT_iret (dk dt_run 40 rfl) rfl rfl h
set_option maxRecDepth 100000 in
set_option maxHeartbeats 4000000 in
theorem sg_run_125 {G : mG} {d : Nat} {x : gd} {P : Option gv → gd → Prop} (l2 : Int32) (l3 : Int32)
    (h : (((x.1 0 96) ≤ l3 → P (some (vi l2)) x) ∧ (¬ ((x.1 0 96) ≤ l3) → MT G (d + 1) z_run 136 [(0, vr 0), (2, vi l2), (3, vi l3), (4, vi 0)] [] x P))) :
    MT G (d + 1) z_run 125 [(0, vr 0), (2, vi l2), (3, vi l3)] [] x P := by
  refine T_iload_n 2 (dk dt_run 47 rfl) rfl rfl ?_
  refine T_aload_n 0 (dk dt_run 48 rfl) rfl rfl ?_
  refine T_getI 0 96 (dk dt_run 49 rfl) fl_647 mk_0 ml_0 (by decide) rfl ?_
  refine T_icmp_ge 167 (dk dt_run 50 rfl) (by decide) (fun c1 => ?_) (fun c1 => ?_)
  · have h := h.1 c1
    refine T_iload_n 1 (dk dt_run 68 rfl) rfl rfl ?_
    exact MT_iret (dk dt_run 69 rfl) rfl rfl h
  · have h := h.2 c1
    refine T_iconst (v := 0) (dk dt_run 51 rfl) (by decide +kernel) ?_
    refine T_istore (lv2 := [(4, vi 0), (0, vr 0), (2, vi l2), (3, vi l3)]) (dk dt_run 52 rfl) (by decide) rfl ?_
    exact T_sub [1, 2, 3, 0] rfl h
set_option maxRecDepth 100000 in
set_option maxHeartbeats 4000000 in
theorem sg_run_136 {G : mG} {d : Nat} {x : gd} {P : Option gv → gd → Prop} (l2 : Int32) (l3 : Int32) (l4 : Int32)
    (h : ((l3 ≤ l4 → MT G (d + 1) z_run 125 [(0, vr 0), (2, vi l2), (3, vi (l3 + 1))] [] x P) ∧ (¬ (l3 ≤ l4) → MT G d z_isRace 0 [(0, vr 0), (1, vi l4), (2, vi l3)] [] x (ri (fun r3 x2 => MT G d z_one 0 [(0, vi r3)] [] x2 (ri (fun r5 x4 => MT G (d + 1) z_run 136 [(0, vr 0), (2, vi (l2 + r5)), (3, vi l3), (4, vi (l4 + 1))] [] x4 P))))))) :
    MT G (d + 1) z_run 136 [(0, vr 0), (2, vi l2), (3, vi l3), (4, vi l4)] [] x P := by
  refine T_iload 3 (dk dt_run 53 rfl) rfl ?_
  refine T_iload_n 2 (dk dt_run 54 rfl) rfl rfl ?_
  refine T_icmp_ge 161 (dk dt_run 55 rfl) (by decide) (fun c1 => ?_) (fun c1 => ?_)
  · have h := h.1 c1
    refine T_iinc (v := l3 + 1) (lv2 := [(3, vi (l3 + 1)), (0, vr 0), (2, vi l2), (4, vi l4)]) 2 (dk dt_run 66 rfl) rfl rfl (by decide) rfl ?_
    refine T_goto 125 (dk dt_run 67 rfl) (by decide) ?_
    exact T_sub [1, 2, 0] rfl h
  · have h := h.2 c1
    refine T_iload_n 1 (dk dt_run 56 rfl) rfl rfl ?_
    refine T_aload_n 0 (dk dt_run 57 rfl) rfl rfl ?_
    refine T_iload 3 (dk dt_run 58 rfl) rfl ?_
    refine T_iload_n 2 (dk dt_run 59 rfl) rfl rfl ?_
    refine MT_callVi [vi l4, vi l3] [vi l2] rfl (dk dt_run 60 rfl) cv_690 rfl rfl (Nat.le_of_ble_eq_true rfl) (Nat.le_of_ble_eq_true rfl) rfl rfl h (fun r3 x2 h => ?_)
    refine MT_callSi [vi r3] [vi l2] rfl (dk dt_run 61 rfl) cs_587 rfl (Nat.le_of_ble_eq_true rfl) (Nat.le_of_ble_eq_true rfl) rfl rfl h (fun r5 x4 h => ?_)
    refine T_iadd (dk dt_run 62 rfl) ?_
    refine T_istore_n (lv2 := [(2, vi (l2 + r5)), (0, vr 0), (3, vi l3), (4, vi l4)]) (dk dt_run 63 rfl) rfl (by decide) rfl ?_
    refine T_iinc (v := l4 + 1) (lv2 := [(4, vi (l4 + 1)), (2, vi (l2 + r5)), (0, vr 0), (3, vi l3)]) 3 (dk dt_run 64 rfl) rfl rfl (by decide) rfl ?_
    refine T_goto 136 (dk dt_run 65 rfl) (by decide) ?_
    exact T_sub [2, 1, 3, 0] rfl h
set_option maxRecDepth 100000 in
set_option maxHeartbeats 4000000 in
theorem sg_run_171 {G : mG} {d : Nat} {x : gd} {P : Option gv → gd → Prop} (l2 : Int32) (l3 : Int32)
    (h : (((x.1 0 96) ≤ l3 → P (some (vi l2)) x) ∧ (¬ ((x.1 0 96) ≤ l3) → vp_in l3 400 ∧ ((¬ ((x.1 99 (l3 : Int32).toNatClampNeg) = (13 : Int32)) → MT G (d + 1) z_run 205 [(0, vr 0), (3, vi l3)] [vi 0, vi l2] x P) ∧ ((x.1 99 (l3 : Int32).toNatClampNeg) = (13 : Int32) → vp_in l3 400 ∧ ((¬ ((x.1 103 (l3 : Int32).toNatClampNeg) = (0 : Int32)) → MT G (d + 1) z_run 205 [(0, vr 0), (3, vi l3)] [vi 0, vi l2] x P) ∧ ((x.1 103 (l3 : Int32).toNatClampNeg) = (0 : Int32) → MT G (d + 1) z_run 205 [(0, vr 0), (3, vi l3)] [vi 1, vi l2] x P))))))) :
    MT G (d + 1) z_run 171 [(0, vr 0), (2, vi l2), (3, vi l3)] [] x P := by
  refine T_iload_n 2 (dk dt_run 72 rfl) rfl rfl ?_
  refine T_aload_n 0 (dk dt_run 73 rfl) rfl rfl ?_
  refine T_getI 0 96 (dk dt_run 74 rfl) fl_647 mk_0 ml_0 (by decide) rfl ?_
  refine T_icmp_ge 216 (dk dt_run 75 rfl) (by decide) (fun c1 => ?_) (fun c1 => ?_)
  · have h := h.1 c1
    refine T_iload_n 1 (dk dt_run 96 rfl) rfl rfl ?_
    exact MT_iret (dk dt_run 97 rfl) rfl rfl h
  · have h := h.2 c1
    refine T_iload_n 1 (dk dt_run 76 rfl) rfl rfl ?_
    refine T_aload_n 0 (dk dt_run 77 rfl) rfl rfl ?_
    refine T_getR 0 98 99 (dk dt_run 78 rfl) fl_199 mk_0 ml_0 (by decide) rfl rfl ?_
    refine T_iload_n 2 (dk dt_run 79 rfl) rfl rfl ?_
    obtain ⟨h2, h⟩ := h
    refine T_iald 99 400 (dk dt_run 80 rfl) mk_99 ml_99 h2 ?_
    refine T_bipush (v := 13) (dk dt_run 81 rfl) (by decide +kernel) ?_
    refine T_icmp_ne 204 (dk dt_run 82 rfl) (by decide) (fun c3 => ?_) (fun c3 => ?_)
    · have h := h.1 c3
      refine T_iconst (v := 0) (dk dt_run 90 rfl) (by decide +kernel) ?_
      exact T_sub [0, 2] rfl h
    · have h := h.2 c3
      refine T_aload_n 0 (dk dt_run 83 rfl) rfl rfl ?_
      refine T_getR 0 102 103 (dk dt_run 84 rfl) fl_211 mk_0 ml_0 (by decide) rfl rfl ?_
      refine T_iload_n 2 (dk dt_run 85 rfl) rfl rfl ?_
      obtain ⟨h4, h⟩ := h
      refine T_zald 103 400 (dk dt_run 86 rfl) mk_103 ml_103 h4 ?_
      refine T_if_ne 204 (dk dt_run 87 rfl) (by decide) (fun c5 => ?_) (fun c5 => ?_)
      · have h := h.1 c5
        refine T_iconst (v := 0) (dk dt_run 90 rfl) (by decide +kernel) ?_
        exact T_sub [0, 2] rfl h
      · have h := h.2 c5
        refine T_iconst (v := 1) (dk dt_run 88 rfl) (by decide +kernel) ?_
        refine T_goto 205 (dk dt_run 89 rfl) (by decide) ?_
        exact T_sub [0, 2] rfl h
set_option maxRecDepth 100000 in
set_option maxHeartbeats 4000000 in
theorem sg_run_205 {G : mG} {d : Nat} {x : gd} {P : Option gv → gd → Prop} (l3 : Int32) (s0 : Int32) (s1 : Int32)
    (h : MT G d z_one 0 [(0, vi s0)] [] x (ri (fun r2 x1 => MT G (d + 1) z_run 171 [(0, vr 0), (2, vi (s1 + r2)), (3, vi (l3 + 1))] [] x1 P))) :
    MT G (d + 1) z_run 205 [(0, vr 0), (3, vi l3)] [vi s0, vi s1] x P := by
  refine MT_callSi [vi s0] [vi s1] rfl (dk dt_run 91 rfl) cs_587 rfl (Nat.le_of_ble_eq_true rfl) (Nat.le_of_ble_eq_true rfl) rfl rfl h (fun r2 x1 h => ?_)
  refine T_iadd (dk dt_run 92 rfl) ?_
  refine T_istore_n (lv2 := [(2, vi (s1 + r2)), (0, vr 0), (3, vi l3)]) (dk dt_run 93 rfl) rfl (by decide) rfl ?_
  refine T_iinc (v := l3 + 1) (lv2 := [(3, vi (l3 + 1)), (2, vi (s1 + r2)), (0, vr 0)]) 2 (dk dt_run 94 rfl) rfl rfl (by decide) rfl ?_
  refine T_goto 171 (dk dt_run 95 rfl) (by decide) ?_
  exact T_sub [2, 1, 0] rfl h
set_option maxRecDepth 100000 in
set_option maxHeartbeats 4000000 in
theorem sg_run_220 {G : mG} {d : Nat} {x : gd} {P : Option gv → gd → Prop} (l2 : Int32) (l3 : Int32)
    (h : (((x.1 0 25) ≤ l3 → P (some (vi l2)) x) ∧ (¬ ((x.1 0 25) ≤ l3) → vp_in l3 6 ∧ MT G (d + 1) z_run 220 [(0, vr 0), (2, vi (l2 + (x.1 80 (l3 : Int32).toNatClampNeg))), (3, vi (l3 + 1))] [] x P))) :
    MT G (d + 1) z_run 220 [(0, vr 0), (2, vi l2), (3, vi l3)] [] x P := by
  refine T_iload_n 2 (dk dt_run 100 rfl) rfl rfl ?_
  refine T_aload_n 0 (dk dt_run 101 rfl) rfl rfl ?_
  refine T_getI 0 25 (dk dt_run 102 rfl) fl_461 mk_0 ml_0 (by decide) rfl ?_
  refine T_icmp_ge 243 (dk dt_run 103 rfl) (by decide) (fun c1 => ?_) (fun c1 => ?_)
  · have h := h.1 c1
    refine T_iload_n 1 (dk dt_run 113 rfl) rfl rfl ?_
    exact MT_iret (dk dt_run 114 rfl) rfl rfl h
  · have h := h.2 c1
    refine T_iload_n 1 (dk dt_run 104 rfl) rfl rfl ?_
    refine T_aload_n 0 (dk dt_run 105 rfl) rfl rfl ?_
    refine T_getR 0 79 80 (dk dt_run 106 rfl) fl_172 mk_0 ml_0 (by decide) rfl rfl ?_
    refine T_iload_n 2 (dk dt_run 107 rfl) rfl rfl ?_
    obtain ⟨h2, h⟩ := h
    refine T_iald 80 6 (dk dt_run 108 rfl) mk_80 ml_80 h2 ?_
    refine T_iadd (dk dt_run 109 rfl) ?_
    refine T_istore_n (lv2 := [(2, vi (l2 + (x.1 80 (l3 : Int32).toNatClampNeg))), (0, vr 0), (3, vi l3)]) (dk dt_run 110 rfl) rfl (by decide) rfl ?_
    refine T_iinc (v := l3 + 1) (lv2 := [(3, vi (l3 + 1)), (2, vi (l2 + (x.1 80 (l3 : Int32).toNatClampNeg))), (0, vr 0)]) 2 (dk dt_run 111 rfl) rfl rfl (by decide) rfl ?_
    refine T_goto 220 (dk dt_run 112 rfl) (by decide) ?_
    exact T_sub [2, 1, 0] rfl h
set_option maxRecDepth 100000 in
theorem dt_cell : dck cX12_cell [(0, .aload_n 0, 1), (1, .iconst 0, 1), (2, .putfield 316, 3), (5, .aload_n 0, 1), (6, .invokevirtual 680, 3), (9, .ifCond .ne 30, 3), (12, .aload_n 0, 1), (13, .iload_n 1, 1), (14, .iconst 0, 1), (15, .aload_n 0, 1), (16, .getfield 448, 3), (19, .iconst 1, 1), (20, .isub, 1), (21, .invokestatic 322, 3), (24, .ifCond .ne 7, 3), (27, .iconst 1, 1), (28, .goto 4, 3), (31, .iconst 0, 1), (32, .iconst 2, 1), (33, .invokevirtual 558, 3), (36, .ifCond .eq 7, 3), (39, .iconst 0, 1), (40, .goto 9, 3), (43, .aload_n 0, 1), (44, .getfield 142, 3), (47, .iload_n 1, 1), (48, .iaload, 1), (49, .ireturn, 1)] = true := by decide +kernel
set_option maxRecDepth 100000 in
set_option maxHeartbeats 4000000 in
theorem sg_cell_0 {G : mG} {d : Nat} {x : gd} {P : Option gv → gd → Prop} (l1 : Int32)
    (h : (∀ x1 : gd, x1 = si x 0 0 0 → MT G d z_noRun 0 [(0, vr 0)] [] x1 (ri (fun r3 x2 => ((¬ (r3 = (0 : Int32)) → P (some (vi 0)) x2) ∧ (r3 = (0 : Int32) → MT G d z_in 0 [(0, vi l1), (1, vi 0), (2, vi ((x2.1 0 23) - 1))] [] x2 (ri (fun r6 x5 => ((¬ (r6 = (0 : Int32)) → MT G (d + 1) z_cell 32 [(0, vr 0), (1, vi l1)] [vi 0, vr 0] x5 P) ∧ (r6 = (0 : Int32) → MT G (d + 1) z_cell 32 [(0, vr 0), (1, vi l1)] [vi 1, vr 0] x5 P)))))))))) :
    MT G (d + 1) z_cell 0 [(0, vr 0), (1, vi l1)] [] x P := by
  refine T_aload_n 0 (dk dt_cell 0 rfl) rfl rfl ?_
  refine T_iconst (v := 0) (dk dt_cell 1 rfl) (by decide +kernel) ?_
  obtain ⟨x1, ex1⟩ : ∃ z, z = si x 0 0 0 := ⟨_, rfl⟩
  have h := h x1 ex1
  refine T_putI 0 0 (dk dt_cell 2 rfl) fl_316 mk_0 ml_0 (by decide) rfl ⟨rfl, rfl⟩ ?_
  rw [← ex1]
  refine T_aload_n 0 (dk dt_cell 3 rfl) rfl rfl ?_
  refine MT_callVi [] [] rfl (dk dt_cell 4 rfl) cv_680 rfl rfl (Nat.le_of_ble_eq_true rfl) (Nat.le_of_ble_eq_true rfl) rfl rfl h (fun r3 x2 h => ?_)
  refine T_if_ne 39 (dk dt_cell 5 rfl) (by decide) (fun c4 => ?_) (fun c4 => ?_)
  · have h := h.1 c4
    refine T_iconst (v := 0) (dk dt_cell 21 rfl) (by decide +kernel) ?_
    refine T_goto 49 (dk dt_cell 22 rfl) (by decide) ?_
    exact MT_iret (dk dt_cell 27 rfl) rfl rfl h
  · have h := h.2 c4
    refine T_aload_n 0 (dk dt_cell 6 rfl) rfl rfl ?_
    refine T_iload_n 1 (dk dt_cell 7 rfl) rfl rfl ?_
    refine T_iconst (v := 0) (dk dt_cell 8 rfl) (by decide +kernel) ?_
    refine T_aload_n 0 (dk dt_cell 9 rfl) rfl rfl ?_
    refine T_getI 0 23 (dk dt_cell 10 rfl) fl_448 mk_0 ml_0 (by decide) rfl ?_
    refine T_iconst (v := 1) (dk dt_cell 11 rfl) (by decide +kernel) ?_
    refine T_isub (dk dt_cell 12 rfl) ?_
    refine MT_callSi [vi l1, vi 0, vi ((x2.1 0 23) - 1)] [vr 0] rfl (dk dt_cell 13 rfl) cs_322 rfl (Nat.le_of_ble_eq_true rfl) (Nat.le_of_ble_eq_true rfl) rfl rfl h (fun r6 x5 h => ?_)
    refine T_if_ne 31 (dk dt_cell 14 rfl) (by decide) (fun c7 => ?_) (fun c7 => ?_)
    · have h := h.1 c7
      refine T_iconst (v := 0) (dk dt_cell 17 rfl) (by decide +kernel) ?_
      exact h
    · have h := h.2 c7
      refine T_iconst (v := 1) (dk dt_cell 15 rfl) (by decide +kernel) ?_
      refine T_goto 32 (dk dt_cell 16 rfl) (by decide) ?_
      exact h
set_option maxRecDepth 100000 in
set_option maxHeartbeats 4000000 in
theorem sg_cell_32 {G : mG} {d : Nat} {x : gd} {P : Option gv → gd → Prop} (l1 : Int32) (s0 : Int32)
    (h : MT G d z_refuses 0 [(0, vr 0), (1, vi s0), (2, vi 2)] [] x (ri (fun r2 x1 => ((r2 = (0 : Int32) → vp_in l1 24 ∧ P (some (vi (x1.1 70 (l1 : Int32).toNatClampNeg))) x1) ∧ (¬ (r2 = (0 : Int32)) → P (some (vi 0)) x1))))) :
    MT G (d + 1) z_cell 32 [(0, vr 0), (1, vi l1)] [vi s0, vr 0] x P := by
  refine T_iconst (v := 2) (dk dt_cell 18 rfl) (by decide +kernel) ?_
  refine MT_callVi [vi s0, vi 2] [] rfl (dk dt_cell 19 rfl) cv_558 rfl rfl (Nat.le_of_ble_eq_true rfl) (Nat.le_of_ble_eq_true rfl) rfl rfl h (fun r2 x1 h => ?_)
  refine T_if_eq 43 (dk dt_cell 20 rfl) (by decide) (fun c3 => ?_) (fun c3 => ?_)
  · have h := h.1 c3
    refine T_aload_n 0 (dk dt_cell 23 rfl) rfl rfl ?_
    refine T_getR 0 69 70 (dk dt_cell 24 rfl) fl_142 mk_0 ml_0 (by decide) rfl rfl ?_
    refine T_iload_n 1 (dk dt_cell 25 rfl) rfl rfl ?_
    obtain ⟨h4, h⟩ := h
    refine T_iald 70 24 (dk dt_cell 26 rfl) mk_70 ml_70 h4 ?_
    exact MT_iret (dk dt_cell 27 rfl) rfl rfl h
  · have h := h.2 c3
    refine T_iconst (v := 0) (dk dt_cell 21 rfl) (by decide +kernel) ?_
    refine T_goto 49 (dk dt_cell 22 rfl) (by decide) ?_
    exact MT_iret (dk dt_cell 27 rfl) rfl rfl h
set_option maxRecDepth 100000 in
theorem dt_seen : dck cX12_seen [(0, .aload_n 0, 1), (1, .iconst 0, 1), (2, .putfield 316, 3), (5, .aload_n 0, 1), (6, .invokevirtual 680, 3), (9, .ifCond .ne 44, 3), (12, .aload_n 0, 1), (13, .iload_n 1, 1), (14, .iconst 0, 1), (15, .aload_n 0, 1), (16, .getfield 461, 3), (19, .iconst 1, 1), (20, .isub, 1), (21, .invokestatic 322, 3), (24, .ifCond .eq 17, 3), (27, .iload_n 2, 1), (28, .iconst 0, 1), (29, .aload_n 0, 1), (30, .getfield 448, 3), (33, .iconst 1, 1), (34, .isub, 1), (35, .invokestatic 322, 3), (38, .ifCond .ne 7, 3), (41, .iconst 1, 1), (42, .goto 4, 3), (45, .iconst 0, 1), (46, .iconst 2, 1), (47, .invokevirtual 558, 3), (50, .ifCond .eq 7, 3), (53, .iconst 0, 1), (54, .goto 9, 3), (57, .aload_n 0, 1), (58, .iload_n 1, 1), (59, .iload_n 2, 1), (60, .invokevirtual 641, 3), (63, .ireturn, 1)] = true := by decide +kernel
set_option maxRecDepth 100000 in
set_option maxHeartbeats 4000000 in
theorem sg_seen_0 {G : mG} {d : Nat} {x : gd} {P : Option gv → gd → Prop} (l1 : Int32) (l2 : Int32)
    (h : (∀ x1 : gd, x1 = si x 0 0 0 → MT G d z_noRun 0 [(0, vr 0)] [] x1 (ri (fun r3 x2 => ((¬ (r3 = (0 : Int32)) → P (some (vi 0)) x2) ∧ (r3 = (0 : Int32) → MT G d z_in 0 [(0, vi l1), (1, vi 0), (2, vi ((x2.1 0 25) - 1))] [] x2 (ri (fun r6 x5 => ((r6 = (0 : Int32) → MT G (d + 1) z_seen 46 [(0, vr 0), (1, vi l1), (2, vi l2)] [vi 1, vr 0] x5 P) ∧ (¬ (r6 = (0 : Int32)) → MT G d z_in 0 [(0, vi l2), (1, vi 0), (2, vi ((x5.1 0 23) - 1))] [] x5 (ri (fun r9 x8 => ((¬ (r9 = (0 : Int32)) → MT G (d + 1) z_seen 46 [(0, vr 0), (1, vi l1), (2, vi l2)] [vi 0, vr 0] x8 P) ∧ (r9 = (0 : Int32) → MT G (d + 1) z_seen 46 [(0, vr 0), (1, vi l1), (2, vi l2)] [vi 1, vr 0] x8 P)))))))))))))) :
    MT G (d + 1) z_seen 0 [(0, vr 0), (1, vi l1), (2, vi l2)] [] x P := by
  refine T_aload_n 0 (dk dt_seen 0 rfl) rfl rfl ?_
  refine T_iconst (v := 0) (dk dt_seen 1 rfl) (by decide +kernel) ?_
  obtain ⟨x1, ex1⟩ : ∃ z, z = si x 0 0 0 := ⟨_, rfl⟩
  have h := h x1 ex1
  refine T_putI 0 0 (dk dt_seen 2 rfl) fl_316 mk_0 ml_0 (by decide) rfl ⟨rfl, rfl⟩ ?_
  rw [← ex1]
  refine T_aload_n 0 (dk dt_seen 3 rfl) rfl rfl ?_
  refine MT_callVi [] [] rfl (dk dt_seen 4 rfl) cv_680 rfl rfl (Nat.le_of_ble_eq_true rfl) (Nat.le_of_ble_eq_true rfl) rfl rfl h (fun r3 x2 h => ?_)
  refine T_if_ne 53 (dk dt_seen 5 rfl) (by decide) (fun c4 => ?_) (fun c4 => ?_)
  · have h := h.1 c4
    refine T_iconst (v := 0) (dk dt_seen 29 rfl) (by decide +kernel) ?_
    refine T_goto 63 (dk dt_seen 30 rfl) (by decide) ?_
    exact MT_iret (dk dt_seen 35 rfl) rfl rfl h
  · have h := h.2 c4
    refine T_aload_n 0 (dk dt_seen 6 rfl) rfl rfl ?_
    refine T_iload_n 1 (dk dt_seen 7 rfl) rfl rfl ?_
    refine T_iconst (v := 0) (dk dt_seen 8 rfl) (by decide +kernel) ?_
    refine T_aload_n 0 (dk dt_seen 9 rfl) rfl rfl ?_
    refine T_getI 0 25 (dk dt_seen 10 rfl) fl_461 mk_0 ml_0 (by decide) rfl ?_
    refine T_iconst (v := 1) (dk dt_seen 11 rfl) (by decide +kernel) ?_
    refine T_isub (dk dt_seen 12 rfl) ?_
    refine MT_callSi [vi l1, vi 0, vi ((x2.1 0 25) - 1)] [vr 0] rfl (dk dt_seen 13 rfl) cs_322 rfl (Nat.le_of_ble_eq_true rfl) (Nat.le_of_ble_eq_true rfl) rfl rfl h (fun r6 x5 h => ?_)
    refine T_if_eq 41 (dk dt_seen 14 rfl) (by decide) (fun c7 => ?_) (fun c7 => ?_)
    · have h := h.1 c7
      refine T_iconst (v := 1) (dk dt_seen 23 rfl) (by decide +kernel) ?_
      refine T_goto 46 (dk dt_seen 24 rfl) (by decide) ?_
      exact h
    · have h := h.2 c7
      refine T_iload_n 2 (dk dt_seen 15 rfl) rfl rfl ?_
      refine T_iconst (v := 0) (dk dt_seen 16 rfl) (by decide +kernel) ?_
      refine T_aload_n 0 (dk dt_seen 17 rfl) rfl rfl ?_
      refine T_getI 0 23 (dk dt_seen 18 rfl) fl_448 mk_0 ml_0 (by decide) rfl ?_
      refine T_iconst (v := 1) (dk dt_seen 19 rfl) (by decide +kernel) ?_
      refine T_isub (dk dt_seen 20 rfl) ?_
      refine MT_callSi [vi l2, vi 0, vi ((x5.1 0 23) - 1)] [vr 0] rfl (dk dt_seen 21 rfl) cs_322 rfl (Nat.le_of_ble_eq_true rfl) (Nat.le_of_ble_eq_true rfl) rfl rfl h (fun r9 x8 h => ?_)
      refine T_if_ne 45 (dk dt_seen 22 rfl) (by decide) (fun c10 => ?_) (fun c10 => ?_)
      · have h := h.1 c10
        refine T_iconst (v := 0) (dk dt_seen 25 rfl) (by decide +kernel) ?_
        exact h
      · have h := h.2 c10
        refine T_iconst (v := 1) (dk dt_seen 23 rfl) (by decide +kernel) ?_
        refine T_goto 46 (dk dt_seen 24 rfl) (by decide) ?_
        exact h
set_option maxRecDepth 100000 in
set_option maxHeartbeats 4000000 in
theorem sg_seen_46 {G : mG} {d : Nat} {x : gd} {P : Option gv → gd → Prop} (l1 : Int32) (l2 : Int32) (s0 : Int32)
    (h : MT G d z_refuses 0 [(0, vr 0), (1, vi s0), (2, vi 2)] [] x (ri (fun r2 x1 => ((r2 = (0 : Int32) → MT G d z_see 0 [(0, vr 0), (1, vi l1), (2, vi l2)] [] x1 (ri (fun r5 x4 => P (some (vi r5)) x4))) ∧ (¬ (r2 = (0 : Int32)) → P (some (vi 0)) x1))))) :
    MT G (d + 1) z_seen 46 [(0, vr 0), (1, vi l1), (2, vi l2)] [vi s0, vr 0] x P := by
  refine T_iconst (v := 2) (dk dt_seen 26 rfl) (by decide +kernel) ?_
  refine MT_callVi [vi s0, vi 2] [] rfl (dk dt_seen 27 rfl) cv_558 rfl rfl (Nat.le_of_ble_eq_true rfl) (Nat.le_of_ble_eq_true rfl) rfl rfl h (fun r2 x1 h => ?_)
  refine T_if_eq 57 (dk dt_seen 28 rfl) (by decide) (fun c3 => ?_) (fun c3 => ?_)
  · have h := h.1 c3
    refine T_aload_n 0 (dk dt_seen 31 rfl) rfl rfl ?_
    refine T_iload_n 1 (dk dt_seen 32 rfl) rfl rfl ?_
    refine T_iload_n 2 (dk dt_seen 33 rfl) rfl rfl ?_
    refine MT_callVi [vi l1, vi l2] [] rfl (dk dt_seen 34 rfl) cv_641 rfl rfl (Nat.le_of_ble_eq_true rfl) (Nat.le_of_ble_eq_true rfl) rfl rfl h (fun r5 x4 h => ?_)
    exact MT_iret (dk dt_seen 35 rfl) rfl rfl h
  · have h := h.2 c3
    refine T_iconst (v := 0) (dk dt_seen 29 rfl) (by decide +kernel) ?_
    refine T_goto 63 (dk dt_seen 30 rfl) (by decide) ?_
    exact MT_iret (dk dt_seen 35 rfl) rfl rfl h
