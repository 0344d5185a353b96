set_option maxRecDepth 100000 in
theorem dtk_X11_alike : dck cX11_alike [(0, .aload_n 0, 1), (1, .iconst 0, 1), (2, .invokevirtual 309, 3), (5, .ifCond .eq 35, 3), (8, .aload_n 0, 1), (9, .iconst 1, 1), (10, .invokevirtual 309, 3), (13, .ifCond .eq 27, 3), (16, .aload_n 0, 1), (17, .getfield 59, 3), (20, .iconst 0, 1), (21, .aaload, 1), (22, .getfield 313, 3), (25, .ifCond .ne 15, 3), (28, .aload_n 0, 1), (29, .getfield 59, 3), (32, .iconst 1, 1), (33, .aaload, 1), (34, .getfield 313, 3), (37, .ifCond .eq 5, 3), (40, .iconst (-1), 1), (41, .ireturn, 1), (42, .aload_n 0, 1), (43, .getfield 59, 3), (46, .iconst 0, 1), (47, .aaload, 1), (48, .aload_n 0, 1), (49, .getfield 59, 3), (52, .iconst 1, 1), (53, .aaload, 1), (54, .aload_n 0, 1), (55, .getfield 28, 3), (58, .getfield 136, 3), (61, .invokevirtual 354, 3), (64, .ifCond .eq 7, 3), (67, .iconst 1, 1), (68, .goto 4, 3), (71, .iconst 0, 1), (72, .ireturn, 1)] = true := by decide +kernel
set_option maxRecDepth 100000 in
set_option maxHeartbeats 4000000 in
theorem kg_X11_alike_0 {G : kG} {q : kP} {d : Nat} {x : gd} {P : Option gv → gd → Prop} (hq : kV q) 
    (h : KT G q d zk_X11_wasTried 0 [(0, vr 0), (1, vi 0)] [] x (ri (fun r2 x1 => ((r2 = (0 : Int32) → P (some (vi (-1))) x1) ∧ (¬ (r2 = (0 : Int32)) → KT G q d zk_X11_wasTried 0 [(0, vr 0), (1, vi 1)] [] x1 (ri (fun r5 x4 => ((r5 = (0 : Int32) → P (some (vi (-1))) x4) ∧ (¬ (r5 = (0 : Int32)) → vp_in 0 2 ∧ (∀ u8, u8 = (kf q).1 7 (0 : Int32).toNatClampNeg → ∃ c9, u8 = some c9 ∧ kiT q c9 ∧ ((¬ ((x4.1 c9 1) = (0 : Int32)) → P (some (vi (-1))) x4) ∧ ((x4.1 c9 1) = (0 : Int32) → vp_in 1 2 ∧ (∀ u13, u13 = (kf q).1 7 (1 : Int32).toNatClampNeg → ∃ c14, u13 = some c14 ∧ kiT q c14 ∧ (((x4.1 c14 1) = (0 : Int32) → vp_in 0 2 ∧ (∀ u18, u18 = (kf q).1 7 (0 : Int32).toNatClampNeg → vp_in 1 2 ∧ (∀ u20, u20 = (kf q).1 7 (1 : Int32).toNatClampNeg → ∃ c21, u20 = some c21 ∧ kiT q c21 ∧ ∃ c23, u18 = some c23 ∧ kiT q c23 ∧ KT G q d zk_X10_sameOutcomes 0 [(0, vr c23), (1, vr c21), (2, vi (x4.1 60 6))] [] x4 (ri (fun r26 x25 => ((r26 = (0 : Int32) → P (some (vi 0)) x25) ∧ (¬ (r26 = (0 : Int32)) → P (some (vi 1)) x25))))))) ∧ (¬ ((x4.1 c14 1) = (0 : Int32)) → P (some (vi (-1))) x4))))))))))))))) :
    KT G q (d + 1) zk_X11_alike 0 [(0, vr 0)] [] x P := by
  refine T_aload_n 0 (dk dtk_X11_alike 0 rfl) rfl rfl ?_
  refine T_iconst (v := 0) (dk dtk_X11_alike 1 rfl) (by decide +kernel) ?_
  refine KC_Vi [vi 0] [] rfl (dk dtk_X11_alike 2 rfl) kcv_X11_309 rfl kk_0 rfl (kl_0 hq) (Nat.le_of_ble_eq_true rfl) (Nat.le_of_ble_eq_true rfl) (gok_i (av_c (gkr (kl_0 hq)) av_n) as_n) rfl h (fun r2 x1 h => ?_)
  refine T_if_eq 40 (dk dtk_X11_alike 3 rfl) (by decide) (fun c3 => ?_) (fun c3 => ?_)
  · have h := h.1 c3
    refine T_iconst (v := (-1)) (dk dtk_X11_alike 20 rfl) (by decide +kernel) ?_
    exact KT_iret (dk dtk_X11_alike 21 rfl) rfl rfl h
  · have h := h.2 c3
    refine T_aload_n 0 (dk dtk_X11_alike 4 rfl) rfl rfl ?_
    refine T_iconst (v := 1) (dk dtk_X11_alike 5 rfl) (by decide +kernel) ?_
    refine KC_Vi [vi 1] [] rfl (dk dtk_X11_alike 6 rfl) kcv_X11_309 rfl kk_0 rfl (kl_0 hq) (Nat.le_of_ble_eq_true rfl) (Nat.le_of_ble_eq_true rfl) (gok_i (av_c (gkr (kl_0 hq)) av_n) as_n) rfl h (fun r5 x4 h => ?_)
    refine T_if_eq 40 (dk dtk_X11_alike 7 rfl) (by decide) (fun c6 => ?_) (fun c6 => ?_)
    · have h := h.1 c6
      refine T_iconst (v := (-1)) (dk dtk_X11_alike 20 rfl) (by decide +kernel) ?_
      exact KT_iret (dk dtk_X11_alike 21 rfl) rfl rfl h
    · have h := h.2 c6
      refine T_aload_n 0 (dk dtk_X11_alike 8 rfl) rfl rfl ?_
      refine T_getR 0 6 7 (dk dtk_X11_alike 9 rfl) kfl_X11_59 kk_0 (kl_0 hq) (by decide) rfl kr_0_6 ?_
      refine T_iconst (v := 0) (dk dtk_X11_alike 10 rfl) (by decide +kernel) ?_
      obtain ⟨h7, h⟩ := h
      obtain ⟨u8, eu8⟩ : ∃ z, z = (kf q).1 7 (0 : Int32).toNatClampNeg := ⟨_, rfl⟩
      have h := h u8 eu8
      refine T_aaldT 7 2 (dk dtk_X11_alike 11 rfl) kk_7 (kl_7 hq) h7 ?_
      rw [← eu8]
      obtain ⟨c9, rfl, g10, h⟩ := h
      refine T_getI c9 1 (dk dtk_X11_alike 12 rfl) kfl_X11_313 (kk_T0 g10) (kl_T0 hq g10) (by decide) rfl ?_
      refine T_if_ne 40 (dk dtk_X11_alike 13 rfl) (by decide) (fun c11 => ?_) (fun c11 => ?_)
      · have h := h.1 c11
        refine T_iconst (v := (-1)) (dk dtk_X11_alike 20 rfl) (by decide +kernel) ?_
        exact KT_iret (dk dtk_X11_alike 21 rfl) rfl rfl h
      · have h := h.2 c11
        refine T_aload_n 0 (dk dtk_X11_alike 14 rfl) rfl rfl ?_
        refine T_getR 0 6 7 (dk dtk_X11_alike 15 rfl) kfl_X11_59 kk_0 (kl_0 hq) (by decide) rfl kr_0_6 ?_
        refine T_iconst (v := 1) (dk dtk_X11_alike 16 rfl) (by decide +kernel) ?_
        obtain ⟨h12, h⟩ := h
        obtain ⟨u13, eu13⟩ : ∃ z, z = (kf q).1 7 (1 : Int32).toNatClampNeg := ⟨_, rfl⟩
        have h := h u13 eu13
        refine T_aaldT 7 2 (dk dtk_X11_alike 17 rfl) kk_7 (kl_7 hq) h12 ?_
        rw [← eu13]
        obtain ⟨c14, rfl, g15, h⟩ := h
        refine T_getI c14 1 (dk dtk_X11_alike 18 rfl) kfl_X11_313 (kk_T0 g15) (kl_T0 hq g15) (by decide) rfl ?_
        refine T_if_eq 42 (dk dtk_X11_alike 19 rfl) (by decide) (fun c16 => ?_) (fun c16 => ?_)
        · have h := h.1 c16
          refine T_aload_n 0 (dk dtk_X11_alike 22 rfl) rfl rfl ?_
          refine T_getR 0 6 7 (dk dtk_X11_alike 23 rfl) kfl_X11_59 kk_0 (kl_0 hq) (by decide) rfl kr_0_6 ?_
          refine T_iconst (v := 0) (dk dtk_X11_alike 24 rfl) (by decide +kernel) ?_
          obtain ⟨h17, h⟩ := h
          obtain ⟨u18, eu18⟩ : ∃ z, z = (kf q).1 7 (0 : Int32).toNatClampNeg := ⟨_, rfl⟩
          have h := h u18 eu18
          refine T_aaldT 7 2 (dk dtk_X11_alike 25 rfl) kk_7 (kl_7 hq) h17 ?_
          rw [← eu18]
          refine T_aload_n 0 (dk dtk_X11_alike 26 rfl) rfl rfl ?_
          refine T_getR 0 6 7 (dk dtk_X11_alike 27 rfl) kfl_X11_59 kk_0 (kl_0 hq) (by decide) rfl kr_0_6 ?_
          refine T_iconst (v := 1) (dk dtk_X11_alike 28 rfl) (by decide +kernel) ?_
          obtain ⟨h19, h⟩ := h
          obtain ⟨u20, eu20⟩ : ∃ z, z = (kf q).1 7 (1 : Int32).toNatClampNeg := ⟨_, rfl⟩
          have h := h u20 eu20
          refine T_aaldT 7 2 (dk dtk_X11_alike 29 rfl) kk_7 (kl_7 hq) h19 ?_
          rw [← eu20]
          refine T_aload_n 0 (dk dtk_X11_alike 30 rfl) rfl rfl ?_
          refine T_getR 0 2 60 (dk dtk_X11_alike 31 rfl) kfl_X11_28 kk_0 (kl_0 hq) (by decide) rfl kr_0_2 ?_
          refine T_getI 60 6 (dk dtk_X11_alike 32 rfl) kfl_X11_136 kk_60 (kl_60 hq) (by decide) rfl ?_
          obtain ⟨c21, rfl, g22, h⟩ := h
          obtain ⟨c23, rfl, g24, h⟩ := h
          refine T_sub (lv2 := []) [] rfl ?_
          refine KC_Vi [vr c21, vi (x4.1 60 6)] [] rfl (dk dtk_X11_alike 33 rfl) kcv_X11_354 rfl (kk_T0 g24) rfl (kl_T0 hq g24) (Nat.le_of_ble_eq_true rfl) (Nat.le_of_ble_eq_true rfl) (gok_i av_n as_n) rfl h (fun r26 x25 h => ?_)
          refine T_if_eq 71 (dk dtk_X11_alike 34 rfl) (by decide) (fun c27 => ?_) (fun c27 => ?_)
          · have h := h.1 c27
            refine T_iconst (v := 0) (dk dtk_X11_alike 37 rfl) (by decide +kernel) ?_
            exact KT_iret (dk dtk_X11_alike 38 rfl) rfl rfl h
          · have h := h.2 c27
            refine T_iconst (v := 1) (dk dtk_X11_alike 35 rfl) (by decide +kernel) ?_
            refine T_goto 72 (dk dtk_X11_alike 36 rfl) (by decide) ?_
            exact KT_iret (dk dtk_X11_alike 38 rfl) rfl rfl h
        · have h := h.2 c16
          refine T_iconst (v := (-1)) (dk dtk_X11_alike 20 rfl) (by decide +kernel) ?_
          exact KT_iret (dk dtk_X11_alike 21 rfl) rfl rfl h
set_option maxRecDepth 100000 in
theorem dtk_X11_forgetAll : dck cX11_forgetAll [(0, .aload_n 0, 1), (1, .iconst 0, 1), (2, .putfield 110, 3), (5, .aload_n 0, 1), (6, .iconst 0, 1), (7, .putfield 358, 3), (10, .iconst 0, 1), (11, .istore_n 1, 1), (12, .iload_n 1, 1), (13, .iconst 2, 1), (14, .if_icmp .ge 28, 3), (17, .aload_n 0, 1), (18, .getfield 59, 3), (21, .iload_n 1, 1), (22, .aaload, 1), (23, .ifnull 13, 3), (26, .aload_n 0, 1), (27, .getfield 59, 3), (30, .iload_n 1, 1), (31, .aaload, 1), (32, .iconst 0, 1), (33, .putfield 306, 3), (36, .iinc 1 1, 3), (39, .goto (-27), 3), (42, .return_, 1)] = true := by decide +kernel
set_option maxRecDepth 100000 in
set_option maxHeartbeats 4000000 in
theorem kg_X11_forgetAll_0 {G : kG} {q : kP} {d : Nat} {x : gd} {P : Option gv → gd → Prop} (hq : kV q) 
    (h : (∀ x1 : gd, x1 = si x 0 9 0 → (∀ x2 : gd, x2 = si x1 0 10 0 → KT G q d zk_X11_forgetAll 12 [(0, vr 0), (1, vi 0)] [] x2 P))) :
    KT G q d zk_X11_forgetAll 0 [(0, vr 0)] [] x P := by
  refine T_aload_n 0 (dk dtk_X11_forgetAll 0 rfl) rfl rfl ?_
  refine T_iconst (v := 0) (dk dtk_X11_forgetAll 1 rfl) (by decide +kernel) ?_
  obtain ⟨x1, ex1⟩ : ∃ z, z = si x 0 9 0 := ⟨_, rfl⟩
  have h := h x1 ex1
  refine T_putI 0 9 (dk dtk_X11_forgetAll 2 rfl) kfl_X11_110 kk_0 (kl_0 hq) (by decide) rfl ⟨rfl, rfl⟩ ?_
  rw [← ex1]
  refine T_aload_n 0 (dk dtk_X11_forgetAll 3 rfl) rfl rfl ?_
  refine T_iconst (v := 0) (dk dtk_X11_forgetAll 4 rfl) (by decide +kernel) ?_
  obtain ⟨x2, ex2⟩ : ∃ z, z = si x1 0 10 0 := ⟨_, rfl⟩
  have h := h x2 ex2
  refine T_putI 0 10 (dk dtk_X11_forgetAll 5 rfl) kfl_X11_358 kk_0 (kl_0 hq) (by decide) rfl ⟨rfl, rfl⟩ ?_
  rw [← ex2]
  refine T_iconst (v := 0) (dk dtk_X11_forgetAll 6 rfl) (by decide +kernel) ?_
  refine T_istore_n (lv2 := [(1, vi 0), (0, vr 0)]) (dk dtk_X11_forgetAll 7 rfl) rfl (by decide) rfl ?_
  exact T_sub [1, 0] rfl h
set_option maxRecDepth 100000 in
set_option maxHeartbeats 4000000 in
theorem kg_X11_forgetAll_12 {G : kG} {q : kP} {d : Nat} {x : gd} {P : Option gv → gd → Prop} (hq : kV q) (l1 : Int32)
    (h : (((2 : Int32) ≤ l1 → P none x) ∧ (¬ ((2 : Int32) ≤ l1) → vp_in l1 2 ∧ (∀ u3, u3 = (kf q).1 7 (l1 : Int32).toNatClampNeg → ((u3 = none → KT G q d zk_X11_forgetAll 12 [(0, vr 0), (1, vi (l1 + 1))] [] x P) ∧ (∀ c5, u3 = some c5 → vp_in l1 2 ∧ (∀ u7, u7 = (kf q).1 7 (l1 : Int32).toNatClampNeg → ∃ c8, u7 = some c8 ∧ kiT q c8 ∧ (∀ x10 : gd, x10 = si x c8 0 0 → KT G q d zk_X11_forgetAll 12 [(0, vr 0), (1, vi (l1 + 1))] [] x10 P)))))))) :
    KT G q d zk_X11_forgetAll 12 [(0, vr 0), (1, vi l1)] [] x P := by
  refine T_iload_n 1 (dk dtk_X11_forgetAll 8 rfl) rfl rfl ?_
  refine T_iconst (v := 2) (dk dtk_X11_forgetAll 9 rfl) (by decide +kernel) ?_
  refine T_icmp_ge 42 (dk dtk_X11_forgetAll 10 rfl) (by decide) (fun c1 => ?_) (fun c1 => ?_)
  · have h := h.1 c1
    exact KT_vret (dk dtk_X11_forgetAll 24 rfl) rfl h
  · have h := h.2 c1
    refine T_aload_n 0 (dk dtk_X11_forgetAll 11 rfl) rfl rfl ?_
    refine T_getR 0 6 7 (dk dtk_X11_forgetAll 12 rfl) kfl_X11_59 kk_0 (kl_0 hq) (by decide) rfl kr_0_6 ?_
    refine T_iload_n 1 (dk dtk_X11_forgetAll 13 rfl) rfl rfl ?_
    obtain ⟨h2, h⟩ := h
    obtain ⟨u3, eu3⟩ : ∃ z, z = (kf q).1 7 (l1 : Int32).toNatClampNeg := ⟨_, rfl⟩
    have h := h u3 eu3
    refine T_aaldT 7 2 (dk dtk_X11_forgetAll 14 rfl) kk_7 (kl_7 hq) h2 ?_
    rw [← eu3]
    refine T_ifnull 36 (dk dtk_X11_forgetAll 15 rfl) (by decide) (fun c4 => ?_) (fun c5 c4 => ?_)
    · have h := h.1 c4
      refine T_iinc (v := l1 + 1) (lv2 := [(1, vi (l1 + 1)), (0, vr 0)]) 1 (dk dtk_X11_forgetAll 22 rfl) rfl rfl (by decide) rfl ?_
      refine T_goto 12 (dk dtk_X11_forgetAll 23 rfl) (by decide) ?_
      exact T_sub [1, 0] rfl h
    · have h := h.2 c5 c4
      refine T_aload_n 0 (dk dtk_X11_forgetAll 16 rfl) rfl rfl ?_
      refine T_getR 0 6 7 (dk dtk_X11_forgetAll 17 rfl) kfl_X11_59 kk_0 (kl_0 hq) (by decide) rfl kr_0_6 ?_
      refine T_iload_n 1 (dk dtk_X11_forgetAll 18 rfl) rfl rfl ?_
      obtain ⟨h6, h⟩ := h
      obtain ⟨u7, eu7⟩ : ∃ z, z = (kf q).1 7 (l1 : Int32).toNatClampNeg := ⟨_, rfl⟩
      have h := h u7 eu7
      refine T_aaldT 7 2 (dk dtk_X11_forgetAll 19 rfl) kk_7 (kl_7 hq) h6 ?_
      rw [← eu7]
      refine T_iconst (v := 0) (dk dtk_X11_forgetAll 20 rfl) (by decide +kernel) ?_
      obtain ⟨c8, rfl, g9, h⟩ := h
      obtain ⟨x10, ex10⟩ : ∃ z, z = si x c8 0 0 := ⟨_, rfl⟩
      have h := h x10 ex10
      refine T_putI c8 0 (dk dtk_X11_forgetAll 21 rfl) kfl_X11_306 (kk_T0 g9) (kl_T0 hq g9) (by decide) rfl ⟨rfl, rfl⟩ ?_
      rw [← ex10]
      refine T_iinc (v := l1 + 1) (lv2 := [(1, vi (l1 + 1)), (0, vr 0)]) 1 (dk dtk_X11_forgetAll 22 rfl) rfl rfl (by decide) rfl ?_
      refine T_goto 12 (dk dtk_X11_forgetAll 23 rfl) (by decide) ?_
      exact T_sub [1, 0] rfl h
set_option maxRecDepth 100000 in
theorem dtk_X11_beginRun : dck cX11_beginRun [(0, .aload_n 0, 1), (1, .getfield 46, 3), (4, .iload_n 1, 1), (5, .invokevirtual 361, 3), (8, .aload_n 0, 1), (9, .getfield 46, 3), (12, .invokevirtual 364, 3), (15, .aload_n 0, 1), (16, .getfield 53, 3), (19, .invokevirtual 367, 3), (22, .aload_n 0, 1), (23, .iconst 1, 1), (24, .putfield 358, 3), (27, .return_, 1)] = true := by decide +kernel
set_option maxRecDepth 100000 in
set_option maxHeartbeats 4000000 in
theorem kg_X11_beginRun_0 {G : kG} {q : kP} {d : Nat} {x : gd} {P : Option gv → gd → Prop} (hq : kV q) (l1 : Int32)
    (h : KT G q d zk_X5_reset 0 [(0, vr 120), (1, vi l1)] [] x (rv (fun x1 => KT G q d zk_X5_listChoices 0 [(0, vr 120)] [] x1 (rv (fun x2 => KT G q d zk_X4_clear 0 [(0, vr 160)] [] x2 (rv (fun x3 => (∀ x4 : gd, x4 = si x3 0 10 1 → P none x4)))))))) :
    KT G q (d + 1) zk_X11_beginRun 0 [(0, vr 0), (1, vi l1)] [] x P := by
  refine T_aload_n 0 (dk dtk_X11_beginRun 0 rfl) rfl rfl ?_
  refine T_getR 0 4 120 (dk dtk_X11_beginRun 1 rfl) kfl_X11_46 kk_0 (kl_0 hq) (by decide) rfl kr_0_4 ?_
  refine T_iload_n 1 (dk dtk_X11_beginRun 2 rfl) rfl rfl ?_
  refine T_sub (lv2 := [(0, vr 0)]) [0] rfl ?_
  refine KC_Vv [vi l1] [] rfl (dk dtk_X11_beginRun 3 rfl) kcv_X11_361 rfl kk_120 rfl (kl_120 hq) (Nat.le_of_ble_eq_true rfl) (Nat.le_of_ble_eq_true rfl) (gok_i (av_c (gkr (kl_0 hq)) av_n) as_n) rfl h (fun x1 h => ?_)
  refine T_aload_n 0 (dk dtk_X11_beginRun 4 rfl) rfl rfl ?_
  refine T_getR 0 4 120 (dk dtk_X11_beginRun 5 rfl) kfl_X11_46 kk_0 (kl_0 hq) (by decide) rfl kr_0_4 ?_
  refine KC_Vv [] [] rfl (dk dtk_X11_beginRun 6 rfl) kcv_X11_364 rfl kk_120 rfl (kl_120 hq) (Nat.le_of_ble_eq_true rfl) (Nat.le_of_ble_eq_true rfl) (gok_i (av_c (gkr (kl_0 hq)) av_n) as_n) rfl h (fun x2 h => ?_)
  refine T_aload_n 0 (dk dtk_X11_beginRun 7 rfl) rfl rfl ?_
  refine T_getR 0 5 160 (dk dtk_X11_beginRun 8 rfl) kfl_X11_53 kk_0 (kl_0 hq) (by decide) rfl kr_0_5 ?_
  refine KC_Vv [] [] rfl (dk dtk_X11_beginRun 9 rfl) kcv_X11_367 rfl kk_160 rfl (kl_160 hq) (Nat.le_of_ble_eq_true rfl) (Nat.le_of_ble_eq_true rfl) (gok_i (av_c (gkr (kl_0 hq)) av_n) as_n) rfl h (fun x3 h => ?_)
  refine T_aload_n 0 (dk dtk_X11_beginRun 10 rfl) rfl rfl ?_
  refine T_iconst (v := 1) (dk dtk_X11_beginRun 11 rfl) (by decide +kernel) ?_
  obtain ⟨x4, ex4⟩ : ∃ z, z = si x3 0 10 1 := ⟨_, rfl⟩
  have h := h x4 ex4
  refine T_putI 0 10 (dk dtk_X11_beginRun 12 rfl) kfl_X11_358 kk_0 (kl_0 hq) (by decide) rfl ⟨rfl, rfl⟩ ?_
  rw [← ex4]
  exact KT_vret (dk dtk_X11_beginRun 13 rfl) rfl h
set_option maxRecDepth 100000 in
theorem dtk_X11_doChoice : dck cX11_doChoice [(0, .iload_n 1, 1), (1, .ifCond .lt 27, 3), (4, .iload_n 1, 1), (5, .aload_n 0, 1), (6, .getfield 46, 3), (9, .getfield 157, 3), (12, .if_icmp .ge 16, 3), (15, .aload_n 0, 1), (16, .getfield 53, 3), (19, .getfield 186, 3), (22, .sipush 400, 3), (25, .if_icmp .lt 4, 3), (28, .return_, 1), (29, .aload_n 0, 1), (30, .getfield 46, 3), (33, .iload_n 1, 1), (34, .invokevirtual 370, 3), (37, .aload_n 0, 1), (38, .getfield 53, 3), (41, .iload_n 1, 1), (42, .aload_n 0, 1), (43, .getfield 46, 3), (46, .getfield 373, 3), (49, .invokevirtual 377, 3), (52, .aload_n 0, 1), (53, .getfield 46, 3), (56, .invokevirtual 364, 3), (59, .return_, 1)] = true := by decide +kernel
set_option maxRecDepth 100000 in
set_option maxHeartbeats 4000000 in
theorem kg_X11_doChoice_0 {G : kG} {q : kP} {d : Nat} {x : gd} {P : Option gv → gd → Prop} (hq : kV q) (l1 : Int32)
    (h : ((l1 < (0 : Int32) → P none x) ∧ (¬ (l1 < (0 : Int32)) → (((x.1 120 13) ≤ l1 → P none x) ∧ (¬ ((x.1 120 13) ≤ l1) → (((x.1 160 2) < (400 : Int32) → KT G q d zk_X5_perform 0 [(0, vr 120), (1, vi l1)] [] x (rv (fun x4 => KT G q d zk_X4_note 0 [(0, vr 160), (1, vi l1), (2, vr 140)] [] x4 (rv (fun x5 => KT G q d zk_X5_listChoices 0 [(0, vr 120)] [] x5 (rv (fun x6 => P none x6))))))) ∧ (¬ ((x.1 160 2) < (400 : Int32)) → P none x))))))) :
    KT G q (d + 1) zk_X11_doChoice 0 [(0, vr 0), (1, vi l1)] [] x P := by
  refine T_iload_n 1 (dk dtk_X11_doChoice 0 rfl) rfl rfl ?_
  refine T_if_lt 28 (dk dtk_X11_doChoice 1 rfl) (by decide) (fun c1 => ?_) (fun c1 => ?_)
  · have h := h.1 c1
    exact KT_vret (dk dtk_X11_doChoice 12 rfl) rfl h
  · have h := h.2 c1
    refine T_iload_n 1 (dk dtk_X11_doChoice 2 rfl) rfl rfl ?_
    refine T_aload_n 0 (dk dtk_X11_doChoice 3 rfl) rfl rfl ?_
    refine T_getR 0 4 120 (dk dtk_X11_doChoice 4 rfl) kfl_X11_46 kk_0 (kl_0 hq) (by decide) rfl kr_0_4 ?_
    refine T_getI 120 13 (dk dtk_X11_doChoice 5 rfl) kfl_X11_157 kk_120 (kl_120 hq) (by decide) rfl ?_
    refine T_icmp_ge 28 (dk dtk_X11_doChoice 6 rfl) (by decide) (fun c2 => ?_) (fun c2 => ?_)
    · have h := h.1 c2
      exact KT_vret (dk dtk_X11_doChoice 12 rfl) rfl h
    · have h := h.2 c2
      refine T_aload_n 0 (dk dtk_X11_doChoice 7 rfl) rfl rfl ?_
      refine T_getR 0 5 160 (dk dtk_X11_doChoice 8 rfl) kfl_X11_53 kk_0 (kl_0 hq) (by decide) rfl kr_0_5 ?_
      refine T_getI 160 2 (dk dtk_X11_doChoice 9 rfl) kfl_X11_186 kk_160 (kl_160 hq) (by decide) rfl ?_
      refine T_sipush (v := 400) (dk dtk_X11_doChoice 10 rfl) (by decide +kernel) ?_
      refine T_icmp_lt 29 (dk dtk_X11_doChoice 11 rfl) (by decide) (fun c3 => ?_) (fun c3 => ?_)
      · have h := h.1 c3
        refine T_aload_n 0 (dk dtk_X11_doChoice 13 rfl) rfl rfl ?_
        refine T_getR 0 4 120 (dk dtk_X11_doChoice 14 rfl) kfl_X11_46 kk_0 (kl_0 hq) (by decide) rfl kr_0_4 ?_
        refine T_iload_n 1 (dk dtk_X11_doChoice 15 rfl) rfl rfl ?_
        refine KC_Vv [vi l1] [] rfl (dk dtk_X11_doChoice 16 rfl) kcv_X11_370 rfl kk_120 rfl (kl_120 hq) (Nat.le_of_ble_eq_true rfl) (Nat.le_of_ble_eq_true rfl) (gok_i (av_c (gkr (kl_0 hq)) (av_c rfl av_n)) as_n) rfl h (fun x4 h => ?_)
        refine T_aload_n 0 (dk dtk_X11_doChoice 17 rfl) rfl rfl ?_
        refine T_getR 0 5 160 (dk dtk_X11_doChoice 18 rfl) kfl_X11_53 kk_0 (kl_0 hq) (by decide) rfl kr_0_5 ?_
        refine T_iload_n 1 (dk dtk_X11_doChoice 19 rfl) rfl rfl ?_
        refine T_aload_n 0 (dk dtk_X11_doChoice 20 rfl) rfl rfl ?_
        refine T_getR 0 4 120 (dk dtk_X11_doChoice 21 rfl) kfl_X11_46 kk_0 (kl_0 hq) (by decide) rfl kr_0_4 ?_
        refine T_getR 120 2 140 (dk dtk_X11_doChoice 22 rfl) kfl_X11_373 kk_120 (kl_120 hq) (by decide) rfl kr_120_2 ?_
        refine T_sub (lv2 := [(0, vr 0)]) [0] rfl ?_
        refine KC_Vv [vi l1, vr 140] [] rfl (dk dtk_X11_doChoice 23 rfl) kcv_X11_377 rfl kk_160 rfl (kl_160 hq) (Nat.le_of_ble_eq_true rfl) (Nat.le_of_ble_eq_true rfl) (gok_i (av_c (gkr (kl_0 hq)) av_n) as_n) rfl h (fun x5 h => ?_)
        refine T_aload_n 0 (dk dtk_X11_doChoice 24 rfl) rfl rfl ?_
        refine T_getR 0 4 120 (dk dtk_X11_doChoice 25 rfl) kfl_X11_46 kk_0 (kl_0 hq) (by decide) rfl kr_0_4 ?_
        refine T_sub (lv2 := []) [] rfl ?_
        refine KC_Vv [] [] rfl (dk dtk_X11_doChoice 26 rfl) kcv_X11_364 rfl kk_120 rfl (kl_120 hq) (Nat.le_of_ble_eq_true rfl) (Nat.le_of_ble_eq_true rfl) (gok_i av_n as_n) rfl h (fun x6 h => ?_)
        exact KT_vret (dk dtk_X11_doChoice 27 rfl) rfl h
      · have h := h.2 c3
        exact KT_vret (dk dtk_X11_doChoice 12 rfl) rfl h
set_option maxRecDepth 100000 in
theorem dtk_X11_wasTried : dck cX11_wasTried [(0, .aload_n 0, 1), (1, .getfield 59, 3), (4, .iload_n 1, 1), (5, .aaload, 1), (6, .ifnull 19, 3), (9, .aload_n 0, 1), (10, .getfield 59, 3), (13, .iload_n 1, 1), (14, .aaload, 1), (15, .getfield 306, 3), (18, .ifCond .le 7, 3), (21, .iconst 1, 1), (22, .goto 4, 3), (25, .iconst 0, 1), (26, .ireturn, 1)] = true := by decide +kernel
set_option maxRecDepth 100000 in
set_option maxHeartbeats 4000000 in
theorem kg_X11_wasTried_0 {G : kG} {q : kP} {d : Nat} {x : gd} {P : Option gv → gd → Prop} (hq : kV q) (l1 : Int32)
    (h : vp_in l1 2 ∧ (∀ u2, u2 = (kf q).1 7 (l1 : Int32).toNatClampNeg → ((u2 = none → P (some (vi 0)) x) ∧ (∀ c4, u2 = some c4 → vp_in l1 2 ∧ (∀ u6, u6 = (kf q).1 7 (l1 : Int32).toNatClampNeg → ∃ c7, u6 = some c7 ∧ kiT q c7 ∧ (((x.1 c7 0) ≤ (0 : Int32) → P (some (vi 0)) x) ∧ (¬ ((x.1 c7 0) ≤ (0 : Int32)) → P (some (vi 1)) x))))))) :
    KT G q d zk_X11_wasTried 0 [(0, vr 0), (1, vi l1)] [] x P := by
  refine T_aload_n 0 (dk dtk_X11_wasTried 0 rfl) rfl rfl ?_
  refine T_getR 0 6 7 (dk dtk_X11_wasTried 1 rfl) kfl_X11_59 kk_0 (kl_0 hq) (by decide) rfl kr_0_6 ?_
  refine T_iload_n 1 (dk dtk_X11_wasTried 2 rfl) rfl rfl ?_
  obtain ⟨h1, h⟩ := h
  obtain ⟨u2, eu2⟩ : ∃ z, z = (kf q).1 7 (l1 : Int32).toNatClampNeg := ⟨_, rfl⟩
  have h := h u2 eu2
  refine T_aaldT 7 2 (dk dtk_X11_wasTried 3 rfl) kk_7 (kl_7 hq) h1 ?_
  rw [← eu2]
  refine T_ifnull 25 (dk dtk_X11_wasTried 4 rfl) (by decide) (fun c3 => ?_) (fun c4 c3 => ?_)
  · have h := h.1 c3
    refine T_iconst (v := 0) (dk dtk_X11_wasTried 13 rfl) (by decide +kernel) ?_
    exact KT_iret (dk dtk_X11_wasTried 14 rfl) rfl rfl h
  · have h := h.2 c4 c3
    refine T_aload_n 0 (dk dtk_X11_wasTried 5 rfl) rfl rfl ?_
    refine T_getR 0 6 7 (dk dtk_X11_wasTried 6 rfl) kfl_X11_59 kk_0 (kl_0 hq) (by decide) rfl kr_0_6 ?_
    refine T_iload_n 1 (dk dtk_X11_wasTried 7 rfl) rfl rfl ?_
    obtain ⟨h5, h⟩ := h
    obtain ⟨u6, eu6⟩ : ∃ z, z = (kf q).1 7 (l1 : Int32).toNatClampNeg := ⟨_, rfl⟩
    have h := h u6 eu6
    refine T_aaldT 7 2 (dk dtk_X11_wasTried 8 rfl) kk_7 (kl_7 hq) h5 ?_
    rw [← eu6]
    obtain ⟨c7, rfl, g8, h⟩ := h
    refine T_getI c7 0 (dk dtk_X11_wasTried 9 rfl) kfl_X11_306 (kk_T0 g8) (kl_T0 hq g8) (by decide) rfl ?_
    refine T_if_le 25 (dk dtk_X11_wasTried 10 rfl) (by decide) (fun c9 => ?_) (fun c9 => ?_)
    · have h := h.1 c9
      refine T_iconst (v := 0) (dk dtk_X11_wasTried 13 rfl) (by decide +kernel) ?_
      exact KT_iret (dk dtk_X11_wasTried 14 rfl) rfl rfl h
    · have h := h.2 c9
      refine T_iconst (v := 1) (dk dtk_X11_wasTried 11 rfl) (by decide +kernel) ?_
      refine T_goto 26 (dk dtk_X11_wasTried 12 rfl) (by decide) ?_
      exact KT_iret (dk dtk_X11_wasTried 14 rfl) rfl rfl h
set_option maxRecDepth 100000 in
theorem dtk_X11_firstState : dck cX11_firstState [(0, .aload_n 0, 1), (1, .iload_n 1, 1), (2, .invokevirtual 309, 3), (5, .ifCond .eq 17, 3), (8, .aload_n 0, 1), (9, .getfield 59, 3), (12, .iload_n 1, 1), (13, .aaload, 1), (14, .getfield 381, 3), (17, .iload_n 2, 1), (18, .iaload, 1), (19, .goto 4, 3), (22, .iconst (-1), 1), (23, .ireturn, 1)] = true := by decide +kernel
set_option maxRecDepth 100000 in
set_option maxHeartbeats 4000000 in
theorem kg_X11_firstState_0 {G : kG} {q : kP} {d : Nat} {x : gd} {P : Option gv → gd → Prop} (hq : kV q) (l1 : Int32) (l2 : Int32)
    (h : KT G q d zk_X11_wasTried 0 [(0, vr 0), (1, vi l1)] [] x (ri (fun r2 x1 => ((r2 = (0 : Int32) → P (some (vi (-1))) x1) ∧ (¬ (r2 = (0 : Int32)) → vp_in l1 2 ∧ (∀ u5, u5 = (kf q).1 7 (l1 : Int32).toNatClampNeg → ∃ c6, u5 = some c6 ∧ kiT q c6 ∧ vp_in l2 11 ∧ P (some (vi (x1.1 (c6 + 7) (l2 : Int32).toNatClampNeg))) x1)))))) :
    KT G q (d + 1) zk_X11_firstState 0 [(0, vr 0), (1, vi l1), (2, vi l2)] [] x P := by
  refine T_aload_n 0 (dk dtk_X11_firstState 0 rfl) rfl rfl ?_
  refine T_iload_n 1 (dk dtk_X11_firstState 1 rfl) rfl rfl ?_
  refine KC_Vi [vi l1] [] rfl (dk dtk_X11_firstState 2 rfl) kcv_X11_309 rfl kk_0 rfl (kl_0 hq) (Nat.le_of_ble_eq_true rfl) (Nat.le_of_ble_eq_true rfl) (gok_i (av_c (gkr (kl_0 hq)) (av_c rfl (av_c rfl av_n))) as_n) rfl h (fun r2 x1 h => ?_)
  refine T_if_eq 22 (dk dtk_X11_firstState 3 rfl) (by decide) (fun c3 => ?_) (fun c3 => ?_)
  · have h := h.1 c3
    refine T_iconst (v := (-1)) (dk dtk_X11_firstState 12 rfl) (by decide +kernel) ?_
    exact KT_iret (dk dtk_X11_firstState 13 rfl) rfl rfl h
  · have h := h.2 c3
    refine T_aload_n 0 (dk dtk_X11_firstState 4 rfl) rfl rfl ?_
    refine T_getR 0 6 7 (dk dtk_X11_firstState 5 rfl) kfl_X11_59 kk_0 (kl_0 hq) (by decide) rfl kr_0_6 ?_
    refine T_iload_n 1 (dk dtk_X11_firstState 6 rfl) rfl rfl ?_
    obtain ⟨h4, h⟩ := h
    obtain ⟨u5, eu5⟩ : ∃ z, z = (kf q).1 7 (l1 : Int32).toNatClampNeg := ⟨_, rfl⟩
    have h := h u5 eu5
    refine T_aaldT 7 2 (dk dtk_X11_firstState 7 rfl) kk_7 (kl_7 hq) h4 ?_
    rw [← eu5]
    obtain ⟨c6, rfl, g7, h⟩ := h
    refine T_getR c6 6 (c6 + 7) (dk dtk_X11_firstState 8 rfl) kfl_X11_381 (kk_T0 g7) (kl_T0 hq g7) (by decide) rfl (kr_T_6 g7) ?_
    refine T_iload_n 2 (dk dtk_X11_firstState 9 rfl) rfl rfl ?_
    obtain ⟨h8, h⟩ := h
    refine T_iald (c6 + 7) 11 (dk dtk_X11_firstState 10 rfl) (kk_T7 g7) (kl_T7 hq g7) h8 ?_
    refine T_goto 23 (dk dtk_X11_firstState 11 rfl) (by decide) ?_
    exact KT_iret (dk dtk_X11_firstState 13 rfl) rfl rfl h
set_option maxRecDepth 100000 in
theorem dtk_X11_needCompiled : dck cX11_needCompiled [(0, .aload_n 0, 1), (1, .getfield 110, 3), (4, .ifCond .ne 14, 3), (7, .new 102, 3), (10, .dup, 1), (11, .ldc_w 384, 3), (14, .invokespecial 191, 3), (17, .athrow, 1), (18, .return_, 1)] = true := by decide +kernel
set_option maxRecDepth 100000 in
set_option maxHeartbeats 4000000 in
theorem kg_X11_needCompiled_0 {G : kG} {q : kP} {d : Nat} {x : gd} {P : Option gv → gd → Prop} {X : String → gd → Prop} (hq : kV q) 
    (h : ((¬ ((x.1 0 9) = (0 : Int32)) → P none x) ∧ ((x.1 0 9) = (0 : Int32) → X iSE x))) :
    KE G q (d + 6) zk_X11_needCompiled 0 [(0, vr 0)] [] x P X := by
  refine T_aload_n 0 (dk dtk_X11_needCompiled 0 rfl) rfl rfl ?_
  refine T_getI 0 9 (dk dtk_X11_needCompiled 1 rfl) kfl_X11_110 kk_0 (kl_0 hq) (by decide) rfl ?_
  refine T_if_ne 18 (dk dtk_X11_needCompiled 2 rfl) (by decide) (fun c1 => ?_) (fun c1 => ?_)
  · have h := h.1 c1
    exact KE_vret (dk dtk_X11_needCompiled 8 rfl) rfl h
  · have h := h.2 c1
    exact T_thrW kth_X11_102_384 (dk dtk_X11_needCompiled 3 rfl) (dk dtk_X11_needCompiled 4 rfl) (dk dtk_X11_needCompiled 5 rfl) (dk dtk_X11_needCompiled 6 rfl) (dk dtk_X11_needCompiled 7 rfl) (by intro z hz; cases hz) (by omega) (Nat.le_of_ble_eq_true rfl) (Or.inr ⟨rfl, _, rfl, h⟩)
set_option maxRecDepth 100000 in
theorem dtk_X11_needRun : dck cX11_needRun [(0, .aload_n 0, 1), (1, .getfield 358, 3), (4, .ifCond .ne 14, 3), (7, .new 102, 3), (10, .dup, 1), (11, .ldc_w 386, 3), (14, .invokespecial 191, 3), (17, .athrow, 1), (18, .return_, 1)] = true := by decide +kernel
set_option maxRecDepth 100000 in
set_option maxHeartbeats 4000000 in
theorem kg_X11_needRun_0 {G : kG} {q : kP} {d : Nat} {x : gd} {P : Option gv → gd → Prop} {X : String → gd → Prop} (hq : kV q) 
    (h : ((¬ ((x.1 0 10) = (0 : Int32)) → P none x) ∧ ((x.1 0 10) = (0 : Int32) → X iSE x))) :
    KE G q (d + 6) zk_X11_needRun 0 [(0, vr 0)] [] x P X := by
  refine T_aload_n 0 (dk dtk_X11_needRun 0 rfl) rfl rfl ?_
  refine T_getI 0 10 (dk dtk_X11_needRun 1 rfl) kfl_X11_358 kk_0 (kl_0 hq) (by decide) rfl ?_
  refine T_if_ne 18 (dk dtk_X11_needRun 2 rfl) (by decide) (fun c1 => ?_) (fun c1 => ?_)
  · have h := h.1 c1
    exact KE_vret (dk dtk_X11_needRun 8 rfl) rfl h
  · have h := h.2 c1
    exact T_thrW kth_X11_102_386 (dk dtk_X11_needRun 3 rfl) (dk dtk_X11_needRun 4 rfl) (dk dtk_X11_needRun 5 rfl) (dk dtk_X11_needRun 6 rfl) (dk dtk_X11_needRun 7 rfl) (by intro z hz; cases hz) (by omega) (Nat.le_of_ble_eq_true rfl) (Or.inr ⟨rfl, _, rfl, h⟩)
set_option maxRecDepth 100000 in
theorem dtk_X11_needWay : dck cX11_needWay [(0, .iload_n 0, 1), (1, .ifCond .lt 8, 3), (4, .iload_n 0, 1), (5, .iconst 2, 1), (6, .if_icmp .lt 14, 3), (9, .new 70, 3), (12, .dup, 1), (13, .ldc_w 388, 3), (16, .invokespecial 74, 3), (19, .athrow, 1), (20, .return_, 1)] = true := by decide +kernel
set_option maxRecDepth 100000 in
set_option maxHeartbeats 4000000 in
theorem kg_X11_needWay_0 {G : kG} {q : kP} {d : Nat} {x : gd} {P : Option gv → gd → Prop} {X : String → gd → Prop} (hq : kV q) (l0 : Int32)
    (h : ((l0 < (0 : Int32) → KE G q (d + 6) zk_X11_needWay 9 [] [] x P X) ∧ (¬ (l0 < (0 : Int32)) → ((l0 < (2 : Int32) → P none x) ∧ (¬ (l0 < (2 : Int32)) → KE G q (d + 6) zk_X11_needWay 9 [] [] x P X))))) :
    KE G q (d + 6) zk_X11_needWay 0 [(0, vi l0)] [] x P X := by
  refine T_iload_n 0 (dk dtk_X11_needWay 0 rfl) rfl rfl ?_
  refine T_if_lt 9 (dk dtk_X11_needWay 1 rfl) (by decide) (fun c1 => ?_) (fun c1 => ?_)
  · have h := h.1 c1
    exact T_sub [] rfl h
  · have h := h.2 c1
    refine T_iload_n 0 (dk dtk_X11_needWay 2 rfl) rfl rfl ?_
    refine T_iconst (v := 2) (dk dtk_X11_needWay 3 rfl) (by decide +kernel) ?_
    refine T_icmp_lt 20 (dk dtk_X11_needWay 4 rfl) (by decide) (fun c2 => ?_) (fun c2 => ?_)
    · have h := h.1 c2
      exact KE_vret (dk dtk_X11_needWay 10 rfl) rfl h
    · have h := h.2 c2
      exact T_sub [] rfl h
set_option maxRecDepth 100000 in
set_option maxHeartbeats 4000000 in
theorem kg_X11_needWay_9 {G : kG} {q : kP} {d : Nat} {x : gd} {P : Option gv → gd → Prop} {X : String → gd → Prop} (hq : kV q) 
    (h : X iAE x) :
    KE G q (d + 6) zk_X11_needWay 9 [] [] x P X := by
  exact T_thrW kth_X11_70_388 (dk dtk_X11_needWay 5 rfl) (dk dtk_X11_needWay 6 rfl) (dk dtk_X11_needWay 7 rfl) (dk dtk_X11_needWay 8 rfl) (dk dtk_X11_needWay 9 rfl) (by intro z hz; cases hz) (by omega) (Nat.le_of_ble_eq_true rfl) (Or.inr ⟨rfl, _, rfl, h⟩)
set_option maxRecDepth 100000 in
theorem dtk_X11_needFinding : dck cX11_needFinding [(0, .iload_n 0, 1), (1, .ifCond .lt 9, 3), (4, .iload_n 0, 1), (5, .bipush 11, 2), (7, .if_icmp .lt 14, 3), (10, .new 70, 3), (13, .dup, 1), (14, .ldc_w 340, 3), (17, .invokespecial 74, 3), (20, .athrow, 1), (21, .return_, 1)] = true := by decide +kernel
set_option maxRecDepth 100000 in
set_option maxHeartbeats 4000000 in
theorem kg_X11_needFinding_0 {G : kG} {q : kP} {d : Nat} {x : gd} {P : Option gv → gd → Prop} {X : String → gd → Prop} (hq : kV q) (l0 : Int32)
    (h : ((l0 < (0 : Int32) → KE G q (d + 6) zk_X11_needFinding 10 [] [] x P X) ∧ (¬ (l0 < (0 : Int32)) → ((l0 < (11 : Int32) → P none x) ∧ (¬ (l0 < (11 : Int32)) → KE G q (d + 6) zk_X11_needFinding 10 [] [] x P X))))) :
    KE G q (d + 6) zk_X11_needFinding 0 [(0, vi l0)] [] x P X := by
  refine T_iload_n 0 (dk dtk_X11_needFinding 0 rfl) rfl rfl ?_
  refine T_if_lt 10 (dk dtk_X11_needFinding 1 rfl) (by decide) (fun c1 => ?_) (fun c1 => ?_)
  · have h := h.1 c1
    exact T_sub [] rfl h
  · have h := h.2 c1
    refine T_iload_n 0 (dk dtk_X11_needFinding 2 rfl) rfl rfl ?_
    refine T_bipush (v := 11) (dk dtk_X11_needFinding 3 rfl) (by decide +kernel) ?_
    refine T_icmp_lt 21 (dk dtk_X11_needFinding 4 rfl) (by decide) (fun c2 => ?_) (fun c2 => ?_)
    · have h := h.1 c2
      exact KE_vret (dk dtk_X11_needFinding 10 rfl) rfl h
    · have h := h.2 c2
      exact T_sub [] rfl h
set_option maxRecDepth 100000 in
set_option maxHeartbeats 4000000 in
theorem kg_X11_needFinding_10 {G : kG} {q : kP} {d : Nat} {x : gd} {P : Option gv → gd → Prop} {X : String → gd → Prop} (hq : kV q) 
    (h : X iAE x) :
    KE G q (d + 6) zk_X11_needFinding 10 [] [] x P X := by
  exact T_thrW kth_X11_70_340 (dk dtk_X11_needFinding 5 rfl) (dk dtk_X11_needFinding 6 rfl) (dk dtk_X11_needFinding 7 rfl) (dk dtk_X11_needFinding 8 rfl) (dk dtk_X11_needFinding 9 rfl) (by intro z hz; cases hz) (by omega) (Nat.le_of_ble_eq_true rfl) (Or.inr ⟨rfl, _, rfl, h⟩)
set_option maxRecDepth 100000 in
theorem dtk_X11_needIndex : dck cX11_needIndex [(0, .iload_n 0, 1), (1, .ifCond .lt 8, 3), (4, .iload_n 0, 1), (5, .iload_n 1, 1), (6, .if_icmp .lt 14, 3), (9, .new 127, 3), (12, .dup, 1), (13, .ldc_w 390, 3), (16, .invokespecial 131, 3), (19, .athrow, 1), (20, .return_, 1)] = true := by decide +kernel
set_option maxRecDepth 100000 in
set_option maxHeartbeats 4000000 in
theorem kg_X11_needIndex_0 {G : kG} {q : kP} {d : Nat} {x : gd} {P : Option gv → gd → Prop} {X : String → gd → Prop} (hq : kV q) (l0 : Int32) (l1 : Int32)
    (h : ((l0 < (0 : Int32) → KE G q (d + 6) zk_X11_needIndex 9 [] [] x P X) ∧ (¬ (l0 < (0 : Int32)) → ((l0 < l1 → P none x) ∧ (¬ (l0 < l1) → KE G q (d + 6) zk_X11_needIndex 9 [] [] x P X))))) :
    KE G q (d + 6) zk_X11_needIndex 0 [(0, vi l0), (1, vi l1)] [] x P X := by
  refine T_iload_n 0 (dk dtk_X11_needIndex 0 rfl) rfl rfl ?_
  refine T_if_lt 9 (dk dtk_X11_needIndex 1 rfl) (by decide) (fun c1 => ?_) (fun c1 => ?_)
  · have h := h.1 c1
    exact T_sub [] rfl h
  · have h := h.2 c1
    refine T_iload_n 0 (dk dtk_X11_needIndex 2 rfl) rfl rfl ?_
    refine T_iload_n 1 (dk dtk_X11_needIndex 3 rfl) rfl rfl ?_
    refine T_icmp_lt 20 (dk dtk_X11_needIndex 4 rfl) (by decide) (fun c2 => ?_) (fun c2 => ?_)
    · have h := h.1 c2
      exact KE_vret (dk dtk_X11_needIndex 10 rfl) rfl h
    · have h := h.2 c2
      exact T_sub [] rfl h
set_option maxRecDepth 100000 in
set_option maxHeartbeats 4000000 in
theorem kg_X11_needIndex_9 {G : kG} {q : kP} {d : Nat} {x : gd} {P : Option gv → gd → Prop} {X : String → gd → Prop} (hq : kV q) 
    (h : X iOE x) :
    KE G q (d + 6) zk_X11_needIndex 9 [] [] x P X := by
  exact T_thrW kth_X11_127_390 (dk dtk_X11_needIndex 5 rfl) (dk dtk_X11_needIndex 6 rfl) (dk dtk_X11_needIndex 7 rfl) (dk dtk_X11_needIndex 8 rfl) (dk dtk_X11_needIndex 9 rfl) (by intro z hz; cases hz) (by omega) (Nat.le_of_ble_eq_true rfl) (Or.inr ⟨rfl, _, rfl, h⟩)
set_option maxRecDepth 100000 in
theorem dtk_X11_needWhat : dck cX11_needWhat [(0, .iload_n 0, 1), (1, .ifCond .lt 8, 3), (4, .iload_n 0, 1), (5, .iload_n 1, 1), (6, .if_icmp .lt 13, 3), (9, .new 127, 3), (12, .dup, 1), (13, .ldc 129, 2), (15, .invokespecial 131, 3), (18, .athrow, 1), (19, .return_, 1)] = true := by decide +kernel
set_option maxRecDepth 100000 in
set_option maxHeartbeats 4000000 in
theorem kg_X11_needWhat_0 {G : kG} {q : kP} {d : Nat} {x : gd} {P : Option gv → gd → Prop} {X : String → gd → Prop} (hq : kV q) (l0 : Int32) (l1 : Int32)
    (h : ((l0 < (0 : Int32) → KE G q (d + 6) zk_X11_needWhat 9 [] [] x P X) ∧ (¬ (l0 < (0 : Int32)) → ((l0 < l1 → P none x) ∧ (¬ (l0 < l1) → KE G q (d + 6) zk_X11_needWhat 9 [] [] x P X))))) :
    KE G q (d + 6) zk_X11_needWhat 0 [(0, vi l0), (1, vi l1)] [] x P X := by
  refine T_iload_n 0 (dk dtk_X11_needWhat 0 rfl) rfl rfl ?_
  refine T_if_lt 9 (dk dtk_X11_needWhat 1 rfl) (by decide) (fun c1 => ?_) (fun c1 => ?_)
  · have h := h.1 c1
    exact T_sub [] rfl h
  · have h := h.2 c1
    refine T_iload_n 0 (dk dtk_X11_needWhat 2 rfl) rfl rfl ?_
    refine T_iload_n 1 (dk dtk_X11_needWhat 3 rfl) rfl rfl ?_
    refine T_icmp_lt 19 (dk dtk_X11_needWhat 4 rfl) (by decide) (fun c2 => ?_) (fun c2 => ?_)
    · have h := h.1 c2
      exact KE_vret (dk dtk_X11_needWhat 10 rfl) rfl h
    · have h := h.2 c2
      exact T_sub [] rfl h
set_option maxRecDepth 100000 in
set_option maxHeartbeats 4000000 in
theorem kg_X11_needWhat_9 {G : kG} {q : kP} {d : Nat} {x : gd} {P : Option gv → gd → Prop} {X : String → gd → Prop} (hq : kV q) 
    (h : X iOE x) :
    KE G q (d + 6) zk_X11_needWhat 9 [] [] x P X := by
  exact T_thr kth_X11_127_129 (dk dtk_X11_needWhat 5 rfl) (dk dtk_X11_needWhat 6 rfl) (dk dtk_X11_needWhat 7 rfl) (dk dtk_X11_needWhat 8 rfl) (dk dtk_X11_needWhat 9 rfl) (by intro z hz; cases hz) (by omega) (Nat.le_of_ble_eq_true rfl) (Or.inr ⟨rfl, _, rfl, h⟩)
