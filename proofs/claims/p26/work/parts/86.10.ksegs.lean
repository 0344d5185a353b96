section
set_option maxRecDepth 100000 in
theorem dtk_X5_setLock : dck cX5_setLock [(0, .aload_n 0, 1), (1, .getfield 29, 3), (4, .aload_n 0, 1), (5, .getfield 49, 3), (8, .iconst 2, 1), (9, .iload_n 1, 1), (10, .imul, 1), (11, .iadd, 1), (12, .iload_n 2, 1), (13, .iconst 1, 1), (14, .iadd, 1), (15, .iastore, 1), (16, .aload_n 0, 1), (17, .getfield 29, 3), (20, .aload_n 0, 1), (21, .getfield 49, 3), (24, .iconst 2, 1), (25, .iload_n 1, 1), (26, .imul, 1), (27, .iadd, 1), (28, .iconst 1, 1), (29, .iadd, 1), (30, .iload_n 3, 1), (31, .iastore, 1), (32, .return_, 1)] = true := by decide +kernel
set_option maxRecDepth 100000 in
set_option maxHeartbeats 4000000 in
theorem kg_X5_setLock_0 {G : kG} {q : kP} {d : Nat} {x : gd} {P : Option gv → gd → Prop} (hq : kV q) {o : Nat} (ho : kiM q o) (l1 : Int32) (l2 : Int32) (l3 : Int32)
    (h : vp_in ((x.1 o 6) + (2 * l1)) 228 ∧ (∀ x2 : gd, x2 = si x (o + 5) ((x.1 o 6) + (2 * l1) : Int32).toNatClampNeg (l2 + 1) → vp_in (((x2.1 o 6) + (2 * l1)) + 1) 228 ∧ (∀ x4 : gd, x4 = si x2 (o + 5) (((x2.1 o 6) + (2 * l1)) + 1 : Int32).toNatClampNeg l3 → P none x4))) :
    KT G q d zk_X5_setLock 0 [(0, vr o), (1, vi l1), (2, vi l2), (3, vi l3)] [] x P := by
  refine T_aload_n 0 (dk dtk_X5_setLock 0 rfl) rfl rfl ?_
  refine T_getR o 4 (o + 5) (dk dtk_X5_setLock 1 rfl) kfl_X5_29 (kk_M0 ho) (kl_M0 hq ho) (by decide) rfl (kr_M_4 ho) ?_
  refine T_aload_n 0 (dk dtk_X5_setLock 2 rfl) rfl rfl ?_
  refine T_getI o 6 (dk dtk_X5_setLock 3 rfl) kfl_X5_49 (kk_M0 ho) (kl_M0 hq ho) (by decide) rfl ?_
  refine T_iconst (v := 2) (dk dtk_X5_setLock 4 rfl) (by decide +kernel) ?_
  refine T_iload_n 1 (dk dtk_X5_setLock 5 rfl) rfl rfl ?_
  refine T_imul (dk dtk_X5_setLock 6 rfl) ?_
  refine T_iadd (dk dtk_X5_setLock 7 rfl) ?_
  refine T_iload_n 2 (dk dtk_X5_setLock 8 rfl) rfl rfl ?_
  refine T_iconst (v := 1) (dk dtk_X5_setLock 9 rfl) (by decide +kernel) ?_
  refine T_iadd (dk dtk_X5_setLock 10 rfl) ?_
  obtain ⟨h1, h⟩ := h
  obtain ⟨x2, ex2⟩ : ∃ z, z = si x (o + 5) ((x.1 o 6) + (2 * l1) : Int32).toNatClampNeg (l2 + 1) := ⟨_, rfl⟩
  have h := h x2 ex2
  refine T_iast (o + 5) 228 (dk dtk_X5_setLock 11 rfl) (kk_M5 ho) (kl_M5 hq ho) h1 ?_
  rw [← ex2]
  refine T_aload_n 0 (dk dtk_X5_setLock 12 rfl) rfl rfl ?_
  refine T_getR o 4 (o + 5) (dk dtk_X5_setLock 13 rfl) kfl_X5_29 (kk_M0 ho) (kl_M0 hq ho) (by decide) rfl (kr_M_4 ho) ?_
  refine T_aload_n 0 (dk dtk_X5_setLock 14 rfl) rfl rfl ?_
  refine T_getI o 6 (dk dtk_X5_setLock 15 rfl) kfl_X5_49 (kk_M0 ho) (kl_M0 hq ho) (by decide) rfl ?_
  refine T_iconst (v := 2) (dk dtk_X5_setLock 16 rfl) (by decide +kernel) ?_
  refine T_iload_n 1 (dk dtk_X5_setLock 17 rfl) rfl rfl ?_
  refine T_imul (dk dtk_X5_setLock 18 rfl) ?_
  refine T_iadd (dk dtk_X5_setLock 19 rfl) ?_
  refine T_iconst (v := 1) (dk dtk_X5_setLock 20 rfl) (by decide +kernel) ?_
  refine T_iadd (dk dtk_X5_setLock 21 rfl) ?_
  refine T_iload_n 3 (dk dtk_X5_setLock 22 rfl) rfl rfl ?_
  obtain ⟨h3, h⟩ := h
  obtain ⟨x4, ex4⟩ : ∃ z, z = si x2 (o + 5) (((x2.1 o 6) + (2 * l1)) + 1 : Int32).toNatClampNeg l3 := ⟨_, rfl⟩
  have h := h x4 ex4
  refine T_iast (o + 5) 228 (dk dtk_X5_setLock 23 rfl) (kk_M5 ho) (kl_M5 hq ho) h3 ?_
  rw [← ex4]
  exact KT_vret (dk dtk_X5_setLock 24 rfl) rfl h
set_option maxRecDepth 100000 in
theorem dtk_X5_heldBy : dck cX5_heldBy [(0, .iconst 0, 1), (1, .istore_n 2, 1), (2, .iconst 0, 1), (3, .istore_n 3, 1), (4, .iload_n 3, 1), (5, .aload_n 0, 1), (6, .getfield 11, 3), (9, .getfield 52, 3), (12, .if_icmp .ge 24, 3), (15, .aload_n 0, 1), (16, .iload_n 3, 1), (17, .invokevirtual 113, 3), (20, .iload_n 1, 1), (21, .if_icmp .ne 9, 3), (24, .iload_n 2, 1), (25, .iconst 1, 1), (26, .iload_n 3, 1), (27, .ishl, 1), (28, .ior, 1), (29, .istore_n 2, 1), (30, .iinc 3 1, 3), (33, .goto (-29), 3), (36, .iload_n 2, 1), (37, .ireturn, 1)] = true := by decide +kernel
set_option maxRecDepth 100000 in
set_option maxHeartbeats 4000000 in
theorem kg_X5_heldBy_0 {G : kG} {q : kP} {d : Nat} {x : gd} {P : Option gv → gd → Prop} (hq : kV q) {o : Nat} (ho : kiM q o) (l1 : Int32)
    (h : KT G q (d + 1) zk_X5_heldBy 4 [(0, vr o), (1, vi l1), (2, vi 0), (3, vi 0)] [] x P) :
    KT G q (d + 1) zk_X5_heldBy 0 [(0, vr o), (1, vi l1)] [] x P := by
  refine T_iconst (v := 0) (dk dtk_X5_heldBy 0 rfl) (by decide +kernel) ?_
  refine T_istore_n (lv2 := [(2, vi 0), (0, vr o), (1, vi l1)]) (dk dtk_X5_heldBy 1 rfl) rfl (by decide) rfl ?_
  refine T_iconst (v := 0) (dk dtk_X5_heldBy 2 rfl) (by decide +kernel) ?_
  refine T_istore_n (lv2 := [(3, vi 0), (2, vi 0), (0, vr o), (1, vi l1)]) (dk dtk_X5_heldBy 3 rfl) rfl (by decide) rfl ?_
  exact T_sub [2, 3, 1, 0] rfl h
set_option maxRecDepth 100000 in
set_option maxHeartbeats 4000000 in
theorem kg_X5_heldBy_4 {G : kG} {q : kP} {d : Nat} {x : gd} {P : Option gv → gd → Prop} (hq : kV q) {o : Nat} (ho : kiM q o) (l1 : Int32) (l2 : Int32) (l3 : Int32)
    (h : (((x.1 60 9) ≤ l3 → P (some (vi l2)) x) ∧ (¬ ((x.1 60 9) ≤ l3) → KT G q d zk_X5_holder 0 [(0, vr o), (1, vi l3)] [] x (ri (fun r3 x2 => ((¬ (r3 = l1) → KT G q (d + 1) zk_X5_heldBy 4 [(0, vr o), (1, vi l1), (2, vi l2), (3, vi (l3 + 1))] [] x2 P) ∧ (r3 = l1 → KT G q (d + 1) zk_X5_heldBy 4 [(0, vr o), (1, vi l1), (2, vi (l2 ||| (1 <<< (l3 &&& 31 : Int32)))), (3, vi (l3 + 1))] [] x2 P))))))) :
    KT G q (d + 1) zk_X5_heldBy 4 [(0, vr o), (1, vi l1), (2, vi l2), (3, vi l3)] [] x P := by
  refine T_iload_n 3 (dk dtk_X5_heldBy 4 rfl) rfl rfl ?_
  refine T_aload_n 0 (dk dtk_X5_heldBy 5 rfl) rfl rfl ?_
  refine T_getR o 0 60 (dk dtk_X5_heldBy 6 rfl) kfl_X5_11 (kk_M0 ho) (kl_M0 hq ho) (by decide) rfl (kr_M_0 ho) ?_
  refine T_getI 60 9 (dk dtk_X5_heldBy 7 rfl) kfl_X5_52 kk_60 (kl_60 hq) (by decide) rfl ?_
  refine T_icmp_ge 36 (dk dtk_X5_heldBy 8 rfl) (by decide) (fun c1 => ?_) (fun c1 => ?_)
  · have h := h.1 c1
    refine T_iload_n 2 (dk dtk_X5_heldBy 22 rfl) rfl rfl ?_
    exact KT_iret (dk dtk_X5_heldBy 23 rfl) rfl rfl h
  · have h := h.2 c1
    refine T_aload_n 0 (dk dtk_X5_heldBy 9 rfl) rfl rfl ?_
    refine T_iload_n 3 (dk dtk_X5_heldBy 10 rfl) rfl rfl ?_
    refine KC_Vi [vi l3] [] rfl (dk dtk_X5_heldBy 11 rfl) kcv_X5_113 rfl (kk_M0 ho) rfl (kl_M0 hq ho) (Nat.le_of_ble_eq_true rfl) (Nat.le_of_ble_eq_true rfl) (gok_i (av_c (gkr (kl_M0 hq ho)) (av_c rfl (av_c rfl (av_c rfl av_n)))) as_n) rfl h (fun r3 x2 h => ?_)
    refine T_iload_n 1 (dk dtk_X5_heldBy 12 rfl) rfl rfl ?_
    refine T_icmp_ne 30 (dk dtk_X5_heldBy 13 rfl) (by decide) (fun c4 => ?_) (fun c4 => ?_)
    · have h := h.1 c4
      refine T_iinc (v := l3 + 1) (lv2 := [(3, vi (l3 + 1)), (0, vr o), (1, vi l1), (2, vi l2)]) 3 (dk dtk_X5_heldBy 20 rfl) rfl rfl (by decide) rfl ?_
      refine T_goto 4 (dk dtk_X5_heldBy 21 rfl) (by decide) ?_
      exact T_sub [1, 2, 3, 0] rfl h
    · have h := h.2 c4
      refine T_iload_n 2 (dk dtk_X5_heldBy 14 rfl) rfl rfl ?_
      refine T_iconst (v := 1) (dk dtk_X5_heldBy 15 rfl) (by decide +kernel) ?_
      refine T_iload_n 3 (dk dtk_X5_heldBy 16 rfl) rfl rfl ?_
      refine T_ishl (dk dtk_X5_heldBy 17 rfl) ?_
      refine T_ior (dk dtk_X5_heldBy 18 rfl) ?_
      refine T_istore_n (lv2 := [(2, vi (l2 ||| (1 <<< (l3 &&& 31 : Int32)))), (0, vr o), (1, vi l1), (3, vi l3)]) (dk dtk_X5_heldBy 19 rfl) rfl (by decide) rfl ?_
      refine T_iinc (v := l3 + 1) (lv2 := [(3, vi (l3 + 1)), (2, vi (l2 ||| (1 <<< (l3 &&& 31 : Int32)))), (0, vr o), (1, vi l1)]) 3 (dk dtk_X5_heldBy 20 rfl) rfl rfl (by decide) rfl ?_
      refine T_goto 4 (dk dtk_X5_heldBy 21 rfl) (by decide) ?_
      exact T_sub [2, 3, 1, 0] rfl h
set_option maxRecDepth 100000 in
theorem dtk_X5_waiters : dck cX5_waiters [(0, .iconst 0, 1), (1, .istore_n 2, 1), (2, .iconst 0, 1), (3, .istore_n 3, 1), (4, .iload_n 3, 1), (5, .aload_n 0, 1), (6, .getfield 11, 3), (9, .getfield 67, 3), (12, .if_icmp .ge 36, 3), (15, .aload_n 0, 1), (16, .iload_n 3, 1), (17, .iconst 3, 1), (18, .invokevirtual 90, 3), (21, .iload_n 1, 1), (22, .iconst 1, 1), (23, .iadd, 1), (24, .if_icmp .ne 18, 3), (27, .aload_n 0, 1), (28, .iload_n 3, 1), (29, .iconst 5, 1), (30, .invokevirtual 90, 3), (33, .ifCond .ne 9, 3), (36, .iload_n 2, 1), (37, .iconst 1, 1), (38, .iload_n 3, 1), (39, .ishl, 1), (40, .ior, 1), (41, .istore_n 2, 1), (42, .iinc 3 1, 3), (45, .goto (-41), 3), (48, .iload_n 2, 1), (49, .ireturn, 1)] = true := by decide +kernel
set_option maxRecDepth 100000 in
set_option maxHeartbeats 4000000 in
theorem kg_X5_waiters_0 {G : kG} {q : kP} {d : Nat} {x : gd} {P : Option gv → gd → Prop} (hq : kV q) {o : Nat} (ho : kiM q o) (l1 : Int32)
    (h : KT G q (d + 1) zk_X5_waiters 4 [(0, vr o), (1, vi l1), (2, vi 0), (3, vi 0)] [] x P) :
    KT G q (d + 1) zk_X5_waiters 0 [(0, vr o), (1, vi l1)] [] x P := by
  refine T_iconst (v := 0) (dk dtk_X5_waiters 0 rfl) (by decide +kernel) ?_
  refine T_istore_n (lv2 := [(2, vi 0), (0, vr o), (1, vi l1)]) (dk dtk_X5_waiters 1 rfl) rfl (by decide) rfl ?_
  refine T_iconst (v := 0) (dk dtk_X5_waiters 2 rfl) (by decide +kernel) ?_
  refine T_istore_n (lv2 := [(3, vi 0), (2, vi 0), (0, vr o), (1, vi l1)]) (dk dtk_X5_waiters 3 rfl) rfl (by decide) rfl ?_
  exact T_sub [2, 3, 1, 0] rfl h
set_option maxRecDepth 100000 in
set_option maxHeartbeats 4000000 in
theorem kg_X5_waiters_4 {G : kG} {q : kP} {d : Nat} {x : gd} {P : Option gv → gd → Prop} (hq : kV q) {o : Nat} (ho : kiM q o) (l1 : Int32) (l2 : Int32) (l3 : Int32)
    (h : (((x.1 60 10) ≤ l3 → P (some (vi l2)) x) ∧ (¬ ((x.1 60 10) ≤ l3) → KT G q d zk_X5_get 0 [(0, vr o), (1, vi l3), (2, vi 3)] [] x (ri (fun r3 x2 => ((¬ (r3 = (l1 + 1)) → KT G q (d + 1) zk_X5_waiters 4 [(0, vr o), (1, vi l1), (2, vi l2), (3, vi (l3 + 1))] [] x2 P) ∧ (r3 = (l1 + 1) → KT G q d zk_X5_get 0 [(0, vr o), (1, vi l3), (2, vi 5)] [] x2 (ri (fun r6 x5 => ((¬ (r6 = (0 : Int32)) → KT G q (d + 1) zk_X5_waiters 4 [(0, vr o), (1, vi l1), (2, vi l2), (3, vi (l3 + 1))] [] x5 P) ∧ (r6 = (0 : Int32) → KT G q (d + 1) zk_X5_waiters 4 [(0, vr o), (1, vi l1), (2, vi (l2 ||| (1 <<< (l3 &&& 31 : Int32)))), (3, vi (l3 + 1))] [] x5 P))))))))))) :
    KT G q (d + 1) zk_X5_waiters 4 [(0, vr o), (1, vi l1), (2, vi l2), (3, vi l3)] [] x P := by
  refine T_iload_n 3 (dk dtk_X5_waiters 4 rfl) rfl rfl ?_
  refine T_aload_n 0 (dk dtk_X5_waiters 5 rfl) rfl rfl ?_
  refine T_getR o 0 60 (dk dtk_X5_waiters 6 rfl) kfl_X5_11 (kk_M0 ho) (kl_M0 hq ho) (by decide) rfl (kr_M_0 ho) ?_
  refine T_getI 60 10 (dk dtk_X5_waiters 7 rfl) kfl_X5_67 kk_60 (kl_60 hq) (by decide) rfl ?_
  refine T_icmp_ge 48 (dk dtk_X5_waiters 8 rfl) (by decide) (fun c1 => ?_) (fun c1 => ?_)
  · have h := h.1 c1
    refine T_iload_n 2 (dk dtk_X5_waiters 30 rfl) rfl rfl ?_
    exact KT_iret (dk dtk_X5_waiters 31 rfl) rfl rfl h
  · have h := h.2 c1
    refine T_aload_n 0 (dk dtk_X5_waiters 9 rfl) rfl rfl ?_
    refine T_iload_n 3 (dk dtk_X5_waiters 10 rfl) rfl rfl ?_
    refine T_iconst (v := 3) (dk dtk_X5_waiters 11 rfl) (by decide +kernel) ?_
    refine KC_Vi [vi l3, vi 3] [] rfl (dk dtk_X5_waiters 12 rfl) kcv_X5_90 rfl (kk_M0 ho) rfl (kl_M0 hq ho) (Nat.le_of_ble_eq_true rfl) (Nat.le_of_ble_eq_true rfl) (gok_i (av_c (gkr (kl_M0 hq ho)) (av_c rfl (av_c rfl (av_c rfl av_n)))) as_n) rfl h (fun r3 x2 h => ?_)
    refine T_iload_n 1 (dk dtk_X5_waiters 13 rfl) rfl rfl ?_
    refine T_iconst (v := 1) (dk dtk_X5_waiters 14 rfl) (by decide +kernel) ?_
    refine T_iadd (dk dtk_X5_waiters 15 rfl) ?_
    refine T_icmp_ne 42 (dk dtk_X5_waiters 16 rfl) (by decide) (fun c4 => ?_) (fun c4 => ?_)
    · have h := h.1 c4
      refine T_iinc (v := l3 + 1) (lv2 := [(3, vi (l3 + 1)), (0, vr o), (1, vi l1), (2, vi l2)]) 3 (dk dtk_X5_waiters 28 rfl) rfl rfl (by decide) rfl ?_
      refine T_goto 4 (dk dtk_X5_waiters 29 rfl) (by decide) ?_
      exact T_sub [1, 2, 3, 0] rfl h
    · have h := h.2 c4
      refine T_aload_n 0 (dk dtk_X5_waiters 17 rfl) rfl rfl ?_
      refine T_iload_n 3 (dk dtk_X5_waiters 18 rfl) rfl rfl ?_
      refine T_iconst (v := 5) (dk dtk_X5_waiters 19 rfl) (by decide +kernel) ?_
      refine KC_Vi [vi l3, vi 5] [] rfl (dk dtk_X5_waiters 20 rfl) kcv_X5_90 rfl (kk_M0 ho) rfl (kl_M0 hq ho) (Nat.le_of_ble_eq_true rfl) (Nat.le_of_ble_eq_true rfl) (gok_i (av_c (gkr (kl_M0 hq ho)) (av_c rfl (av_c rfl (av_c rfl av_n)))) as_n) rfl h (fun r6 x5 h => ?_)
      refine T_if_ne 42 (dk dtk_X5_waiters 21 rfl) (by decide) (fun c7 => ?_) (fun c7 => ?_)
      · have h := h.1 c7
        refine T_iinc (v := l3 + 1) (lv2 := [(3, vi (l3 + 1)), (0, vr o), (1, vi l1), (2, vi l2)]) 3 (dk dtk_X5_waiters 28 rfl) rfl rfl (by decide) rfl ?_
        refine T_goto 4 (dk dtk_X5_waiters 29 rfl) (by decide) ?_
        exact T_sub [1, 2, 3, 0] rfl h
      · have h := h.2 c7
        refine T_iload_n 2 (dk dtk_X5_waiters 22 rfl) rfl rfl ?_
        refine T_iconst (v := 1) (dk dtk_X5_waiters 23 rfl) (by decide +kernel) ?_
        refine T_iload_n 3 (dk dtk_X5_waiters 24 rfl) rfl rfl ?_
        refine T_ishl (dk dtk_X5_waiters 25 rfl) ?_
        refine T_ior (dk dtk_X5_waiters 26 rfl) ?_
        refine T_istore_n (lv2 := [(2, vi (l2 ||| (1 <<< (l3 &&& 31 : Int32)))), (0, vr o), (1, vi l1), (3, vi l3)]) (dk dtk_X5_waiters 27 rfl) rfl (by decide) rfl ?_
        refine T_iinc (v := l3 + 1) (lv2 := [(3, vi (l3 + 1)), (2, vi (l2 ||| (1 <<< (l3 &&& 31 : Int32)))), (0, vr o), (1, vi l1)]) 3 (dk dtk_X5_waiters 28 rfl) rfl rfl (by decide) rfl ?_
        refine T_goto 4 (dk dtk_X5_waiters 29 rfl) (by decide) ?_
        exact T_sub [2, 3, 1, 0] rfl h
set_option maxRecDepth 100000 in
theorem dtk_X5_lateCell : dck cX5_lateCell [(0, .aload_n 0, 1), (1, .iload_n 1, 1), (2, .aload_n 0, 1), (3, .getfield 61, 3), (6, .iconst 2, 1), (7, .iload_n 2, 1), (8, .imul, 1), (9, .iadd, 1), (10, .invokevirtual 90, 3), (13, .ireturn, 1)] = true := by decide +kernel
set_option maxRecDepth 100000 in
set_option maxHeartbeats 4000000 in
theorem kg_X5_lateCell_0 {G : kG} {q : kP} {d : Nat} {x : gd} {P : Option gv → gd → Prop} (hq : kV q) {o : Nat} (ho : kiM q o) (l1 : Int32) (l2 : Int32)
    (h : KT G q d zk_X5_get 0 [(0, vr o), (1, vi l1), (2, vi ((x.1 o 9) + (2 * l2)))] [] x (ri (fun r2 x1 => P (some (vi r2)) x1))) :
    KT G q (d + 1) zk_X5_lateCell 0 [(0, vr o), (1, vi l1), (2, vi l2)] [] x P := by
  refine T_aload_n 0 (dk dtk_X5_lateCell 0 rfl) rfl rfl ?_
  refine T_iload_n 1 (dk dtk_X5_lateCell 1 rfl) rfl rfl ?_
  refine T_aload_n 0 (dk dtk_X5_lateCell 2 rfl) rfl rfl ?_
  refine T_getI o 9 (dk dtk_X5_lateCell 3 rfl) kfl_X5_61 (kk_M0 ho) (kl_M0 hq ho) (by decide) rfl ?_
  refine T_iconst (v := 2) (dk dtk_X5_lateCell 4 rfl) (by decide +kernel) ?_
  refine T_iload_n 2 (dk dtk_X5_lateCell 5 rfl) rfl rfl ?_
  refine T_imul (dk dtk_X5_lateCell 6 rfl) ?_
  refine T_iadd (dk dtk_X5_lateCell 7 rfl) ?_
  refine T_sub (lv2 := []) [] rfl ?_
  refine KC_Vi [vi l1, vi ((x.1 o 9) + (2 * l2))] [] rfl (dk dtk_X5_lateCell 8 rfl) kcv_X5_90 rfl (kk_M0 ho) rfl (kl_M0 hq ho) (Nat.le_of_ble_eq_true rfl) (Nat.le_of_ble_eq_true rfl) (gok_i av_n as_n) rfl h (fun r2 x1 h => ?_)
  exact KT_iret (dk dtk_X5_lateCell 9 rfl) rfl rfl h
set_option maxRecDepth 100000 in
theorem dtk_X5_lateValue : dck cX5_lateValue [(0, .aload_n 0, 1), (1, .iload_n 1, 1), (2, .aload_n 0, 1), (3, .getfield 61, 3), (6, .iconst 2, 1), (7, .iload_n 2, 1), (8, .imul, 1), (9, .iadd, 1), (10, .iconst 1, 1), (11, .iadd, 1), (12, .invokevirtual 90, 3), (15, .ireturn, 1)] = true := by decide +kernel
set_option maxRecDepth 100000 in
set_option maxHeartbeats 4000000 in
theorem kg_X5_lateValue_0 {G : kG} {q : kP} {d : Nat} {x : gd} {P : Option gv → gd → Prop} (hq : kV q) {o : Nat} (ho : kiM q o) (l1 : Int32) (l2 : Int32)
    (h : KT G q d zk_X5_get 0 [(0, vr o), (1, vi l1), (2, vi (((x.1 o 9) + (2 * l2)) + 1))] [] x (ri (fun r2 x1 => P (some (vi r2)) x1))) :
    KT G q (d + 1) zk_X5_lateValue 0 [(0, vr o), (1, vi l1), (2, vi l2)] [] x P := by
  refine T_aload_n 0 (dk dtk_X5_lateValue 0 rfl) rfl rfl ?_
  refine T_iload_n 1 (dk dtk_X5_lateValue 1 rfl) rfl rfl ?_
  refine T_aload_n 0 (dk dtk_X5_lateValue 2 rfl) rfl rfl ?_
  refine T_getI o 9 (dk dtk_X5_lateValue 3 rfl) kfl_X5_61 (kk_M0 ho) (kl_M0 hq ho) (by decide) rfl ?_
  refine T_iconst (v := 2) (dk dtk_X5_lateValue 4 rfl) (by decide +kernel) ?_
  refine T_iload_n 2 (dk dtk_X5_lateValue 5 rfl) rfl rfl ?_
  refine T_imul (dk dtk_X5_lateValue 6 rfl) ?_
  refine T_iadd (dk dtk_X5_lateValue 7 rfl) ?_
  refine T_iconst (v := 1) (dk dtk_X5_lateValue 8 rfl) (by decide +kernel) ?_
  refine T_iadd (dk dtk_X5_lateValue 9 rfl) ?_
  refine T_sub (lv2 := []) [] rfl ?_
  refine KC_Vi [vi l1, vi (((x.1 o 9) + (2 * l2)) + 1)] [] rfl (dk dtk_X5_lateValue 10 rfl) kcv_X5_90 rfl (kk_M0 ho) rfl (kl_M0 hq ho) (Nat.le_of_ble_eq_true rfl) (Nat.le_of_ble_eq_true rfl) (gok_i av_n as_n) rfl h (fun r2 x1 h => ?_)
  exact KT_iret (dk dtk_X5_lateValue 11 rfl) rfl rfl h
set_option maxRecDepth 100000 in
theorem dtk_X5_setLate : dck cX5_setLate [(0, .aload_n 0, 1), (1, .iload_n 1, 1), (2, .aload_n 0, 1), (3, .getfield 61, 3), (6, .iconst 2, 1), (7, .iload_n 2, 1), (8, .imul, 1), (9, .iadd, 1), (10, .iload_n 3, 1), (11, .invokevirtual 117, 3), (14, .aload_n 0, 1), (15, .iload_n 1, 1), (16, .aload_n 0, 1), (17, .getfield 61, 3), (20, .iconst 2, 1), (21, .iload_n 2, 1), (22, .imul, 1), (23, .iadd, 1), (24, .iconst 1, 1), (25, .iadd, 1), (26, .iload 4, 2), (28, .invokevirtual 117, 3), (31, .return_, 1)] = true := by decide +kernel
set_option maxRecDepth 100000 in
set_option maxHeartbeats 4000000 in
theorem kg_X5_setLate_0 {G : kG} {q : kP} {d : Nat} {x : gd} {P : Option gv → gd → Prop} (hq : kV q) {o : Nat} (ho : kiM q o) (l1 : Int32) (l2 : Int32) (l3 : Int32) (l4 : Int32)
    (h : KT G q d zk_X5_set 0 [(0, vr o), (1, vi l1), (2, vi ((x.1 o 9) + (2 * l2))), (3, vi l3)] [] x (rv (fun x1 => KT G q d zk_X5_set 0 [(0, vr o), (1, vi l1), (2, vi (((x1.1 o 9) + (2 * l2)) + 1)), (3, vi l4)] [] x1 (rv (fun x2 => P none x2))))) :
    KT G q (d + 1) zk_X5_setLate 0 [(0, vr o), (1, vi l1), (2, vi l2), (3, vi l3), (4, vi l4)] [] x P := by
  refine T_aload_n 0 (dk dtk_X5_setLate 0 rfl) rfl rfl ?_
  refine T_iload_n 1 (dk dtk_X5_setLate 1 rfl) rfl rfl ?_
  refine T_aload_n 0 (dk dtk_X5_setLate 2 rfl) rfl rfl ?_
  refine T_getI o 9 (dk dtk_X5_setLate 3 rfl) kfl_X5_61 (kk_M0 ho) (kl_M0 hq ho) (by decide) rfl ?_
  refine T_iconst (v := 2) (dk dtk_X5_setLate 4 rfl) (by decide +kernel) ?_
  refine T_iload_n 2 (dk dtk_X5_setLate 5 rfl) rfl rfl ?_
  refine T_imul (dk dtk_X5_setLate 6 rfl) ?_
  refine T_iadd (dk dtk_X5_setLate 7 rfl) ?_
  refine T_iload_n 3 (dk dtk_X5_setLate 8 rfl) rfl rfl ?_
  refine T_sub (lv2 := [(0, vr o), (1, vi l1), (2, vi l2), (4, vi l4)]) [0, 1, 2, 4] rfl ?_
  refine KC_Vv [vi l1, vi ((x.1 o 9) + (2 * l2)), vi l3] [] rfl (dk dtk_X5_setLate 9 rfl) kcv_X5_117 rfl (kk_M0 ho) rfl (kl_M0 hq ho) (Nat.le_of_ble_eq_true rfl) (Nat.le_of_ble_eq_true rfl) (gok_i (av_c (gkr (kl_M0 hq ho)) (av_c rfl (av_c rfl (av_c rfl av_n)))) as_n) rfl h (fun x1 h => ?_)
  refine T_aload_n 0 (dk dtk_X5_setLate 10 rfl) rfl rfl ?_
  refine T_iload_n 1 (dk dtk_X5_setLate 11 rfl) rfl rfl ?_
  refine T_aload_n 0 (dk dtk_X5_setLate 12 rfl) rfl rfl ?_
  refine T_getI o 9 (dk dtk_X5_setLate 13 rfl) kfl_X5_61 (kk_M0 ho) (kl_M0 hq ho) (by decide) rfl ?_
  refine T_iconst (v := 2) (dk dtk_X5_setLate 14 rfl) (by decide +kernel) ?_
  refine T_iload_n 2 (dk dtk_X5_setLate 15 rfl) rfl rfl ?_
  refine T_imul (dk dtk_X5_setLate 16 rfl) ?_
  refine T_iadd (dk dtk_X5_setLate 17 rfl) ?_
  refine T_iconst (v := 1) (dk dtk_X5_setLate 18 rfl) (by decide +kernel) ?_
  refine T_iadd (dk dtk_X5_setLate 19 rfl) ?_
  refine T_iload 3 (dk dtk_X5_setLate 20 rfl) rfl ?_
  refine T_sub (lv2 := []) [] rfl ?_
  refine KC_Vv [vi l1, vi (((x1.1 o 9) + (2 * l2)) + 1), vi l4] [] rfl (dk dtk_X5_setLate 21 rfl) kcv_X5_117 rfl (kk_M0 ho) rfl (kl_M0 hq ho) (Nat.le_of_ble_eq_true rfl) (Nat.le_of_ble_eq_true rfl) (gok_i av_n as_n) rfl h (fun x2 h => ?_)
  exact KT_vret (dk dtk_X5_setLate 22 rfl) rfl h
set_option maxRecDepth 100000 in
theorem dtk_X5_seenBy : dck cX5_seenBy [(0, .aload_n 0, 1), (1, .iload_n 1, 1), (2, .bipush 7, 2), (4, .invokevirtual 90, 3), (7, .iconst 1, 1), (8, .isub, 1), (9, .istore_n 3, 1), (10, .iload_n 3, 1), (11, .ifCond .lt 26, 3), (14, .aload_n 0, 1), (15, .iload_n 1, 1), (16, .iload_n 3, 1), (17, .invokevirtual 121, 3), (20, .iload_n 2, 1), (21, .if_icmp .ne 10, 3), (24, .aload_n 0, 1), (25, .iload_n 1, 1), (26, .iload_n 3, 1), (27, .invokevirtual 124, 3), (30, .ireturn, 1), (31, .iinc 3 (-1), 3), (34, .goto (-24), 3), (37, .aload_n 0, 1), (38, .getfield 29, 3), (41, .iload_n 2, 1), (42, .iaload, 1), (43, .ireturn, 1)] = true := by decide +kernel
set_option maxRecDepth 100000 in
set_option maxHeartbeats 4000000 in
theorem kg_X5_seenBy_0 {G : kG} {q : kP} {d : Nat} {x : gd} {P : Option gv → gd → Prop} (hq : kV q) {o : Nat} (ho : kiM q o) (l1 : Int32) (l2 : Int32)
    (h : KT G q d zk_X5_get 0 [(0, vr o), (1, vi l1), (2, vi 7)] [] x (ri (fun r2 x1 => KT G q (d + 1) zk_X5_seenBy 10 [(0, vr o), (1, vi l1), (2, vi l2), (3, vi (r2 - 1))] [] x1 P))) :
    KT G q (d + 1) zk_X5_seenBy 0 [(0, vr o), (1, vi l1), (2, vi l2)] [] x P := by
  refine T_aload_n 0 (dk dtk_X5_seenBy 0 rfl) rfl rfl ?_
  refine T_iload_n 1 (dk dtk_X5_seenBy 1 rfl) rfl rfl ?_
  refine T_bipush (v := 7) (dk dtk_X5_seenBy 2 rfl) (by decide +kernel) ?_
  refine KC_Vi [vi l1, vi 7] [] rfl (dk dtk_X5_seenBy 3 rfl) kcv_X5_90 rfl (kk_M0 ho) rfl (kl_M0 hq ho) (Nat.le_of_ble_eq_true rfl) (Nat.le_of_ble_eq_true rfl) (gok_i (av_c (gkr (kl_M0 hq ho)) (av_c rfl (av_c rfl av_n))) as_n) rfl h (fun r2 x1 h => ?_)
  refine T_iconst (v := 1) (dk dtk_X5_seenBy 4 rfl) (by decide +kernel) ?_
  refine T_isub (dk dtk_X5_seenBy 5 rfl) ?_
  refine T_istore_n (lv2 := [(3, vi (r2 - 1)), (0, vr o), (1, vi l1), (2, vi l2)]) (dk dtk_X5_seenBy 6 rfl) rfl (by decide) rfl ?_
  exact T_sub [1, 2, 3, 0] rfl h
set_option maxRecDepth 100000 in
set_option maxHeartbeats 4000000 in
theorem kg_X5_seenBy_10 {G : kG} {q : kP} {d : Nat} {x : gd} {P : Option gv → gd → Prop} (hq : kV q) {o : Nat} (ho : kiM q o) (l1 : Int32) (l2 : Int32) (l3 : Int32)
    (h : ((l3 < (0 : Int32) → vp_in l2 228 ∧ P (some (vi (x.1 (o + 5) (l2 : Int32).toNatClampNeg))) x) ∧ (¬ (l3 < (0 : Int32)) → KT G q d zk_X5_lateCell 0 [(0, vr o), (1, vi l1), (2, vi l3)] [] x (ri (fun r4 x3 => ((¬ (r4 = l2) → KT G q (d + 1) zk_X5_seenBy 10 [(0, vr o), (1, vi l1), (2, vi l2), (3, vi (l3 + (-1)))] [] x3 P) ∧ (r4 = l2 → KT G q d zk_X5_lateValue 0 [(0, vr o), (1, vi l1), (2, vi l3)] [] x3 (ri (fun r7 x6 => P (some (vi r7)) x6))))))))) :
    KT G q (d + 1) zk_X5_seenBy 10 [(0, vr o), (1, vi l1), (2, vi l2), (3, vi l3)] [] x P := by
  refine T_iload_n 3 (dk dtk_X5_seenBy 7 rfl) rfl rfl ?_
  refine T_if_lt 37 (dk dtk_X5_seenBy 8 rfl) (by decide) (fun c1 => ?_) (fun c1 => ?_)
  · have h := h.1 c1
    refine T_aload_n 0 (dk dtk_X5_seenBy 22 rfl) rfl rfl ?_
    refine T_getR o 4 (o + 5) (dk dtk_X5_seenBy 23 rfl) kfl_X5_29 (kk_M0 ho) (kl_M0 hq ho) (by decide) rfl (kr_M_4 ho) ?_
    refine T_iload_n 2 (dk dtk_X5_seenBy 24 rfl) rfl rfl ?_
    obtain ⟨h2, h⟩ := h
    refine T_iald (o + 5) 228 (dk dtk_X5_seenBy 25 rfl) (kk_M5 ho) (kl_M5 hq ho) h2 ?_
    exact KT_iret (dk dtk_X5_seenBy 26 rfl) rfl rfl h
  · have h := h.2 c1
    refine T_aload_n 0 (dk dtk_X5_seenBy 9 rfl) rfl rfl ?_
    refine T_iload_n 1 (dk dtk_X5_seenBy 10 rfl) rfl rfl ?_
    refine T_iload_n 3 (dk dtk_X5_seenBy 11 rfl) rfl rfl ?_
    refine KC_Vi [vi l1, vi l3] [] rfl (dk dtk_X5_seenBy 12 rfl) kcv_X5_121 rfl (kk_M0 ho) rfl (kl_M0 hq ho) (Nat.le_of_ble_eq_true rfl) (Nat.le_of_ble_eq_true rfl) (gok_i (av_c (gkr (kl_M0 hq ho)) (av_c rfl (av_c rfl (av_c rfl av_n)))) as_n) rfl h (fun r4 x3 h => ?_)
    refine T_iload_n 2 (dk dtk_X5_seenBy 13 rfl) rfl rfl ?_
    refine T_icmp_ne 31 (dk dtk_X5_seenBy 14 rfl) (by decide) (fun c5 => ?_) (fun c5 => ?_)
    · have h := h.1 c5
      refine T_iinc (v := l3 + (-1)) (lv2 := [(3, vi (l3 + (-1))), (0, vr o), (1, vi l1), (2, vi l2)]) 3 (dk dtk_X5_seenBy 20 rfl) rfl rfl (by decide) rfl ?_
      refine T_goto 10 (dk dtk_X5_seenBy 21 rfl) (by decide) ?_
      exact T_sub [1, 2, 3, 0] rfl h
    · have h := h.2 c5
      refine T_aload_n 0 (dk dtk_X5_seenBy 15 rfl) rfl rfl ?_
      refine T_iload_n 1 (dk dtk_X5_seenBy 16 rfl) rfl rfl ?_
      refine T_iload_n 3 (dk dtk_X5_seenBy 17 rfl) rfl rfl ?_
      refine T_sub (lv2 := []) [] rfl ?_
      refine KC_Vi [vi l1, vi l3] [] rfl (dk dtk_X5_seenBy 18 rfl) kcv_X5_124 rfl (kk_M0 ho) rfl (kl_M0 hq ho) (Nat.le_of_ble_eq_true rfl) (Nat.le_of_ble_eq_true rfl) (gok_i av_n as_n) rfl h (fun r7 x6 h => ?_)
      exact KT_iret (dk dtk_X5_seenBy 19 rfl) rfl rfl h
set_option maxRecDepth 100000 in
theorem dtk_X5_sortOf : dck cX5_sortOf [(0, .aload_n 0, 1), (1, .iload_n 1, 1), (2, .iconst 3, 1), (3, .invokevirtual 90, 3), (6, .ifCond .eq 8, 3), (9, .bipush 15, 2), (11, .goto 17, 3), (14, .aload_n 0, 1), (15, .getfield 21, 3), (18, .getfield 127, 3), (21, .aload_n 0, 1), (22, .iload_n 1, 1), (23, .iconst 2, 1), (24, .invokevirtual 90, 3), (27, .iaload, 1), (28, .ireturn, 1)] = true := by decide +kernel
set_option maxRecDepth 100000 in
set_option maxHeartbeats 4000000 in
theorem kg_X5_sortOf_0 {G : kG} {q : kP} {d : Nat} {x : gd} {P : Option gv → gd → Prop} (hq : kV q) {o : Nat} (ho : kiM q o) (l1 : Int32)
    (h : KT G q d zk_X5_get 0 [(0, vr o), (1, vi l1), (2, vi 3)] [] x (ri (fun r2 x1 => ((r2 = (0 : Int32) → KT G q d zk_X5_get 0 [(0, vr o), (1, vi l1), (2, vi 2)] [] x1 (ri (fun r5 x4 => vp_in r5 400 ∧ P (some (vi (x4.1 81 (r5 : Int32).toNatClampNeg))) x4))) ∧ (¬ (r2 = (0 : Int32)) → P (some (vi 15)) x1))))) :
    KT G q (d + 1) zk_X5_sortOf 0 [(0, vr o), (1, vi l1)] [] x P := by
  refine T_aload_n 0 (dk dtk_X5_sortOf 0 rfl) rfl rfl ?_
  refine T_iload_n 1 (dk dtk_X5_sortOf 1 rfl) rfl rfl ?_
  refine T_iconst (v := 3) (dk dtk_X5_sortOf 2 rfl) (by decide +kernel) ?_
  refine KC_Vi [vi l1, vi 3] [] rfl (dk dtk_X5_sortOf 3 rfl) kcv_X5_90 rfl (kk_M0 ho) rfl (kl_M0 hq ho) (Nat.le_of_ble_eq_true rfl) (Nat.le_of_ble_eq_true rfl) (gok_i (av_c (gkr (kl_M0 hq ho)) (av_c rfl av_n)) as_n) rfl h (fun r2 x1 h => ?_)
  refine T_if_eq 14 (dk dtk_X5_sortOf 4 rfl) (by decide) (fun c3 => ?_) (fun c3 => ?_)
  · have h := h.1 c3
    refine T_aload_n 0 (dk dtk_X5_sortOf 7 rfl) rfl rfl ?_
    refine T_getR o 1 80 (dk dtk_X5_sortOf 8 rfl) kfl_X5_21 (kk_M0 ho) (kl_M0 hq ho) (by decide) rfl (kr_M_1 ho) ?_
    refine T_getR 80 0 81 (dk dtk_X5_sortOf 9 rfl) kfl_X5_127 kk_80 (kl_80 hq) (by decide) rfl kr_80_0 ?_
    refine T_aload_n 0 (dk dtk_X5_sortOf 10 rfl) rfl rfl ?_
    refine T_iload_n 1 (dk dtk_X5_sortOf 11 rfl) rfl rfl ?_
    refine T_iconst (v := 2) (dk dtk_X5_sortOf 12 rfl) (by decide +kernel) ?_
    refine T_sub (lv2 := []) [] rfl ?_
    refine KC_Vi [vi l1, vi 2] [vr 81] rfl (dk dtk_X5_sortOf 13 rfl) kcv_X5_90 rfl (kk_M0 ho) rfl (kl_M0 hq ho) (Nat.le_of_ble_eq_true rfl) (Nat.le_of_ble_eq_true rfl) (gok_i av_n (as_c (gkr (kl_81 hq)) as_n)) rfl h (fun r5 x4 h => ?_)
    obtain ⟨h6, h⟩ := h
    refine T_iald 81 400 (dk dtk_X5_sortOf 14 rfl) kk_81 (kl_81 hq) h6 ?_
    exact KT_iret (dk dtk_X5_sortOf 15 rfl) rfl rfl h
  · have h := h.2 c3
    refine T_bipush (v := 15) (dk dtk_X5_sortOf 5 rfl) (by decide +kernel) ?_
    refine T_goto 28 (dk dtk_X5_sortOf 6 rfl) (by decide) ?_
    exact KT_iret (dk dtk_X5_sortOf 15 rfl) rfl rfl h
set_option maxRecDepth 100000 in
theorem dtk_X5_objectOf : dck cX5_objectOf [(0, .aload_n 0, 1), (1, .iload_n 1, 1), (2, .invokevirtual 130, 3), (5, .iconst 4, 1), (6, .if_icmp .gt 11, 3), (9, .aload_n 0, 1), (10, .iload_n 1, 1), (11, .invokevirtual 133, 3), (14, .goto 17, 3), (17, .aload_n 0, 1), (18, .getfield 21, 3), (21, .getfield 136, 3), (24, .aload_n 0, 1), (25, .iload_n 1, 1), (26, .iconst 2, 1), (27, .invokevirtual 90, 3), (30, .iaload, 1), (31, .ireturn, 1)] = true := by decide +kernel
set_option maxRecDepth 100000 in
set_option maxHeartbeats 4000000 in
theorem kg_X5_objectOf_0 {G : kG} {q : kP} {d : Nat} {x : gd} {P : Option gv → gd → Prop} (hq : kV q) {o : Nat} (ho : kiM q o) (l1 : Int32)
    (h : KT G q d zk_X5_sortOf 0 [(0, vr o), (1, vi l1)] [] x (ri (fun r2 x1 => (((4 : Int32) < r2 → KT G q d zk_X5_get 0 [(0, vr o), (1, vi l1), (2, vi 2)] [] x1 (ri (fun r5 x4 => vp_in r5 400 ∧ P (some (vi (x4.1 85 (r5 : Int32).toNatClampNeg))) x4))) ∧ (¬ ((4 : Int32) < r2) → KT G q d zk_X5_placeOf 0 [(0, vr o), (1, vi l1)] [] x1 (ri (fun r8 x7 => P (some (vi r8)) x7))))))) :
    KT G q (d + 1) zk_X5_objectOf 0 [(0, vr o), (1, vi l1)] [] x P := by
  refine T_aload_n 0 (dk dtk_X5_objectOf 0 rfl) rfl rfl ?_
  refine T_iload_n 1 (dk dtk_X5_objectOf 1 rfl) rfl rfl ?_
  refine KC_Vi [vi l1] [] rfl (dk dtk_X5_objectOf 2 rfl) kcv_X5_130 rfl (kk_M0 ho) rfl (kl_M0 hq ho) (Nat.le_of_ble_eq_true rfl) (Nat.le_of_ble_eq_true rfl) (gok_i (av_c (gkr (kl_M0 hq ho)) (av_c rfl av_n)) as_n) rfl h (fun r2 x1 h => ?_)
  refine T_iconst (v := 4) (dk dtk_X5_objectOf 3 rfl) (by decide +kernel) ?_
  refine T_icmp_gt 17 (dk dtk_X5_objectOf 4 rfl) (by decide) (fun c3 => ?_) (fun c3 => ?_)
  · have h := h.1 c3
    refine T_aload_n 0 (dk dtk_X5_objectOf 9 rfl) rfl rfl ?_
    refine T_getR o 1 80 (dk dtk_X5_objectOf 10 rfl) kfl_X5_21 (kk_M0 ho) (kl_M0 hq ho) (by decide) rfl (kr_M_1 ho) ?_
    refine T_getR 80 4 85 (dk dtk_X5_objectOf 11 rfl) kfl_X5_136 kk_80 (kl_80 hq) (by decide) rfl kr_80_4 ?_
    refine T_aload_n 0 (dk dtk_X5_objectOf 12 rfl) rfl rfl ?_
    refine T_iload_n 1 (dk dtk_X5_objectOf 13 rfl) rfl rfl ?_
    refine T_iconst (v := 2) (dk dtk_X5_objectOf 14 rfl) (by decide +kernel) ?_
    refine T_sub (lv2 := []) [] rfl ?_
    refine KC_Vi [vi l1, vi 2] [vr 85] rfl (dk dtk_X5_objectOf 15 rfl) kcv_X5_90 rfl (kk_M0 ho) rfl (kl_M0 hq ho) (Nat.le_of_ble_eq_true rfl) (Nat.le_of_ble_eq_true rfl) (gok_i av_n (as_c (gkr (kl_85 hq)) as_n)) rfl h (fun r5 x4 h => ?_)
    obtain ⟨h6, h⟩ := h
    refine T_iald 85 400 (dk dtk_X5_objectOf 16 rfl) kk_85 (kl_85 hq) h6 ?_
    exact KT_iret (dk dtk_X5_objectOf 17 rfl) rfl rfl h
  · have h := h.2 c3
    refine T_aload_n 0 (dk dtk_X5_objectOf 5 rfl) rfl rfl ?_
    refine T_iload_n 1 (dk dtk_X5_objectOf 6 rfl) rfl rfl ?_
    refine T_sub (lv2 := []) [] rfl ?_
    refine KC_Vi [vi l1] [] rfl (dk dtk_X5_objectOf 7 rfl) kcv_X5_133 rfl (kk_M0 ho) rfl (kl_M0 hq ho) (Nat.le_of_ble_eq_true rfl) (Nat.le_of_ble_eq_true rfl) (gok_i av_n as_n) rfl h (fun r8 x7 h => ?_)
    refine T_goto 31 (dk dtk_X5_objectOf 8 rfl) (by decide) ?_
    exact KT_iret (dk dtk_X5_objectOf 17 rfl) rfl rfl h
set_option maxRecDepth 100000 in
theorem dtk_X5_localsAt : dck cX5_localsAt [(0, .aload_n 0, 1), (1, .getfield 55, 3), (4, .iload_n 1, 1), (5, .aload_n 0, 1), (6, .getfield 64, 3), (9, .imul, 1), (10, .iadd, 1), (11, .bipush 8, 2), (13, .iadd, 1), (14, .ireturn, 1)] = true := by decide +kernel
set_option maxRecDepth 100000 in
set_option maxHeartbeats 4000000 in
theorem kg_X5_localsAt_0 {G : kG} {q : kP} {d : Nat} {x : gd} {P : Option gv → gd → Prop} (hq : kV q) {o : Nat} (ho : kiM q o) (l1 : Int32)
    (h : P (some (vi (((x.1 o 7) + (l1 * (x.1 o 8))) + 8))) x) :
    KT G q d zk_X5_localsAt 0 [(0, vr o), (1, vi l1)] [] x P := by
  refine T_aload_n 0 (dk dtk_X5_localsAt 0 rfl) rfl rfl ?_
  refine T_getI o 7 (dk dtk_X5_localsAt 1 rfl) kfl_X5_55 (kk_M0 ho) (kl_M0 hq ho) (by decide) rfl ?_
  refine T_iload_n 1 (dk dtk_X5_localsAt 2 rfl) rfl rfl ?_
  refine T_aload_n 0 (dk dtk_X5_localsAt 3 rfl) rfl rfl ?_
  refine T_getI o 8 (dk dtk_X5_localsAt 4 rfl) kfl_X5_64 (kk_M0 ho) (kl_M0 hq ho) (by decide) rfl ?_
  refine T_imul (dk dtk_X5_localsAt 5 rfl) ?_
  refine T_iadd (dk dtk_X5_localsAt 6 rfl) ?_
  refine T_bipush (v := 8) (dk dtk_X5_localsAt 7 rfl) (by decide +kernel) ?_
  refine T_iadd (dk dtk_X5_localsAt 8 rfl) ?_
  exact KT_iret (dk dtk_X5_localsAt 9 rfl) rfl rfl h
set_option maxRecDepth 100000 in
theorem dtk_X5_placeOf : dck cX5_placeOf [(0, .aload_n 0, 1), (1, .iload_n 1, 1), (2, .iconst 2, 1), (3, .invokevirtual 90, 3), (6, .istore_n 2, 1), (7, .aload_n 0, 1), (8, .getfield 21, 3), (11, .getfield 139, 3), (14, .iload_n 2, 1), (15, .iaload, 1), (16, .istore_n 3, 1), (17, .iload_n 3, 1), (18, .iconst (-1), 1), (19, .if_icmp .ne 13, 3), (22, .aload_n 0, 1), (23, .getfield 21, 3), (26, .getfield 136, 3), (29, .iload_n 2, 1), (30, .iaload, 1), (31, .ireturn, 1), (32, .aload_n 0, 1), (33, .getfield 11, 3), (36, .iload_n 3, 1), (37, .aload_n 0, 1), (38, .getfield 29, 3), (41, .aload_n 0, 1), (42, .iload_n 1, 1), (43, .invokevirtual 142, 3), (46, .iload_n 1, 1), (47, .invokevirtual 145, 3), (50, .istore 4, 2), (52, .aload_n 0, 1), (53, .getfield 11, 3), (56, .getfield 149, 3), (59, .ifCond .ne 22, 3), (62, .iload 4, 2), (64, .ifCond .lt 17, 3), (67, .iload 4, 2), (69, .aload_n 0, 1), (70, .getfield 21, 3), (73, .getfield 153, 3), (76, .iload_n 2, 1), (77, .iaload, 1), (78, .if_icmp .lt 24, 3), (81, .aload_n 0, 1), (82, .aload_n 0, 1), (83, .getfield 11, 3), (86, .getfield 149, 3), (89, .ifCond .eq 7, 3), (92, .iconst 1, 1), (93, .goto 4, 3), (96, .iconst 2, 1), (97, .putfield 154, 3), (100, .iconst (-1), 1), (101, .ireturn, 1), (102, .aload_n 0, 1), (103, .getfield 21, 3), (106, .getfield 136, 3), (109, .iload_n 2, 1), (110, .iaload, 1), (111, .iload 4, 2), (113, .iadd, 1), (114, .ireturn, 1)] = true := by decide +kernel
set_option maxRecDepth 100000 in
set_option maxHeartbeats 4000000 in
theorem kg_X5_placeOf_0 {G : kG} {q : kP} {d : Nat} {x : gd} {P : Option gv → gd → Prop} (hq : kV q) {o : Nat} (ho : kiM q o) (l1 : Int32)
    (h : KT G q d zk_X5_get 0 [(0, vr o), (1, vi l1), (2, vi 2)] [] x (ri (fun r2 x1 => vp_in r2 400 ∧ ((¬ ((x1.1 87 (r2 : Int32).toNatClampNeg) = (-1 : Int32)) → KT G q d zk_X5_localsAt 0 [(0, vr o), (1, vi l1)] [] x1 (ri (fun r6 x5 => KT G q d zk_X0_work 0 [(0, vr 60), (1, vi (x1.1 87 (r2 : Int32).toNatClampNeg)), (2, vr (o + 5)), (3, vi r6), (4, vi l1)] [] x5 (ri (fun r8 x7 => ((¬ ((x7.1 60 5) = (0 : Int32)) → KT G q (d + 1) zk_X5_placeOf 81 [(0, vr o)] [] x7 P) ∧ ((x7.1 60 5) = (0 : Int32) → ((r8 < (0 : Int32) → KT G q (d + 1) zk_X5_placeOf 81 [(0, vr o)] [] x7 P) ∧ (¬ (r8 < (0 : Int32)) → vp_in r2 400 ∧ ((r8 < (x7.1 86 (r2 : Int32).toNatClampNeg) → vp_in r2 400 ∧ P (some (vi ((x7.1 85 (r2 : Int32).toNatClampNeg) + r8))) x7) ∧ (¬ (r8 < (x7.1 86 (r2 : Int32).toNatClampNeg)) → KT G q (d + 1) zk_X5_placeOf 81 [(0, vr o)] [] x7 P))))))))))) ∧ ((x1.1 87 (r2 : Int32).toNatClampNeg) = (-1 : Int32) → vp_in r2 400 ∧ P (some (vi (x1.1 85 (r2 : Int32).toNatClampNeg))) x1))))) :
    KT G q (d + 1) zk_X5_placeOf 0 [(0, vr o), (1, vi l1)] [] x P := by
  refine T_aload_n 0 (dk dtk_X5_placeOf 0 rfl) rfl rfl ?_
  refine T_iload_n 1 (dk dtk_X5_placeOf 1 rfl) rfl rfl ?_
  refine T_iconst (v := 2) (dk dtk_X5_placeOf 2 rfl) (by decide +kernel) ?_
  refine KC_Vi [vi l1, vi 2] [] rfl (dk dtk_X5_placeOf 3 rfl) kcv_X5_90 rfl (kk_M0 ho) rfl (kl_M0 hq ho) (Nat.le_of_ble_eq_true rfl) (Nat.le_of_ble_eq_true rfl) (gok_i (av_c (gkr (kl_M0 hq ho)) (av_c rfl av_n)) as_n) rfl h (fun r2 x1 h => ?_)
  refine T_istore_n (lv2 := [(2, vi r2), (0, vr o), (1, vi l1)]) (dk dtk_X5_placeOf 4 rfl) rfl (by decide) rfl ?_
  refine T_aload_n 1 (dk dtk_X5_placeOf 5 rfl) rfl rfl ?_
  refine T_getR o 1 80 (dk dtk_X5_placeOf 6 rfl) kfl_X5_21 (kk_M0 ho) (kl_M0 hq ho) (by decide) rfl (kr_M_1 ho) ?_
  refine T_getR 80 6 87 (dk dtk_X5_placeOf 7 rfl) kfl_X5_139 kk_80 (kl_80 hq) (by decide) rfl kr_80_6 ?_
  refine T_iload_n 0 (dk dtk_X5_placeOf 8 rfl) rfl rfl ?_
  obtain ⟨h3, h⟩ := h
  refine T_iald 87 400 (dk dtk_X5_placeOf 9 rfl) kk_87 (kl_87 hq) h3 ?_
  refine T_istore_n (lv2 := [(3, vi (x1.1 87 (r2 : Int32).toNatClampNeg)), (2, vi r2), (0, vr o), (1, vi l1)]) (dk dtk_X5_placeOf 10 rfl) rfl (by decide) rfl ?_
  refine T_iload_n 0 (dk dtk_X5_placeOf 11 rfl) rfl rfl ?_
  refine T_iconst (v := (-1)) (dk dtk_X5_placeOf 12 rfl) (by decide +kernel) ?_
  refine T_icmp_ne 32 (dk dtk_X5_placeOf 13 rfl) (by decide) (fun c4 => ?_) (fun c4 => ?_)
  · have h := h.1 c4
    refine T_aload_n 2 (dk dtk_X5_placeOf 20 rfl) rfl rfl ?_
    refine T_getR o 0 60 (dk dtk_X5_placeOf 21 rfl) kfl_X5_11 (kk_M0 ho) (kl_M0 hq ho) (by decide) rfl (kr_M_0 ho) ?_
    refine T_iload_n 0 (dk dtk_X5_placeOf 22 rfl) rfl rfl ?_
    refine T_aload_n 2 (dk dtk_X5_placeOf 23 rfl) rfl rfl ?_
    refine T_getR o 4 (o + 5) (dk dtk_X5_placeOf 24 rfl) kfl_X5_29 (kk_M0 ho) (kl_M0 hq ho) (by decide) rfl (kr_M_4 ho) ?_
    refine T_aload_n 2 (dk dtk_X5_placeOf 25 rfl) rfl rfl ?_
    refine T_iload_n 3 (dk dtk_X5_placeOf 26 rfl) rfl rfl ?_
    refine T_sub (lv2 := [(2, vi r2), (0, vr o), (1, vi l1)]) [1, 2, 3] rfl ?_
    refine KC_Vi [vi l1] [vr (o + 5), vi (x1.1 87 (r2 : Int32).toNatClampNeg), vr 60] rfl (dk dtk_X5_placeOf 27 rfl) kcv_X5_142 rfl (kk_M0 ho) rfl (kl_M0 hq ho) (Nat.le_of_ble_eq_true rfl) (Nat.le_of_ble_eq_true rfl) (gok_i (av_c rfl (av_c (gkr (kl_M0 hq ho)) (av_c rfl av_n))) (as_c (gkr (kl_M5 hq ho)) (as_c rfl (as_c (gkr (kl_60 hq)) as_n)))) rfl h (fun r6 x5 h => ?_)
    refine T_iload_n 2 (dk dtk_X5_placeOf 28 rfl) rfl rfl ?_
    refine T_sub (lv2 := [(2, vi r2), (0, vr o)]) [0, 1] rfl ?_
    refine KC_Vi [vi (x1.1 87 (r2 : Int32).toNatClampNeg), vr (o + 5), vi r6, vi l1] [] rfl (dk dtk_X5_placeOf 29 rfl) kcv_X5_145 rfl kk_60 rfl (kl_60 hq) (Nat.le_of_ble_eq_true rfl) (Nat.le_of_ble_eq_true rfl) (gok_i (av_c rfl (av_c (gkr (kl_M0 hq ho)) av_n)) as_n) rfl h (fun r8 x7 h => ?_)
    refine T_istore (lv2 := [(4, vi r8), (2, vi r2), (0, vr o)]) (dk dtk_X5_placeOf 30 rfl) (by decide) rfl ?_
    refine T_aload_n 2 (dk dtk_X5_placeOf 31 rfl) rfl rfl ?_
    refine T_getR o 0 60 (dk dtk_X5_placeOf 32 rfl) kfl_X5_11 (kk_M0 ho) (kl_M0 hq ho) (by decide) rfl (kr_M_0 ho) ?_
    refine T_getI 60 5 (dk dtk_X5_placeOf 33 rfl) kfl_X5_149 kk_60 (kl_60 hq) (by decide) rfl ?_
    refine T_if_ne 81 (dk dtk_X5_placeOf 34 rfl) (by decide) (fun c9 => ?_) (fun c9 => ?_)
    · have h := h.1 c9
      exact T_sub [2] rfl h
    · have h := h.2 c9
      refine T_iload 0 (dk dtk_X5_placeOf 35 rfl) rfl ?_
      refine T_if_lt 81 (dk dtk_X5_placeOf 36 rfl) (by decide) (fun c10 => ?_) (fun c10 => ?_)
      · have h := h.1 c10
        exact T_sub [2] rfl h
      · have h := h.2 c10
        refine T_iload 0 (dk dtk_X5_placeOf 37 rfl) rfl ?_
        refine T_aload_n 2 (dk dtk_X5_placeOf 38 rfl) rfl rfl ?_
        refine T_getR o 1 80 (dk dtk_X5_placeOf 39 rfl) kfl_X5_21 (kk_M0 ho) (kl_M0 hq ho) (by decide) rfl (kr_M_1 ho) ?_
        refine T_getR 80 5 86 (dk dtk_X5_placeOf 40 rfl) kfl_X5_153 kk_80 (kl_80 hq) (by decide) rfl kr_80_5 ?_
        refine T_iload_n 1 (dk dtk_X5_placeOf 41 rfl) rfl rfl ?_
        obtain ⟨h11, h⟩ := h
        refine T_iald 86 400 (dk dtk_X5_placeOf 42 rfl) kk_86 (kl_86 hq) h11 ?_
        refine T_icmp_lt 102 (dk dtk_X5_placeOf 43 rfl) (by decide) (fun c12 => ?_) (fun c12 => ?_)
        · have h := h.1 c12
          refine T_aload_n 2 (dk dtk_X5_placeOf 55 rfl) rfl rfl ?_
          refine T_getR o 1 80 (dk dtk_X5_placeOf 56 rfl) kfl_X5_21 (kk_M0 ho) (kl_M0 hq ho) (by decide) rfl (kr_M_1 ho) ?_
          refine T_getR 80 4 85 (dk dtk_X5_placeOf 57 rfl) kfl_X5_136 kk_80 (kl_80 hq) (by decide) rfl kr_80_4 ?_
          refine T_iload_n 1 (dk dtk_X5_placeOf 58 rfl) rfl rfl ?_
          obtain ⟨h13, h⟩ := h
          refine T_iald 85 400 (dk dtk_X5_placeOf 59 rfl) kk_85 (kl_85 hq) h13 ?_
          refine T_iload 0 (dk dtk_X5_placeOf 60 rfl) rfl ?_
          refine T_iadd (dk dtk_X5_placeOf 61 rfl) ?_
          exact KT_iret (dk dtk_X5_placeOf 62 rfl) rfl rfl h
        · have h := h.2 c12
          exact T_sub [2] rfl h
  · have h := h.2 c4
    refine T_aload_n 2 (dk dtk_X5_placeOf 14 rfl) rfl rfl ?_
    refine T_getR o 1 80 (dk dtk_X5_placeOf 15 rfl) kfl_X5_21 (kk_M0 ho) (kl_M0 hq ho) (by decide) rfl (kr_M_1 ho) ?_
    refine T_getR 80 4 85 (dk dtk_X5_placeOf 16 rfl) kfl_X5_136 kk_80 (kl_80 hq) (by decide) rfl kr_80_4 ?_
    refine T_iload_n 1 (dk dtk_X5_placeOf 17 rfl) rfl rfl ?_
    obtain ⟨h14, h⟩ := h
    refine T_iald 85 400 (dk dtk_X5_placeOf 18 rfl) kk_85 (kl_85 hq) h14 ?_
    exact KT_iret (dk dtk_X5_placeOf 19 rfl) rfl rfl h
set_option maxRecDepth 100000 in
set_option maxHeartbeats 4000000 in
theorem kg_X5_placeOf_81 {G : kG} {q : kP} {d : Nat} {x : gd} {P : Option gv → gd → Prop} (hq : kV q) {o : Nat} (ho : kiM q o)
    (h : (((x.1 60 5) = (0 : Int32) → (∀ x2 : gd, x2 = si x o 14 2 → P (some (vi (-1))) x2)) ∧ (¬ ((x.1 60 5) = (0 : Int32)) → (∀ x3 : gd, x3 = si x o 14 1 → P (some (vi (-1))) x3)))) :
    KT G q (d + 1) zk_X5_placeOf 81 [(0, vr o)] [] x P := by
  refine T_aload_n 0 (dk dtk_X5_placeOf 44 rfl) rfl rfl ?_
  refine T_aload_n 0 (dk dtk_X5_placeOf 45 rfl) rfl rfl ?_
  refine T_getR o 0 60 (dk dtk_X5_placeOf 46 rfl) kfl_X5_11 (kk_M0 ho) (kl_M0 hq ho) (by decide) rfl (kr_M_0 ho) ?_
  refine T_getI 60 5 (dk dtk_X5_placeOf 47 rfl) kfl_X5_149 kk_60 (kl_60 hq) (by decide) rfl ?_
  refine T_if_eq 96 (dk dtk_X5_placeOf 48 rfl) (by decide) (fun c1 => ?_) (fun c1 => ?_)
  · have h := h.1 c1
    refine T_iconst (v := 2) (dk dtk_X5_placeOf 51 rfl) (by decide +kernel) ?_
    obtain ⟨x2, ex2⟩ : ∃ z, z = si x o 14 2 := ⟨_, rfl⟩
    have h := h x2 ex2
    refine T_putI o 14 (dk dtk_X5_placeOf 52 rfl) kfl_X5_154 (kk_M0 ho) (kl_M0 hq ho) (by decide) rfl ⟨rfl, rfl⟩ ?_
    rw [← ex2]
    refine T_iconst (v := (-1)) (dk dtk_X5_placeOf 53 rfl) (by decide +kernel) ?_
    exact KT_iret (dk dtk_X5_placeOf 54 rfl) rfl rfl h
  · have h := h.2 c1
    refine T_iconst (v := 1) (dk dtk_X5_placeOf 49 rfl) (by decide +kernel) ?_
    refine T_goto 97 (dk dtk_X5_placeOf 50 rfl) (by decide) ?_
    obtain ⟨x3, ex3⟩ : ∃ z, z = si x o 14 1 := ⟨_, rfl⟩
    have h := h x3 ex3
    refine T_putI o 14 (dk dtk_X5_placeOf 52 rfl) kfl_X5_154 (kk_M0 ho) (kl_M0 hq ho) (by decide) rfl ⟨rfl, rfl⟩ ?_
    rw [← ex3]
    refine T_iconst (v := (-1)) (dk dtk_X5_placeOf 53 rfl) (by decide +kernel) ?_
    exact KT_iret (dk dtk_X5_placeOf 54 rfl) rfl rfl h
set_option maxRecDepth 100000 in
theorem dtk_X5_goesLate : dck cX5_goesLate [(0, .aload_n 0, 1), (1, .getfield 42, 3), (4, .iconst 1, 1), (5, .if_icmp .ne 40, 3), (8, .aload_n 0, 1), (9, .getfield 21, 3), (12, .getfield 127, 3), (15, .iload_n 1, 1), (16, .iaload, 1), (17, .iconst 1, 1), (18, .if_icmp .ne 27, 3), (21, .aload_n 0, 1), (22, .getfield 11, 3), (25, .getfield 157, 3), (28, .aload_n 0, 1), (29, .getfield 21, 3), (32, .getfield 136, 3), (35, .iload_n 1, 1), (36, .iaload, 1), (37, .baload, 1), (38, .ifCond .ne 7, 3), (41, .iconst 1, 1), (42, .goto 4, 3), (45, .iconst 0, 1), (46, .ireturn, 1)] = true := by decide +kernel
set_option maxRecDepth 100000 in
set_option maxHeartbeats 4000000 in
theorem kg_X5_goesLate_0 {G : kG} {q : kP} {d : Nat} {x : gd} {P : Option gv → gd → Prop} (hq : kV q) {o : Nat} (ho : kiM q o) (l1 : Int32)
    (h : ((¬ ((x.1 o 3) = (1 : Int32)) → P (some (vi 0)) x) ∧ ((x.1 o 3) = (1 : Int32) → vp_in l1 400 ∧ ((¬ ((x.1 81 (l1 : Int32).toNatClampNeg) = (1 : Int32)) → P (some (vi 0)) x) ∧ ((x.1 81 (l1 : Int32).toNatClampNeg) = (1 : Int32) → vp_in l1 400 ∧ vp_in (x.1 85 (l1 : Int32).toNatClampNeg) 24 ∧ ((¬ ((x.1 69 (x.1 85 (l1 : Int32).toNatClampNeg : Int32).toNatClampNeg) = (0 : Int32)) → P (some (vi 0)) x) ∧ ((x.1 69 (x.1 85 (l1 : Int32).toNatClampNeg : Int32).toNatClampNeg) = (0 : Int32) → P (some (vi 1)) x))))))) :
    KT G q d zk_X5_goesLate 0 [(0, vr o), (1, vi l1)] [] x P := by
  refine T_aload_n 0 (dk dtk_X5_goesLate 0 rfl) rfl rfl ?_
  refine T_getI o 3 (dk dtk_X5_goesLate 1 rfl) kfl_X5_42 (kk_M0 ho) (kl_M0 hq ho) (by decide) rfl ?_
  refine T_iconst (v := 1) (dk dtk_X5_goesLate 2 rfl) (by decide +kernel) ?_
  refine T_icmp_ne 45 (dk dtk_X5_goesLate 3 rfl) (by decide) (fun c1 => ?_) (fun c1 => ?_)
  · have h := h.1 c1
    refine T_iconst (v := 0) (dk dtk_X5_goesLate 23 rfl) (by decide +kernel) ?_
    exact KT_iret (dk dtk_X5_goesLate 24 rfl) rfl rfl h
  · have h := h.2 c1
    refine T_aload_n 0 (dk dtk_X5_goesLate 4 rfl) rfl rfl ?_
    refine T_getR o 1 80 (dk dtk_X5_goesLate 5 rfl) kfl_X5_21 (kk_M0 ho) (kl_M0 hq ho) (by decide) rfl (kr_M_1 ho) ?_
    refine T_getR 80 0 81 (dk dtk_X5_goesLate 6 rfl) kfl_X5_127 kk_80 (kl_80 hq) (by decide) rfl kr_80_0 ?_
    refine T_iload_n 1 (dk dtk_X5_goesLate 7 rfl) rfl rfl ?_
    obtain ⟨h2, h⟩ := h
    refine T_iald 81 400 (dk dtk_X5_goesLate 8 rfl) kk_81 (kl_81 hq) h2 ?_
    refine T_iconst (v := 1) (dk dtk_X5_goesLate 9 rfl) (by decide +kernel) ?_
    refine T_icmp_ne 45 (dk dtk_X5_goesLate 10 rfl) (by decide) (fun c3 => ?_) (fun c3 => ?_)
    · have h := h.1 c3
      refine T_iconst (v := 0) (dk dtk_X5_goesLate 23 rfl) (by decide +kernel) ?_
      exact KT_iret (dk dtk_X5_goesLate 24 rfl) rfl rfl h
    · have h := h.2 c3
      refine T_aload_n 0 (dk dtk_X5_goesLate 11 rfl) rfl rfl ?_
      refine T_getR o 0 60 (dk dtk_X5_goesLate 12 rfl) kfl_X5_11 (kk_M0 ho) (kl_M0 hq ho) (by decide) rfl (kr_M_0 ho) ?_
      refine T_getR 60 8 69 (dk dtk_X5_goesLate 13 rfl) kfl_X5_157 kk_60 (kl_60 hq) (by decide) rfl kr_60_8 ?_
      refine T_aload_n 0 (dk dtk_X5_goesLate 14 rfl) rfl rfl ?_
      refine T_getR o 1 80 (dk dtk_X5_goesLate 15 rfl) kfl_X5_21 (kk_M0 ho) (kl_M0 hq ho) (by decide) rfl (kr_M_1 ho) ?_
      refine T_getR 80 4 85 (dk dtk_X5_goesLate 16 rfl) kfl_X5_136 kk_80 (kl_80 hq) (by decide) rfl kr_80_4 ?_
      refine T_iload_n 1 (dk dtk_X5_goesLate 17 rfl) rfl rfl ?_
      obtain ⟨h4, h⟩ := h
      refine T_iald 85 400 (dk dtk_X5_goesLate 18 rfl) kk_85 (kl_85 hq) h4 ?_
      obtain ⟨h5, h⟩ := h
      refine T_zald 69 24 (dk dtk_X5_goesLate 19 rfl) kk_69 (kl_69 hq) h5 ?_
      refine T_if_ne 45 (dk dtk_X5_goesLate 20 rfl) (by decide) (fun c6 => ?_) (fun c6 => ?_)
      · have h := h.1 c6
        refine T_iconst (v := 0) (dk dtk_X5_goesLate 23 rfl) (by decide +kernel) ?_
        exact KT_iret (dk dtk_X5_goesLate 24 rfl) rfl rfl h
      · have h := h.2 c6
        refine T_iconst (v := 1) (dk dtk_X5_goesLate 21 rfl) (by decide +kernel) ?_
        refine T_goto 46 (dk dtk_X5_goesLate 22 rfl) (by decide) ?_
        exact KT_iret (dk dtk_X5_goesLate 24 rfl) rfl rfl h
set_option maxRecDepth 100000 in
theorem dtk_X5_accessFails : dck cX5_accessFails [(0, .aload_n 0, 1), (1, .iload_n 1, 1), (2, .iconst 2, 1), (3, .invokevirtual 90, 3), (6, .istore_n 2, 1), (7, .aload_n 0, 1), (8, .iload_n 1, 1), (9, .invokevirtual 133, 3), (12, .iconst (-1), 1), (13, .if_icmp .ne 5, 3), (16, .iconst 1, 1), (17, .ireturn, 1), (18, .aload_n 0, 1), (19, .getfield 21, 3), (22, .getfield 160, 3), (25, .iload_n 2, 1), (26, .iaload, 1), (27, .iconst (-1), 1), (28, .if_icmp .eq 42, 3), (31, .aload_n 0, 1), (32, .getfield 11, 3), (35, .aload_n 0, 1), (36, .getfield 21, 3), (39, .getfield 160, 3), (42, .iload_n 2, 1), (43, .iaload, 1), (44, .aload_n 0, 1), (45, .getfield 29, 3), (48, .aload_n 0, 1), (49, .iload_n 1, 1), (50, .invokevirtual 142, 3), (53, .iload_n 1, 1), (54, .invokevirtual 145, 3), (57, .pop, 1), (58, .aload_n 0, 1), (59, .getfield 11, 3), (62, .getfield 149, 3), (65, .ifCond .eq 5, 3), (68, .iconst 1, 1), (69, .ireturn, 1), (70, .aload_n 0, 1), (71, .getfield 21, 3), (74, .getfield 163, 3), (77, .iload_n 2, 1), (78, .iaload, 1), (79, .iconst (-1), 1), (80, .if_icmp .eq 42, 3), (83, .aload_n 0, 1), (84, .getfield 11, 3), (87, .aload_n 0, 1), (88, .getfield 21, 3), (91, .getfield 163, 3), (94, .iload_n 2, 1), (95, .iaload, 1), (96, .aload_n 0, 1), (97, .getfield 29, 3), (100, .aload_n 0, 1), (101, .iload_n 1, 1), (102, .invokevirtual 142, 3), (105, .iload_n 1, 1), (106, .invokevirtual 145, 3), (109, .pop, 1), (110, .aload_n 0, 1), (111, .getfield 11, 3), (114, .getfield 149, 3), (117, .ifCond .eq 5, 3), (120, .iconst 1, 1), (121, .ireturn, 1), (122, .aload_n 0, 1), (123, .iload_n 2, 1), (124, .invokevirtual 166, 3), (127, .ifCond .eq 19, 3), (130, .aload_n 0, 1), (131, .iload_n 1, 1), (132, .bipush 7, 2), (134, .invokevirtual 90, 3), (137, .bipush 8, 2), (139, .if_icmp .lt 7, 3), (142, .iconst 1, 1), (143, .goto 4, 3), (146, .iconst 0, 1), (147, .ireturn, 1)] = true := by decide +kernel
set_option maxRecDepth 100000 in
set_option maxHeartbeats 4000000 in
theorem kg_X5_accessFails_0 {G : kG} {q : kP} {d : Nat} {x : gd} {P : Option gv → gd → Prop} (hq : kV q) {o : Nat} (ho : kiM q o) (l1 : Int32)
    (h : KT G q d zk_X5_get 0 [(0, vr o), (1, vi l1), (2, vi 2)] [] x (ri (fun r2 x1 => KT G q d zk_X5_placeOf 0 [(0, vr o), (1, vi l1)] [] x1 (ri (fun r4 x3 => ((¬ (r4 = (-1 : Int32)) → vp_in r2 400 ∧ (((x3.1 88 (r2 : Int32).toNatClampNeg) = (-1 : Int32) → KT G q (d + 1) zk_X5_accessFails 70 [(0, vr o), (1, vi l1), (2, vi r2)] [] x3 P) ∧ (¬ ((x3.1 88 (r2 : Int32).toNatClampNeg) = (-1 : Int32)) → vp_in r2 400 ∧ KT G q d zk_X5_localsAt 0 [(0, vr o), (1, vi l1)] [] x3 (ri (fun r10 x9 => KT G q d zk_X0_work 0 [(0, vr 60), (1, vi (x3.1 88 (r2 : Int32).toNatClampNeg)), (2, vr (o + 5)), (3, vi r10), (4, vi l1)] [] x9 (ri (fun r12 x11 => (((x11.1 60 5) = (0 : Int32) → KT G q (d + 1) zk_X5_accessFails 70 [(0, vr o), (1, vi l1), (2, vi r2)] [] x11 P) ∧ (¬ ((x11.1 60 5) = (0 : Int32)) → P (some (vi 1)) x11))))))))) ∧ (r4 = (-1 : Int32) → P (some (vi 1)) x3))))))) :
    KT G q (d + 1) zk_X5_accessFails 0 [(0, vr o), (1, vi l1)] [] x P := by
  refine T_aload_n 0 (dk dtk_X5_accessFails 0 rfl) rfl rfl ?_
  refine T_iload_n 1 (dk dtk_X5_accessFails 1 rfl) rfl rfl ?_
  refine T_iconst (v := 2) (dk dtk_X5_accessFails 2 rfl) (by decide +kernel) ?_
  refine KC_Vi [vi l1, vi 2] [] rfl (dk dtk_X5_accessFails 3 rfl) kcv_X5_90 rfl (kk_M0 ho) rfl (kl_M0 hq ho) (Nat.le_of_ble_eq_true rfl) (Nat.le_of_ble_eq_true rfl) (gok_i (av_c (gkr (kl_M0 hq ho)) (av_c rfl av_n)) as_n) rfl h (fun r2 x1 h => ?_)
  refine T_istore_n (lv2 := [(2, vi r2), (0, vr o), (1, vi l1)]) (dk dtk_X5_accessFails 4 rfl) rfl (by decide) rfl ?_
  refine T_aload_n 1 (dk dtk_X5_accessFails 5 rfl) rfl rfl ?_
  refine T_iload_n 2 (dk dtk_X5_accessFails 6 rfl) rfl rfl ?_
  refine KC_Vi [vi l1] [] rfl (dk dtk_X5_accessFails 7 rfl) kcv_X5_133 rfl (kk_M0 ho) rfl (kl_M0 hq ho) (Nat.le_of_ble_eq_true rfl) (Nat.le_of_ble_eq_true rfl) (gok_i (av_c rfl (av_c (gkr (kl_M0 hq ho)) (av_c rfl av_n))) as_n) rfl h (fun r4 x3 h => ?_)
  refine T_iconst (v := (-1)) (dk dtk_X5_accessFails 8 rfl) (by decide +kernel) ?_
  refine T_icmp_ne 18 (dk dtk_X5_accessFails 9 rfl) (by decide) (fun c5 => ?_) (fun c5 => ?_)
  · have h := h.1 c5
    refine T_aload_n 1 (dk dtk_X5_accessFails 12 rfl) rfl rfl ?_
    refine T_getR o 1 80 (dk dtk_X5_accessFails 13 rfl) kfl_X5_21 (kk_M0 ho) (kl_M0 hq ho) (by decide) rfl (kr_M_1 ho) ?_
    refine T_getR 80 7 88 (dk dtk_X5_accessFails 14 rfl) kfl_X5_160 kk_80 (kl_80 hq) (by decide) rfl kr_80_7 ?_
    refine T_iload_n 0 (dk dtk_X5_accessFails 15 rfl) rfl rfl ?_
    obtain ⟨h6, h⟩ := h
    refine T_iald 88 400 (dk dtk_X5_accessFails 16 rfl) kk_88 (kl_88 hq) h6 ?_
    refine T_iconst (v := (-1)) (dk dtk_X5_accessFails 17 rfl) (by decide +kernel) ?_
    refine T_icmp_eq 70 (dk dtk_X5_accessFails 18 rfl) (by decide) (fun c7 => ?_) (fun c7 => ?_)
    · have h := h.1 c7
      exact T_sub [1, 2, 0] rfl h
    · have h := h.2 c7
      refine T_aload_n 1 (dk dtk_X5_accessFails 19 rfl) rfl rfl ?_
      refine T_getR o 0 60 (dk dtk_X5_accessFails 20 rfl) kfl_X5_11 (kk_M0 ho) (kl_M0 hq ho) (by decide) rfl (kr_M_0 ho) ?_
      refine T_aload_n 1 (dk dtk_X5_accessFails 21 rfl) rfl rfl ?_
      refine T_getR o 1 80 (dk dtk_X5_accessFails 22 rfl) kfl_X5_21 (kk_M0 ho) (kl_M0 hq ho) (by decide) rfl (kr_M_1 ho) ?_
      refine T_getR 80 7 88 (dk dtk_X5_accessFails 23 rfl) kfl_X5_160 kk_80 (kl_80 hq) (by decide) rfl kr_80_7 ?_
      refine T_iload_n 0 (dk dtk_X5_accessFails 24 rfl) rfl rfl ?_
      obtain ⟨h8, h⟩ := h
      refine T_iald 88 400 (dk dtk_X5_accessFails 25 rfl) kk_88 (kl_88 hq) h8 ?_
      refine T_aload_n 1 (dk dtk_X5_accessFails 26 rfl) rfl rfl ?_
      refine T_getR o 4 (o + 5) (dk dtk_X5_accessFails 27 rfl) kfl_X5_29 (kk_M0 ho) (kl_M0 hq ho) (by decide) rfl (kr_M_4 ho) ?_
      refine T_aload_n 1 (dk dtk_X5_accessFails 28 rfl) rfl rfl ?_
      refine T_iload_n 2 (dk dtk_X5_accessFails 29 rfl) rfl rfl ?_
      refine KC_Vi [vi l1] [vr (o + 5), vi (x3.1 88 (r2 : Int32).toNatClampNeg), vr 60] rfl (dk dtk_X5_accessFails 30 rfl) kcv_X5_142 rfl (kk_M0 ho) rfl (kl_M0 hq ho) (Nat.le_of_ble_eq_true rfl) (Nat.le_of_ble_eq_true rfl) (gok_i (av_c rfl (av_c (gkr (kl_M0 hq ho)) (av_c rfl av_n))) (as_c (gkr (kl_M5 hq ho)) (as_c rfl (as_c (gkr (kl_60 hq)) as_n)))) rfl h (fun r10 x9 h => ?_)
      refine T_iload_n 2 (dk dtk_X5_accessFails 31 rfl) rfl rfl ?_
      refine KC_Vi [vi (x3.1 88 (r2 : Int32).toNatClampNeg), vr (o + 5), vi r10, vi l1] [] rfl (dk dtk_X5_accessFails 32 rfl) kcv_X5_145 rfl kk_60 rfl (kl_60 hq) (Nat.le_of_ble_eq_true rfl) (Nat.le_of_ble_eq_true rfl) (gok_i (av_c rfl (av_c (gkr (kl_M0 hq ho)) (av_c rfl av_n))) as_n) rfl h (fun r12 x11 h => ?_)
      refine T_pop (dk dtk_X5_accessFails 33 rfl) rfl ?_
      refine T_aload_n 1 (dk dtk_X5_accessFails 34 rfl) rfl rfl ?_
      refine T_getR o 0 60 (dk dtk_X5_accessFails 35 rfl) kfl_X5_11 (kk_M0 ho) (kl_M0 hq ho) (by decide) rfl (kr_M_0 ho) ?_
      refine T_getI 60 5 (dk dtk_X5_accessFails 36 rfl) kfl_X5_149 kk_60 (kl_60 hq) (by decide) rfl ?_
      refine T_if_eq 70 (dk dtk_X5_accessFails 37 rfl) (by decide) (fun c13 => ?_) (fun c13 => ?_)
      · have h := h.1 c13
        exact T_sub [1, 2, 0] rfl h
      · have h := h.2 c13
        refine T_iconst (v := 1) (dk dtk_X5_accessFails 38 rfl) (by decide +kernel) ?_
        exact KT_iret (dk dtk_X5_accessFails 39 rfl) rfl rfl h
  · have h := h.2 c5
    refine T_iconst (v := 1) (dk dtk_X5_accessFails 10 rfl) (by decide +kernel) ?_
    exact KT_iret (dk dtk_X5_accessFails 11 rfl) rfl rfl h
set_option maxRecDepth 100000 in
set_option maxHeartbeats 4000000 in
theorem kg_X5_accessFails_70 {G : kG} {q : kP} {d : Nat} {x : gd} {P : Option gv → gd → Prop} (hq : kV q) {o : Nat} (ho : kiM q o) (l1 : Int32) (l2 : Int32)
    (h : vp_in l2 400 ∧ (((x.1 89 (l2 : Int32).toNatClampNeg) = (-1 : Int32) → KT G q (d + 1) zk_X5_accessFails 122 [(0, vr o), (1, vi l1), (2, vi l2)] [] x P) ∧ (¬ ((x.1 89 (l2 : Int32).toNatClampNeg) = (-1 : Int32)) → vp_in l2 400 ∧ KT G q d zk_X5_localsAt 0 [(0, vr o), (1, vi l1)] [] x (ri (fun r5 x4 => KT G q d zk_X0_work 0 [(0, vr 60), (1, vi (x.1 89 (l2 : Int32).toNatClampNeg)), (2, vr (o + 5)), (3, vi r5), (4, vi l1)] [] x4 (ri (fun r7 x6 => (((x6.1 60 5) = (0 : Int32) → KT G q (d + 1) zk_X5_accessFails 122 [(0, vr o), (1, vi l1), (2, vi l2)] [] x6 P) ∧ (¬ ((x6.1 60 5) = (0 : Int32)) → P (some (vi 1)) x6))))))))) :
    KT G q (d + 1) zk_X5_accessFails 70 [(0, vr o), (1, vi l1), (2, vi l2)] [] x P := by
  refine T_aload_n 0 (dk dtk_X5_accessFails 40 rfl) rfl rfl ?_
  refine T_getR o 1 80 (dk dtk_X5_accessFails 41 rfl) kfl_X5_21 (kk_M0 ho) (kl_M0 hq ho) (by decide) rfl (kr_M_1 ho) ?_
  refine T_getR 80 8 89 (dk dtk_X5_accessFails 42 rfl) kfl_X5_163 kk_80 (kl_80 hq) (by decide) rfl kr_80_8 ?_
  refine T_iload_n 2 (dk dtk_X5_accessFails 43 rfl) rfl rfl ?_
  obtain ⟨h1, h⟩ := h
  refine T_iald 89 400 (dk dtk_X5_accessFails 44 rfl) kk_89 (kl_89 hq) h1 ?_
  refine T_iconst (v := (-1)) (dk dtk_X5_accessFails 45 rfl) (by decide +kernel) ?_
  refine T_icmp_eq 122 (dk dtk_X5_accessFails 46 rfl) (by decide) (fun c2 => ?_) (fun c2 => ?_)
  · have h := h.1 c2
    exact h
  · have h := h.2 c2
    refine T_aload_n 0 (dk dtk_X5_accessFails 47 rfl) rfl rfl ?_
    refine T_getR o 0 60 (dk dtk_X5_accessFails 48 rfl) kfl_X5_11 (kk_M0 ho) (kl_M0 hq ho) (by decide) rfl (kr_M_0 ho) ?_
    refine T_aload_n 0 (dk dtk_X5_accessFails 49 rfl) rfl rfl ?_
    refine T_getR o 1 80 (dk dtk_X5_accessFails 50 rfl) kfl_X5_21 (kk_M0 ho) (kl_M0 hq ho) (by decide) rfl (kr_M_1 ho) ?_
    refine T_getR 80 8 89 (dk dtk_X5_accessFails 51 rfl) kfl_X5_163 kk_80 (kl_80 hq) (by decide) rfl kr_80_8 ?_
    refine T_iload_n 2 (dk dtk_X5_accessFails 52 rfl) rfl rfl ?_
    obtain ⟨h3, h⟩ := h
    refine T_iald 89 400 (dk dtk_X5_accessFails 53 rfl) kk_89 (kl_89 hq) h3 ?_
    refine T_aload_n 0 (dk dtk_X5_accessFails 54 rfl) rfl rfl ?_
    refine T_getR o 4 (o + 5) (dk dtk_X5_accessFails 55 rfl) kfl_X5_29 (kk_M0 ho) (kl_M0 hq ho) (by decide) rfl (kr_M_4 ho) ?_
    refine T_aload_n 0 (dk dtk_X5_accessFails 56 rfl) rfl rfl ?_
    refine T_iload_n 1 (dk dtk_X5_accessFails 57 rfl) rfl rfl ?_
    refine KC_Vi [vi l1] [vr (o + 5), vi (x.1 89 (l2 : Int32).toNatClampNeg), vr 60] rfl (dk dtk_X5_accessFails 58 rfl) kcv_X5_142 rfl (kk_M0 ho) rfl (kl_M0 hq ho) (Nat.le_of_ble_eq_true rfl) (Nat.le_of_ble_eq_true rfl) (gok_i (av_c (gkr (kl_M0 hq ho)) (av_c rfl (av_c rfl av_n))) (as_c (gkr (kl_M5 hq ho)) (as_c rfl (as_c (gkr (kl_60 hq)) as_n)))) rfl h (fun r5 x4 h => ?_)
    refine T_iload_n 1 (dk dtk_X5_accessFails 59 rfl) rfl rfl ?_
    refine KC_Vi [vi (x.1 89 (l2 : Int32).toNatClampNeg), vr (o + 5), vi r5, vi l1] [] rfl (dk dtk_X5_accessFails 60 rfl) kcv_X5_145 rfl kk_60 rfl (kl_60 hq) (Nat.le_of_ble_eq_true rfl) (Nat.le_of_ble_eq_true rfl) (gok_i (av_c (gkr (kl_M0 hq ho)) (av_c rfl (av_c rfl av_n))) as_n) rfl h (fun r7 x6 h => ?_)
    refine T_pop (dk dtk_X5_accessFails 61 rfl) rfl ?_
    refine T_aload_n 0 (dk dtk_X5_accessFails 62 rfl) rfl rfl ?_
    refine T_getR o 0 60 (dk dtk_X5_accessFails 63 rfl) kfl_X5_11 (kk_M0 ho) (kl_M0 hq ho) (by decide) rfl (kr_M_0 ho) ?_
    refine T_getI 60 5 (dk dtk_X5_accessFails 64 rfl) kfl_X5_149 kk_60 (kl_60 hq) (by decide) rfl ?_
    refine T_if_eq 122 (dk dtk_X5_accessFails 65 rfl) (by decide) (fun c8 => ?_) (fun c8 => ?_)
    · have h := h.1 c8
      exact h
    · have h := h.2 c8
      refine T_iconst (v := 1) (dk dtk_X5_accessFails 66 rfl) (by decide +kernel) ?_
      exact KT_iret (dk dtk_X5_accessFails 67 rfl) rfl rfl h
set_option maxRecDepth 100000 in
set_option maxHeartbeats 4000000 in
theorem kg_X5_accessFails_122 {G : kG} {q : kP} {d : Nat} {x : gd} {P : Option gv → gd → Prop} (hq : kV q) {o : Nat} (ho : kiM q o) (l1 : Int32) (l2 : Int32)
    (h : KT G q d zk_X5_goesLate 0 [(0, vr o), (1, vi l2)] [] x (ri (fun r2 x1 => ((r2 = (0 : Int32) → P (some (vi 0)) x1) ∧ (¬ (r2 = (0 : Int32)) → KT G q d zk_X5_get 0 [(0, vr o), (1, vi l1), (2, vi 7)] [] x1 (ri (fun r5 x4 => ((r5 < (8 : Int32) → P (some (vi 0)) x4) ∧ (¬ (r5 < (8 : Int32)) → P (some (vi 1)) x4))))))))) :
    KT G q (d + 1) zk_X5_accessFails 122 [(0, vr o), (1, vi l1), (2, vi l2)] [] x P := by
  refine T_aload_n 0 (dk dtk_X5_accessFails 68 rfl) rfl rfl ?_
  refine T_iload_n 2 (dk dtk_X5_accessFails 69 rfl) rfl rfl ?_
  refine T_sub (lv2 := [(0, vr o), (1, vi l1)]) [0, 1] rfl ?_
  refine KC_Vi [vi l2] [] rfl (dk dtk_X5_accessFails 70 rfl) kcv_X5_166 rfl (kk_M0 ho) rfl (kl_M0 hq ho) (Nat.le_of_ble_eq_true rfl) (Nat.le_of_ble_eq_true rfl) (gok_i (av_c (gkr (kl_M0 hq ho)) (av_c rfl av_n)) as_n) rfl h (fun r2 x1 h => ?_)
  refine T_if_eq 146 (dk dtk_X5_accessFails 71 rfl) (by decide) (fun c3 => ?_) (fun c3 => ?_)
  · have h := h.1 c3
    refine T_iconst (v := 0) (dk dtk_X5_accessFails 80 rfl) (by decide +kernel) ?_
    exact KT_iret (dk dtk_X5_accessFails 81 rfl) rfl rfl h
  · have h := h.2 c3
    refine T_aload_n 0 (dk dtk_X5_accessFails 72 rfl) rfl rfl ?_
    refine T_iload_n 1 (dk dtk_X5_accessFails 73 rfl) rfl rfl ?_
    refine T_bipush (v := 7) (dk dtk_X5_accessFails 74 rfl) (by decide +kernel) ?_
    refine T_sub (lv2 := []) [] rfl ?_
    refine KC_Vi [vi l1, vi 7] [] rfl (dk dtk_X5_accessFails 75 rfl) kcv_X5_90 rfl (kk_M0 ho) rfl (kl_M0 hq ho) (Nat.le_of_ble_eq_true rfl) (Nat.le_of_ble_eq_true rfl) (gok_i av_n as_n) rfl h (fun r5 x4 h => ?_)
    refine T_bipush (v := 8) (dk dtk_X5_accessFails 76 rfl) (by decide +kernel) ?_
    refine T_icmp_lt 146 (dk dtk_X5_accessFails 77 rfl) (by decide) (fun c6 => ?_) (fun c6 => ?_)
    · have h := h.1 c6
      refine T_iconst (v := 0) (dk dtk_X5_accessFails 80 rfl) (by decide +kernel) ?_
      exact KT_iret (dk dtk_X5_accessFails 81 rfl) rfl rfl h
    · have h := h.2 c6
      refine T_iconst (v := 1) (dk dtk_X5_accessFails 78 rfl) (by decide +kernel) ?_
      refine T_goto 147 (dk dtk_X5_accessFails 79 rfl) (by decide) ?_
      exact KT_iret (dk dtk_X5_accessFails 81 rfl) rfl rfl h
end
section
set_option maxRecDepth 100000 in
theorem dtk_X5_canAct : dck cX5_canAct [(0, .aload_n 0, 1), (1, .iload_n 1, 1), (2, .invokevirtual 94, 3), (5, .ifCond .ne 5, 3), (8, .iconst 0, 1), (9, .ireturn, 1), (10, .aload_n 0, 1), (11, .iload_n 1, 1), (12, .iconst 2, 1), (13, .invokevirtual 90, 3), (16, .istore_n 2, 1), (17, .aload_n 0, 1), (18, .getfield 21, 3), (21, .getfield 136, 3), (24, .iload_n 2, 1), (25, .iaload, 1), (26, .istore_n 3, 1), (27, .aload_n 0, 1), (28, .iload_n 1, 1), (29, .invokevirtual 130, 3), (32, .tableswitch 211 0 15 #[80, 82, 211, 211, 211, 106, 211, 211, 211, 211, 175, 211, 80, 80, 80, 140], 80), (112, .iconst 1, 1), (113, .ireturn, 1), (114, .aload_n 0, 1), (115, .iload_n 2, 1), (116, .invokevirtual 166, 3), (119, .ifCond .ne 13, 3), (122, .aload_n 0, 1), (123, .iload_n 1, 1), (124, .bipush 7, 2), (126, .invokevirtual 90, 3), (129, .ifCond .ne 7, 3), (132, .iconst 1, 1), (133, .goto 4, 3), (136, .iconst 0, 1), (137, .ireturn, 1), (138, .aload_n 0, 1), (139, .iload_n 1, 1), (140, .bipush 7, 2), (142, .invokevirtual 90, 3), (145, .ifCond .ne 25, 3), (148, .aload_n 0, 1), (149, .iload_n 3, 1), (150, .invokevirtual 113, 3), (153, .iconst (-1), 1), (154, .if_icmp .eq 12, 3), (157, .aload_n 0, 1), (158, .iload_n 3, 1), (159, .invokevirtual 113, 3), (162, .iload_n 1, 1), (163, .if_icmp .ne 7, 3), (166, .iconst 1, 1), (167, .goto 4, 3), (170, .iconst 0, 1), (171, .ireturn, 1), (172, .aload_n 0, 1), (173, .iload_n 1, 1), (174, .bipush 7, 2), (176, .invokevirtual 90, 3), (179, .ifCond .ne 26, 3), (182, .aload_n 0, 1), (183, .iload_n 1, 1), (184, .iconst 5, 1), (185, .invokevirtual 90, 3), (188, .iconst 1, 1), (189, .if_icmp .ne 16, 3), (192, .aload_n 0, 1), (193, .iload_n 3, 1), (194, .invokevirtual 113, 3), (197, .iconst (-1), 1), (198, .if_icmp .ne 7, 3), (201, .iconst 1, 1), (202, .goto 4, 3), (205, .iconst 0, 1), (206, .ireturn, 1), (207, .aload_n 0, 1), (208, .iload_n 1, 1), (209, .bipush 7, 2), (211, .invokevirtual 90, 3), (214, .ifCond .ne 27, 3), (217, .aload_n 0, 1), (218, .iload_n 3, 1), (219, .iconst 0, 1), (220, .invokevirtual 90, 3), (223, .iconst 2, 1), (224, .if_icmp .lt 17, 3), (227, .aload_n 0, 1), (228, .iload_n 3, 1), (229, .bipush 7, 2), (231, .invokevirtual 90, 3), (234, .ifCond .ne 7, 3), (237, .iconst 1, 1), (238, .goto 4, 3), (241, .iconst 0, 1), (242, .ireturn, 1), (243, .aload_n 0, 1), (244, .iload_n 1, 1), (245, .bipush 7, 2), (247, .invokevirtual 90, 3), (250, .ifCond .ne 7, 3), (253, .iconst 1, 1), (254, .goto 4, 3), (257, .iconst 0, 1), (258, .ireturn, 1)] = true := by decide +kernel
set_option maxRecDepth 100000 in
set_option maxHeartbeats 4000000 in
theorem kg_X5_canAct_0 {G : kG} {q : kP} {d : Nat} {x : gd} {P : Option gv → gd → Prop} (hq : kV q) {o : Nat} (ho : kiM q o) (l1 : Int32)
    (h : KT G q d zk_X5_isGoing 0 [(0, vr o), (1, vi l1)] [] x (ri (fun r2 x1 => ((¬ (r2 = (0 : Int32)) → KT G q d zk_X5_get 0 [(0, vr o), (1, vi l1), (2, vi 2)] [] x1 (ri (fun r5 x4 => vp_in r5 400 ∧ KT G q d zk_X5_sortOf 0 [(0, vr o), (1, vi l1)] [] x4 (ri (fun r8 x7 => (((r8 = 0 ∨ r8 = 12 ∨ r8 = 13 ∨ r8 = 14) → P (some (vi 1)) x7) ∧ ((r8 = 1) → KT G q d zk_X5_goesLate 0 [(0, vr o), (1, vi r5)] [] x7 (ri (fun r12 x11 => ((¬ (r12 = (0 : Int32)) → P (some (vi 1)) x11) ∧ (r12 = (0 : Int32) → KT G q d zk_X5_get 0 [(0, vr o), (1, vi l1), (2, vi 7)] [] x11 (ri (fun r15 x14 => ((¬ (r15 = (0 : Int32)) → P (some (vi 0)) x14) ∧ (r15 = (0 : Int32) → P (some (vi 1)) x14))))))))) ∧ ((r8 = 5) → KT G q d zk_X5_get 0 [(0, vr o), (1, vi l1), (2, vi 7)] [] x7 (ri (fun r19 x18 => ((¬ (r19 = (0 : Int32)) → P (some (vi 0)) x18) ∧ (r19 = (0 : Int32) → KT G q d zk_X5_holder 0 [(0, vr o), (1, vi (x4.1 85 (r5 : Int32).toNatClampNeg))] [] x18 (ri (fun r22 x21 => ((r22 = (-1 : Int32) → P (some (vi 1)) x21) ∧ (¬ (r22 = (-1 : Int32)) → KT G q d zk_X5_holder 0 [(0, vr o), (1, vi (x4.1 85 (r5 : Int32).toNatClampNeg))] [] x21 (ri (fun r25 x24 => ((¬ (r25 = l1) → P (some (vi 0)) x24) ∧ (r25 = l1 → P (some (vi 1)) x24))))))))))))) ∧ ((r8 = 15) → KT G q d zk_X5_get 0 [(0, vr o), (1, vi l1), (2, vi 7)] [] x7 (ri (fun r29 x28 => ((¬ (r29 = (0 : Int32)) → P (some (vi 0)) x28) ∧ (r29 = (0 : Int32) → KT G q d zk_X5_get 0 [(0, vr o), (1, vi l1), (2, vi 5)] [] x28 (ri (fun r32 x31 => ((¬ (r32 = (1 : Int32)) → P (some (vi 0)) x31) ∧ (r32 = (1 : Int32) → KT G q d zk_X5_holder 0 [(0, vr o), (1, vi (x4.1 85 (r5 : Int32).toNatClampNeg))] [] x31 (ri (fun r35 x34 => ((¬ (r35 = (-1 : Int32)) → P (some (vi 0)) x34) ∧ (r35 = (-1 : Int32) → P (some (vi 1)) x34))))))))))))) ∧ ((r8 = 10) → KT G q d zk_X5_get 0 [(0, vr o), (1, vi l1), (2, vi 7)] [] x7 (ri (fun r39 x38 => ((¬ (r39 = (0 : Int32)) → P (some (vi 0)) x38) ∧ (r39 = (0 : Int32) → KT G q d zk_X5_get 0 [(0, vr o), (1, vi (x4.1 85 (r5 : Int32).toNatClampNeg)), (2, vi 0)] [] x38 (ri (fun r42 x41 => ((r42 < (2 : Int32) → P (some (vi 0)) x41) ∧ (¬ (r42 < (2 : Int32)) → KT G q d zk_X5_get 0 [(0, vr o), (1, vi (x4.1 85 (r5 : Int32).toNatClampNeg)), (2, vi 7)] [] x41 (ri (fun r45 x44 => ((¬ (r45 = (0 : Int32)) → P (some (vi 0)) x44) ∧ (r45 = (0 : Int32) → P (some (vi 1)) x44))))))))))))) ∧ ((∀ k ∈ [(0 : Int32), (12 : Int32), (13 : Int32), (14 : Int32), (1 : Int32), (5 : Int32), (15 : Int32), (10 : Int32)], ¬ r8 = k) → KT G q d zk_X5_get 0 [(0, vr o), (1, vi l1), (2, vi 7)] [] x7 (ri (fun r49 x48 => ((¬ (r49 = (0 : Int32)) → P (some (vi 0)) x48) ∧ (r49 = (0 : Int32) → P (some (vi 1)) x48))))))))))) ∧ (r2 = (0 : Int32) → P (some (vi 0)) x1))))) :
    KT G q (d + 1) zk_X5_canAct 0 [(0, vr o), (1, vi l1)] [] x P := by
  refine T_aload_n 0 (dk dtk_X5_canAct 0 rfl) rfl rfl ?_
  refine T_iload_n 1 (dk dtk_X5_canAct 1 rfl) rfl rfl ?_
  refine KC_Vi [vi l1] [] rfl (dk dtk_X5_canAct 2 rfl) kcv_X5_94 rfl (kk_M0 ho) rfl (kl_M0 hq ho) (Nat.le_of_ble_eq_true rfl) (Nat.le_of_ble_eq_true rfl) (gok_i (av_c (gkr (kl_M0 hq ho)) (av_c rfl av_n)) as_n) rfl h (fun r2 x1 h => ?_)
  refine T_if_ne 10 (dk dtk_X5_canAct 3 rfl) (by decide) (fun c3 => ?_) (fun c3 => ?_)
  · have h := h.1 c3
    refine T_aload_n 0 (dk dtk_X5_canAct 6 rfl) rfl rfl ?_
    refine T_iload_n 1 (dk dtk_X5_canAct 7 rfl) rfl rfl ?_
    refine T_iconst (v := 2) (dk dtk_X5_canAct 8 rfl) (by decide +kernel) ?_
    refine KC_Vi [vi l1, vi 2] [] rfl (dk dtk_X5_canAct 9 rfl) kcv_X5_90 rfl (kk_M0 ho) rfl (kl_M0 hq ho) (Nat.le_of_ble_eq_true rfl) (Nat.le_of_ble_eq_true rfl) (gok_i (av_c (gkr (kl_M0 hq ho)) (av_c rfl av_n)) as_n) rfl h (fun r5 x4 h => ?_)
    refine T_istore_n (lv2 := [(2, vi r5), (0, vr o), (1, vi l1)]) (dk dtk_X5_canAct 10 rfl) rfl (by decide) rfl ?_
    refine T_aload_n 1 (dk dtk_X5_canAct 11 rfl) rfl rfl ?_
    refine T_getR o 1 80 (dk dtk_X5_canAct 12 rfl) kfl_X5_21 (kk_M0 ho) (kl_M0 hq ho) (by decide) rfl (kr_M_1 ho) ?_
    refine T_getR 80 4 85 (dk dtk_X5_canAct 13 rfl) kfl_X5_136 kk_80 (kl_80 hq) (by decide) rfl kr_80_4 ?_
    refine T_iload_n 0 (dk dtk_X5_canAct 14 rfl) rfl rfl ?_
    obtain ⟨h6, h⟩ := h
    refine T_iald 85 400 (dk dtk_X5_canAct 15 rfl) kk_85 (kl_85 hq) h6 ?_
    refine T_istore_n (lv2 := [(3, vi (x4.1 85 (r5 : Int32).toNatClampNeg)), (2, vi r5), (0, vr o), (1, vi l1)]) (dk dtk_X5_canAct 16 rfl) rfl (by decide) rfl ?_
    refine T_aload_n 2 (dk dtk_X5_canAct 17 rfl) rfl rfl ?_
    refine T_iload_n 3 (dk dtk_X5_canAct 18 rfl) rfl rfl ?_
    refine KC_Vi [vi l1] [] rfl (dk dtk_X5_canAct 19 rfl) kcv_X5_130 rfl (kk_M0 ho) rfl (kl_M0 hq ho) (Nat.le_of_ble_eq_true rfl) (Nat.le_of_ble_eq_true rfl) (gok_i (av_c rfl (av_c rfl (av_c (gkr (kl_M0 hq ho)) (av_c rfl av_n)))) as_n) rfl h (fun r8 x7 h => ?_)
    by_cases c9 : r8 = 0 ∨ r8 = 12 ∨ r8 = 13 ∨ r8 = 14
    · have h := h.1 c9
      refine T_table 80 112 (dk dtk_X5_canAct 20 rfl) (by decide) (by rcases c9 with q9 | q9 | q9 | q9 <;> rw [q9] <;> decide +kernel) (by decide) ?_
      refine T_iconst (v := 1) (dk dtk_X5_canAct 21 rfl) (by decide +kernel) ?_
      exact KT_iret (dk dtk_X5_canAct 22 rfl) rfl rfl h
    · have h := h.2
      by_cases c10 : r8 = 1
      · have h := h.1 c10
        refine T_table 82 114 (dk dtk_X5_canAct 20 rfl) (by decide) (by rw [c10]; decide +kernel) (by decide) ?_
        refine T_aload_n 2 (dk dtk_X5_canAct 23 rfl) rfl rfl ?_
        refine T_iload_n 1 (dk dtk_X5_canAct 24 rfl) rfl rfl ?_
        refine T_sub (lv2 := [(0, vr o), (1, vi l1)]) [2, 3] rfl ?_
        refine KC_Vi [vi r5] [] rfl (dk dtk_X5_canAct 25 rfl) kcv_X5_166 rfl (kk_M0 ho) rfl (kl_M0 hq ho) (Nat.le_of_ble_eq_true rfl) (Nat.le_of_ble_eq_true rfl) (gok_i (av_c (gkr (kl_M0 hq ho)) (av_c rfl av_n)) as_n) rfl h (fun r12 x11 h => ?_)
        refine T_if_ne 132 (dk dtk_X5_canAct 26 rfl) (by decide) (fun c13 => ?_) (fun c13 => ?_)
        · have h := h.1 c13
          refine T_iconst (v := 1) (dk dtk_X5_canAct 32 rfl) (by decide +kernel) ?_
          refine T_goto 137 (dk dtk_X5_canAct 33 rfl) (by decide) ?_
          exact KT_iret (dk dtk_X5_canAct 35 rfl) rfl rfl h
        · have h := h.2 c13
          refine T_aload_n 0 (dk dtk_X5_canAct 27 rfl) rfl rfl ?_
          refine T_iload_n 1 (dk dtk_X5_canAct 28 rfl) rfl rfl ?_
          refine T_bipush (v := 7) (dk dtk_X5_canAct 29 rfl) (by decide +kernel) ?_
          refine T_sub (lv2 := []) [] rfl ?_
          refine KC_Vi [vi l1, vi 7] [] rfl (dk dtk_X5_canAct 30 rfl) kcv_X5_90 rfl (kk_M0 ho) rfl (kl_M0 hq ho) (Nat.le_of_ble_eq_true rfl) (Nat.le_of_ble_eq_true rfl) (gok_i av_n as_n) rfl h (fun r15 x14 h => ?_)
          refine T_if_ne 136 (dk dtk_X5_canAct 31 rfl) (by decide) (fun c16 => ?_) (fun c16 => ?_)
          · have h := h.1 c16
            refine T_iconst (v := 0) (dk dtk_X5_canAct 34 rfl) (by decide +kernel) ?_
            exact KT_iret (dk dtk_X5_canAct 35 rfl) rfl rfl h
          · have h := h.2 c16
            refine T_iconst (v := 1) (dk dtk_X5_canAct 32 rfl) (by decide +kernel) ?_
            refine T_goto 137 (dk dtk_X5_canAct 33 rfl) (by decide) ?_
            exact KT_iret (dk dtk_X5_canAct 35 rfl) rfl rfl h
      · have h := h.2
        by_cases c17 : r8 = 5
        · have h := h.1 c17
          refine T_table 106 138 (dk dtk_X5_canAct 20 rfl) (by decide) (by rw [c17]; decide +kernel) (by decide) ?_
          refine T_aload_n 2 (dk dtk_X5_canAct 36 rfl) rfl rfl ?_
          refine T_iload_n 3 (dk dtk_X5_canAct 37 rfl) rfl rfl ?_
          refine T_bipush (v := 7) (dk dtk_X5_canAct 38 rfl) (by decide +kernel) ?_
          refine T_sub (lv2 := [(3, vi (x4.1 85 (r5 : Int32).toNatClampNeg)), (0, vr o), (1, vi l1)]) [0, 2, 3] rfl ?_
          refine KC_Vi [vi l1, vi 7] [] rfl (dk dtk_X5_canAct 39 rfl) kcv_X5_90 rfl (kk_M0 ho) rfl (kl_M0 hq ho) (Nat.le_of_ble_eq_true rfl) (Nat.le_of_ble_eq_true rfl) (gok_i (av_c rfl (av_c (gkr (kl_M0 hq ho)) (av_c rfl av_n))) as_n) rfl h (fun r19 x18 h => ?_)
          refine T_if_ne 170 (dk dtk_X5_canAct 40 rfl) (by decide) (fun c20 => ?_) (fun c20 => ?_)
          · have h := h.1 c20
            refine T_iconst (v := 0) (dk dtk_X5_canAct 53 rfl) (by decide +kernel) ?_
            exact KT_iret (dk dtk_X5_canAct 54 rfl) rfl rfl h
          · have h := h.2 c20
            refine T_aload_n 1 (dk dtk_X5_canAct 41 rfl) rfl rfl ?_
            refine T_iload_n 0 (dk dtk_X5_canAct 42 rfl) rfl rfl ?_
            refine KC_Vi [vi (x4.1 85 (r5 : Int32).toNatClampNeg)] [] rfl (dk dtk_X5_canAct 43 rfl) kcv_X5_113 rfl (kk_M0 ho) rfl (kl_M0 hq ho) (Nat.le_of_ble_eq_true rfl) (Nat.le_of_ble_eq_true rfl) (gok_i (av_c rfl (av_c (gkr (kl_M0 hq ho)) (av_c rfl av_n))) as_n) rfl h (fun r22 x21 h => ?_)
            refine T_iconst (v := (-1)) (dk dtk_X5_canAct 44 rfl) (by decide +kernel) ?_
            refine T_icmp_eq 166 (dk dtk_X5_canAct 45 rfl) (by decide) (fun c23 => ?_) (fun c23 => ?_)
            · have h := h.1 c23
              refine T_iconst (v := 1) (dk dtk_X5_canAct 51 rfl) (by decide +kernel) ?_
              refine T_goto 171 (dk dtk_X5_canAct 52 rfl) (by decide) ?_
              exact KT_iret (dk dtk_X5_canAct 54 rfl) rfl rfl h
            · have h := h.2 c23
              refine T_aload_n 1 (dk dtk_X5_canAct 46 rfl) rfl rfl ?_
              refine T_iload_n 0 (dk dtk_X5_canAct 47 rfl) rfl rfl ?_
              refine T_sub (lv2 := [(1, vi l1)]) [2] rfl ?_
              refine KC_Vi [vi (x4.1 85 (r5 : Int32).toNatClampNeg)] [] rfl (dk dtk_X5_canAct 48 rfl) kcv_X5_113 rfl (kk_M0 ho) rfl (kl_M0 hq ho) (Nat.le_of_ble_eq_true rfl) (Nat.le_of_ble_eq_true rfl) (gok_i (av_c rfl av_n) as_n) rfl h (fun r25 x24 h => ?_)
              refine T_iload_n 0 (dk dtk_X5_canAct 49 rfl) rfl rfl ?_
              refine T_icmp_ne 170 (dk dtk_X5_canAct 50 rfl) (by decide) (fun c26 => ?_) (fun c26 => ?_)
              · have h := h.1 c26
                refine T_iconst (v := 0) (dk dtk_X5_canAct 53 rfl) (by decide +kernel) ?_
                exact KT_iret (dk dtk_X5_canAct 54 rfl) rfl rfl h
              · have h := h.2 c26
                refine T_iconst (v := 1) (dk dtk_X5_canAct 51 rfl) (by decide +kernel) ?_
                refine T_goto 171 (dk dtk_X5_canAct 52 rfl) (by decide) ?_
                exact KT_iret (dk dtk_X5_canAct 54 rfl) rfl rfl h
        · have h := h.2
          by_cases c27 : r8 = 15
          · have h := h.1 c27
            refine T_table 140 172 (dk dtk_X5_canAct 20 rfl) (by decide) (by rw [c27]; decide +kernel) (by decide) ?_
            refine T_aload_n 2 (dk dtk_X5_canAct 55 rfl) rfl rfl ?_
            refine T_iload_n 3 (dk dtk_X5_canAct 56 rfl) rfl rfl ?_
            refine T_bipush (v := 7) (dk dtk_X5_canAct 57 rfl) (by decide +kernel) ?_
            refine T_sub (lv2 := [(3, vi (x4.1 85 (r5 : Int32).toNatClampNeg)), (0, vr o), (1, vi l1)]) [0, 2, 3] rfl ?_
            refine KC_Vi [vi l1, vi 7] [] rfl (dk dtk_X5_canAct 58 rfl) kcv_X5_90 rfl (kk_M0 ho) rfl (kl_M0 hq ho) (Nat.le_of_ble_eq_true rfl) (Nat.le_of_ble_eq_true rfl) (gok_i (av_c rfl (av_c (gkr (kl_M0 hq ho)) (av_c rfl av_n))) as_n) rfl h (fun r29 x28 h => ?_)
            refine T_if_ne 205 (dk dtk_X5_canAct 59 rfl) (by decide) (fun c30 => ?_) (fun c30 => ?_)
            · have h := h.1 c30
              refine T_iconst (v := 0) (dk dtk_X5_canAct 73 rfl) (by decide +kernel) ?_
              exact KT_iret (dk dtk_X5_canAct 74 rfl) rfl rfl h
            · have h := h.2 c30
              refine T_aload_n 1 (dk dtk_X5_canAct 60 rfl) rfl rfl ?_
              refine T_iload_n 2 (dk dtk_X5_canAct 61 rfl) rfl rfl ?_
              refine T_iconst (v := 5) (dk dtk_X5_canAct 62 rfl) (by decide +kernel) ?_
              refine T_sub (lv2 := [(3, vi (x4.1 85 (r5 : Int32).toNatClampNeg)), (0, vr o)]) [0, 1] rfl ?_
              refine KC_Vi [vi l1, vi 5] [] rfl (dk dtk_X5_canAct 63 rfl) kcv_X5_90 rfl (kk_M0 ho) rfl (kl_M0 hq ho) (Nat.le_of_ble_eq_true rfl) (Nat.le_of_ble_eq_true rfl) (gok_i (av_c rfl (av_c (gkr (kl_M0 hq ho)) av_n)) as_n) rfl h (fun r32 x31 h => ?_)
              refine T_iconst (v := 1) (dk dtk_X5_canAct 64 rfl) (by decide +kernel) ?_
              refine T_icmp_ne 205 (dk dtk_X5_canAct 65 rfl) (by decide) (fun c33 => ?_) (fun c33 => ?_)
              · have h := h.1 c33
                refine T_iconst (v := 0) (dk dtk_X5_canAct 73 rfl) (by decide +kernel) ?_
                exact KT_iret (dk dtk_X5_canAct 74 rfl) rfl rfl h
              · have h := h.2 c33
                refine T_aload_n 1 (dk dtk_X5_canAct 66 rfl) rfl rfl ?_
                refine T_iload_n 0 (dk dtk_X5_canAct 67 rfl) rfl rfl ?_
                refine T_sub (lv2 := []) [] rfl ?_
                refine KC_Vi [vi (x4.1 85 (r5 : Int32).toNatClampNeg)] [] rfl (dk dtk_X5_canAct 68 rfl) kcv_X5_113 rfl (kk_M0 ho) rfl (kl_M0 hq ho) (Nat.le_of_ble_eq_true rfl) (Nat.le_of_ble_eq_true rfl) (gok_i av_n as_n) rfl h (fun r35 x34 h => ?_)
                refine T_iconst (v := (-1)) (dk dtk_X5_canAct 69 rfl) (by decide +kernel) ?_
                refine T_icmp_ne 205 (dk dtk_X5_canAct 70 rfl) (by decide) (fun c36 => ?_) (fun c36 => ?_)
                · have h := h.1 c36
                  refine T_iconst (v := 0) (dk dtk_X5_canAct 73 rfl) (by decide +kernel) ?_
                  exact KT_iret (dk dtk_X5_canAct 74 rfl) rfl rfl h
                · have h := h.2 c36
                  refine T_iconst (v := 1) (dk dtk_X5_canAct 71 rfl) (by decide +kernel) ?_
                  refine T_goto 206 (dk dtk_X5_canAct 72 rfl) (by decide) ?_
                  exact KT_iret (dk dtk_X5_canAct 74 rfl) rfl rfl h
          · have h := h.2
            by_cases c37 : r8 = 10
            · have h := h.1 c37
              refine T_table 175 207 (dk dtk_X5_canAct 20 rfl) (by decide) (by rw [c37]; decide +kernel) (by decide) ?_
              refine T_aload_n 2 (dk dtk_X5_canAct 75 rfl) rfl rfl ?_
              refine T_iload_n 3 (dk dtk_X5_canAct 76 rfl) rfl rfl ?_
              refine T_bipush (v := 7) (dk dtk_X5_canAct 77 rfl) (by decide +kernel) ?_
              refine T_sub (lv2 := [(3, vi (x4.1 85 (r5 : Int32).toNatClampNeg)), (0, vr o)]) [0, 2] rfl ?_
              refine KC_Vi [vi l1, vi 7] [] rfl (dk dtk_X5_canAct 78 rfl) kcv_X5_90 rfl (kk_M0 ho) rfl (kl_M0 hq ho) (Nat.le_of_ble_eq_true rfl) (Nat.le_of_ble_eq_true rfl) (gok_i (av_c rfl (av_c (gkr (kl_M0 hq ho)) av_n)) as_n) rfl h (fun r39 x38 h => ?_)
              refine T_if_ne 241 (dk dtk_X5_canAct 79 rfl) (by decide) (fun c40 => ?_) (fun c40 => ?_)
              · have h := h.1 c40
                refine T_iconst (v := 0) (dk dtk_X5_canAct 93 rfl) (by decide +kernel) ?_
                exact KT_iret (dk dtk_X5_canAct 94 rfl) rfl rfl h
              · have h := h.2 c40
                refine T_aload_n 1 (dk dtk_X5_canAct 80 rfl) rfl rfl ?_
                refine T_iload_n 0 (dk dtk_X5_canAct 81 rfl) rfl rfl ?_
                refine T_iconst (v := 0) (dk dtk_X5_canAct 82 rfl) (by decide +kernel) ?_
                refine KC_Vi [vi (x4.1 85 (r5 : Int32).toNatClampNeg), vi 0] [] rfl (dk dtk_X5_canAct 83 rfl) kcv_X5_90 rfl (kk_M0 ho) rfl (kl_M0 hq ho) (Nat.le_of_ble_eq_true rfl) (Nat.le_of_ble_eq_true rfl) (gok_i (av_c rfl (av_c (gkr (kl_M0 hq ho)) av_n)) as_n) rfl h (fun r42 x41 h => ?_)
                refine T_iconst (v := 2) (dk dtk_X5_canAct 84 rfl) (by decide +kernel) ?_
                refine T_icmp_lt 241 (dk dtk_X5_canAct 85 rfl) (by decide) (fun c43 => ?_) (fun c43 => ?_)
                · have h := h.1 c43
                  refine T_iconst (v := 0) (dk dtk_X5_canAct 93 rfl) (by decide +kernel) ?_
                  exact KT_iret (dk dtk_X5_canAct 94 rfl) rfl rfl h
                · have h := h.2 c43
                  refine T_aload_n 1 (dk dtk_X5_canAct 86 rfl) rfl rfl ?_
                  refine T_iload_n 0 (dk dtk_X5_canAct 87 rfl) rfl rfl ?_
                  refine T_bipush (v := 7) (dk dtk_X5_canAct 88 rfl) (by decide +kernel) ?_
                  refine T_sub (lv2 := []) [] rfl ?_
                  refine KC_Vi [vi (x4.1 85 (r5 : Int32).toNatClampNeg), vi 7] [] rfl (dk dtk_X5_canAct 89 rfl) kcv_X5_90 rfl (kk_M0 ho) rfl (kl_M0 hq ho) (Nat.le_of_ble_eq_true rfl) (Nat.le_of_ble_eq_true rfl) (gok_i av_n as_n) rfl h (fun r45 x44 h => ?_)
                  refine T_if_ne 241 (dk dtk_X5_canAct 90 rfl) (by decide) (fun c46 => ?_) (fun c46 => ?_)
                  · have h := h.1 c46
                    refine T_iconst (v := 0) (dk dtk_X5_canAct 93 rfl) (by decide +kernel) ?_
                    exact KT_iret (dk dtk_X5_canAct 94 rfl) rfl rfl h
                  · have h := h.2 c46
                    refine T_iconst (v := 1) (dk dtk_X5_canAct 91 rfl) (by decide +kernel) ?_
                    refine T_goto 242 (dk dtk_X5_canAct 92 rfl) (by decide) ?_
                    exact KT_iret (dk dtk_X5_canAct 94 rfl) rfl rfl h
            · have h := h.2
              have n47 : ∀ k ∈ [(0 : Int32), (12 : Int32), (13 : Int32), (14 : Int32), (1 : Int32), (5 : Int32), (15 : Int32), (10 : Int32)], ¬ r8 = k := (gno (fun q9 => c9 (Or.inl q9)) (gno (fun q9 => c9 (Or.inr (Or.inl q9))) (gno (fun q9 => c9 (Or.inr (Or.inr (Or.inl q9)))) (gno (fun q9 => c9 (Or.inr (Or.inr (Or.inr (q9))))) (gno c10 (gno c17 (gno c27 (gno c37 gno0))))))))
              have h := h n47
              refine T_table 211 243 (dk dtk_X5_canAct 20 rfl) (by decide) (gtab_d [(0 : Int32), (12 : Int32), (13 : Int32), (14 : Int32), (1 : Int32), (5 : Int32), (15 : Int32), (10 : Int32)] (by decide +kernel) n47) (by decide) ?_
              refine T_aload_n 2 (dk dtk_X5_canAct 95 rfl) rfl rfl ?_
              refine T_iload_n 3 (dk dtk_X5_canAct 96 rfl) rfl rfl ?_
              refine T_bipush (v := 7) (dk dtk_X5_canAct 97 rfl) (by decide +kernel) ?_
              refine T_sub (lv2 := []) [] rfl ?_
              refine KC_Vi [vi l1, vi 7] [] rfl (dk dtk_X5_canAct 98 rfl) kcv_X5_90 rfl (kk_M0 ho) rfl (kl_M0 hq ho) (Nat.le_of_ble_eq_true rfl) (Nat.le_of_ble_eq_true rfl) (gok_i av_n as_n) rfl h (fun r49 x48 h => ?_)
              refine T_if_ne 257 (dk dtk_X5_canAct 99 rfl) (by decide) (fun c50 => ?_) (fun c50 => ?_)
              · have h := h.1 c50
                refine T_iconst (v := 0) (dk dtk_X5_canAct 102 rfl) (by decide +kernel) ?_
                exact KT_iret (dk dtk_X5_canAct 103 rfl) rfl rfl h
              · have h := h.2 c50
                refine T_iconst (v := 1) (dk dtk_X5_canAct 100 rfl) (by decide +kernel) ?_
                refine T_goto 258 (dk dtk_X5_canAct 101 rfl) (by decide) ?_
                exact KT_iret (dk dtk_X5_canAct 103 rfl) rfl rfl h
  · have h := h.2 c3
    refine T_iconst (v := 0) (dk dtk_X5_canAct 4 rfl) (by decide +kernel) ?_
    exact KT_iret (dk dtk_X5_canAct 5 rfl) rfl rfl h
set_option maxRecDepth 100000 in
theorem dtk_X5_listChoices : dck cX5_listChoices [(0, .aload_n 0, 1), (1, .iconst 0, 1), (2, .putfield 98, 3), (5, .iconst 0, 1), (6, .istore_n 1, 1), (7, .iload_n 1, 1), (8, .aload_n 0, 1), (9, .getfield 11, 3), (12, .getfield 67, 3), (15, .if_icmp .ge 57, 3), (18, .aload_n 0, 1), (19, .iload_n 1, 1), (20, .invokevirtual 169, 3), (23, .ifCond .eq 8, 3), (26, .aload_n 0, 1), (27, .iload_n 1, 1), (28, .invokevirtual 172, 3), (31, .iconst 0, 1), (32, .istore_n 2, 1), (33, .iload_n 2, 1), (34, .aload_n 0, 1), (35, .iload_n 1, 1), (36, .bipush 7, 2), (38, .invokevirtual 90, 3), (41, .if_icmp .ge 25, 3), (44, .aload_n 0, 1), (45, .iload_n 1, 1), (46, .iload_n 2, 1), (47, .invokevirtual 175, 3), (50, .ifCond .eq 10, 3), (53, .aload_n 0, 1), (54, .iload_n 1, 1), (55, .iload_n 2, 1), (56, .iconst (-1), 1), (57, .invokevirtual 179, 3), (60, .iinc 2 1, 3), (63, .goto (-30), 3), (66, .iinc 1 1, 3), (69, .goto (-62), 3), (72, .return_, 1)] = true := by decide +kernel
set_option maxRecDepth 100000 in
set_option maxHeartbeats 4000000 in
theorem kg_X5_listChoices_0 {G : kG} {q : kP} {d : Nat} {x : gd} {P : Option gv → gd → Prop} (hq : kV q) {o : Nat} (ho : kiM q o)
    (h : (∀ x1 : gd, x1 = si x o 13 0 → KT G q (d + 1) zk_X5_listChoices 7 [(0, vr o), (1, vi 0)] [] x1 P)) :
    KT G q (d + 1) zk_X5_listChoices 0 [(0, vr o)] [] x P := by
  refine T_aload_n 0 (dk dtk_X5_listChoices 0 rfl) rfl rfl ?_
  refine T_iconst (v := 0) (dk dtk_X5_listChoices 1 rfl) (by decide +kernel) ?_
  obtain ⟨x1, ex1⟩ : ∃ z, z = si x o 13 0 := ⟨_, rfl⟩
  have h := h x1 ex1
  refine T_putI o 13 (dk dtk_X5_listChoices 2 rfl) kfl_X5_98 (kk_M0 ho) (kl_M0 hq ho) (by decide) rfl ⟨rfl, rfl⟩ ?_
  rw [← ex1]
  refine T_iconst (v := 0) (dk dtk_X5_listChoices 3 rfl) (by decide +kernel) ?_
  refine T_istore_n (lv2 := [(1, vi 0), (0, vr o)]) (dk dtk_X5_listChoices 4 rfl) rfl (by decide) rfl ?_
  exact T_sub [1, 0] rfl h
set_option maxRecDepth 100000 in
set_option maxHeartbeats 4000000 in
theorem kg_X5_listChoices_7 {G : kG} {q : kP} {d : Nat} {x : gd} {P : Option gv → gd → Prop} (hq : kV q) {o : Nat} (ho : kiM q o) (l1 : Int32)
    (h : (((x.1 60 10) ≤ l1 → P none x) ∧ (¬ ((x.1 60 10) ≤ l1) → KT G q d zk_X5_canAct 0 [(0, vr o), (1, vi l1)] [] x (ri (fun r3 x2 => ((r3 = (0 : Int32) → KT G q (d + 1) zk_X5_listChoices 33 [(0, vr o), (1, vi l1), (2, vi 0)] [] x2 P) ∧ (¬ (r3 = (0 : Int32)) → KT G q d zk_X5_listAct 0 [(0, vr o), (1, vi l1)] [] x2 (rv (fun x5 => KT G q (d + 1) zk_X5_listChoices 33 [(0, vr o), (1, vi l1), (2, vi 0)] [] x5 P))))))))) :
    KT G q (d + 1) zk_X5_listChoices 7 [(0, vr o), (1, vi l1)] [] x P := by
  refine T_iload_n 1 (dk dtk_X5_listChoices 5 rfl) rfl rfl ?_
  refine T_aload_n 0 (dk dtk_X5_listChoices 6 rfl) rfl rfl ?_
  refine T_getR o 0 60 (dk dtk_X5_listChoices 7 rfl) kfl_X5_11 (kk_M0 ho) (kl_M0 hq ho) (by decide) rfl (kr_M_0 ho) ?_
  refine T_getI 60 10 (dk dtk_X5_listChoices 8 rfl) kfl_X5_67 kk_60 (kl_60 hq) (by decide) rfl ?_
  refine T_icmp_ge 72 (dk dtk_X5_listChoices 9 rfl) (by decide) (fun c1 => ?_) (fun c1 => ?_)
  · have h := h.1 c1
    exact KT_vret (dk dtk_X5_listChoices 39 rfl) rfl h
  · have h := h.2 c1
    refine T_aload_n 0 (dk dtk_X5_listChoices 10 rfl) rfl rfl ?_
    refine T_iload_n 1 (dk dtk_X5_listChoices 11 rfl) rfl rfl ?_
    refine KC_Vi [vi l1] [] rfl (dk dtk_X5_listChoices 12 rfl) kcv_X5_169 rfl (kk_M0 ho) rfl (kl_M0 hq ho) (Nat.le_of_ble_eq_true rfl) (Nat.le_of_ble_eq_true rfl) (gok_i (av_c (gkr (kl_M0 hq ho)) (av_c rfl av_n)) as_n) rfl h (fun r3 x2 h => ?_)
    refine T_if_eq 31 (dk dtk_X5_listChoices 13 rfl) (by decide) (fun c4 => ?_) (fun c4 => ?_)
    · have h := h.1 c4
      refine T_iconst (v := 0) (dk dtk_X5_listChoices 17 rfl) (by decide +kernel) ?_
      refine T_istore_n (lv2 := [(2, vi 0), (0, vr o), (1, vi l1)]) (dk dtk_X5_listChoices 18 rfl) rfl (by decide) rfl ?_
      exact T_sub [1, 2, 0] rfl h
    · have h := h.2 c4
      refine T_aload_n 0 (dk dtk_X5_listChoices 14 rfl) rfl rfl ?_
      refine T_iload_n 1 (dk dtk_X5_listChoices 15 rfl) rfl rfl ?_
      refine KC_Vv [vi l1] [] rfl (dk dtk_X5_listChoices 16 rfl) kcv_X5_172 rfl (kk_M0 ho) rfl (kl_M0 hq ho) (Nat.le_of_ble_eq_true rfl) (Nat.le_of_ble_eq_true rfl) (gok_i (av_c (gkr (kl_M0 hq ho)) (av_c rfl av_n)) as_n) rfl h (fun x5 h => ?_)
      refine T_iconst (v := 0) (dk dtk_X5_listChoices 17 rfl) (by decide +kernel) ?_
      refine T_istore_n (lv2 := [(2, vi 0), (0, vr o), (1, vi l1)]) (dk dtk_X5_listChoices 18 rfl) rfl (by decide) rfl ?_
      exact T_sub [1, 2, 0] rfl h
set_option maxRecDepth 100000 in
set_option maxHeartbeats 4000000 in
theorem kg_X5_listChoices_33 {G : kG} {q : kP} {d : Nat} {x : gd} {P : Option gv → gd → Prop} (hq : kV q) {o : Nat} (ho : kiM q o) (l1 : Int32) (l2 : Int32)
    (h : KT G q d zk_X5_get 0 [(0, vr o), (1, vi l1), (2, vi 7)] [] x (ri (fun r2 x1 => ((r2 ≤ l2 → KT G q (d + 1) zk_X5_listChoices 7 [(0, vr o), (1, vi (l1 + 1))] [] x1 P) ∧ (¬ (r2 ≤ l2) → KT G q d zk_X5_isFirstOfCell 0 [(0, vr o), (1, vi l1), (2, vi l2)] [] x1 (ri (fun r5 x4 => ((r5 = (0 : Int32) → KT G q (d + 1) zk_X5_listChoices 33 [(0, vr o), (1, vi l1), (2, vi (l2 + 1))] [] x4 P) ∧ (¬ (r5 = (0 : Int32)) → KT G q d zk_X5_list 0 [(0, vr o), (1, vi l1), (2, vi l2), (3, vi (-1))] [] x4 (rv (fun x7 => KT G q (d + 1) zk_X5_listChoices 33 [(0, vr o), (1, vi l1), (2, vi (l2 + 1))] [] x7 P))))))))))) :
    KT G q (d + 1) zk_X5_listChoices 33 [(0, vr o), (1, vi l1), (2, vi l2)] [] x P := by
  refine T_iload_n 2 (dk dtk_X5_listChoices 19 rfl) rfl rfl ?_
  refine T_aload_n 0 (dk dtk_X5_listChoices 20 rfl) rfl rfl ?_
  refine T_iload_n 1 (dk dtk_X5_listChoices 21 rfl) rfl rfl ?_
  refine T_bipush (v := 7) (dk dtk_X5_listChoices 22 rfl) (by decide +kernel) ?_
  refine KC_Vi [vi l1, vi 7] [vi l2] rfl (dk dtk_X5_listChoices 23 rfl) kcv_X5_90 rfl (kk_M0 ho) rfl (kl_M0 hq ho) (Nat.le_of_ble_eq_true rfl) (Nat.le_of_ble_eq_true rfl) (gok_i (av_c (gkr (kl_M0 hq ho)) (av_c rfl (av_c rfl av_n))) (as_c rfl as_n)) rfl h (fun r2 x1 h => ?_)
  refine T_icmp_ge 66 (dk dtk_X5_listChoices 24 rfl) (by decide) (fun c3 => ?_) (fun c3 => ?_)
  · have h := h.1 c3
    refine T_iinc (v := l1 + 1) (lv2 := [(1, vi (l1 + 1)), (0, vr o), (2, vi l2)]) 1 (dk dtk_X5_listChoices 37 rfl) rfl rfl (by decide) rfl ?_
    refine T_goto 7 (dk dtk_X5_listChoices 38 rfl) (by decide) ?_
    exact T_sub [1, 0] rfl h
  · have h := h.2 c3
    refine T_aload_n 0 (dk dtk_X5_listChoices 25 rfl) rfl rfl ?_
    refine T_iload_n 1 (dk dtk_X5_listChoices 26 rfl) rfl rfl ?_
    refine T_iload_n 2 (dk dtk_X5_listChoices 27 rfl) rfl rfl ?_
    refine KC_Vi [vi l1, vi l2] [] rfl (dk dtk_X5_listChoices 28 rfl) kcv_X5_175 rfl (kk_M0 ho) rfl (kl_M0 hq ho) (Nat.le_of_ble_eq_true rfl) (Nat.le_of_ble_eq_true rfl) (gok_i (av_c (gkr (kl_M0 hq ho)) (av_c rfl (av_c rfl av_n))) as_n) rfl h (fun r5 x4 h => ?_)
    refine T_if_eq 60 (dk dtk_X5_listChoices 29 rfl) (by decide) (fun c6 => ?_) (fun c6 => ?_)
    · have h := h.1 c6
      refine T_iinc (v := l2 + 1) (lv2 := [(2, vi (l2 + 1)), (0, vr o), (1, vi l1)]) 2 (dk dtk_X5_listChoices 35 rfl) rfl rfl (by decide) rfl ?_
      refine T_goto 33 (dk dtk_X5_listChoices 36 rfl) (by decide) ?_
      exact T_sub [1, 2, 0] rfl h
    · have h := h.2 c6
      refine T_aload_n 0 (dk dtk_X5_listChoices 30 rfl) rfl rfl ?_
      refine T_iload_n 1 (dk dtk_X5_listChoices 31 rfl) rfl rfl ?_
      refine T_iload_n 2 (dk dtk_X5_listChoices 32 rfl) rfl rfl ?_
      refine T_iconst (v := (-1)) (dk dtk_X5_listChoices 33 rfl) (by decide +kernel) ?_
      refine KC_Vv [vi l1, vi l2, vi (-1)] [] rfl (dk dtk_X5_listChoices 34 rfl) kcv_X5_179 rfl (kk_M0 ho) rfl (kl_M0 hq ho) (Nat.le_of_ble_eq_true rfl) (Nat.le_of_ble_eq_true rfl) (gok_i (av_c (gkr (kl_M0 hq ho)) (av_c rfl (av_c rfl av_n))) as_n) rfl h (fun x7 h => ?_)
      refine T_iinc (v := l2 + 1) (lv2 := [(2, vi (l2 + 1)), (0, vr o), (1, vi l1)]) 2 (dk dtk_X5_listChoices 35 rfl) rfl rfl (by decide) rfl ?_
      refine T_goto 33 (dk dtk_X5_listChoices 36 rfl) (by decide) ?_
      exact T_sub [1, 2, 0] rfl h
set_option maxRecDepth 100000 in
theorem dtk_X5_list : dck cX5_list [(0, .aload_n 0, 1), (1, .getfield 98, 3), (4, .bipush 84, 2), (6, .if_icmp .ge 43, 3), (9, .aload_n 0, 1), (10, .getfield 33, 3), (13, .aload_n 0, 1), (14, .getfield 98, 3), (17, .iload_n 1, 1), (18, .iastore, 1), (19, .aload_n 0, 1), (20, .getfield 36, 3), (23, .aload_n 0, 1), (24, .getfield 98, 3), (27, .iload_n 2, 1), (28, .iastore, 1), (29, .aload_n 0, 1), (30, .getfield 39, 3), (33, .aload_n 0, 1), (34, .getfield 98, 3), (37, .iload_n 3, 1), (38, .iastore, 1), (39, .aload_n 0, 1), (40, .dup, 1), (41, .getfield 98, 3), (44, .iconst 1, 1), (45, .iadd, 1), (46, .putfield 98, 3), (49, .return_, 1)] = true := by decide +kernel
set_option maxRecDepth 100000 in
set_option maxHeartbeats 4000000 in
theorem kg_X5_list_0 {G : kG} {q : kP} {d : Nat} {x : gd} {P : Option gv → gd → Prop} (hq : kV q) {o : Nat} (ho : kiM q o) (l1 : Int32) (l2 : Int32) (l3 : Int32)
    (h : (((84 : Int32) ≤ (x.1 o 13) → P none x) ∧ (¬ ((84 : Int32) ≤ (x.1 o 13)) → vp_in (x.1 o 13) 84 ∧ (∀ x3 : gd, x3 = si x (o + 11) (x.1 o 13 : Int32).toNatClampNeg l1 → vp_in (x3.1 o 13) 84 ∧ (∀ x5 : gd, x5 = si x3 (o + 12) (x3.1 o 13 : Int32).toNatClampNeg l2 → vp_in (x5.1 o 13) 84 ∧ (∀ x7 : gd, x7 = si x5 (o + 13) (x5.1 o 13 : Int32).toNatClampNeg l3 → (∀ x8 : gd, x8 = si x7 o 13 ((x7.1 o 13) + 1) → P none x8))))))) :
    KT G q d zk_X5_list 0 [(0, vr o), (1, vi l1), (2, vi l2), (3, vi l3)] [] x P := by
  refine T_aload_n 0 (dk dtk_X5_list 0 rfl) rfl rfl ?_
  refine T_getI o 13 (dk dtk_X5_list 1 rfl) kfl_X5_98 (kk_M0 ho) (kl_M0 hq ho) (by decide) rfl ?_
  refine T_bipush (v := 84) (dk dtk_X5_list 2 rfl) (by decide +kernel) ?_
  refine T_icmp_ge 49 (dk dtk_X5_list 3 rfl) (by decide) (fun c1 => ?_) (fun c1 => ?_)
  · have h := h.1 c1
    exact KT_vret (dk dtk_X5_list 28 rfl) rfl h
  · have h := h.2 c1
    refine T_aload_n 0 (dk dtk_X5_list 4 rfl) rfl rfl ?_
    refine T_getR o 10 (o + 11) (dk dtk_X5_list 5 rfl) kfl_X5_33 (kk_M0 ho) (kl_M0 hq ho) (by decide) rfl (kr_M_10 ho) ?_
    refine T_aload_n 0 (dk dtk_X5_list 6 rfl) rfl rfl ?_
    refine T_getI o 13 (dk dtk_X5_list 7 rfl) kfl_X5_98 (kk_M0 ho) (kl_M0 hq ho) (by decide) rfl ?_
    refine T_iload_n 1 (dk dtk_X5_list 8 rfl) rfl rfl ?_
    obtain ⟨h2, h⟩ := h
    obtain ⟨x3, ex3⟩ : ∃ z, z = si x (o + 11) (x.1 o 13 : Int32).toNatClampNeg l1 := ⟨_, rfl⟩
    have h := h x3 ex3
    refine T_iast (o + 11) 84 (dk dtk_X5_list 9 rfl) (kk_M11 ho) (kl_M11 hq ho) h2 ?_
    rw [← ex3]
    refine T_aload_n 0 (dk dtk_X5_list 10 rfl) rfl rfl ?_
    refine T_getR o 11 (o + 12) (dk dtk_X5_list 11 rfl) kfl_X5_36 (kk_M0 ho) (kl_M0 hq ho) (by decide) rfl (kr_M_11 ho) ?_
    refine T_aload_n 0 (dk dtk_X5_list 12 rfl) rfl rfl ?_
    refine T_getI o 13 (dk dtk_X5_list 13 rfl) kfl_X5_98 (kk_M0 ho) (kl_M0 hq ho) (by decide) rfl ?_
    refine T_iload_n 2 (dk dtk_X5_list 14 rfl) rfl rfl ?_
    obtain ⟨h4, h⟩ := h
    obtain ⟨x5, ex5⟩ : ∃ z, z = si x3 (o + 12) (x3.1 o 13 : Int32).toNatClampNeg l2 := ⟨_, rfl⟩
    have h := h x5 ex5
    refine T_iast (o + 12) 84 (dk dtk_X5_list 15 rfl) (kk_M12 ho) (kl_M12 hq ho) h4 ?_
    rw [← ex5]
    refine T_aload_n 0 (dk dtk_X5_list 16 rfl) rfl rfl ?_
    refine T_getR o 12 (o + 13) (dk dtk_X5_list 17 rfl) kfl_X5_39 (kk_M0 ho) (kl_M0 hq ho) (by decide) rfl (kr_M_12 ho) ?_
    refine T_aload_n 0 (dk dtk_X5_list 18 rfl) rfl rfl ?_
    refine T_getI o 13 (dk dtk_X5_list 19 rfl) kfl_X5_98 (kk_M0 ho) (kl_M0 hq ho) (by decide) rfl ?_
    refine T_iload_n 3 (dk dtk_X5_list 20 rfl) rfl rfl ?_
    obtain ⟨h6, h⟩ := h
    obtain ⟨x7, ex7⟩ : ∃ z, z = si x5 (o + 13) (x5.1 o 13 : Int32).toNatClampNeg l3 := ⟨_, rfl⟩
    have h := h x7 ex7
    refine T_iast (o + 13) 84 (dk dtk_X5_list 21 rfl) (kk_M13 ho) (kl_M13 hq ho) h6 ?_
    rw [← ex7]
    refine T_aload_n 0 (dk dtk_X5_list 22 rfl) rfl rfl ?_
    refine T_dup (dk dtk_X5_list 23 rfl) rfl ?_
    refine T_getI o 13 (dk dtk_X5_list 24 rfl) kfl_X5_98 (kk_M0 ho) (kl_M0 hq ho) (by decide) rfl ?_
    refine T_iconst (v := 1) (dk dtk_X5_list 25 rfl) (by decide +kernel) ?_
    refine T_iadd (dk dtk_X5_list 26 rfl) ?_
    obtain ⟨x8, ex8⟩ : ∃ z, z = si x7 o 13 ((x7.1 o 13) + 1) := ⟨_, rfl⟩
    have h := h x8 ex8
    refine T_putI o 13 (dk dtk_X5_list 27 rfl) kfl_X5_98 (kk_M0 ho) (kl_M0 hq ho) (by decide) rfl ⟨rfl, rfl⟩ ?_
    rw [← ex8]
    exact KT_vret (dk dtk_X5_list 28 rfl) rfl h
set_option maxRecDepth 100000 in
theorem dtk_X5_listAct : dck cX5_listAct [(0, .aload_n 0, 1), (1, .iload_n 1, 1), (2, .iconst 2, 1), (3, .invokevirtual 90, 3), (6, .istore_n 2, 1), (7, .aload_n 0, 1), (8, .getfield 21, 3), (11, .getfield 136, 3), (14, .iload_n 2, 1), (15, .iaload, 1), (16, .istore_n 3, 1), (17, .aload_n 0, 1), (18, .iload_n 1, 1), (19, .invokevirtual 130, 3), (22, .bipush 8, 2), (24, .if_icmp .ne 33, 3), (27, .aload_n 0, 1), (28, .getfield 21, 3), (31, .getfield 182, 3), (34, .iload_n 2, 1), (35, .iaload, 1), (36, .iconst 1, 1), (37, .if_icmp .eq 20, 3), (40, .aload_n 0, 1), (41, .iload_n 3, 1), (42, .invokevirtual 113, 3), (45, .iload_n 1, 1), (46, .if_icmp .ne 11, 3), (49, .aload_n 0, 1), (50, .iload_n 3, 1), (51, .invokevirtual 185, 3), (54, .ifCond .ne 11, 3), (57, .aload_n 0, 1), (58, .iload_n 1, 1), (59, .iconst (-1), 1), (60, .iconst (-1), 1), (61, .invokevirtual 179, 3), (64, .return_, 1), (65, .aload_n 0, 1), (66, .iload_n 3, 1), (67, .invokevirtual 185, 3), (70, .istore 4, 2), (72, .iconst 0, 1), (73, .istore 5, 2), (75, .iload 5, 2), (77, .aload_n 0, 1), (78, .getfield 11, 3), (81, .getfield 67, 3), (84, .if_icmp .ge 28, 3), (87, .iload 4, 2), (89, .iload 5, 2), (91, .ishr, 1), (92, .iconst 1, 1), (93, .iand, 1), (94, .iconst 1, 1), (95, .if_icmp .ne 11, 3), (98, .aload_n 0, 1), (99, .iload_n 1, 1), (100, .iconst (-1), 1), (101, .iload 5, 2), (103, .invokevirtual 179, 3), (106, .iinc 5 1, 3), (109, .goto (-34), 3), (112, .return_, 1)] = true := by decide +kernel
set_option maxRecDepth 100000 in
set_option maxHeartbeats 4000000 in
theorem kg_X5_listAct_0 {G : kG} {q : kP} {d : Nat} {x : gd} {P : Option gv → gd → Prop} (hq : kV q) {o : Nat} (ho : kiM q o) (l1 : Int32)
    (h : KT G q d zk_X5_get 0 [(0, vr o), (1, vi l1), (2, vi 2)] [] x (ri (fun r2 x1 => vp_in r2 400 ∧ KT G q d zk_X5_sortOf 0 [(0, vr o), (1, vi l1)] [] x1 (ri (fun r5 x4 => ((¬ (r5 = (8 : Int32)) → KT G q (d + 1) zk_X5_listAct 57 [(0, vr o), (1, vi l1)] [] x4 P) ∧ (r5 = (8 : Int32) → vp_in r2 400 ∧ (((x4.1 84 (r2 : Int32).toNatClampNeg) = (1 : Int32) → KT G q (d + 1) zk_X5_listAct 57 [(0, vr o), (1, vi l1)] [] x4 P) ∧ (¬ ((x4.1 84 (r2 : Int32).toNatClampNeg) = (1 : Int32)) → KT G q d zk_X5_holder 0 [(0, vr o), (1, vi (x1.1 85 (r2 : Int32).toNatClampNeg))] [] x4 (ri (fun r10 x9 => ((¬ (r10 = l1) → KT G q (d + 1) zk_X5_listAct 57 [(0, vr o), (1, vi l1)] [] x9 P) ∧ (r10 = l1 → KT G q d zk_X5_waiters 0 [(0, vr o), (1, vi (x1.1 85 (r2 : Int32).toNatClampNeg))] [] x9 (ri (fun r13 x12 => ((¬ (r13 = (0 : Int32)) → KT G q d zk_X5_waiters 0 [(0, vr o), (1, vi (x1.1 85 (r2 : Int32).toNatClampNeg))] [] x12 (ri (fun r16 x15 => KT G q (d + 1) zk_X5_listAct 75 [(0, vr o), (1, vi l1), (4, vi r16), (5, vi 0)] [] x15 P))) ∧ (r13 = (0 : Int32) → KT G q (d + 1) zk_X5_listAct 57 [(0, vr o), (1, vi l1)] [] x12 P))))))))))))))))) :
    KT G q (d + 1) zk_X5_listAct 0 [(0, vr o), (1, vi l1)] [] x P := by
  refine T_aload_n 0 (dk dtk_X5_listAct 0 rfl) rfl rfl ?_
  refine T_iload_n 1 (dk dtk_X5_listAct 1 rfl) rfl rfl ?_
  refine T_iconst (v := 2) (dk dtk_X5_listAct 2 rfl) (by decide +kernel) ?_
  refine KC_Vi [vi l1, vi 2] [] rfl (dk dtk_X5_listAct 3 rfl) kcv_X5_90 rfl (kk_M0 ho) rfl (kl_M0 hq ho) (Nat.le_of_ble_eq_true rfl) (Nat.le_of_ble_eq_true rfl) (gok_i (av_c (gkr (kl_M0 hq ho)) (av_c rfl av_n)) as_n) rfl h (fun r2 x1 h => ?_)
  refine T_istore_n (lv2 := [(2, vi r2), (0, vr o), (1, vi l1)]) (dk dtk_X5_listAct 4 rfl) rfl (by decide) rfl ?_
  refine T_aload_n 1 (dk dtk_X5_listAct 5 rfl) rfl rfl ?_
  refine T_getR o 1 80 (dk dtk_X5_listAct 6 rfl) kfl_X5_21 (kk_M0 ho) (kl_M0 hq ho) (by decide) rfl (kr_M_1 ho) ?_
  refine T_getR 80 4 85 (dk dtk_X5_listAct 7 rfl) kfl_X5_136 kk_80 (kl_80 hq) (by decide) rfl kr_80_4 ?_
  refine T_iload_n 0 (dk dtk_X5_listAct 8 rfl) rfl rfl ?_
  obtain ⟨h3, h⟩ := h
  refine T_iald 85 400 (dk dtk_X5_listAct 9 rfl) kk_85 (kl_85 hq) h3 ?_
  refine T_istore_n (lv2 := [(3, vi (x1.1 85 (r2 : Int32).toNatClampNeg)), (2, vi r2), (0, vr o), (1, vi l1)]) (dk dtk_X5_listAct 10 rfl) rfl (by decide) rfl ?_
  refine T_aload_n 2 (dk dtk_X5_listAct 11 rfl) rfl rfl ?_
  refine T_iload_n 3 (dk dtk_X5_listAct 12 rfl) rfl rfl ?_
  refine KC_Vi [vi l1] [] rfl (dk dtk_X5_listAct 13 rfl) kcv_X5_130 rfl (kk_M0 ho) rfl (kl_M0 hq ho) (Nat.le_of_ble_eq_true rfl) (Nat.le_of_ble_eq_true rfl) (gok_i (av_c rfl (av_c rfl (av_c (gkr (kl_M0 hq ho)) (av_c rfl av_n)))) as_n) rfl h (fun r5 x4 h => ?_)
  refine T_bipush (v := 8) (dk dtk_X5_listAct 14 rfl) (by decide +kernel) ?_
  refine T_icmp_ne 57 (dk dtk_X5_listAct 15 rfl) (by decide) (fun c6 => ?_) (fun c6 => ?_)
  · have h := h.1 c6
    exact T_sub [2, 3] rfl h
  · have h := h.2 c6
    refine T_aload_n 2 (dk dtk_X5_listAct 16 rfl) rfl rfl ?_
    refine T_getR o 1 80 (dk dtk_X5_listAct 17 rfl) kfl_X5_21 (kk_M0 ho) (kl_M0 hq ho) (by decide) rfl (kr_M_1 ho) ?_
    refine T_getR 80 3 84 (dk dtk_X5_listAct 18 rfl) kfl_X5_182 kk_80 (kl_80 hq) (by decide) rfl kr_80_3 ?_
    refine T_iload_n 1 (dk dtk_X5_listAct 19 rfl) rfl rfl ?_
    obtain ⟨h7, h⟩ := h
    refine T_iald 84 400 (dk dtk_X5_listAct 20 rfl) kk_84 (kl_84 hq) h7 ?_
    refine T_iconst (v := 1) (dk dtk_X5_listAct 21 rfl) (by decide +kernel) ?_
    refine T_icmp_eq 57 (dk dtk_X5_listAct 22 rfl) (by decide) (fun c8 => ?_) (fun c8 => ?_)
    · have h := h.1 c8
      exact T_sub [2, 3] rfl h
    · have h := h.2 c8
      refine T_aload_n 2 (dk dtk_X5_listAct 23 rfl) rfl rfl ?_
      refine T_iload_n 0 (dk dtk_X5_listAct 24 rfl) rfl rfl ?_
      refine T_sub (lv2 := [(3, vi (x1.1 85 (r2 : Int32).toNatClampNeg)), (0, vr o), (1, vi l1)]) [0, 2, 3] rfl ?_
      refine KC_Vi [vi (x1.1 85 (r2 : Int32).toNatClampNeg)] [] rfl (dk dtk_X5_listAct 25 rfl) kcv_X5_113 rfl (kk_M0 ho) rfl (kl_M0 hq ho) (Nat.le_of_ble_eq_true rfl) (Nat.le_of_ble_eq_true rfl) (gok_i (av_c rfl (av_c (gkr (kl_M0 hq ho)) (av_c rfl av_n))) as_n) rfl h (fun r10 x9 h => ?_)
      refine T_iload_n 2 (dk dtk_X5_listAct 26 rfl) rfl rfl ?_
      refine T_icmp_ne 57 (dk dtk_X5_listAct 27 rfl) (by decide) (fun c11 => ?_) (fun c11 => ?_)
      · have h := h.1 c11
        exact T_sub [1, 2] rfl h
      · have h := h.2 c11
        refine T_aload_n 1 (dk dtk_X5_listAct 28 rfl) rfl rfl ?_
        refine T_iload_n 0 (dk dtk_X5_listAct 29 rfl) rfl rfl ?_
        refine KC_Vi [vi (x1.1 85 (r2 : Int32).toNatClampNeg)] [] rfl (dk dtk_X5_listAct 30 rfl) kcv_X5_185 rfl (kk_M0 ho) rfl (kl_M0 hq ho) (Nat.le_of_ble_eq_true rfl) (Nat.le_of_ble_eq_true rfl) (gok_i (av_c rfl (av_c (gkr (kl_M0 hq ho)) (av_c rfl av_n))) as_n) rfl h (fun r13 x12 h => ?_)
        refine T_if_ne 65 (dk dtk_X5_listAct 31 rfl) (by decide) (fun c14 => ?_) (fun c14 => ?_)
        · have h := h.1 c14
          refine T_aload_n 1 (dk dtk_X5_listAct 38 rfl) rfl rfl ?_
          refine T_iload_n 0 (dk dtk_X5_listAct 39 rfl) rfl rfl ?_
          refine T_sub (lv2 := [(0, vr o), (1, vi l1)]) [1, 2] rfl ?_
          refine KC_Vi [vi (x1.1 85 (r2 : Int32).toNatClampNeg)] [] rfl (dk dtk_X5_listAct 40 rfl) kcv_X5_185 rfl (kk_M0 ho) rfl (kl_M0 hq ho) (Nat.le_of_ble_eq_true rfl) (Nat.le_of_ble_eq_true rfl) (gok_i (av_c (gkr (kl_M0 hq ho)) (av_c rfl av_n)) as_n) rfl h (fun r16 x15 h => ?_)
          refine T_istore (lv2 := [(4, vi r16), (0, vr o), (1, vi l1)]) (dk dtk_X5_listAct 41 rfl) (by decide) rfl ?_
          refine T_iconst (v := 0) (dk dtk_X5_listAct 42 rfl) (by decide +kernel) ?_
          refine T_istore (lv2 := [(5, vi 0), (4, vi r16), (0, vr o), (1, vi l1)]) (dk dtk_X5_listAct 43 rfl) (by decide) rfl ?_
          exact T_sub [2, 3, 1, 0] rfl h
        · have h := h.2 c14
          exact T_sub [1, 2] rfl h
set_option maxRecDepth 100000 in
set_option maxHeartbeats 4000000 in
theorem kg_X5_listAct_57 {G : kG} {q : kP} {d : Nat} {x : gd} {P : Option gv → gd → Prop} (hq : kV q) {o : Nat} (ho : kiM q o) (l1 : Int32)
    (h : KT G q d zk_X5_list 0 [(0, vr o), (1, vi l1), (2, vi (-1)), (3, vi (-1))] [] x (rv (fun x1 => P none x1))) :
    KT G q (d + 1) zk_X5_listAct 57 [(0, vr o), (1, vi l1)] [] x P := by
  refine T_aload_n 0 (dk dtk_X5_listAct 32 rfl) rfl rfl ?_
  refine T_iload_n 1 (dk dtk_X5_listAct 33 rfl) rfl rfl ?_
  refine T_iconst (v := (-1)) (dk dtk_X5_listAct 34 rfl) (by decide +kernel) ?_
  refine T_iconst (v := (-1)) (dk dtk_X5_listAct 35 rfl) (by decide +kernel) ?_
  refine T_sub (lv2 := []) [] rfl ?_
  refine KC_Vv [vi l1, vi (-1), vi (-1)] [] rfl (dk dtk_X5_listAct 36 rfl) kcv_X5_179 rfl (kk_M0 ho) rfl (kl_M0 hq ho) (Nat.le_of_ble_eq_true rfl) (Nat.le_of_ble_eq_true rfl) (gok_i av_n as_n) rfl h (fun x1 h => ?_)
  exact KT_vret (dk dtk_X5_listAct 37 rfl) rfl h
set_option maxRecDepth 100000 in
set_option maxHeartbeats 4000000 in
theorem kg_X5_listAct_75 {G : kG} {q : kP} {d : Nat} {x : gd} {P : Option gv → gd → Prop} (hq : kV q) {o : Nat} (ho : kiM q o) (l1 : Int32) (l4 : Int32) (l5 : Int32)
    (h : (((x.1 60 10) ≤ l5 → P none x) ∧ (¬ ((x.1 60 10) ≤ l5) → ((¬ (((l4 >>> (l5 &&& 31 : Int32)) &&& 1) = (1 : Int32)) → KT G q (d + 1) zk_X5_listAct 75 [(0, vr o), (1, vi l1), (4, vi l4), (5, vi (l5 + 1))] [] x P) ∧ (((l4 >>> (l5 &&& 31 : Int32)) &&& 1) = (1 : Int32) → KT G q d zk_X5_list 0 [(0, vr o), (1, vi l1), (2, vi (-1)), (3, vi l5)] [] x (rv (fun x3 => KT G q (d + 1) zk_X5_listAct 75 [(0, vr o), (1, vi l1), (4, vi l4), (5, vi (l5 + 1))] [] x3 P))))))) :
    KT G q (d + 1) zk_X5_listAct 75 [(0, vr o), (1, vi l1), (4, vi l4), (5, vi l5)] [] x P := by
  refine T_iload 3 (dk dtk_X5_listAct 44 rfl) rfl ?_
  refine T_aload_n 0 (dk dtk_X5_listAct 45 rfl) rfl rfl ?_
  refine T_getR o 0 60 (dk dtk_X5_listAct 46 rfl) kfl_X5_11 (kk_M0 ho) (kl_M0 hq ho) (by decide) rfl (kr_M_0 ho) ?_
  refine T_getI 60 10 (dk dtk_X5_listAct 47 rfl) kfl_X5_67 kk_60 (kl_60 hq) (by decide) rfl ?_
  refine T_icmp_ge 112 (dk dtk_X5_listAct 48 rfl) (by decide) (fun c1 => ?_) (fun c1 => ?_)
  · have h := h.1 c1
    exact KT_vret (dk dtk_X5_listAct 63 rfl) rfl h
  · have h := h.2 c1
    refine T_iload 2 (dk dtk_X5_listAct 49 rfl) rfl ?_
    refine T_iload 3 (dk dtk_X5_listAct 50 rfl) rfl ?_
    refine T_ishr (dk dtk_X5_listAct 51 rfl) ?_
    refine T_iconst (v := 1) (dk dtk_X5_listAct 52 rfl) (by decide +kernel) ?_
    refine T_iand (dk dtk_X5_listAct 53 rfl) ?_
    refine T_iconst (v := 1) (dk dtk_X5_listAct 54 rfl) (by decide +kernel) ?_
    refine T_icmp_ne 106 (dk dtk_X5_listAct 55 rfl) (by decide) (fun c2 => ?_) (fun c2 => ?_)
    · have h := h.1 c2
      refine T_iinc (v := l5 + 1) (lv2 := [(5, vi (l5 + 1)), (0, vr o), (1, vi l1), (4, vi l4)]) 3 (dk dtk_X5_listAct 61 rfl) rfl rfl (by decide) rfl ?_
      refine T_goto 75 (dk dtk_X5_listAct 62 rfl) (by decide) ?_
      exact T_sub [1, 2, 3, 0] rfl h
    · have h := h.2 c2
      refine T_aload_n 0 (dk dtk_X5_listAct 56 rfl) rfl rfl ?_
      refine T_iload_n 1 (dk dtk_X5_listAct 57 rfl) rfl rfl ?_
      refine T_iconst (v := (-1)) (dk dtk_X5_listAct 58 rfl) (by decide +kernel) ?_
      refine T_iload 3 (dk dtk_X5_listAct 59 rfl) rfl ?_
      refine KC_Vv [vi l1, vi (-1), vi l5] [] rfl (dk dtk_X5_listAct 60 rfl) kcv_X5_179 rfl (kk_M0 ho) rfl (kl_M0 hq ho) (Nat.le_of_ble_eq_true rfl) (Nat.le_of_ble_eq_true rfl) (gok_i (av_c (gkr (kl_M0 hq ho)) (av_c rfl (av_c rfl (av_c rfl av_n)))) as_n) rfl h (fun x3 h => ?_)
      refine T_iinc (v := l5 + 1) (lv2 := [(5, vi (l5 + 1)), (0, vr o), (1, vi l1), (4, vi l4)]) 3 (dk dtk_X5_listAct 61 rfl) rfl rfl (by decide) rfl ?_
      refine T_goto 75 (dk dtk_X5_listAct 62 rfl) (by decide) ?_
      exact T_sub [1, 2, 3, 0] rfl h
set_option maxRecDepth 100000 in
theorem dtk_X5_isFirstOfCell : dck cX5_isFirstOfCell [(0, .iconst 0, 1), (1, .istore_n 3, 1), (2, .iload_n 3, 1), (3, .iload_n 2, 1), (4, .if_icmp .ge 26, 3), (7, .aload_n 0, 1), (8, .iload_n 1, 1), (9, .iload_n 3, 1), (10, .invokevirtual 121, 3), (13, .aload_n 0, 1), (14, .iload_n 1, 1), (15, .iload_n 2, 1), (16, .invokevirtual 121, 3), (19, .if_icmp .ne 5, 3), (22, .iconst 0, 1), (23, .ireturn, 1), (24, .iinc 3 1, 3), (27, .goto (-25), 3), (30, .iconst 1, 1), (31, .ireturn, 1)] = true := by decide +kernel
set_option maxRecDepth 100000 in
set_option maxHeartbeats 4000000 in
theorem kg_X5_isFirstOfCell_0 {G : kG} {q : kP} {d : Nat} {x : gd} {P : Option gv → gd → Prop} (hq : kV q) {o : Nat} (ho : kiM q o) (l1 : Int32) (l2 : Int32)
    (h : KT G q (d + 1) zk_X5_isFirstOfCell 2 [(0, vr o), (1, vi l1), (2, vi l2), (3, vi 0)] [] x P) :
    KT G q (d + 1) zk_X5_isFirstOfCell 0 [(0, vr o), (1, vi l1), (2, vi l2)] [] x P := by
  refine T_iconst (v := 0) (dk dtk_X5_isFirstOfCell 0 rfl) (by decide +kernel) ?_
  refine T_istore_n (lv2 := [(3, vi 0), (0, vr o), (1, vi l1), (2, vi l2)]) (dk dtk_X5_isFirstOfCell 1 rfl) rfl (by decide) rfl ?_
  exact T_sub [1, 2, 3, 0] rfl h
set_option maxRecDepth 100000 in
set_option maxHeartbeats 4000000 in
theorem kg_X5_isFirstOfCell_2 {G : kG} {q : kP} {d : Nat} {x : gd} {P : Option gv → gd → Prop} (hq : kV q) {o : Nat} (ho : kiM q o) (l1 : Int32) (l2 : Int32) (l3 : Int32)
    (h : ((l2 ≤ l3 → P (some (vi 1)) x) ∧ (¬ (l2 ≤ l3) → KT G q d zk_X5_lateCell 0 [(0, vr o), (1, vi l1), (2, vi l3)] [] x (ri (fun r3 x2 => KT G q d zk_X5_lateCell 0 [(0, vr o), (1, vi l1), (2, vi l2)] [] x2 (ri (fun r5 x4 => ((¬ (r3 = r5) → KT G q (d + 1) zk_X5_isFirstOfCell 2 [(0, vr o), (1, vi l1), (2, vi l2), (3, vi (l3 + 1))] [] x4 P) ∧ (r3 = r5 → P (some (vi 0)) x4))))))))) :
    KT G q (d + 1) zk_X5_isFirstOfCell 2 [(0, vr o), (1, vi l1), (2, vi l2), (3, vi l3)] [] x P := by
  refine T_iload_n 3 (dk dtk_X5_isFirstOfCell 2 rfl) rfl rfl ?_
  refine T_iload_n 2 (dk dtk_X5_isFirstOfCell 3 rfl) rfl rfl ?_
  refine T_icmp_ge 30 (dk dtk_X5_isFirstOfCell 4 rfl) (by decide) (fun c1 => ?_) (fun c1 => ?_)
  · have h := h.1 c1
    refine T_iconst (v := 1) (dk dtk_X5_isFirstOfCell 18 rfl) (by decide +kernel) ?_
    exact KT_iret (dk dtk_X5_isFirstOfCell 19 rfl) rfl rfl h
  · have h := h.2 c1
    refine T_aload_n 0 (dk dtk_X5_isFirstOfCell 5 rfl) rfl rfl ?_
    refine T_iload_n 1 (dk dtk_X5_isFirstOfCell 6 rfl) rfl rfl ?_
    refine T_iload_n 3 (dk dtk_X5_isFirstOfCell 7 rfl) rfl rfl ?_
    refine KC_Vi [vi l1, vi l3] [] rfl (dk dtk_X5_isFirstOfCell 8 rfl) kcv_X5_121 rfl (kk_M0 ho) rfl (kl_M0 hq ho) (Nat.le_of_ble_eq_true rfl) (Nat.le_of_ble_eq_true rfl) (gok_i (av_c (gkr (kl_M0 hq ho)) (av_c rfl (av_c rfl (av_c rfl av_n)))) as_n) rfl h (fun r3 x2 h => ?_)
    refine T_aload_n 0 (dk dtk_X5_isFirstOfCell 9 rfl) rfl rfl ?_
    refine T_iload_n 1 (dk dtk_X5_isFirstOfCell 10 rfl) rfl rfl ?_
    refine T_iload_n 2 (dk dtk_X5_isFirstOfCell 11 rfl) rfl rfl ?_
    refine KC_Vi [vi l1, vi l2] [vi r3] rfl (dk dtk_X5_isFirstOfCell 12 rfl) kcv_X5_121 rfl (kk_M0 ho) rfl (kl_M0 hq ho) (Nat.le_of_ble_eq_true rfl) (Nat.le_of_ble_eq_true rfl) (gok_i (av_c (gkr (kl_M0 hq ho)) (av_c rfl (av_c rfl (av_c rfl av_n)))) (as_c rfl as_n)) rfl h (fun r5 x4 h => ?_)
    refine T_icmp_ne 24 (dk dtk_X5_isFirstOfCell 13 rfl) (by decide) (fun c6 => ?_) (fun c6 => ?_)
    · have h := h.1 c6
      refine T_iinc (v := l3 + 1) (lv2 := [(3, vi (l3 + 1)), (0, vr o), (1, vi l1), (2, vi l2)]) 3 (dk dtk_X5_isFirstOfCell 16 rfl) rfl rfl (by decide) rfl ?_
      refine T_goto 2 (dk dtk_X5_isFirstOfCell 17 rfl) (by decide) ?_
      exact T_sub [1, 2, 3, 0] rfl h
    · have h := h.2 c6
      refine T_iconst (v := 0) (dk dtk_X5_isFirstOfCell 14 rfl) (by decide +kernel) ?_
      exact KT_iret (dk dtk_X5_isFirstOfCell 15 rfl) rfl rfl h
set_option maxRecDepth 100000 in
theorem dtk_X5_perform : dck cX5_perform [(0, .aload_n 0, 1), (1, .getfield 33, 3), (4, .iload_n 1, 1), (5, .iaload, 1), (6, .istore_n 2, 1), (7, .aload_n 0, 1), (8, .getfield 36, 3), (11, .iload_n 1, 1), (12, .iaload, 1), (13, .iconst (-1), 1), (14, .if_icmp .eq 25, 3), (17, .aload_n 0, 1), (18, .getfield 25, 3), (21, .iconst (-1), 1), (22, .iconst (-1), 1), (23, .iconst (-1), 1), (24, .invokevirtual 188, 3), (27, .aload_n 0, 1), (28, .iload_n 2, 1), (29, .aload_n 0, 1), (30, .getfield 36, 3), (33, .iload_n 1, 1), (34, .iaload, 1), (35, .invokevirtual 191, 3), (38, .return_, 1), (39, .aload_n 0, 1), (40, .iload_n 2, 1), (41, .invokevirtual 130, 3), (44, .istore_n 3, 1), (45, .aload_n 0, 1), (46, .iload_n 2, 1), (47, .iconst 2, 1), (48, .invokevirtual 90, 3), (51, .istore 4, 2), (53, .aload_n 0, 1), (54, .getfield 25, 3), (57, .iload_n 2, 1), (58, .iload_n 3, 1), (59, .aload_n 0, 1), (60, .getfield 21, 3), (63, .getfield 136, 3), (66, .iload 4, 2), (68, .iaload, 1), (69, .invokevirtual 188, 3), (72, .aload_n 0, 1), (73, .iload_n 2, 1), (74, .iload 4, 2), (76, .iload_n 3, 1), (77, .aload_n 0, 1), (78, .getfield 39, 3), (81, .iload_n 1, 1), (82, .iaload, 1), (83, .invokevirtual 195, 3), (86, .istore 5, 2), (88, .iload 5, 2), (90, .ifCond .eq 19, 3), (93, .aload_n 0, 1), (94, .getfield 25, 3), (97, .iconst 1, 1), (98, .putfield 199, 3), (101, .aload_n 0, 1), (102, .iload_n 2, 1), (103, .iload 5, 2), (105, .invokevirtual 202, 3), (108, .return_, 1), (109, .iload_n 3, 1), (110, .bipush 9, 2), (112, .if_icmp .ne 17, 3), (115, .aload_n 0, 1), (116, .aload_n 0, 1), (117, .getfield 21, 3), (120, .getfield 136, 3), (123, .iload 4, 2), (125, .iaload, 1), (126, .invokevirtual 86, 3), (129, .iload_n 3, 1), (130, .bipush 7, 2), (132, .if_icmp .eq 18, 3), (135, .aload_n 0, 1), (136, .iload_n 2, 1), (137, .iconst 2, 1), (138, .iload 4, 2), (140, .iconst 1, 1), (141, .iadd, 1), (142, .invokevirtual 117, 3), (145, .aload_n 0, 1), (146, .iload_n 2, 1), (147, .invokevirtual 205, 3), (150, .return_, 1)] = true := by decide +kernel
set_option maxRecDepth 100000 in
set_option maxHeartbeats 4000000 in
theorem kg_X5_perform_0 {G : kG} {q : kP} {d : Nat} {x : gd} {P : Option gv → gd → Prop} (hq : kV q) {o : Nat} (ho : kiM q o) (l1 : Int32)
    (h : vp_in l1 84 ∧ vp_in l1 84 ∧ (((x.1 (o + 12) (l1 : Int32).toNatClampNeg) = (-1 : Int32) → KT G q d zk_X5_sortOf 0 [(0, vr o), (1, vi (x.1 (o + 11) (l1 : Int32).toNatClampNeg))] [] x (ri (fun r5 x4 => KT G q d zk_X5_get 0 [(0, vr o), (1, vi (x.1 (o + 11) (l1 : Int32).toNatClampNeg)), (2, vi 2)] [] x4 (ri (fun r7 x6 => vp_in r7 400 ∧ KT G q d zk_X1_clear 0 [(0, vr (o + 20)), (1, vi (x.1 (o + 11) (l1 : Int32).toNatClampNeg)), (2, vi r5), (3, vi (x6.1 85 (r7 : Int32).toNatClampNeg))] [] x6 (rv (fun x9 => vp_in l1 84 ∧ KT G q d zk_X5_actFailure 0 [(0, vr o), (1, vi (x.1 (o + 11) (l1 : Int32).toNatClampNeg)), (2, vi r7), (3, vi r5), (4, vi (x9.1 (o + 13) (l1 : Int32).toNatClampNeg))] [] x9 (ri (fun r12 x11 => ((r12 = (0 : Int32) → ((¬ (r5 = (9 : Int32)) → KT G q (d + 1) zk_X5_perform 129 [(0, vr o), (2, vi (x.1 (o + 11) (l1 : Int32).toNatClampNeg)), (3, vi r5), (4, vi r7)] [] x11 P) ∧ (r5 = (9 : Int32) → vp_in r7 400 ∧ KT G q d zk_X5_rouse 0 [(0, vr o), (1, vi (x11.1 85 (r7 : Int32).toNatClampNeg))] [] x11 (rv (fun x16 => KT G q (d + 1) zk_X5_perform 129 [(0, vr o), (2, vi (x.1 (o + 11) (l1 : Int32).toNatClampNeg)), (3, vi r5), (4, vi r7)] [] x16 P))))) ∧ (¬ (r12 = (0 : Int32)) → (∀ x17 : gd, x17 = si x11 (o + 20) 5 1 → KT G q d zk_X5_fail 0 [(0, vr o), (1, vi (x.1 (o + 11) (l1 : Int32).toNatClampNeg)), (2, vi r12)] [] x17 (rv (fun x18 => P none x18)))))))))))))) ∧ (¬ ((x.1 (o + 12) (l1 : Int32).toNatClampNeg) = (-1 : Int32)) → KT G q d zk_X1_clear 0 [(0, vr (o + 20)), (1, vi (-1)), (2, vi (-1)), (3, vi (-1))] [] x (rv (fun x19 => vp_in l1 84 ∧ KT G q d zk_X5_bringLate 0 [(0, vr o), (1, vi (x.1 (o + 11) (l1 : Int32).toNatClampNeg)), (2, vi (x19.1 (o + 12) (l1 : Int32).toNatClampNeg))] [] x19 (rv (fun x21 => P none x21))))))) :
    KT G q (d + 1) zk_X5_perform 0 [(0, vr o), (1, vi l1)] [] x P := by
  refine T_aload_n 0 (dk dtk_X5_perform 0 rfl) rfl rfl ?_
  refine T_getR o 10 (o + 11) (dk dtk_X5_perform 1 rfl) kfl_X5_33 (kk_M0 ho) (kl_M0 hq ho) (by decide) rfl (kr_M_10 ho) ?_
  refine T_iload_n 1 (dk dtk_X5_perform 2 rfl) rfl rfl ?_
  obtain ⟨h1, h⟩ := h
  refine T_iald (o + 11) 84 (dk dtk_X5_perform 3 rfl) (kk_M11 ho) (kl_M11 hq ho) h1 ?_
  refine T_istore_n (lv2 := [(2, vi (x.1 (o + 11) (l1 : Int32).toNatClampNeg)), (0, vr o), (1, vi l1)]) (dk dtk_X5_perform 4 rfl) rfl (by decide) rfl ?_
  refine T_aload_n 1 (dk dtk_X5_perform 5 rfl) rfl rfl ?_
  refine T_getR o 11 (o + 12) (dk dtk_X5_perform 6 rfl) kfl_X5_36 (kk_M0 ho) (kl_M0 hq ho) (by decide) rfl (kr_M_11 ho) ?_
  refine T_iload_n 2 (dk dtk_X5_perform 7 rfl) rfl rfl ?_
  obtain ⟨h2, h⟩ := h
  refine T_iald (o + 12) 84 (dk dtk_X5_perform 8 rfl) (kk_M12 ho) (kl_M12 hq ho) h2 ?_
  refine T_iconst (v := (-1)) (dk dtk_X5_perform 9 rfl) (by decide +kernel) ?_
  refine T_icmp_eq 39 (dk dtk_X5_perform 10 rfl) (by decide) (fun c3 => ?_) (fun c3 => ?_)
  · have h := h.1 c3
    refine T_aload_n 1 (dk dtk_X5_perform 25 rfl) rfl rfl ?_
    refine T_iload_n 0 (dk dtk_X5_perform 26 rfl) rfl rfl ?_
    refine KC_Vi [vi (x.1 (o + 11) (l1 : Int32).toNatClampNeg)] [] rfl (dk dtk_X5_perform 27 rfl) kcv_X5_130 rfl (kk_M0 ho) rfl (kl_M0 hq ho) (Nat.le_of_ble_eq_true rfl) (Nat.le_of_ble_eq_true rfl) (gok_i (av_c rfl (av_c (gkr (kl_M0 hq ho)) (av_c rfl av_n))) as_n) rfl h (fun r5 x4 h => ?_)
    refine T_istore_n (lv2 := [(3, vi r5), (2, vi (x.1 (o + 11) (l1 : Int32).toNatClampNeg)), (0, vr o), (1, vi l1)]) (dk dtk_X5_perform 28 rfl) rfl (by decide) rfl ?_
    refine T_aload_n 2 (dk dtk_X5_perform 29 rfl) rfl rfl ?_
    refine T_iload_n 1 (dk dtk_X5_perform 30 rfl) rfl rfl ?_
    refine T_iconst (v := 2) (dk dtk_X5_perform 31 rfl) (by decide +kernel) ?_
    refine KC_Vi [vi (x.1 (o + 11) (l1 : Int32).toNatClampNeg), vi 2] [] rfl (dk dtk_X5_perform 32 rfl) kcv_X5_90 rfl (kk_M0 ho) rfl (kl_M0 hq ho) (Nat.le_of_ble_eq_true rfl) (Nat.le_of_ble_eq_true rfl) (gok_i (av_c rfl (av_c rfl (av_c (gkr (kl_M0 hq ho)) (av_c rfl av_n)))) as_n) rfl h (fun r7 x6 h => ?_)
    refine T_istore (lv2 := [(4, vi r7), (3, vi r5), (2, vi (x.1 (o + 11) (l1 : Int32).toNatClampNeg)), (0, vr o), (1, vi l1)]) (dk dtk_X5_perform 33 rfl) (by decide) rfl ?_
    refine T_aload_n 3 (dk dtk_X5_perform 34 rfl) rfl rfl ?_
    refine T_getR o 2 (o + 20) (dk dtk_X5_perform 35 rfl) kfl_X5_25 (kk_M0 ho) (kl_M0 hq ho) (by decide) rfl (kr_M_2 ho) ?_
    refine T_iload_n 2 (dk dtk_X5_perform 36 rfl) rfl rfl ?_
    refine T_iload_n 1 (dk dtk_X5_perform 37 rfl) rfl rfl ?_
    refine T_aload_n 3 (dk dtk_X5_perform 38 rfl) rfl rfl ?_
    refine T_getR o 1 80 (dk dtk_X5_perform 39 rfl) kfl_X5_21 (kk_M0 ho) (kl_M0 hq ho) (by decide) rfl (kr_M_1 ho) ?_
    refine T_getR 80 4 85 (dk dtk_X5_perform 40 rfl) kfl_X5_136 kk_80 (kl_80 hq) (by decide) rfl kr_80_4 ?_
    refine T_iload 0 (dk dtk_X5_perform 41 rfl) rfl ?_
    obtain ⟨h8, h⟩ := h
    refine T_iald 85 400 (dk dtk_X5_perform 42 rfl) kk_85 (kl_85 hq) h8 ?_
    refine KC_Vv [vi (x.1 (o + 11) (l1 : Int32).toNatClampNeg), vi r5, vi (x6.1 85 (r7 : Int32).toNatClampNeg)] [] rfl (dk dtk_X5_perform 43 rfl) kcv_X5_188 rfl (kk_D0 (kiM_D ho)) rfl (kl_D0 hq (kiM_D ho)) (Nat.le_of_ble_eq_true rfl) (Nat.le_of_ble_eq_true rfl) (gok_i (av_c rfl (av_c rfl (av_c rfl (av_c (gkr (kl_M0 hq ho)) (av_c rfl av_n))))) as_n) rfl h (fun x9 h => ?_)
    refine T_aload_n 3 (dk dtk_X5_perform 44 rfl) rfl rfl ?_
    refine T_iload_n 2 (dk dtk_X5_perform 45 rfl) rfl rfl ?_
    refine T_iload 0 (dk dtk_X5_perform 46 rfl) rfl ?_
    refine T_iload_n 1 (dk dtk_X5_perform 47 rfl) rfl rfl ?_
    refine T_aload_n 3 (dk dtk_X5_perform 48 rfl) rfl rfl ?_
    refine T_getR o 12 (o + 13) (dk dtk_X5_perform 49 rfl) kfl_X5_39 (kk_M0 ho) (kl_M0 hq ho) (by decide) rfl (kr_M_12 ho) ?_
    refine T_iload_n 4 (dk dtk_X5_perform 50 rfl) rfl rfl ?_
    obtain ⟨h10, h⟩ := h
    refine T_iald (o + 13) 84 (dk dtk_X5_perform 51 rfl) (kk_M13 ho) (kl_M13 hq ho) h10 ?_
    refine T_sub (lv2 := [(4, vi r7), (3, vi r5), (2, vi (x.1 (o + 11) (l1 : Int32).toNatClampNeg)), (0, vr o)]) [0, 1, 2, 3] rfl ?_
    refine KC_Vi [vi (x.1 (o + 11) (l1 : Int32).toNatClampNeg), vi r7, vi r5, vi (x9.1 (o + 13) (l1 : Int32).toNatClampNeg)] [] rfl (dk dtk_X5_perform 52 rfl) kcv_X5_195 rfl (kk_M0 ho) rfl (kl_M0 hq ho) (Nat.le_of_ble_eq_true rfl) (Nat.le_of_ble_eq_true rfl) (gok_i (av_c rfl (av_c rfl (av_c rfl (av_c (gkr (kl_M0 hq ho)) av_n)))) as_n) rfl h (fun r12 x11 h => ?_)
    refine T_istore (lv2 := [(5, vi r12), (4, vi r7), (3, vi r5), (2, vi (x.1 (o + 11) (l1 : Int32).toNatClampNeg)), (0, vr o)]) (dk dtk_X5_perform 53 rfl) (by decide) rfl ?_
    refine T_iload 0 (dk dtk_X5_perform 54 rfl) rfl ?_
    refine T_if_eq 109 (dk dtk_X5_perform 55 rfl) (by decide) (fun c13 => ?_) (fun c13 => ?_)
    · have h := h.1 c13
      refine T_iload_n 2 (dk dtk_X5_perform 65 rfl) rfl rfl ?_
      refine T_bipush (v := 9) (dk dtk_X5_perform 66 rfl) (by decide +kernel) ?_
      refine T_icmp_ne 129 (dk dtk_X5_perform 67 rfl) (by decide) (fun c14 => ?_) (fun c14 => ?_)
      · have h := h.1 c14
        exact T_sub [4, 3, 2, 1] rfl h
      · have h := h.2 c14
        refine T_aload_n 4 (dk dtk_X5_perform 68 rfl) rfl rfl ?_
        refine T_aload_n 4 (dk dtk_X5_perform 69 rfl) rfl rfl ?_
        refine T_getR o 1 80 (dk dtk_X5_perform 70 rfl) kfl_X5_21 (kk_M0 ho) (kl_M0 hq ho) (by decide) rfl (kr_M_1 ho) ?_
        refine T_getR 80 4 85 (dk dtk_X5_perform 71 rfl) kfl_X5_136 kk_80 (kl_80 hq) (by decide) rfl kr_80_4 ?_
        refine T_iload 1 (dk dtk_X5_perform 72 rfl) rfl ?_
        obtain ⟨h15, h⟩ := h
        refine T_iald 85 400 (dk dtk_X5_perform 73 rfl) kk_85 (kl_85 hq) h15 ?_
        refine T_sub (lv2 := [(4, vi r7), (3, vi r5), (2, vi (x.1 (o + 11) (l1 : Int32).toNatClampNeg)), (0, vr o)]) [1, 2, 3, 4] rfl ?_
        refine KC_Vv [vi (x11.1 85 (r7 : Int32).toNatClampNeg)] [] rfl (dk dtk_X5_perform 74 rfl) kcv_X5_86 rfl (kk_M0 ho) rfl (kl_M0 hq ho) (Nat.le_of_ble_eq_true rfl) (Nat.le_of_ble_eq_true rfl) (gok_i (av_c rfl (av_c rfl (av_c rfl (av_c (gkr (kl_M0 hq ho)) av_n)))) as_n) rfl h (fun x16 h => ?_)
        exact T_sub [3, 2, 1, 0] rfl h
    · have h := h.2 c13
      refine T_aload_n 4 (dk dtk_X5_perform 56 rfl) rfl rfl ?_
      refine T_getR o 2 (o + 20) (dk dtk_X5_perform 57 rfl) kfl_X5_25 (kk_M0 ho) (kl_M0 hq ho) (by decide) rfl (kr_M_2 ho) ?_
      refine T_iconst (v := 1) (dk dtk_X5_perform 58 rfl) (by decide +kernel) ?_
      obtain ⟨x17, ex17⟩ : ∃ z, z = si x11 (o + 20) 5 1 := ⟨_, rfl⟩
      have h := h x17 ex17
      refine T_putI (o + 20) 5 (dk dtk_X5_perform 59 rfl) kfl_X5_199 (kk_D0 (kiM_D ho)) (kl_D0 hq (kiM_D ho)) (by decide) rfl ⟨rfl, rfl⟩ ?_
      rw [← ex17]
      refine T_aload_n 4 (dk dtk_X5_perform 60 rfl) rfl rfl ?_
      refine T_iload_n 3 (dk dtk_X5_perform 61 rfl) rfl rfl ?_
      refine T_iload 0 (dk dtk_X5_perform 62 rfl) rfl ?_
      refine T_sub (lv2 := []) [] rfl ?_
      refine KC_Vv [vi (x.1 (o + 11) (l1 : Int32).toNatClampNeg), vi r12] [] rfl (dk dtk_X5_perform 63 rfl) kcv_X5_202 rfl (kk_M0 ho) rfl (kl_M0 hq ho) (Nat.le_of_ble_eq_true rfl) (Nat.le_of_ble_eq_true rfl) (gok_i av_n as_n) rfl h (fun x18 h => ?_)
      exact KT_vret (dk dtk_X5_perform 64 rfl) rfl h
  · have h := h.2 c3
    refine T_aload_n 1 (dk dtk_X5_perform 11 rfl) rfl rfl ?_
    refine T_getR o 2 (o + 20) (dk dtk_X5_perform 12 rfl) kfl_X5_25 (kk_M0 ho) (kl_M0 hq ho) (by decide) rfl (kr_M_2 ho) ?_
    refine T_iconst (v := (-1)) (dk dtk_X5_perform 13 rfl) (by decide +kernel) ?_
    refine T_iconst (v := (-1)) (dk dtk_X5_perform 14 rfl) (by decide +kernel) ?_
    refine T_iconst (v := (-1)) (dk dtk_X5_perform 15 rfl) (by decide +kernel) ?_
    refine KC_Vv [vi (-1), vi (-1), vi (-1)] [] rfl (dk dtk_X5_perform 16 rfl) kcv_X5_188 rfl (kk_D0 (kiM_D ho)) rfl (kl_D0 hq (kiM_D ho)) (Nat.le_of_ble_eq_true rfl) (Nat.le_of_ble_eq_true rfl) (gok_i (av_c rfl (av_c (gkr (kl_M0 hq ho)) (av_c rfl av_n))) as_n) rfl h (fun x19 h => ?_)
    refine T_aload_n 1 (dk dtk_X5_perform 17 rfl) rfl rfl ?_
    refine T_iload_n 0 (dk dtk_X5_perform 18 rfl) rfl rfl ?_
    refine T_aload_n 1 (dk dtk_X5_perform 19 rfl) rfl rfl ?_
    refine T_getR o 11 (o + 12) (dk dtk_X5_perform 20 rfl) kfl_X5_36 (kk_M0 ho) (kl_M0 hq ho) (by decide) rfl (kr_M_11 ho) ?_
    refine T_iload_n 2 (dk dtk_X5_perform 21 rfl) rfl rfl ?_
    obtain ⟨h20, h⟩ := h
    refine T_iald (o + 12) 84 (dk dtk_X5_perform 22 rfl) (kk_M12 ho) (kl_M12 hq ho) h20 ?_
    refine T_sub (lv2 := []) [] rfl ?_
    refine KC_Vv [vi (x.1 (o + 11) (l1 : Int32).toNatClampNeg), vi (x19.1 (o + 12) (l1 : Int32).toNatClampNeg)] [] rfl (dk dtk_X5_perform 23 rfl) kcv_X5_191 rfl (kk_M0 ho) rfl (kl_M0 hq ho) (Nat.le_of_ble_eq_true rfl) (Nat.le_of_ble_eq_true rfl) (gok_i av_n as_n) rfl h (fun x21 h => ?_)
    exact KT_vret (dk dtk_X5_perform 24 rfl) rfl h
set_option maxRecDepth 100000 in
set_option maxHeartbeats 4000000 in
theorem kg_X5_perform_129 {G : kG} {q : kP} {d : Nat} {x : gd} {P : Option gv → gd → Prop} (hq : kV q) {o : Nat} (ho : kiM q o) (l2 : Int32) (l3 : Int32) (l4 : Int32)
    (h : ((l3 = (7 : Int32) → P none x) ∧ (¬ (l3 = (7 : Int32)) → KT G q d zk_X5_set 0 [(0, vr o), (1, vi l2), (2, vi 2), (3, vi (l4 + 1))] [] x (rv (fun x2 => KT G q d zk_X5_settle 0 [(0, vr o), (1, vi l2)] [] x2 (rv (fun x3 => P none x3))))))) :
    KT G q (d + 1) zk_X5_perform 129 [(0, vr o), (2, vi l2), (3, vi l3), (4, vi l4)] [] x P := by
  refine T_iload_n 2 (dk dtk_X5_perform 75 rfl) rfl rfl ?_
  refine T_bipush (v := 7) (dk dtk_X5_perform 76 rfl) (by decide +kernel) ?_
  refine T_icmp_eq 150 (dk dtk_X5_perform 77 rfl) (by decide) (fun c1 => ?_) (fun c1 => ?_)
  · have h := h.1 c1
    exact KT_vret (dk dtk_X5_perform 88 rfl) rfl h
  · have h := h.2 c1
    refine T_aload_n 0 (dk dtk_X5_perform 78 rfl) rfl rfl ?_
    refine T_iload_n 1 (dk dtk_X5_perform 79 rfl) rfl rfl ?_
    refine T_iconst (v := 2) (dk dtk_X5_perform 80 rfl) (by decide +kernel) ?_
    refine T_iload 3 (dk dtk_X5_perform 81 rfl) rfl ?_
    refine T_iconst (v := 1) (dk dtk_X5_perform 82 rfl) (by decide +kernel) ?_
    refine T_iadd (dk dtk_X5_perform 83 rfl) ?_
    refine T_sub (lv2 := [(0, vr o), (2, vi l2)]) [0, 1] rfl ?_
    refine KC_Vv [vi l2, vi 2, vi (l4 + 1)] [] rfl (dk dtk_X5_perform 84 rfl) kcv_X5_117 rfl (kk_M0 ho) rfl (kl_M0 hq ho) (Nat.le_of_ble_eq_true rfl) (Nat.le_of_ble_eq_true rfl) (gok_i (av_c (gkr (kl_M0 hq ho)) (av_c rfl av_n)) as_n) rfl h (fun x2 h => ?_)
    refine T_aload_n 0 (dk dtk_X5_perform 85 rfl) rfl rfl ?_
    refine T_iload_n 1 (dk dtk_X5_perform 86 rfl) rfl rfl ?_
    refine T_sub (lv2 := []) [] rfl ?_
    refine KC_Vv [vi l2] [] rfl (dk dtk_X5_perform 87 rfl) kcv_X5_205 rfl (kk_M0 ho) rfl (kl_M0 hq ho) (Nat.le_of_ble_eq_true rfl) (Nat.le_of_ble_eq_true rfl) (gok_i av_n as_n) rfl h (fun x3 h => ?_)
    exact KT_vret (dk dtk_X5_perform 88 rfl) rfl h
end
