set_option maxRecDepth 100000 in
theorem dtk_X5_setLock : dck cX5_setLock [(0, .aload_n 0, 1), (1, .getfield 29, 3), (4, .aload_n 0, 1), (5, .getfield 49, 3), (8, .iconst 2, 1), (9, .iload_n 1, 1), (10, .imul, 1), (11, .iadd, 1), (12, .iload_n 2, 1), (13, .iconst 1, 1), (14, .iadd, 1), (15, .iastore, 1), (16, .aload_n 0, 1), (17, .getfield 29, 3), (20, .aload_n 0, 1), (21, .getfield 49, 3), (24, .iconst 2, 1), (25, .iload_n 1, 1), (26, .imul, 1), (27, .iadd, 1), (28, .iconst 1, 1), (29, .iadd, 1), (30, .iload_n 3, 1), (31, .iastore, 1), (32, .return_, 1)] = true := by decide +kernel
set_option maxRecDepth 100000 in
set_option maxHeartbeats 4000000 in
theorem kg_X5_setLock_0 {G : kG} {q : kP} {d : Nat} {x : gd} {P : Option gv → gd → Prop} (hq : kV q) {o : Nat} (ho : kiM q o) (l1 : Int32) (l2 : Int32) (l3 : Int32)
    (h : vp_in ((x.1 o 6) + (2 * l1)) 228 ∧ (∀ x2 : gd, x2 = si x (o + 5) ((x.1 o 6) + (2 * l1) : Int32).toNatClampNeg (l2 + 1) → vp_in (((x2.1 o 6) + (2 * l1)) + 1) 228 ∧ (∀ x4 : gd, x4 = si x2 (o + 5) (((x2.1 o 6) + (2 * l1)) + 1 : Int32).toNatClampNeg l3 → P none x4))) :
    KT G q d zk_X5_setLock 0 [(0, vr o), (1, vi l1), (2, vi l2), (3, vi l3)] [] x P := by
  refine T_aload_n 0 (dk dtk_X5_setLock 0 rfl) rfl rfl ?_
  refine T_getR o 4 (o + 5) (dk dtk_X5_setLock 1 rfl) kfl_X5_29 (kk_M0 ho) (kl_M0 hq ho) (by decide) rfl (kr_M_4 ho) ?_
  refine T_aload_n 0 (dk dtk_X5_setLock 2 rfl) rfl rfl ?_
  refine T_getI o 6 (dk dtk_X5_setLock 3 rfl) kfl_X5_49 (kk_M0 ho) (kl_M0 hq ho) (by decide) rfl ?_
  refine T_iconst (v := 2) (dk dtk_X5_setLock 4 rfl) (by decide +kernel) ?_
  refine T_iload_n 1 (dk dtk_X5_setLock 5 rfl) rfl rfl ?_
  refine T_imul (dk dtk_X5_setLock 6 rfl) ?_
  refine T_iadd (dk dtk_X5_setLock 7 rfl) ?_
  refine T_iload_n 2 (dk dtk_X5_setLock 8 rfl) rfl rfl ?_
  refine T_iconst (v := 1) (dk dtk_X5_setLock 9 rfl) (by decide +kernel) ?_
  refine T_iadd (dk dtk_X5_setLock 10 rfl) ?_
  obtain ⟨h1, h⟩ := h
  obtain ⟨x2, ex2⟩ : ∃ z, z = si x (o + 5) ((x.1 o 6) + (2 * l1) : Int32).toNatClampNeg (l2 + 1) := ⟨_, rfl⟩
  have h := h x2 ex2
  refine T_iast (o + 5) 228 (dk dtk_X5_setLock 11 rfl) (kk_M5 ho) (kl_M5 hq ho) h1 ?_
  rw [← ex2]
  refine T_aload_n 0 (dk dtk_X5_setLock 12 rfl) rfl rfl ?_
  refine T_getR o 4 (o + 5) (dk dtk_X5_setLock 13 rfl) kfl_X5_29 (kk_M0 ho) (kl_M0 hq ho) (by decide) rfl (kr_M_4 ho) ?_
  refine T_aload_n 0 (dk dtk_X5_setLock 14 rfl) rfl rfl ?_
  refine T_getI o 6 (dk dtk_X5_setLock 15 rfl) kfl_X5_49 (kk_M0 ho) (kl_M0 hq ho) (by decide) rfl ?_
  refine T_iconst (v := 2) (dk dtk_X5_setLock 16 rfl) (by decide +kernel) ?_
  refine T_iload_n 1 (dk dtk_X5_setLock 17 rfl) rfl rfl ?_
  refine T_imul (dk dtk_X5_setLock 18 rfl) ?_
  refine T_iadd (dk dtk_X5_setLock 19 rfl) ?_
  refine T_iconst (v := 1) (dk dtk_X5_setLock 20 rfl) (by decide +kernel) ?_
  refine T_iadd (dk dtk_X5_setLock 21 rfl) ?_
  refine T_iload_n 3 (dk dtk_X5_setLock 22 rfl) rfl rfl ?_
  obtain ⟨h3, h⟩ := h
  obtain ⟨x4, ex4⟩ : ∃ z, z = si x2 (o + 5) (((x2.1 o 6) + (2 * l1)) + 1 : Int32).toNatClampNeg l3 := ⟨_, rfl⟩
  have h := h x4 ex4
  refine T_iast (o + 5) 228 (dk dtk_X5_setLock 23 rfl) (kk_M5 ho) (kl_M5 hq ho) h3 ?_
  rw [← ex4]
  exact KT_vret (dk dtk_X5_setLock 24 rfl) rfl h
set_option maxRecDepth 100000 in
theorem dtk_X5_heldBy : dck cX5_heldBy [(0, .iconst 0, 1), (1, .istore_n 2, 1), (2, .iconst 0, 1), (3, .istore_n 3, 1), (4, .iload_n 3, 1), (5, .aload_n 0, 1), (6, .getfield 11, 3), (9, .getfield 52, 3), (12, .if_icmp .ge 24, 3), (15, .aload_n 0, 1), (16, .iload_n 3, 1), (17, .invokevirtual 113, 3), (20, .iload_n 1, 1), (21, .if_icmp .ne 9, 3), (24, .iload_n 2, 1), (25, .iconst 1, 1), (26, .iload_n 3, 1), (27, .ishl, 1), (28, .ior, 1), (29, .istore_n 2, 1), (30, .iinc 3 1, 3), (33, .goto (-29), 3), (36, .iload_n 2, 1), (37, .ireturn, 1)] = true := by decide +kernel
set_option maxRecDepth 100000 in
set_option maxHeartbeats 4000000 in
theorem kg_X5_heldBy_0 {G : kG} {q : kP} {d : Nat} {x : gd} {P : Option gv → gd → Prop} (hq : kV q) {o : Nat} (ho : kiM q o) (l1 : Int32)
    (h : KT G q (d + 1) zk_X5_heldBy 4 [(0, vr o), (1, vi l1), (2, vi 0), (3, vi 0)] [] x P) :
    KT G q (d + 1) zk_X5_heldBy 0 [(0, vr o), (1, vi l1)] [] x P := by
  refine T_iconst (v := 0) (dk dtk_X5_heldBy 0 rfl) (by decide +kernel) ?_
  refine T_istore_n (lv2 := [(2, vi 0), (0, vr o), (1, vi l1)]) (dk dtk_X5_heldBy 1 rfl) rfl (by decide) rfl ?_
  refine T_iconst (v := 0) (dk dtk_X5_heldBy 2 rfl) (by decide +kernel) ?_
  refine T_istore_n (lv2 := [(3, vi 0), (2, vi 0), (0, vr o), (1, vi l1)]) (dk dtk_X5_heldBy 3 rfl) rfl (by decide) rfl ?_
  exact T_sub [2, 3, 1, 0] rfl h
set_option maxRecDepth 100000 in
set_option maxHeartbeats 4000000 in
theorem kg_X5_heldBy_4 {G : kG} {q : kP} {d : Nat} {x : gd} {P : Option gv → gd → Prop} (hq : kV q) {o : Nat} (ho : kiM q o) (l1 : Int32) (l2 : Int32) (l3 : Int32)
    (h : (((x.1 60 9) ≤ l3 → P (some (vi l2)) x) ∧ (¬ ((x.1 60 9) ≤ l3) → KT G q d zk_X5_holder 0 [(0, vr o), (1, vi l3)] [] x (ri (fun r3 x2 => ((¬ (r3 = l1) → KT G q (d + 1) zk_X5_heldBy 4 [(0, vr o), (1, vi l1), (2, vi l2), (3, vi (l3 + 1))] [] x2 P) ∧ (r3 = l1 → KT G q (d + 1) zk_X5_heldBy 4 [(0, vr o), (1, vi l1), (2, vi (l2 ||| (1 <<< (l3 &&& 31 : Int32)))), (3, vi (l3 + 1))] [] x2 P))))))) :
    KT G q (d + 1) zk_X5_heldBy 4 [(0, vr o), (1, vi l1), (2, vi l2), (3, vi l3)] [] x P := by
  refine T_iload_n 3 (dk dtk_X5_heldBy 4 rfl) rfl rfl ?_
  refine T_aload_n 0 (dk dtk_X5_heldBy 5 rfl) rfl rfl ?_
  refine T_getR o 0 60 (dk dtk_X5_heldBy 6 rfl) kfl_X5_11 (kk_M0 ho) (kl_M0 hq ho) (by decide) rfl (kr_M_0 ho) ?_
  refine T_getI 60 9 (dk dtk_X5_heldBy 7 rfl) kfl_X5_52 kk_60 (kl_60 hq) (by decide) rfl ?_
  refine T_icmp_ge 36 (dk dtk_X5_heldBy 8 rfl) (by decide) (fun c1 => ?_) (fun c1 => ?_)
  · have h := h.1 c1
    refine T_iload_n 2 (dk dtk_X5_heldBy 22 rfl) rfl rfl ?_
    exact KT_iret (dk dtk_X5_heldBy 23 rfl) rfl rfl h
  · have h := h.2 c1
    refine T_aload_n 0 (dk dtk_X5_heldBy 9 rfl) rfl rfl ?_
    refine T_iload_n 3 (dk dtk_X5_heldBy 10 rfl) rfl rfl ?_
    refine KC_Vi [vi l3] [] rfl (dk dtk_X5_heldBy 11 rfl) kcv_X5_113 rfl (kk_M0 ho) rfl (kl_M0 hq ho) (Nat.le_of_ble_eq_true rfl) (Nat.le_of_ble_eq_true rfl) (gok_i (av_c (gkr (kl_M0 hq ho)) (av_c rfl (av_c rfl (av_c rfl av_n)))) as_n) rfl h (fun r3 x2 h => ?_)
    refine T_iload_n 1 (dk dtk_X5_heldBy 12 rfl) rfl rfl ?_
    refine T_icmp_ne 30 (dk dtk_X5_heldBy 13 rfl) (by decide) (fun c4 => ?_) (fun c4 => ?_)
    · have h := h.1 c4
      refine T_iinc (v := l3 + 1) (lv2 := [(3, vi (l3 + 1)), (0, vr o), (1, vi l1), (2, vi l2)]) 3 (dk dtk_X5_heldBy 20 rfl) rfl rfl (by decide) rfl ?_
      refine T_goto 4 (dk dtk_X5_heldBy 21 rfl) (by decide) ?_
      exact T_sub [1, 2, 3, 0] rfl h
    · have h := h.2 c4
      refine T_iload_n 2 (dk dtk_X5_heldBy 14 rfl) rfl rfl ?_
      refine T_iconst (v := 1) (dk dtk_X5_heldBy 15 rfl) (by decide +kernel) ?_
      refine T_iload_n 3 (dk dtk_X5_heldBy 16 rfl) rfl rfl ?_
      refine T_ishl (dk dtk_X5_heldBy 17 rfl) ?_
      refine T_ior (dk dtk_X5_heldBy 18 rfl) ?_
      refine T_istore_n (lv2 := [(2, vi (l2 ||| (1 <<< (l3 &&& 31 : Int32)))), (0, vr o), (1, vi l1), (3, vi l3)]) (dk dtk_X5_heldBy 19 rfl) rfl (by decide) rfl ?_
      refine T_iinc (v := l3 + 1) (lv2 := [(3, vi (l3 + 1)), (2, vi (l2 ||| (1 <<< (l3 &&& 31 : Int32)))), (0, vr o), (1, vi l1)]) 3 (dk dtk_X5_heldBy 20 rfl) rfl rfl (by decide) rfl ?_
      refine T_goto 4 (dk dtk_X5_heldBy 21 rfl) (by decide) ?_
      exact T_sub [2, 3, 1, 0] rfl h
set_option maxRecDepth 100000 in
theorem dtk_X5_waiters : dck cX5_waiters [(0, .iconst 0, 1), (1, .istore_n 2, 1), (2, .iconst 0, 1), (3, .istore_n 3, 1), (4, .iload_n 3, 1), (5, .aload_n 0, 1), (6, .getfield 11, 3), (9, .getfield 67, 3), (12, .if_icmp .ge 36, 3), (15, .aload_n 0, 1), (16, .iload_n 3, 1), (17, .iconst 3, 1), (18, .invokevirtual 90, 3), (21, .iload_n 1, 1), (22, .iconst 1, 1), (23, .iadd, 1), (24, .if_icmp .ne 18, 3), (27, .aload_n 0, 1), (28, .iload_n 3, 1), (29, .iconst 5, 1), (30, .invokevirtual 90, 3), (33, .ifCond .ne 9, 3), (36, .iload_n 2, 1), (37, .iconst 1, 1), (38, .iload_n 3, 1), (39, .ishl, 1), (40, .ior, 1), (41, .istore_n 2, 1), (42, .iinc 3 1, 3), (45, .goto (-41), 3), (48, .iload_n 2, 1), (49, .ireturn, 1)] = true := by decide +kernel
set_option maxRecDepth 100000 in
set_option maxHeartbeats 4000000 in
theorem kg_X5_waiters_0 {G : kG} {q : kP} {d : Nat} {x : gd} {P : Option gv → gd → Prop} (hq : kV q) {o : Nat} (ho : kiM q o) (l1 : Int32)
    (h : KT G q (d + 1) zk_X5_waiters 4 [(0, vr o), (1, vi l1), (2, vi 0), (3, vi 0)] [] x P) :
    KT G q (d + 1) zk_X5_waiters 0 [(0, vr o), (1, vi l1)] [] x P := by
  refine T_iconst (v := 0) (dk dtk_X5_waiters 0 rfl) (by decide +kernel) ?_
  refine T_istore_n (lv2 := [(2, vi 0), (0, vr o), (1, vi l1)]) (dk dtk_X5_waiters 1 rfl) rfl (by decide) rfl ?_
  refine T_iconst (v := 0) (dk dtk_X5_waiters 2 rfl) (by decide +kernel) ?_
  refine T_istore_n (lv2 := [(3, vi 0), (2, vi 0), (0, vr o), (1, vi l1)]) (dk dtk_X5_waiters 3 rfl) rfl (by decide) rfl ?_
  exact T_sub [2, 3, 1, 0] rfl h
set_option maxRecDepth 100000 in
set_option maxHeartbeats 4000000 in
theorem kg_X5_waiters_4 {G : kG} {q : kP} {d : Nat} {x : gd} {P : Option gv → gd → Prop} (hq : kV q) {o : Nat} (ho : kiM q o) (l1 : Int32) (l2 : Int32) (l3 : Int32)
    (h : (((x.1 60 10) ≤ l3 → P (some (vi l2)) x) ∧ (¬ ((x.1 60 10) ≤ l3) → KT G q d zk_X5_get 0 [(0, vr o), (1, vi l3), (2, vi 3)] [] x (ri (fun r3 x2 => ((¬ (r3 = (l1 + 1)) → KT G q (d + 1) zk_X5_waiters 4 [(0, vr o), (1, vi l1), (2, vi l2), (3, vi (l3 + 1))] [] x2 P) ∧ (r3 = (l1 + 1) → KT G q d zk_X5_get 0 [(0, vr o), (1, vi l3), (2, vi 5)] [] x2 (ri (fun r6 x5 => ((¬ (r6 = (0 : Int32)) → KT G q (d + 1) zk_X5_waiters 4 [(0, vr o), (1, vi l1), (2, vi l2), (3, vi (l3 + 1))] [] x5 P) ∧ (r6 = (0 : Int32) → KT G q (d + 1) zk_X5_waiters 4 [(0, vr o), (1, vi l1), (2, vi (l2 ||| (1 <<< (l3 &&& 31 : Int32)))), (3, vi (l3 + 1))] [] x5 P))))))))))) :
    KT G q (d + 1) zk_X5_waiters 4 [(0, vr o), (1, vi l1), (2, vi l2), (3, vi l3)] [] x P := by
  refine T_iload_n 3 (dk dtk_X5_waiters 4 rfl) rfl rfl ?_
  refine T_aload_n 0 (dk dtk_X5_waiters 5 rfl) rfl rfl ?_
  refine T_getR o 0 60 (dk dtk_X5_waiters 6 rfl) kfl_X5_11 (kk_M0 ho) (kl_M0 hq ho) (by decide) rfl (kr_M_0 ho) ?_
  refine T_getI 60 10 (dk dtk_X5_waiters 7 rfl) kfl_X5_67 kk_60 (kl_60 hq) (by decide) rfl ?_
  refine T_icmp_ge 48 (dk dtk_X5_waiters 8 rfl) (by decide) (fun c1 => ?_) (fun c1 => ?_)
  · have h := h.1 c1
    refine T_iload_n 2 (dk dtk_X5_waiters 30 rfl) rfl rfl ?_
    exact KT_iret (dk dtk_X5_waiters 31 rfl) rfl rfl h
  · have h := h.2 c1
    refine T_aload_n 0 (dk dtk_X5_waiters 9 rfl) rfl rfl ?_
    refine T_iload_n 3 (dk dtk_X5_waiters 10 rfl) rfl rfl ?_
    refine T_iconst (v := 3) (dk dtk_X5_waiters 11 rfl) (by decide +kernel) ?_
    refine KC_Vi [vi l3, vi 3] [] rfl (dk dtk_X5_waiters 12 rfl) kcv_X5_90 rfl (kk_M0 ho) rfl (kl_M0 hq ho) (Nat.le_of_ble_eq_true rfl) (Nat.le_of_ble_eq_true rfl) (gok_i (av_c (gkr (kl_M0 hq ho)) (av_c rfl (av_c rfl (av_c rfl av_n)))) as_n) rfl h (fun r3 x2 h => ?_)
    refine T_iload_n 1 (dk dtk_X5_waiters 13 rfl) rfl rfl ?_
    refine T_iconst (v := 1) (dk dtk_X5_waiters 14 rfl) (by decide +kernel) ?_
    refine T_iadd (dk dtk_X5_waiters 15 rfl) ?_
    refine T_icmp_ne 42 (dk dtk_X5_waiters 16 rfl) (by decide) (fun c4 => ?_) (fun c4 => ?_)
    · have h := h.1 c4
      refine T_iinc (v := l3 + 1) (lv2 := [(3, vi (l3 + 1)), (0, vr o), (1, vi l1), (2, vi l2)]) 3 (dk dtk_X5_waiters 28 rfl) rfl rfl (by decide) rfl ?_
      refine T_goto 4 (dk dtk_X5_waiters 29 rfl) (by decide) ?_
      exact T_sub [1, 2, 3, 0] rfl h
    · have h := h.2 c4
      refine T_aload_n 0 (dk dtk_X5_waiters 17 rfl) rfl rfl ?_
      refine T_iload_n 3 (dk dtk_X5_waiters 18 rfl) rfl rfl ?_
      refine T_iconst (v := 5) (dk dtk_X5_waiters 19 rfl) (by decide +kernel) ?_
      refine KC_Vi [vi l3, vi 5] [] rfl (dk dtk_X5_waiters 20 rfl) kcv_X5_90 rfl (kk_M0 ho) rfl (kl_M0 hq ho) (Nat.le_of_ble_eq_true rfl) (Nat.le_of_ble_eq_true rfl) (gok_i (av_c (gkr (kl_M0 hq ho)) (av_c rfl (av_c rfl (av_c rfl av_n)))) as_n) rfl h (fun r6 x5 h => ?_)
      refine T_if_ne 42 (dk dtk_X5_waiters 21 rfl) (by decide) (fun c7 => ?_) (fun c7 => ?_)
      · have h := h.1 c7
        refine T_iinc (v := l3 + 1) (lv2 := [(3, vi (l3 + 1)), (0, vr o), (1, vi l1), (2, vi l2)]) 3 (dk dtk_X5_waiters 28 rfl) rfl rfl (by decide) rfl ?_
        refine T_goto 4 (dk dtk_X5_waiters 29 rfl) (by decide) ?_
        exact T_sub [1, 2, 3, 0] rfl h
      · have h := h.2 c7
        refine T_iload_n 2 (dk dtk_X5_waiters 22 rfl) rfl rfl ?_
        refine T_iconst (v := 1) (dk dtk_X5_waiters 23 rfl) (by decide +kernel) ?_
        refine T_iload_n 3 (dk dtk_X5_waiters 24 rfl) rfl rfl ?_
        refine T_ishl (dk dtk_X5_waiters 25 rfl) ?_
        refine T_ior (dk dtk_X5_waiters 26 rfl) ?_
        refine T_istore_n (lv2 := [(2, vi (l2 ||| (1 <<< (l3 &&& 31 : Int32)))), (0, vr o), (1, vi l1), (3, vi l3)]) (dk dtk_X5_waiters 27 rfl) rfl (by decide) rfl ?_
        refine T_iinc (v := l3 + 1) (lv2 := [(3, vi (l3 + 1)), (2, vi (l2 ||| (1 <<< (l3 &&& 31 : Int32)))), (0, vr o), (1, vi l1)]) 3 (dk dtk_X5_waiters 28 rfl) rfl rfl (by decide) rfl ?_
        refine T_goto 4 (dk dtk_X5_waiters 29 rfl) (by decide) ?_
        exact T_sub [2, 3, 1, 0] rfl h
set_option maxRecDepth 100000 in
theorem dtk_X5_lateCell : dck cX5_lateCell [(0, .aload_n 0, 1), (1, .iload_n 1, 1), (2, .aload_n 0, 1), (3, .getfield 61, 3), (6, .iconst 2, 1), (7, .iload_n 2, 1), (8, .imul, 1), (9, .iadd, 1), (10, .invokevirtual 90, 3), (13, .ireturn, 1)] = true := by decide +kernel
set_option maxRecDepth 100000 in
set_option maxHeartbeats 4000000 in
theorem kg_X5_lateCell_0 {G : kG} {q : kP} {d : Nat} {x : gd} {P : Option gv → gd → Prop} (hq : kV q) {o : Nat} (ho : kiM q o) (l1 : Int32) (l2 : Int32)
    (h : KT G q d zk_X5_get 0 [(0, vr o), (1, vi l1), (2, vi ((x.1 o 9) + (2 * l2)))] [] x (ri (fun r2 x1 => P (some (vi r2)) x1))) :
    KT G q (d + 1) zk_X5_lateCell 0 [(0, vr o), (1, vi l1), (2, vi l2)] [] x P := by
  refine T_aload_n 0 (dk dtk_X5_lateCell 0 rfl) rfl rfl ?_
  refine T_iload_n 1 (dk dtk_X5_lateCell 1 rfl) rfl rfl ?_
  refine T_aload_n 0 (dk dtk_X5_lateCell 2 rfl) rfl rfl ?_
  refine T_getI o 9 (dk dtk_X5_lateCell 3 rfl) kfl_X5_61 (kk_M0 ho) (kl_M0 hq ho) (by decide) rfl ?_
  refine T_iconst (v := 2) (dk dtk_X5_lateCell 4 rfl) (by decide +kernel) ?_
  refine T_iload_n 2 (dk dtk_X5_lateCell 5 rfl) rfl rfl ?_
  refine T_imul (dk dtk_X5_lateCell 6 rfl) ?_
  refine T_iadd (dk dtk_X5_lateCell 7 rfl) ?_
  refine T_sub (lv2 := []) [] rfl ?_
  refine KC_Vi [vi l1, vi ((x.1 o 9) + (2 * l2))] [] rfl (dk dtk_X5_lateCell 8 rfl) kcv_X5_90 rfl (kk_M0 ho) rfl (kl_M0 hq ho) (Nat.le_of_ble_eq_true rfl) (Nat.le_of_ble_eq_true rfl) (gok_i av_n as_n) rfl h (fun r2 x1 h => ?_)
  exact KT_iret (dk dtk_X5_lateCell 9 rfl) rfl rfl h
set_option maxRecDepth 100000 in
theorem dtk_X5_lateValue : dck cX5_lateValue [(0, .aload_n 0, 1), (1, .iload_n 1, 1), (2, .aload_n 0, 1), (3, .getfield 61, 3), (6, .iconst 2, 1), (7, .iload_n 2, 1), (8, .imul, 1), (9, .iadd, 1), (10, .iconst 1, 1), (11, .iadd, 1), (12, .invokevirtual 90, 3), (15, .ireturn, 1)] = true := by decide +kernel
set_option maxRecDepth 100000 in
set_option maxHeartbeats 4000000 in
theorem kg_X5_lateValue_0 {G : kG} {q : kP} {d : Nat} {x : gd} {P : Option gv → gd → Prop} (hq : kV q) {o : Nat} (ho : kiM q o) (l1 : Int32) (l2 : Int32)
    (h : KT G q d zk_X5_get 0 [(0, vr o), (1, vi l1), (2, vi (((x.1 o 9) + (2 * l2)) + 1))] [] x (ri (fun r2 x1 => P (some (vi r2)) x1))) :
    KT G q (d + 1) zk_X5_lateValue 0 [(0, vr o), (1, vi l1), (2, vi l2)] [] x P := by
  refine T_aload_n 0 (dk dtk_X5_lateValue 0 rfl) rfl rfl ?_
  refine T_iload_n 1 (dk dtk_X5_lateValue 1 rfl) rfl rfl ?_
  refine T_aload_n 0 (dk dtk_X5_lateValue 2 rfl) rfl rfl ?_
  refine T_getI o 9 (dk dtk_X5_lateValue 3 rfl) kfl_X5_61 (kk_M0 ho) (kl_M0 hq ho) (by decide) rfl ?_
  refine T_iconst (v := 2) (dk dtk_X5_lateValue 4 rfl) (by decide +kernel) ?_
  refine T_iload_n 2 (dk dtk_X5_lateValue 5 rfl) rfl rfl ?_
  refine T_imul (dk dtk_X5_lateValue 6 rfl) ?_
  refine T_iadd (dk dtk_X5_lateValue 7 rfl) ?_
  refine T_iconst (v := 1) (dk dtk_X5_lateValue 8 rfl) (by decide +kernel) ?_
  refine T_iadd (dk dtk_X5_lateValue 9 rfl) ?_
  refine T_sub (lv2 := []) [] rfl ?_
  refine KC_Vi [vi l1, vi (((x.1 o 9) + (2 * l2)) + 1)] [] rfl (dk dtk_X5_lateValue 10 rfl) kcv_X5_90 rfl (kk_M0 ho) rfl (kl_M0 hq ho) (Nat.le_of_ble_eq_true rfl) (Nat.le_of_ble_eq_true rfl) (gok_i av_n as_n) rfl h (fun r2 x1 h => ?_)
  exact KT_iret (dk dtk_X5_lateValue 11 rfl) rfl rfl h
set_option maxRecDepth 100000 in
theorem dtk_X5_setLate : dck cX5_setLate [(0, .aload_n 0, 1), (1, .iload_n 1, 1), (2, .aload_n 0, 1), (3, .getfield 61, 3), (6, .iconst 2, 1), (7, .iload_n 2, 1), (8, .imul, 1), (9, .iadd, 1), (10, .iload_n 3, 1), (11, .invokevirtual 117, 3), (14, .aload_n 0, 1), (15, .iload_n 1, 1), (16, .aload_n 0, 1), (17, .getfield 61, 3), (20, .iconst 2, 1), (21, .iload_n 2, 1), (22, .imul, 1), (23, .iadd, 1), (24, .iconst 1, 1), (25, .iadd, 1), (26, .iload 4, 2), (28, .invokevirtual 117, 3), (31, .return_, 1)] = true := by decide +kernel
set_option maxRecDepth 100000 in
set_option maxHeartbeats 4000000 in
theorem kg_X5_setLate_0 {G : kG} {q : kP} {d : Nat} {x : gd} {P : Option gv → gd → Prop} (hq : kV q) {o : Nat} (ho : kiM q o) (l1 : Int32) (l2 : Int32) (l3 : Int32) (l4 : Int32)
    (h : KT G q d zk_X5_set 0 [(0, vr o), (1, vi l1), (2, vi ((x.1 o 9) + (2 * l2))), (3, vi l3)] [] x (rv (fun x1 => KT G q d zk_X5_set 0 [(0, vr o), (1, vi l1), (2, vi (((x1.1 o 9) + (2 * l2)) + 1)), (3, vi l4)] [] x1 (rv (fun x2 => P none x2))))) :
    KT G q (d + 1) zk_X5_setLate 0 [(0, vr o), (1, vi l1), (2, vi l2), (3, vi l3), (4, vi l4)] [] x P := by
  refine T_aload_n 0 (dk dtk_X5_setLate 0 rfl) rfl rfl ?_
  refine T_iload_n 1 (dk dtk_X5_setLate 1 rfl) rfl rfl ?_
  refine T_aload_n 0 (dk dtk_X5_setLate 2 rfl) rfl rfl ?_
  refine T_getI o 9 (dk dtk_X5_setLate 3 rfl) kfl_X5_61 (kk_M0 ho) (kl_M0 hq ho) (by decide) rfl ?_
  refine T_iconst (v := 2) (dk dtk_X5_setLate 4 rfl) (by decide +kernel) ?_
  refine T_iload_n 2 (dk dtk_X5_setLate 5 rfl) rfl rfl ?_
  refine T_imul (dk dtk_X5_setLate 6 rfl) ?_
  refine T_iadd (dk dtk_X5_setLate 7 rfl) ?_
  refine T_iload_n 3 (dk dtk_X5_setLate 8 rfl) rfl rfl ?_
  refine T_sub (lv2 := [(0, vr o), (1, vi l1), (2, vi l2), (4, vi l4)]) [0, 1, 2, 4] rfl ?_
  refine KC_Vv [vi l1, vi ((x.1 o 9) + (2 * l2)), vi l3] [] rfl (dk dtk_X5_setLate 9 rfl) kcv_X5_117 rfl (kk_M0 ho) rfl (kl_M0 hq ho) (Nat.le_of_ble_eq_true rfl) (Nat.le_of_ble_eq_true rfl) (gok_i (av_c (gkr (kl_M0 hq ho)) (av_c rfl (av_c rfl (av_c rfl av_n)))) as_n) rfl h (fun x1 h => ?_)
  refine T_aload_n 0 (dk dtk_X5_setLate 10 rfl) rfl rfl ?_
  refine T_iload_n 1 (dk dtk_X5_setLate 11 rfl) rfl rfl ?_
  refine T_aload_n 0 (dk dtk_X5_setLate 12 rfl) rfl rfl ?_
  refine T_getI o 9 (dk dtk_X5_setLate 13 rfl) kfl_X5_61 (kk_M0 ho) (kl_M0 hq ho) (by decide) rfl ?_
  refine T_iconst (v := 2) (dk dtk_X5_setLate 14 rfl) (by decide +kernel) ?_
  refine T_iload_n 2 (dk dtk_X5_setLate 15 rfl) rfl rfl ?_
  refine T_imul (dk dtk_X5_setLate 16 rfl) ?_
  refine T_iadd (dk dtk_X5_setLate 17 rfl) ?_
  refine T_iconst (v := 1) (dk dtk_X5_setLate 18 rfl) (by decide +kernel) ?_
  refine T_iadd (dk dtk_X5_setLate 19 rfl) ?_
  refine T_iload 3 (dk dtk_X5_setLate 20 rfl) rfl ?_
  refine T_sub (lv2 := []) [] rfl ?_
  refine KC_Vv [vi l1, vi (((x1.1 o 9) + (2 * l2)) + 1), vi l4] [] rfl (dk dtk_X5_setLate 21 rfl) kcv_X5_117 rfl (kk_M0 ho) rfl (kl_M0 hq ho) (Nat.le_of_ble_eq_true rfl) (Nat.le_of_ble_eq_true rfl) (gok_i av_n as_n) rfl h (fun x2 h => ?_)
  exact KT_vret (dk dtk_X5_setLate 22 rfl) rfl h
set_option maxRecDepth 100000 in
theorem dtk_X5_seenBy : dck cX5_seenBy [(0, .aload_n 0, 1), (1, .iload_n 1, 1), (2, .bipush 7, 2), (4, .invokevirtual 90, 3), (7, .iconst 1, 1), (8, .isub, 1), (9, .istore_n 3, 1), (10, .iload_n 3, 1), (11, .ifCond .lt 26, 3), (14, .aload_n 0, 1), (15, .iload_n 1, 1), (16, .iload_n 3, 1), (17, .invokevirtual 121, 3), (20, .iload_n 2, 1), (21, .if_icmp .ne 10, 3), (24, .aload_n 0, 1), (25, .iload_n 1, 1), (26, .iload_n 3, 1), (27, .invokevirtual 124, 3), (30, .ireturn, 1), (31, .iinc 3 (-1), 3), (34, .goto (-24), 3), (37, .aload_n 0, 1), (38, .getfield 29, 3), (41, .iload_n 2, 1), (42, .iaload, 1), (43, .ireturn, 1)] = true := by decide +kernel
set_option maxRecDepth 100000 in
set_option maxHeartbeats 4000000 in
theorem kg_X5_seenBy_0 {G : kG} {q : kP} {d : Nat} {x : gd} {P : Option gv → gd → Prop} (hq : kV q) {o : Nat} (ho : kiM q o) (l1 : Int32) (l2 : Int32)
    (h : KT G q d zk_X5_get 0 [(0, vr o), (1, vi l1), (2, vi 7)] [] x (ri (fun r2 x1 => KT G q (d + 1) zk_X5_seenBy 10 [(0, vr o), (1, vi l1), (2, vi l2), (3, vi (r2 - 1))] [] x1 P))) :
    KT G q (d + 1) zk_X5_seenBy 0 [(0, vr o), (1, vi l1), (2, vi l2)] [] x P := by
  refine T_aload_n 0 (dk dtk_X5_seenBy 0 rfl) rfl rfl ?_
  refine T_iload_n 1 (dk dtk_X5_seenBy 1 rfl) rfl rfl ?_
  refine T_bipush (v := 7) (dk dtk_X5_seenBy 2 rfl) (by decide +kernel) ?_
  refine KC_Vi [vi l1, vi 7] [] rfl (dk dtk_X5_seenBy 3 rfl) kcv_X5_90 rfl (kk_M0 ho) rfl (kl_M0 hq ho) (Nat.le_of_ble_eq_true rfl) (Nat.le_of_ble_eq_true rfl) (gok_i (av_c (gkr (kl_M0 hq ho)) (av_c rfl (av_c rfl av_n))) as_n) rfl h (fun r2 x1 h => ?_)
  refine T_iconst (v := 1) (dk dtk_X5_seenBy 4 rfl) (by decide +kernel) ?_
  refine T_isub (dk dtk_X5_seenBy 5 rfl) ?_
  refine T_istore_n (lv2 := [(3, vi (r2 - 1)), (0, vr o), (1, vi l1), (2, vi l2)]) (dk dtk_X5_seenBy 6 rfl) rfl (by decide) rfl ?_
  exact T_sub [1, 2, 3, 0] rfl h
set_option maxRecDepth 100000 in
set_option maxHeartbeats 4000000 in
theorem kg_X5_seenBy_10 {G : kG} {q : kP} {d : Nat} {x : gd} {P : Option gv → gd → Prop} (hq : kV q) {o : Nat} (ho : kiM q o) (l1 : Int32) (l2 : Int32) (l3 : Int32)
    (h : ((l3 < (0 : Int32) → vp_in l2 228 ∧ P (some (vi (x.1 (o + 5) (l2 : Int32).toNatClampNeg))) x) ∧ (¬ (l3 < (0 : Int32)) → KT G q d zk_X5_lateCell 0 [(0, vr o), (1, vi l1), (2, vi l3)] [] x (ri (fun r4 x3 => ((¬ (r4 = l2) → KT G q (d + 1) zk_X5_seenBy 10 [(0, vr o), (1, vi l1), (2, vi l2), (3, vi (l3 + (-1)))] [] x3 P) ∧ (r4 = l2 → KT G q d zk_X5_lateValue 0 [(0, vr o), (1, vi l1), (2, vi l3)] [] x3 (ri (fun r7 x6 => P (some (vi r7)) x6))))))))) :
    KT G q (d + 1) zk_X5_seenBy 10 [(0, vr o), (1, vi l1), (2, vi l2), (3, vi l3)] [] x P := by
  refine T_iload_n 3 (dk dtk_X5_seenBy 7 rfl) rfl rfl ?_
  refine T_if_lt 37 (dk dtk_X5_seenBy 8 rfl) (by decide) (fun c1 => ?_) (fun c1 => ?_)
  · have h := h.1 c1
    refine T_aload_n 0 (dk dtk_X5_seenBy 22 rfl) rfl rfl ?_
    refine T_getR o 4 (o + 5) (dk dtk_X5_seenBy 23 rfl) kfl_X5_29 (kk_M0 ho) (kl_M0 hq ho) (by decide) rfl (kr_M_4 ho) ?_
    refine T_iload_n 2 (dk dtk_X5_seenBy 24 rfl) rfl rfl ?_
    obtain ⟨h2, h⟩ := h
    refine T_iald (o + 5) 228 (dk dtk_X5_seenBy 25 rfl) (kk_M5 ho) (kl_M5 hq ho) h2 ?_
    exact KT_iret (dk dtk_X5_seenBy 26 rfl) rfl rfl h
  · have h := h.2 c1
    refine T_aload_n 0 (dk dtk_X5_seenBy 9 rfl) rfl rfl ?_
    refine T_iload_n 1 (dk dtk_X5_seenBy 10 rfl) rfl rfl ?_
    refine T_iload_n 3 (dk dtk_X5_seenBy 11 rfl) rfl rfl ?_
    refine KC_Vi [vi l1, vi l3] [] rfl (dk dtk_X5_seenBy 12 rfl) kcv_X5_121 rfl (kk_M0 ho) rfl (kl_M0 hq ho) (Nat.le_of_ble_eq_true rfl) (Nat.le_of_ble_eq_true rfl) (gok_i (av_c (gkr (kl_M0 hq ho)) (av_c rfl (av_c rfl (av_c rfl av_n)))) as_n) rfl h (fun r4 x3 h => ?_)
    refine T_iload_n 2 (dk dtk_X5_seenBy 13 rfl) rfl rfl ?_
    refine T_icmp_ne 31 (dk dtk_X5_seenBy 14 rfl) (by decide) (fun c5 => ?_) (fun c5 => ?_)
    · have h := h.1 c5
      refine T_iinc (v := l3 + (-1)) (lv2 := [(3, vi (l3 + (-1))), (0, vr o), (1, vi l1), (2, vi l2)]) 3 (dk dtk_X5_seenBy 20 rfl) rfl rfl (by decide) rfl ?_
      refine T_goto 10 (dk dtk_X5_seenBy 21 rfl) (by decide) ?_
      exact T_sub [1, 2, 3, 0] rfl h
    · have h := h.2 c5
      refine T_aload_n 0 (dk dtk_X5_seenBy 15 rfl) rfl rfl ?_
      refine T_iload_n 1 (dk dtk_X5_seenBy 16 rfl) rfl rfl ?_
      refine T_iload_n 3 (dk dtk_X5_seenBy 17 rfl) rfl rfl ?_
      refine T_sub (lv2 := []) [] rfl ?_
      refine KC_Vi [vi l1, vi l3] [] rfl (dk dtk_X5_seenBy 18 rfl) kcv_X5_124 rfl (kk_M0 ho) rfl (kl_M0 hq ho) (Nat.le_of_ble_eq_true rfl) (Nat.le_of_ble_eq_true rfl) (gok_i av_n as_n) rfl h (fun r7 x6 h => ?_)
      exact KT_iret (dk dtk_X5_seenBy 19 rfl) rfl rfl h
set_option maxRecDepth 100000 in
theorem dtk_X5_sortOf : dck cX5_sortOf [(0, .aload_n 0, 1), (1, .iload_n 1, 1), (2, .iconst 3, 1), (3, .invokevirtual 90, 3), (6, .ifCond .eq 8, 3), (9, .bipush 15, 2), (11, .goto 17, 3), (14, .aload_n 0, 1), (15, .getfield 21, 3), (18, .getfield 127, 3), (21, .aload_n 0, 1), (22, .iload_n 1, 1), (23, .iconst 2, 1), (24, .invokevirtual 90, 3), (27, .iaload, 1), (28, .ireturn, 1)] = true := by decide +kernel
set_option maxRecDepth 100000 in
set_option maxHeartbeats 4000000 in
theorem kg_X5_sortOf_0 {G : kG} {q : kP} {d : Nat} {x : gd} {P : Option gv → gd → Prop} (hq : kV q) {o : Nat} (ho : kiM q o) (l1 : Int32)
    (h : KT G q d zk_X5_get 0 [(0, vr o), (1, vi l1), (2, vi 3)] [] x (ri (fun r2 x1 => ((r2 = (0 : Int32) → KT G q d zk_X5_get 0 [(0, vr o), (1, vi l1), (2, vi 2)] [] x1 (ri (fun r5 x4 => vp_in r5 400 ∧ P (some (vi (x4.1 81 (r5 : Int32).toNatClampNeg))) x4))) ∧ (¬ (r2 = (0 : Int32)) → P (some (vi 15)) x1))))) :
    KT G q (d + 1) zk_X5_sortOf 0 [(0, vr o), (1, vi l1)] [] x P := by
  refine T_aload_n 0 (dk dtk_X5_sortOf 0 rfl) rfl rfl ?_
  refine T_iload_n 1 (dk dtk_X5_sortOf 1 rfl) rfl rfl ?_
  refine T_iconst (v := 3) (dk dtk_X5_sortOf 2 rfl) (by decide +kernel) ?_
  refine KC_Vi [vi l1, vi 3] [] rfl (dk dtk_X5_sortOf 3 rfl) kcv_X5_90 rfl (kk_M0 ho) rfl (kl_M0 hq ho) (Nat.le_of_ble_eq_true rfl) (Nat.le_of_ble_eq_true rfl) (gok_i (av_c (gkr (kl_M0 hq ho)) (av_c rfl av_n)) as_n) rfl h (fun r2 x1 h => ?_)
  refine T_if_eq 14 (dk dtk_X5_sortOf 4 rfl) (by decide) (fun c3 => ?_) (fun c3 => ?_)
  · have h := h.1 c3
    refine T_aload_n 0 (dk dtk_X5_sortOf 7 rfl) rfl rfl ?_
    refine T_getR o 1 80 (dk dtk_X5_sortOf 8 rfl) kfl_X5_21 (kk_M0 ho) (kl_M0 hq ho) (by decide) rfl (kr_M_1 ho) ?_
    refine T_getR 80 0 81 (dk dtk_X5_sortOf 9 rfl) kfl_X5_127 kk_80 (kl_80 hq) (by decide) rfl kr_80_0 ?_
    refine T_aload_n 0 (dk dtk_X5_sortOf 10 rfl) rfl rfl ?_
    refine T_iload_n 1 (dk dtk_X5_sortOf 11 rfl) rfl rfl ?_
    refine T_iconst (v := 2) (dk dtk_X5_sortOf 12 rfl) (by decide +kernel) ?_
    refine T_sub (lv2 := []) [] rfl ?_
    refine KC_Vi [vi l1, vi 2] [vr 81] rfl (dk dtk_X5_sortOf 13 rfl) kcv_X5_90 rfl (kk_M0 ho) rfl (kl_M0 hq ho) (Nat.le_of_ble_eq_true rfl) (Nat.le_of_ble_eq_true rfl) (gok_i av_n (as_c (gkr (kl_81 hq)) as_n)) rfl h (fun r5 x4 h => ?_)
    obtain ⟨h6, h⟩ := h
    refine T_iald 81 400 (dk dtk_X5_sortOf 14 rfl) kk_81 (kl_81 hq) h6 ?_
    exact KT_iret (dk dtk_X5_sortOf 15 rfl) rfl rfl h
  · have h := h.2 c3
    refine T_bipush (v := 15) (dk dtk_X5_sortOf 5 rfl) (by decide +kernel) ?_
    refine T_goto 28 (dk dtk_X5_sortOf 6 rfl) (by decide) ?_
    exact KT_iret (dk dtk_X5_sortOf 15 rfl) rfl rfl h
set_option maxRecDepth 100000 in
theorem dtk_X5_objectOf : dck cX5_objectOf [(0, .aload_n 0, 1), (1, .iload_n 1, 1), (2, .invokevirtual 130, 3), (5, .iconst 4, 1), (6, .if_icmp .gt 11, 3), (9, .aload_n 0, 1), (10, .iload_n 1, 1), (11, .invokevirtual 133, 3), (14, .goto 17, 3), (17, .aload_n 0, 1), (18, .getfield 21, 3), (21, .getfield 136, 3), (24, .aload_n 0, 1), (25, .iload_n 1, 1), (26, .iconst 2, 1), (27, .invokevirtual 90, 3), (30, .iaload, 1), (31, .ireturn, 1)] = true := by decide +kernel
set_option maxRecDepth 100000 in
set_option maxHeartbeats 4000000 in
theorem kg_X5_objectOf_0 {G : kG} {q : kP} {d : Nat} {x : gd} {P : Option gv → gd → Prop} (hq : kV q) {o : Nat} (ho : kiM q o) (l1 : Int32)
    (h : KT G q d zk_X5_sortOf 0 [(0, vr o), (1, vi l1)] [] x (ri (fun r2 x1 => (((4 : Int32) < r2 → KT G q d zk_X5_get 0 [(0, vr o), (1, vi l1), (2, vi 2)] [] x1 (ri (fun r5 x4 => vp_in r5 400 ∧ P (some (vi (x4.1 85 (r5 : Int32).toNatClampNeg))) x4))) ∧ (¬ ((4 : Int32) < r2) → KT G q d zk_X5_placeOf 0 [(0, vr o), (1, vi l1)] [] x1 (ri (fun r8 x7 => P (some (vi r8)) x7))))))) :
    KT G q (d + 1) zk_X5_objectOf 0 [(0, vr o), (1, vi l1)] [] x P := by
  refine T_aload_n 0 (dk dtk_X5_objectOf 0 rfl) rfl rfl ?_
  refine T_iload_n 1 (dk dtk_X5_objectOf 1 rfl) rfl rfl ?_
  refine KC_Vi [vi l1] [] rfl (dk dtk_X5_objectOf 2 rfl) kcv_X5_130 rfl (kk_M0 ho) rfl (kl_M0 hq ho) (Nat.le_of_ble_eq_true rfl) (Nat.le_of_ble_eq_true rfl) (gok_i (av_c (gkr (kl_M0 hq ho)) (av_c rfl av_n)) as_n) rfl h (fun r2 x1 h => ?_)
  refine T_iconst (v := 4) (dk dtk_X5_objectOf 3 rfl) (by decide +kernel) ?_
  refine T_icmp_gt 17 (dk dtk_X5_objectOf 4 rfl) (by decide) (fun c3 => ?_) (fun c3 => ?_)
  · have h := h.1 c3
    refine T_aload_n 0 (dk dtk_X5_objectOf 9 rfl) rfl rfl ?_
    refine T_getR o 1 80 (dk dtk_X5_objectOf 10 rfl) kfl_X5_21 (kk_M0 ho) (kl_M0 hq ho) (by decide) rfl (kr_M_1 ho) ?_
    refine T_getR 80 4 85 (dk dtk_X5_objectOf 11 rfl) kfl_X5_136 kk_80 (kl_80 hq) (by decide) rfl kr_80_4 ?_
    refine T_aload_n 0 (dk dtk_X5_objectOf 12 rfl) rfl rfl ?_
    refine T_iload_n 1 (dk dtk_X5_objectOf 13 rfl) rfl rfl ?_
    refine T_iconst (v := 2) (dk dtk_X5_objectOf 14 rfl) (by decide +kernel) ?_
    refine T_sub (lv2 := []) [] rfl ?_
    refine KC_Vi [vi l1, vi 2] [vr 85] rfl (dk dtk_X5_objectOf 15 rfl) kcv_X5_90 rfl (kk_M0 ho) rfl (kl_M0 hq ho) (Nat.le_of_ble_eq_true rfl) (Nat.le_of_ble_eq_true rfl) (gok_i av_n (as_c (gkr (kl_85 hq)) as_n)) rfl h (fun r5 x4 h => ?_)
    obtain ⟨h6, h⟩ := h
    refine T_iald 85 400 (dk dtk_X5_objectOf 16 rfl) kk_85 (kl_85 hq) h6 ?_
    exact KT_iret (dk dtk_X5_objectOf 17 rfl) rfl rfl h
  · have h := h.2 c3
    refine T_aload_n 0 (dk dtk_X5_objectOf 5 rfl) rfl rfl ?_
    refine T_iload_n 1 (dk dtk_X5_objectOf 6 rfl) rfl rfl ?_
    refine T_sub (lv2 := []) [] rfl ?_
    refine KC_Vi [vi l1] [] rfl (dk dtk_X5_objectOf 7 rfl) kcv_X5_133 rfl (kk_M0 ho) rfl (kl_M0 hq ho) (Nat.le_of_ble_eq_true rfl) (Nat.le_of_ble_eq_true rfl) (gok_i av_n as_n) rfl h (fun r8 x7 h => ?_)
    refine T_goto 31 (dk dtk_X5_objectOf 8 rfl) (by decide) ?_
    exact KT_iret (dk dtk_X5_objectOf 17 rfl) rfl rfl h
set_option maxRecDepth 100000 in
theorem dtk_X5_localsAt : dck cX5_localsAt [(0, .aload_n 0, 1), (1, .getfield 55, 3), (4, .iload_n 1, 1), (5, .aload_n 0, 1), (6, .getfield 64, 3), (9, .imul, 1), (10, .iadd, 1), (11, .bipush 8, 2), (13, .iadd, 1), (14, .ireturn, 1)] = true := by decide +kernel
set_option maxRecDepth 100000 in
set_option maxHeartbeats 4000000 in
theorem kg_X5_localsAt_0 {G : kG} {q : kP} {d : Nat} {x : gd} {P : Option gv → gd → Prop} (hq : kV q) {o : Nat} (ho : kiM q o) (l1 : Int32)
    (h : P (some (vi (((x.1 o 7) + (l1 * (x.1 o 8))) + 8))) x) :
    KT G q d zk_X5_localsAt 0 [(0, vr o), (1, vi l1)] [] x P := by
  refine T_aload_n 0 (dk dtk_X5_localsAt 0 rfl) rfl rfl ?_
  refine T_getI o 7 (dk dtk_X5_localsAt 1 rfl) kfl_X5_55 (kk_M0 ho) (kl_M0 hq ho) (by decide) rfl ?_
  refine T_iload_n 1 (dk dtk_X5_localsAt 2 rfl) rfl rfl ?_
  refine T_aload_n 0 (dk dtk_X5_localsAt 3 rfl) rfl rfl ?_
  refine T_getI o 8 (dk dtk_X5_localsAt 4 rfl) kfl_X5_64 (kk_M0 ho) (kl_M0 hq ho) (by decide) rfl ?_
  refine T_imul (dk dtk_X5_localsAt 5 rfl) ?_
  refine T_iadd (dk dtk_X5_localsAt 6 rfl) ?_
  refine T_bipush (v := 8) (dk dtk_X5_localsAt 7 rfl) (by decide +kernel) ?_
  refine T_iadd (dk dtk_X5_localsAt 8 rfl) ?_
  exact KT_iret (dk dtk_X5_localsAt 9 rfl) rfl rfl h
set_option maxRecDepth 100000 in
theorem dtk_X5_placeOf : dck cX5_placeOf [(0, .aload_n 0, 1), (1, .iload_n 1, 1), (2, .iconst 2, 1), (3, .invokevirtual 90, 3), (6, .istore_n 2, 1), (7, .aload_n 0, 1), (8, .getfield 21, 3), (11, .getfield 139, 3), (14, .iload_n 2, 1), (15, .iaload, 1), (16, .istore_n 3, 1), (17, .iload_n 3, 1), (18, .iconst (-1), 1), (19, .if_icmp .ne 13, 3), (22, .aload_n 0, 1), (23, .getfield 21, 3), (26, .getfield 136, 3), (29, .iload_n 2, 1), (30, .iaload, 1), (31, .ireturn, 1), (32, .aload_n 0, 1), (33, .getfield 11, 3), (36, .iload_n 3, 1), (37, .aload_n 0, 1), (38, .getfield 29, 3), (41, .aload_n 0, 1), (42, .iload_n 1, 1), (43, .invokevirtual 142, 3), (46, .iload_n 1, 1), (47, .invokevirtual 145, 3), (50, .istore 4, 2), (52, .aload_n 0, 1), (53, .getfield 11, 3), (56, .getfield 149, 3), (59, .ifCond .ne 22, 3), (62, .iload 4, 2), (64, .ifCond .lt 17, 3), (67, .iload 4, 2), (69, .aload_n 0, 1), (70, .getfield 21, 3), (73, .getfield 153, 3), (76, .iload_n 2, 1), (77, .iaload, 1), (78, .if_icmp .lt 24, 3), (81, .aload_n 0, 1), (82, .aload_n 0, 1), (83, .getfield 11, 3), (86, .getfield 149, 3), (89, .ifCond .eq 7, 3), (92, .iconst 1, 1), (93, .goto 4, 3), (96, .iconst 2, 1), (97, .putfield 154, 3), (100, .iconst (-1), 1), (101, .ireturn, 1), (102, .aload_n 0, 1), (103, .getfield 21, 3), (106, .getfield 136, 3), (109, .iload_n 2, 1), (110, .iaload, 1), (111, .iload 4, 2), (113, .iadd, 1), (114, .ireturn, 1)] = true := by decide +kernel
set_option maxRecDepth 100000 in
set_option maxHeartbeats 4000000 in
theorem kg_X5_placeOf_0 {G : kG} {q : kP} {d : Nat} {x : gd} {P : Option gv → gd → Prop} (hq : kV q) {o : Nat} (ho : kiM q o) (l1 : Int32)
    (h : KT G q d zk_X5_get 0 [(0, vr o), (1, vi l1), (2, vi 2)] [] x (ri (fun r2 x1 => vp_in r2 400 ∧ ((¬ ((x1.1 87 (r2 : Int32).toNatClampNeg) = (-1 : Int32)) → KT G q d zk_X5_localsAt 0 [(0, vr o), (1, vi l1)] [] x1 (ri (fun r6 x5 => KT G q d zk_X0_work 0 [(0, vr 60), (1, vi (x1.1 87 (r2 : Int32).toNatClampNeg)), (2, vr (o + 5)), (3, vi r6), (4, vi l1)] [] x5 (ri (fun r8 x7 => ((¬ ((x7.1 60 5) = (0 : Int32)) → KT G q (d + 1) zk_X5_placeOf 81 [(0, vr o)] [] x7 P) ∧ ((x7.1 60 5) = (0 : Int32) → ((r8 < (0 : Int32) → KT G q (d + 1) zk_X5_placeOf 81 [(0, vr o)] [] x7 P) ∧ (¬ (r8 < (0 : Int32)) → vp_in r2 400 ∧ ((r8 < (x7.1 86 (r2 : Int32).toNatClampNeg) → vp_in r2 400 ∧ P (some (vi ((x7.1 85 (r2 : Int32).toNatClampNeg) + r8))) x7) ∧ (¬ (r8 < (x7.1 86 (r2 : Int32).toNatClampNeg)) → KT G q (d + 1) zk_X5_placeOf 81 [(0, vr o)] [] x7 P))))))))))) ∧ ((x1.1 87 (r2 : Int32).toNatClampNeg) = (-1 : Int32) → vp_in r2 400 ∧ P (some (vi (x1.1 85 (r2 : Int32).toNatClampNeg))) x1))))) :
    KT G q (d + 1) zk_X5_placeOf 0 [(0, vr o), (1, vi l1)] [] x P := by
  refine T_aload_n 0 (dk dtk_X5_placeOf 0 rfl) rfl rfl ?_
  refine T_iload_n 1 (dk dtk_X5_placeOf 1 rfl) rfl rfl ?_
  refine T_iconst (v := 2) (dk dtk_X5_placeOf 2 rfl) (by decide +kernel) ?_
  refine KC_Vi [vi l1, vi 2] [] rfl (dk dtk_X5_placeOf 3 rfl) kcv_X5_90 rfl (kk_M0 ho) rfl (kl_M0 hq ho) (Nat.le_of_ble_eq_true rfl) (Nat.le_of_ble_eq_true rfl) (gok_i (av_c (gkr (kl_M0 hq ho)) (av_c rfl av_n)) as_n) rfl h (fun r2 x1 h => ?_)
  refine T_istore_n (lv2 := [(2, vi r2), (0, vr o), (1, vi l1)]) (dk dtk_X5_placeOf 4 rfl) rfl (by decide) rfl ?_
  refine T_aload_n 1 (dk dtk_X5_placeOf 5 rfl) rfl rfl ?_
  refine T_getR o 1 80 (dk dtk_X5_placeOf 6 rfl) kfl_X5_21 (kk_M0 ho) (kl_M0 hq ho) (by decide) rfl (kr_M_1 ho) ?_
  refine T_getR 80 6 87 (dk dtk_X5_placeOf 7 rfl) kfl_X5_139 kk_80 (kl_80 hq) (by decide) rfl kr_80_6 ?_
  refine T_iload_n 0 (dk dtk_X5_placeOf 8 rfl) rfl rfl ?_
  obtain ⟨h3, h⟩ := h
  refine T_iald 87 400 (dk dtk_X5_placeOf 9 rfl) kk_87 (kl_87 hq) h3 ?_
  refine T_istore_n (lv2 := [(3, vi (x1.1 87 (r2 : Int32).toNatClampNeg)), (2, vi r2), (0, vr o), (1, vi l1)]) (dk dtk_X5_placeOf 10 rfl) rfl (by decide) rfl ?_
  refine T_iload_n 0 (dk dtk_X5_placeOf 11 rfl) rfl rfl ?_
  refine T_iconst (v := (-1)) (dk dtk_X5_placeOf 12 rfl) (by decide +kernel) ?_
  refine T_icmp_ne 32 (dk dtk_X5_placeOf 13 rfl) (by decide) (fun c4 => ?_) (fun c4 => ?_)
  · have h := h.1 c4
    refine T_aload_n 2 (dk dtk_X5_placeOf 20 rfl) rfl rfl ?_
    refine T_getR o 0 60 (dk dtk_X5_placeOf 21 rfl) kfl_X5_11 (kk_M0 ho) (kl_M0 hq ho) (by decide) rfl (kr_M_0 ho) ?_
    refine T_iload_n 0 (dk dtk_X5_placeOf 22 rfl) rfl rfl ?_
    refine T_aload_n 2 (dk dtk_X5_placeOf 23 rfl) rfl rfl ?_
    refine T_getR o 4 (o + 5) (dk dtk_X5_placeOf 24 rfl) kfl_X5_29 (kk_M0 ho) (kl_M0 hq ho) (by decide) rfl (kr_M_4 ho) ?_
    refine T_aload_n 2 (dk dtk_X5_placeOf 25 rfl) rfl rfl ?_
    refine T_iload_n 3 (dk dtk_X5_placeOf 26 rfl) rfl rfl ?_
    refine T_sub (lv2 := [(2, vi r2), (0, vr o), (1, vi l1)]) [1, 2, 3] rfl ?_
    refine KC_Vi [vi l1] [vr (o + 5), vi (x1.1 87 (r2 : Int32).toNatClampNeg), vr 60] rfl (dk dtk_X5_placeOf 27 rfl) kcv_X5_142 rfl (kk_M0 ho) rfl (kl_M0 hq ho) (Nat.le_of_ble_eq_true rfl) (Nat.le_of_ble_eq_true rfl) (gok_i (av_c rfl (av_c (gkr (kl_M0 hq ho)) (av_c rfl av_n))) (as_c (gkr (kl_M5 hq ho)) (as_c rfl (as_c (gkr (kl_60 hq)) as_n)))) rfl h (fun r6 x5 h => ?_)
    refine T_iload_n 2 (dk dtk_X5_placeOf 28 rfl) rfl rfl ?_
    refine T_sub (lv2 := [(2, vi r2), (0, vr o)]) [0, 1] rfl ?_
    refine KC_Vi [vi (x1.1 87 (r2 : Int32).toNatClampNeg), vr (o + 5), vi r6, vi l1] [] rfl (dk dtk_X5_placeOf 29 rfl) kcv_X5_145 rfl kk_60 rfl (kl_60 hq) (Nat.le_of_ble_eq_true rfl) (Nat.le_of_ble_eq_true rfl) (gok_i (av_c rfl (av_c (gkr (kl_M0 hq ho)) av_n)) as_n) rfl h (fun r8 x7 h => ?_)
    refine T_istore (lv2 := [(4, vi r8), (2, vi r2), (0, vr o)]) (dk dtk_X5_placeOf 30 rfl) (by decide) rfl ?_
    refine T_aload_n 2 (dk dtk_X5_placeOf 31 rfl) rfl rfl ?_
    refine T_getR o 0 60 (dk dtk_X5_placeOf 32 rfl) kfl_X5_11 (kk_M0 ho) (kl_M0 hq ho) (by decide) rfl (kr_M_0 ho) ?_
    refine T_getI 60 5 (dk dtk_X5_placeOf 33 rfl) kfl_X5_149 kk_60 (kl_60 hq) (by decide) rfl ?_
    refine T_if_ne 81 (dk dtk_X5_placeOf 34 rfl) (by decide) (fun c9 => ?_) (fun c9 => ?_)
    · have h := h.1 c9
      exact T_sub [2] rfl h
    · have h := h.2 c9
      refine T_iload 0 (dk dtk_X5_placeOf 35 rfl) rfl ?_
      refine T_if_lt 81 (dk dtk_X5_placeOf 36 rfl) (by decide) (fun c10 => ?_) (fun c10 => ?_)
      · have h := h.1 c10
        exact T_sub [2] rfl h
      · have h := h.2 c10
        refine T_iload 0 (dk dtk_X5_placeOf 37 rfl) rfl ?_
        refine T_aload_n 2 (dk dtk_X5_placeOf 38 rfl) rfl rfl ?_
        refine T_getR o 1 80 (dk dtk_X5_placeOf 39 rfl) kfl_X5_21 (kk_M0 ho) (kl_M0 hq ho) (by decide) rfl (kr_M_1 ho) ?_
        refine T_getR 80 5 86 (dk dtk_X5_placeOf 40 rfl) kfl_X5_153 kk_80 (kl_80 hq) (by decide) rfl kr_80_5 ?_
        refine T_iload_n 1 (dk dtk_X5_placeOf 41 rfl) rfl rfl ?_
        obtain ⟨h11, h⟩ := h
        refine T_iald 86 400 (dk dtk_X5_placeOf 42 rfl) kk_86 (kl_86 hq) h11 ?_
        refine T_icmp_lt 102 (dk dtk_X5_placeOf 43 rfl) (by decide) (fun c12 => ?_) (fun c12 => ?_)
        · have h := h.1 c12
          refine T_aload_n 2 (dk dtk_X5_placeOf 55 rfl) rfl rfl ?_
          refine T_getR o 1 80 (dk dtk_X5_placeOf 56 rfl) kfl_X5_21 (kk_M0 ho) (kl_M0 hq ho) (by decide) rfl (kr_M_1 ho) ?_
          refine T_getR 80 4 85 (dk dtk_X5_placeOf 57 rfl) kfl_X5_136 kk_80 (kl_80 hq) (by decide) rfl kr_80_4 ?_
          refine T_iload_n 1 (dk dtk_X5_placeOf 58 rfl) rfl rfl ?_
          obtain ⟨h13, h⟩ := h
          refine T_iald 85 400 (dk dtk_X5_placeOf 59 rfl) kk_85 (kl_85 hq) h13 ?_
          refine T_iload 0 (dk dtk_X5_placeOf 60 rfl) rfl ?_
          refine T_iadd (dk dtk_X5_placeOf 61 rfl) ?_
          exact KT_iret (dk dtk_X5_placeOf 62 rfl) rfl rfl h
        · have h := h.2 c12
          exact T_sub [2] rfl h
  · have h := h.2 c4
    refine T_aload_n 2 (dk dtk_X5_placeOf 14 rfl) rfl rfl ?_
    refine T_getR o 1 80 (dk dtk_X5_placeOf 15 rfl) kfl_X5_21 (kk_M0 ho) (kl_M0 hq ho) (by decide) rfl (kr_M_1 ho) ?_
    refine T_getR 80 4 85 (dk dtk_X5_placeOf 16 rfl) kfl_X5_136 kk_80 (kl_80 hq) (by decide) rfl kr_80_4 ?_
    refine T_iload_n 1 (dk dtk_X5_placeOf 17 rfl) rfl rfl ?_
    obtain ⟨h14, h⟩ := h
    refine T_iald 85 400 (dk dtk_X5_placeOf 18 rfl) kk_85 (kl_85 hq) h14 ?_
    exact KT_iret (dk dtk_X5_placeOf 19 rfl) rfl rfl h
set_option maxRecDepth 100000 in
set_option maxHeartbeats 4000000 in
theorem kg_X5_placeOf_81 {G : kG} {q : kP} {d : Nat} {x : gd} {P : Option gv → gd → Prop} (hq : kV q) {o : Nat} (ho : kiM q o)
    (h : (((x.1 60 5) = (0 : Int32) → (∀ x2 : gd, x2 = si x o 14 2 → P (some (vi (-1))) x2)) ∧ (¬ ((x.1 60 5) = (0 : Int32)) → (∀ x3 : gd, x3 = si x o 14 1 → P (some (vi (-1))) x3)))) :
    KT G q (d + 1) zk_X5_placeOf 81 [(0, vr o)] [] x P := by
  refine T_aload_n 0 (dk dtk_X5_placeOf 44 rfl) rfl rfl ?_
  refine T_aload_n 0 (dk dtk_X5_placeOf 45 rfl) rfl rfl ?_
  refine T_getR o 0 60 (dk dtk_X5_placeOf 46 rfl) kfl_X5_11 (kk_M0 ho) (kl_M0 hq ho) (by decide) rfl (kr_M_0 ho) ?_
  refine T_getI 60 5 (dk dtk_X5_placeOf 47 rfl) kfl_X5_149 kk_60 (kl_60 hq) (by decide) rfl ?_
  refine T_if_eq 96 (dk dtk_X5_placeOf 48 rfl) (by decide) (fun c1 => ?_) (fun c1 => ?_)
  · have h := h.1 c1
    refine T_iconst (v := 2) (dk dtk_X5_placeOf 51 rfl) (by decide +kernel) ?_
    obtain ⟨x2, ex2⟩ : ∃ z, z = si x o 14 2 := ⟨_, rfl⟩
    have h := h x2 ex2
    refine T_putI o 14 (dk dtk_X5_placeOf 52 rfl) kfl_X5_154 (kk_M0 ho) (kl_M0 hq ho) (by decide) rfl ⟨rfl, rfl⟩ ?_
    rw [← ex2]
    refine T_iconst (v := (-1)) (dk dtk_X5_placeOf 53 rfl) (by decide +kernel) ?_
    exact KT_iret (dk dtk_X5_placeOf 54 rfl) rfl rfl h
  · have h := h.2 c1
    refine T_iconst (v := 1) (dk dtk_X5_placeOf 49 rfl) (by decide +kernel) ?_
    refine T_goto 97 (dk dtk_X5_placeOf 50 rfl) (by decide) ?_
    obtain ⟨x3, ex3⟩ : ∃ z, z = si x o 14 1 := ⟨_, rfl⟩
    have h := h x3 ex3
    refine T_putI o 14 (dk dtk_X5_placeOf 52 rfl) kfl_X5_154 (kk_M0 ho) (kl_M0 hq ho) (by decide) rfl ⟨rfl, rfl⟩ ?_
    rw [← ex3]
    refine T_iconst (v := (-1)) (dk dtk_X5_placeOf 53 rfl) (by decide +kernel) ?_
    exact KT_iret (dk dtk_X5_placeOf 54 rfl) rfl rfl h
set_option maxRecDepth 100000 in
theorem dtk_X5_goesLate : dck cX5_goesLate [(0, .aload_n 0, 1), (1, .getfield 42, 3), (4, .iconst 1, 1), (5, .if_icmp .ne 40, 3), (8, .aload_n 0, 1), (9, .getfield 21, 3), (12, .getfield 127, 3), (15, .iload_n 1, 1), (16, .iaload, 1), (17, .iconst 1, 1), (18, .if_icmp .ne 27, 3), (21, .aload_n 0, 1), (22, .getfield 11, 3), (25, .getfield 157, 3), (28, .aload_n 0, 1), (29, .getfield 21, 3), (32, .getfield 136, 3), (35, .iload_n 1, 1), (36, .iaload, 1), (37, .baload, 1), (38, .ifCond .ne 7, 3), (41, .iconst 1, 1), (42, .goto 4, 3), (45, .iconst 0, 1), (46, .ireturn, 1)] = true := by decide +kernel
set_option maxRecDepth 100000 in
set_option maxHeartbeats 4000000 in
theorem kg_X5_goesLate_0 {G : kG} {q : kP} {d : Nat} {x : gd} {P : Option gv → gd → Prop} (hq : kV q) {o : Nat} (ho : kiM q o) (l1 : Int32)
    (h : ((¬ ((x.1 o 3) = (1 : Int32)) → P (some (vi 0)) x) ∧ ((x.1 o 3) = (1 : Int32) → vp_in l1 400 ∧ ((¬ ((x.1 81 (l1 : Int32).toNatClampNeg) = (1 : Int32)) → P (some (vi 0)) x) ∧ ((x.1 81 (l1 : Int32).toNatClampNeg) = (1 : Int32) → vp_in l1 400 ∧ vp_in (x.1 85 (l1 : Int32).toNatClampNeg) 24 ∧ ((¬ ((x.1 69 (x.1 85 (l1 : Int32).toNatClampNeg : Int32).toNatClampNeg) = (0 : Int32)) → P (some (vi 0)) x) ∧ ((x.1 69 (x.1 85 (l1 : Int32).toNatClampNeg : Int32).toNatClampNeg) = (0 : Int32) → P (some (vi 1)) x))))))) :
    KT G q d zk_X5_goesLate 0 [(0, vr o), (1, vi l1)] [] x P := by
  refine T_aload_n 0 (dk dtk_X5_goesLate 0 rfl) rfl rfl ?_
  refine T_getI o 3 (dk dtk_X5_goesLate 1 rfl) kfl_X5_42 (kk_M0 ho) (kl_M0 hq ho) (by decide) rfl ?_
  refine T_iconst (v := 1) (dk dtk_X5_goesLate 2 rfl) (by decide +kernel) ?_
  refine T_icmp_ne 45 (dk dtk_X5_goesLate 3 rfl) (by decide) (fun c1 => ?_) (fun c1 => ?_)
  · have h := h.1 c1
    refine T_iconst (v := 0) (dk dtk_X5_goesLate 23 rfl) (by decide +kernel) ?_
    exact KT_iret (dk dtk_X5_goesLate 24 rfl) rfl rfl h
  · have h := h.2 c1
    refine T_aload_n 0 (dk dtk_X5_goesLate 4 rfl) rfl rfl ?_
    refine T_getR o 1 80 (dk dtk_X5_goesLate 5 rfl) kfl_X5_21 (kk_M0 ho) (kl_M0 hq ho) (by decide) rfl (kr_M_1 ho) ?_
    refine T_getR 80 0 81 (dk dtk_X5_goesLate 6 rfl) kfl_X5_127 kk_80 (kl_80 hq) (by decide) rfl kr_80_0 ?_
    refine T_iload_n 1 (dk dtk_X5_goesLate 7 rfl) rfl rfl ?_
    obtain ⟨h2, h⟩ := h
    refine T_iald 81 400 (dk dtk_X5_goesLate 8 rfl) kk_81 (kl_81 hq) h2 ?_
    refine T_iconst (v := 1) (dk dtk_X5_goesLate 9 rfl) (by decide +kernel) ?_
    refine T_icmp_ne 45 (dk dtk_X5_goesLate 10 rfl) (by decide) (fun c3 => ?_) (fun c3 => ?_)
    · have h := h.1 c3
      refine T_iconst (v := 0) (dk dtk_X5_goesLate 23 rfl) (by decide +kernel) ?_
      exact KT_iret (dk dtk_X5_goesLate 24 rfl) rfl rfl h
    · have h := h.2 c3
      refine T_aload_n 0 (dk dtk_X5_goesLate 11 rfl) rfl rfl ?_
      refine T_getR o 0 60 (dk dtk_X5_goesLate 12 rfl) kfl_X5_11 (kk_M0 ho) (kl_M0 hq ho) (by decide) rfl (kr_M_0 ho) ?_
      refine T_getR 60 8 69 (dk dtk_X5_goesLate 13 rfl) kfl_X5_157 kk_60 (kl_60 hq) (by decide) rfl kr_60_8 ?_
      refine T_aload_n 0 (dk dtk_X5_goesLate 14 rfl) rfl rfl ?_
      refine T_getR o 1 80 (dk dtk_X5_goesLate 15 rfl) kfl_X5_21 (kk_M0 ho) (kl_M0 hq ho) (by decide) rfl (kr_M_1 ho) ?_
      refine T_getR 80 4 85 (dk dtk_X5_goesLate 16 rfl) kfl_X5_136 kk_80 (kl_80 hq) (by decide) rfl kr_80_4 ?_
      refine T_iload_n 1 (dk dtk_X5_goesLate 17 rfl) rfl rfl ?_
      obtain ⟨h4, h⟩ := h
      refine T_iald 85 400 (dk dtk_X5_goesLate 18 rfl) kk_85 (kl_85 hq) h4 ?_
      obtain ⟨h5, h⟩ := h
      refine T_zald 69 24 (dk dtk_X5_goesLate 19 rfl) kk_69 (kl_69 hq) h5 ?_
      refine T_if_ne 45 (dk dtk_X5_goesLate 20 rfl) (by decide) (fun c6 => ?_) (fun c6 => ?_)
      · have h := h.1 c6
        refine T_iconst (v := 0) (dk dtk_X5_goesLate 23 rfl) (by decide +kernel) ?_
        exact KT_iret (dk dtk_X5_goesLate 24 rfl) rfl rfl h
      · have h := h.2 c6
        refine T_iconst (v := 1) (dk dtk_X5_goesLate 21 rfl) (by decide +kernel) ?_
        refine T_goto 46 (dk dtk_X5_goesLate 22 rfl) (by decide) ?_
        exact KT_iret (dk dtk_X5_goesLate 24 rfl) rfl rfl h
set_option maxRecDepth 100000 in
theorem dtk_X5_accessFails : dck cX5_accessFails [(0, .aload_n 0, 1), (1, .iload_n 1, 1), (2, .iconst 2, 1), (3, .invokevirtual 90, 3), (6, .istore_n 2, 1), (7, .aload_n 0, 1), (8, .iload_n 1, 1), (9, .invokevirtual 133, 3), (12, .iconst (-1), 1), (13, .if_icmp .ne 5, 3), (16, .iconst 1, 1), (17, .ireturn, 1), (18, .aload_n 0, 1), (19, .getfield 21, 3), (22, .getfield 160, 3), (25, .iload_n 2, 1), (26, .iaload, 1), (27, .iconst (-1), 1), (28, .if_icmp .eq 42, 3), (31, .aload_n 0, 1), (32, .getfield 11, 3), (35, .aload_n 0, 1), (36, .getfield 21, 3), (39, .getfield 160, 3), (42, .iload_n 2, 1), (43, .iaload, 1), (44, .aload_n 0, 1), (45, .getfield 29, 3), (48, .aload_n 0, 1), (49, .iload_n 1, 1), (50, .invokevirtual 142, 3), (53, .iload_n 1, 1), (54, .invokevirtual 145, 3), (57, .pop, 1), (58, .aload_n 0, 1), (59, .getfield 11, 3), (62, .getfield 149, 3), (65, .ifCond .eq 5, 3), (68, .iconst 1, 1), (69, .ireturn, 1), (70, .aload_n 0, 1), (71, .getfield 21, 3), (74, .getfield 163, 3), (77, .iload_n 2, 1), (78, .iaload, 1), (79, .iconst (-1), 1), (80, .if_icmp .eq 42, 3), (83, .aload_n 0, 1), (84, .getfield 11, 3), (87, .aload_n 0, 1), (88, .getfield 21, 3), (91, .getfield 163, 3), (94, .iload_n 2, 1), (95, .iaload, 1), (96, .aload_n 0, 1), (97, .getfield 29, 3), (100, .aload_n 0, 1), (101, .iload_n 1, 1), (102, .invokevirtual 142, 3), (105, .iload_n 1, 1), (106, .invokevirtual 145, 3), (109, .pop, 1), (110, .aload_n 0, 1), (111, .getfield 11, 3), (114, .getfield 149, 3), (117, .ifCond .eq 5, 3), (120, .iconst 1, 1), (121, .ireturn, 1), (122, .aload_n 0, 1), (123, .iload_n 2, 1), (124, .invokevirtual 166, 3), (127, .ifCond .eq 19, 3), (130, .aload_n 0, 1), (131, .iload_n 1, 1), (132, .bipush 7, 2), (134, .invokevirtual 90, 3), (137, .bipush 8, 2), (139, .if_icmp .lt 7, 3), (142, .iconst 1, 1), (143, .goto 4, 3), (146, .iconst 0, 1), (147, .ireturn, 1)] = true := by decide +kernel
set_option maxRecDepth 100000 in
set_option maxHeartbeats 4000000 in
theorem kg_X5_accessFails_0 {G : kG} {q : kP} {d : Nat} {x : gd} {P : Option gv → gd → Prop} (hq : kV q) {o : Nat} (ho : kiM q o) (l1 : Int32)
    (h : KT G q d zk_X5_get 0 [(0, vr o), (1, vi l1), (2, vi 2)] [] x (ri (fun r2 x1 => KT G q d zk_X5_placeOf 0 [(0, vr o), (1, vi l1)] [] x1 (ri (fun r4 x3 => ((¬ (r4 = (-1 : Int32)) → vp_in r2 400 ∧ (((x3.1 88 (r2 : Int32).toNatClampNeg) = (-1 : Int32) → KT G q (d + 1) zk_X5_accessFails 70 [(0, vr o), (1, vi l1), (2, vi r2)] [] x3 P) ∧ (¬ ((x3.1 88 (r2 : Int32).toNatClampNeg) = (-1 : Int32)) → vp_in r2 400 ∧ KT G q d zk_X5_localsAt 0 [(0, vr o), (1, vi l1)] [] x3 (ri (fun r10 x9 => KT G q d zk_X0_work 0 [(0, vr 60), (1, vi (x3.1 88 (r2 : Int32).toNatClampNeg)), (2, vr (o + 5)), (3, vi r10), (4, vi l1)] [] x9 (ri (fun r12 x11 => (((x11.1 60 5) = (0 : Int32) → KT G q (d + 1) zk_X5_accessFails 70 [(0, vr o), (1, vi l1), (2, vi r2)] [] x11 P) ∧ (¬ ((x11.1 60 5) = (0 : Int32)) → P (some (vi 1)) x11))))))))) ∧ (r4 = (-1 : Int32) → P (some (vi 1)) x3))))))) :
    KT G q (d + 1) zk_X5_accessFails 0 [(0, vr o), (1, vi l1)] [] x P := by
  refine T_aload_n 0 (dk dtk_X5_accessFails 0 rfl) rfl rfl ?_
  refine T_iload_n 1 (dk dtk_X5_accessFails 1 rfl) rfl rfl ?_
  refine T_iconst (v := 2) (dk dtk_X5_accessFails 2 rfl) (by decide +kernel) ?_
  refine KC_Vi [vi l1, vi 2] [] rfl (dk dtk_X5_accessFails 3 rfl) kcv_X5_90 rfl (kk_M0 ho) rfl (kl_M0 hq ho) (Nat.le_of_ble_eq_true rfl) (Nat.le_of_ble_eq_true rfl) (gok_i (av_c (gkr (kl_M0 hq ho)) (av_c rfl av_n)) as_n) rfl h (fun r2 x1 h => ?_)
  refine T_istore_n (lv2 := [(2, vi r2), (0, vr o), (1, vi l1)]) (dk dtk_X5_accessFails 4 rfl) rfl (by decide) rfl ?_
  refine T_aload_n 1 (dk dtk_X5_accessFails 5 rfl) rfl rfl ?_
  refine T_iload_n 2 (dk dtk_X5_accessFails 6 rfl) rfl rfl ?_
  refine KC_Vi [vi l1] [] rfl (dk dtk_X5_accessFails 7 rfl) kcv_X5_133 rfl (kk_M0 ho) rfl (kl_M0 hq ho) (Nat.le_of_ble_eq_true rfl) (Nat.le_of_ble_eq_true rfl) (gok_i (av_c rfl (av_c (gkr (kl_M0 hq ho)) (av_c rfl av_n))) as_n) rfl h (fun r4 x3 h => ?_)
  refine T_iconst (v := (-1)) (dk dtk_X5_accessFails 8 rfl) (by decide +kernel) ?_
  refine T_icmp_ne 18 (dk dtk_X5_accessFails 9 rfl) (by decide) (fun c5 => ?_) (fun c5 => ?_)
  · have h := h.1 c5
    refine T_aload_n 1 (dk dtk_X5_accessFails 12 rfl) rfl rfl ?_
    refine T_getR o 1 80 (dk dtk_X5_accessFails 13 rfl) kfl_X5_21 (kk_M0 ho) (kl_M0 hq ho) (by decide) rfl (kr_M_1 ho) ?_
    refine T_getR 80 7 88 (dk dtk_X5_accessFails 14 rfl) kfl_X5_160 kk_80 (kl_80 hq) (by decide) rfl kr_80_7 ?_
    refine T_iload_n 0 (dk dtk_X5_accessFails 15 rfl) rfl rfl ?_
    obtain ⟨h6, h⟩ := h
    refine T_iald 88 400 (dk dtk_X5_accessFails 16 rfl) kk_88 (kl_88 hq) h6 ?_
    refine T_iconst (v := (-1)) (dk dtk_X5_accessFails 17 rfl) (by decide +kernel) ?_
    refine T_icmp_eq 70 (dk dtk_X5_accessFails 18 rfl) (by decide) (fun c7 => ?_) (fun c7 => ?_)
    · have h := h.1 c7
      exact T_sub [1, 2, 0] rfl h
    · have h := h.2 c7
      refine T_aload_n 1 (dk dtk_X5_accessFails 19 rfl) rfl rfl ?_
      refine T_getR o 0 60 (dk dtk_X5_accessFails 20 rfl) kfl_X5_11 (kk_M0 ho) (kl_M0 hq ho) (by decide) rfl (kr_M_0 ho) ?_
      refine T_aload_n 1 (dk dtk_X5_accessFails 21 rfl) rfl rfl ?_
      refine T_getR o 1 80 (dk dtk_X5_accessFails 22 rfl) kfl_X5_21 (kk_M0 ho) (kl_M0 hq ho) (by decide) rfl (kr_M_1 ho) ?_
      refine T_getR 80 7 88 (dk dtk_X5_accessFails 23 rfl) kfl_X5_160 kk_80 (kl_80 hq) (by decide) rfl kr_80_7 ?_
      refine T_iload_n 0 (dk dtk_X5_accessFails 24 rfl) rfl rfl ?_
      obtain ⟨h8, h⟩ := h
      refine T_iald 88 400 (dk dtk_X5_accessFails 25 rfl) kk_88 (kl_88 hq) h8 ?_
      refine T_aload_n 1 (dk dtk_X5_accessFails 26 rfl) rfl rfl ?_
      refine T_getR o 4 (o + 5) (dk dtk_X5_accessFails 27 rfl) kfl_X5_29 (kk_M0 ho) (kl_M0 hq ho) (by decide) rfl (kr_M_4 ho) ?_
      refine T_aload_n 1 (dk dtk_X5_accessFails 28 rfl) rfl rfl ?_
      refine T_iload_n 2 (dk dtk_X5_accessFails 29 rfl) rfl rfl ?_
      refine KC_Vi [vi l1] [vr (o + 5), vi (x3.1 88 (r2 : Int32).toNatClampNeg), vr 60] rfl (dk dtk_X5_accessFails 30 rfl) kcv_X5_142 rfl (kk_M0 ho) rfl (kl_M0 hq ho) (Nat.le_of_ble_eq_true rfl) (Nat.le_of_ble_eq_true rfl) (gok_i (av_c rfl (av_c (gkr (kl_M0 hq ho)) (av_c rfl av_n))) (as_c (gkr (kl_M5 hq ho)) (as_c rfl (as_c (gkr (kl_60 hq)) as_n)))) rfl h (fun r10 x9 h => ?_)
      refine T_iload_n 2 (dk dtk_X5_accessFails 31 rfl) rfl rfl ?_
      refine KC_Vi [vi (x3.1 88 (r2 : Int32).toNatClampNeg), vr (o + 5), vi r10, vi l1] [] rfl (dk dtk_X5_accessFails 32 rfl) kcv_X5_145 rfl kk_60 rfl (kl_60 hq) (Nat.le_of_ble_eq_true rfl) (Nat.le_of_ble_eq_true rfl) (gok_i (av_c rfl (av_c (gkr (kl_M0 hq ho)) (av_c rfl av_n))) as_n) rfl h (fun r12 x11 h => ?_)
      refine T_pop (dk dtk_X5_accessFails 33 rfl) rfl ?_
      refine T_aload_n 1 (dk dtk_X5_accessFails 34 rfl) rfl rfl ?_
      refine T_getR o 0 60 (dk dtk_X5_accessFails 35 rfl) kfl_X5_11 (kk_M0 ho) (kl_M0 hq ho) (by decide) rfl (kr_M_0 ho) ?_
      refine T_getI 60 5 (dk dtk_X5_accessFails 36 rfl) kfl_X5_149 kk_60 (kl_60 hq) (by decide) rfl ?_
      refine T_if_eq 70 (dk dtk_X5_accessFails 37 rfl) (by decide) (fun c13 => ?_) (fun c13 => ?_)
      · have h := h.1 c13
        exact T_sub [1, 2, 0] rfl h
      · have h := h.2 c13
        refine T_iconst (v := 1) (dk dtk_X5_accessFails 38 rfl) (by decide +kernel) ?_
        exact KT_iret (dk dtk_X5_accessFails 39 rfl) rfl rfl h
  · have h := h.2 c5
    refine T_iconst (v := 1) (dk dtk_X5_accessFails 10 rfl) (by decide +kernel) ?_
    exact KT_iret (dk dtk_X5_accessFails 11 rfl) rfl rfl h
set_option maxRecDepth 100000 in
set_option maxHeartbeats 4000000 in
theorem kg_X5_accessFails_70 {G : kG} {q : kP} {d : Nat} {x : gd} {P : Option gv → gd → Prop} (hq : kV q) {o : Nat} (ho : kiM q o) (l1 : Int32) (l2 : Int32)
    (h : vp_in l2 400 ∧ (((x.1 89 (l2 : Int32).toNatClampNeg) = (-1 : Int32) → KT G q (d + 1) zk_X5_accessFails 122 [(0, vr o), (1, vi l1), (2, vi l2)] [] x P) ∧ (¬ ((x.1 89 (l2 : Int32).toNatClampNeg) = (-1 : Int32)) → vp_in l2 400 ∧ KT G q d zk_X5_localsAt 0 [(0, vr o), (1, vi l1)] [] x (ri (fun r5 x4 => KT G q d zk_X0_work 0 [(0, vr 60), (1, vi (x.1 89 (l2 : Int32).toNatClampNeg)), (2, vr (o + 5)), (3, vi r5), (4, vi l1)] [] x4 (ri (fun r7 x6 => (((x6.1 60 5) = (0 : Int32) → KT G q (d + 1) zk_X5_accessFails 122 [(0, vr o), (1, vi l1), (2, vi l2)] [] x6 P) ∧ (¬ ((x6.1 60 5) = (0 : Int32)) → P (some (vi 1)) x6))))))))) :
    KT G q (d + 1) zk_X5_accessFails 70 [(0, vr o), (1, vi l1), (2, vi l2)] [] x P := by
  refine T_aload_n 0 (dk dtk_X5_accessFails 40 rfl) rfl rfl ?_
  refine T_getR o 1 80 (dk dtk_X5_accessFails 41 rfl) kfl_X5_21 (kk_M0 ho) (kl_M0 hq ho) (by decide) rfl (kr_M_1 ho) ?_
  refine T_getR 80 8 89 (dk dtk_X5_accessFails 42 rfl) kfl_X5_163 kk_80 (kl_80 hq) (by decide) rfl kr_80_8 ?_
  refine T_iload_n 2 (dk dtk_X5_accessFails 43 rfl) rfl rfl ?_
  obtain ⟨h1, h⟩ := h
  refine T_iald 89 400 (dk dtk_X5_accessFails 44 rfl) kk_89 (kl_89 hq) h1 ?_
  refine T_iconst (v := (-1)) (dk dtk_X5_accessFails 45 rfl) (by decide +kernel) ?_
  refine T_icmp_eq 122 (dk dtk_X5_accessFails 46 rfl) (by decide) (fun c2 => ?_) (fun c2 => ?_)
  · have h := h.1 c2
    exact h
  · have h := h.2 c2
    refine T_aload_n 0 (dk dtk_X5_accessFails 47 rfl) rfl rfl ?_
    refine T_getR o 0 60 (dk dtk_X5_accessFails 48 rfl) kfl_X5_11 (kk_M0 ho) (kl_M0 hq ho) (by decide) rfl (kr_M_0 ho) ?_
    refine T_aload_n 0 (dk dtk_X5_accessFails 49 rfl) rfl rfl ?_
    refine T_getR o 1 80 (dk dtk_X5_accessFails 50 rfl) kfl_X5_21 (kk_M0 ho) (kl_M0 hq ho) (by decide) rfl (kr_M_1 ho) ?_
    refine T_getR 80 8 89 (dk dtk_X5_accessFails 51 rfl) kfl_X5_163 kk_80 (kl_80 hq) (by decide) rfl kr_80_8 ?_
    refine T_iload_n 2 (dk dtk_X5_accessFails 52 rfl) rfl rfl ?_
    obtain ⟨h3, h⟩ := h
    refine T_iald 89 400 (dk dtk_X5_accessFails 53 rfl) kk_89 (kl_89 hq) h3 ?_
    refine T_aload_n 0 (dk dtk_X5_accessFails 54 rfl) rfl rfl ?_
    refine T_getR o 4 (o + 5) (dk dtk_X5_accessFails 55 rfl) kfl_X5_29 (kk_M0 ho) (kl_M0 hq ho) (by decide) rfl (kr_M_4 ho) ?_
    refine T_aload_n 0 (dk dtk_X5_accessFails 56 rfl) rfl rfl ?_
    refine T_iload_n 1 (dk dtk_X5_accessFails 57 rfl) rfl rfl ?_
    refine KC_Vi [vi l1] [vr (o + 5), vi (x.1 89 (l2 : Int32).toNatClampNeg), vr 60] rfl (dk dtk_X5_accessFails 58 rfl) kcv_X5_142 rfl (kk_M0 ho) rfl (kl_M0 hq ho) (Nat.le_of_ble_eq_true rfl) (Nat.le_of_ble_eq_true rfl) (gok_i (av_c (gkr (kl_M0 hq ho)) (av_c rfl (av_c rfl av_n))) (as_c (gkr (kl_M5 hq ho)) (as_c rfl (as_c (gkr (kl_60 hq)) as_n)))) rfl h (fun r5 x4 h => ?_)
    refine T_iload_n 1 (dk dtk_X5_accessFails 59 rfl) rfl rfl ?_
    refine KC_Vi [vi (x.1 89 (l2 : Int32).toNatClampNeg), vr (o + 5), vi r5, vi l1] [] rfl (dk dtk_X5_accessFails 60 rfl) kcv_X5_145 rfl kk_60 rfl (kl_60 hq) (Nat.le_of_ble_eq_true rfl) (Nat.le_of_ble_eq_true rfl) (gok_i (av_c (gkr (kl_M0 hq ho)) (av_c rfl (av_c rfl av_n))) as_n) rfl h (fun r7 x6 h => ?_)
    refine T_pop (dk dtk_X5_accessFails 61 rfl) rfl ?_
    refine T_aload_n 0 (dk dtk_X5_accessFails 62 rfl) rfl rfl ?_
    refine T_getR o 0 60 (dk dtk_X5_accessFails 63 rfl) kfl_X5_11 (kk_M0 ho) (kl_M0 hq ho) (by decide) rfl (kr_M_0 ho) ?_
    refine T_getI 60 5 (dk dtk_X5_accessFails 64 rfl) kfl_X5_149 kk_60 (kl_60 hq) (by decide) rfl ?_
    refine T_if_eq 122 (dk dtk_X5_accessFails 65 rfl) (by decide) (fun c8 => ?_) (fun c8 => ?_)
    · have h := h.1 c8
      exact h
    · have h := h.2 c8
      refine T_iconst (v := 1) (dk dtk_X5_accessFails 66 rfl) (by decide +kernel) ?_
      exact KT_iret (dk dtk_X5_accessFails 67 rfl) rfl rfl h
set_option maxRecDepth 100000 in
set_option maxHeartbeats 4000000 in
theorem kg_X5_accessFails_122 {G : kG} {q : kP} {d : Nat} {x : gd} {P : Option gv → gd → Prop} (hq : kV q) {o : Nat} (ho : kiM q o) (l1 : Int32) (l2 : Int32)
    (h : KT G q d zk_X5_goesLate 0 [(0, vr o), (1, vi l2)] [] x (ri (fun r2 x1 => ((r2 = (0 : Int32) → P (some (vi 0)) x1) ∧ (¬ (r2 = (0 : Int32)) → KT G q d zk_X5_get 0 [(0, vr o), (1, vi l1), (2, vi 7)] [] x1 (ri (fun r5 x4 => ((r5 < (8 : Int32) → P (some (vi 0)) x4) ∧ (¬ (r5 < (8 : Int32)) → P (some (vi 1)) x4))))))))) :
    KT G q (d + 1) zk_X5_accessFails 122 [(0, vr o), (1, vi l1), (2, vi l2)] [] x P := by
  refine T_aload_n 0 (dk dtk_X5_accessFails 68 rfl) rfl rfl ?_
  refine T_iload_n 2 (dk dtk_X5_accessFails 69 rfl) rfl rfl ?_
  refine T_sub (lv2 := [(0, vr o), (1, vi l1)]) [0, 1] rfl ?_
  refine KC_Vi [vi l2] [] rfl (dk dtk_X5_accessFails 70 rfl) kcv_X5_166 rfl (kk_M0 ho) rfl (kl_M0 hq ho) (Nat.le_of_ble_eq_true rfl) (Nat.le_of_ble_eq_true rfl) (gok_i (av_c (gkr (kl_M0 hq ho)) (av_c rfl av_n)) as_n) rfl h (fun r2 x1 h => ?_)
  refine T_if_eq 146 (dk dtk_X5_accessFails 71 rfl) (by decide) (fun c3 => ?_) (fun c3 => ?_)
  · have h := h.1 c3
    refine T_iconst (v := 0) (dk dtk_X5_accessFails 80 rfl) (by decide +kernel) ?_
    exact KT_iret (dk dtk_X5_accessFails 81 rfl) rfl rfl h
  · have h := h.2 c3
    refine T_aload_n 0 (dk dtk_X5_accessFails 72 rfl) rfl rfl ?_
    refine T_iload_n 1 (dk dtk_X5_accessFails 73 rfl) rfl rfl ?_
    refine T_bipush (v := 7) (dk dtk_X5_accessFails 74 rfl) (by decide +kernel) ?_
    refine T_sub (lv2 := []) [] rfl ?_
    refine KC_Vi [vi l1, vi 7] [] rfl (dk dtk_X5_accessFails 75 rfl) kcv_X5_90 rfl (kk_M0 ho) rfl (kl_M0 hq ho) (Nat.le_of_ble_eq_true rfl) (Nat.le_of_ble_eq_true rfl) (gok_i av_n as_n) rfl h (fun r5 x4 h => ?_)
    refine T_bipush (v := 8) (dk dtk_X5_accessFails 76 rfl) (by decide +kernel) ?_
    refine T_icmp_lt 146 (dk dtk_X5_accessFails 77 rfl) (by decide) (fun c6 => ?_) (fun c6 => ?_)
    · have h := h.1 c6
      refine T_iconst (v := 0) (dk dtk_X5_accessFails 80 rfl) (by decide +kernel) ?_
      exact KT_iret (dk dtk_X5_accessFails 81 rfl) rfl rfl h
    · have h := h.2 c6
      refine T_iconst (v := 1) (dk dtk_X5_accessFails 78 rfl) (by decide +kernel) ?_
      refine T_goto 147 (dk dtk_X5_accessFails 79 rfl) (by decide) ?_
      exact KT_iret (dk dtk_X5_accessFails 81 rfl) rfl rfl h
