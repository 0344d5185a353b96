set_option maxRecDepth 100000 in
theorem dtk_X5_doRetake : dck cX5_doRetake [(0, .aload_n 0, 1), (1, .iload_n 2, 1), (2, .iload_n 1, 1), (3, .aload_n 0, 1), (4, .iload_n 1, 1), (5, .iconst 4, 1), (6, .invokevirtual 90, 3), (9, .invokevirtual 219, 3), (12, .aload_n 0, 1), (13, .iload_n 1, 1), (14, .iconst 3, 1), (15, .iconst 0, 1), (16, .invokevirtual 117, 3), (19, .aload_n 0, 1), (20, .iload_n 1, 1), (21, .iconst 4, 1), (22, .iconst 0, 1), (23, .invokevirtual 117, 3), (26, .aload_n 0, 1), (27, .iload_n 1, 1), (28, .iconst 5, 1), (29, .iconst 0, 1), (30, .invokevirtual 117, 3), (33, .iconst 0, 1), (34, .ireturn, 1)] = true := by decide +kernel
set_option maxRecDepth 100000 in
set_option maxHeartbeats 4000000 in
theorem kg_X5_doRetake_0 {G : kG} {q : kP} {d : Nat} {x : gd} {P : Option gv → gd → Prop} (hq : kV q) {o : Nat} (ho : kiM q o) (l1 : Int32) (l2 : Int32)
    (h : KT G q d zk_X5_get 0 [(0, vr o), (1, vi l1), (2, vi 4)] [] x (ri (fun r2 x1 => KT G q d zk_X5_setLock 0 [(0, vr o), (1, vi l2), (2, vi l1), (3, vi r2)] [] x1 (rv (fun x3 => KT G q d zk_X5_set 0 [(0, vr o), (1, vi l1), (2, vi 3), (3, vi 0)] [] x3 (rv (fun x4 => KT G q d zk_X5_set 0 [(0, vr o), (1, vi l1), (2, vi 4), (3, vi 0)] [] x4 (rv (fun x5 => KT G q d zk_X5_set 0 [(0, vr o), (1, vi l1), (2, vi 5), (3, vi 0)] [] x5 (rv (fun x6 => P (some (vi 0)) x6))))))))))) :
    KT G q (d + 1) zk_X5_doRetake 0 [(0, vr o), (1, vi l1), (2, vi l2)] [] x P := by
  refine T_aload_n 0 (dk dtk_X5_doRetake 0 rfl) rfl rfl ?_
  refine T_iload_n 2 (dk dtk_X5_doRetake 1 rfl) rfl rfl ?_
  refine T_iload_n 1 (dk dtk_X5_doRetake 2 rfl) rfl rfl ?_
  refine T_aload_n 0 (dk dtk_X5_doRetake 3 rfl) rfl rfl ?_
  refine T_iload_n 1 (dk dtk_X5_doRetake 4 rfl) rfl rfl ?_
  refine T_iconst (v := 4) (dk dtk_X5_doRetake 5 rfl) (by decide +kernel) ?_
  refine T_sub (lv2 := [(0, vr o), (1, vi l1)]) [0, 1] rfl ?_
  refine KC_Vi [vi l1, vi 4] [vi l1, vi l2, vr o] rfl (dk dtk_X5_doRetake 6 rfl) kcv_X5_90 rfl (kk_M0 ho) rfl (kl_M0 hq ho) (Nat.le_of_ble_eq_true rfl) (Nat.le_of_ble_eq_true rfl) (gok_i (av_c (gkr (kl_M0 hq ho)) (av_c rfl av_n)) (as_c rfl (as_c rfl (as_c (gkr (kl_M0 hq ho)) as_n)))) rfl h (fun r2 x1 h => ?_)
  refine KC_Vv [vi l2, vi l1, vi r2] [] rfl (dk dtk_X5_doRetake 7 rfl) kcv_X5_219 rfl (kk_M0 ho) rfl (kl_M0 hq ho) (Nat.le_of_ble_eq_true rfl) (Nat.le_of_ble_eq_true rfl) (gok_i (av_c (gkr (kl_M0 hq ho)) (av_c rfl av_n)) as_n) rfl h (fun x3 h => ?_)
  refine T_aload_n 0 (dk dtk_X5_doRetake 8 rfl) rfl rfl ?_
  refine T_iload_n 1 (dk dtk_X5_doRetake 9 rfl) rfl rfl ?_
  refine T_iconst (v := 3) (dk dtk_X5_doRetake 10 rfl) (by decide +kernel) ?_
  refine T_iconst (v := 0) (dk dtk_X5_doRetake 11 rfl) (by decide +kernel) ?_
  refine KC_Vv [vi l1, vi 3, vi 0] [] rfl (dk dtk_X5_doRetake 12 rfl) kcv_X5_117 rfl (kk_M0 ho) rfl (kl_M0 hq ho) (Nat.le_of_ble_eq_true rfl) (Nat.le_of_ble_eq_true rfl) (gok_i (av_c (gkr (kl_M0 hq ho)) (av_c rfl av_n)) as_n) rfl h (fun x4 h => ?_)
  refine T_aload_n 0 (dk dtk_X5_doRetake 13 rfl) rfl rfl ?_
  refine T_iload_n 1 (dk dtk_X5_doRetake 14 rfl) rfl rfl ?_
  refine T_iconst (v := 4) (dk dtk_X5_doRetake 15 rfl) (by decide +kernel) ?_
  refine T_iconst (v := 0) (dk dtk_X5_doRetake 16 rfl) (by decide +kernel) ?_
  refine KC_Vv [vi l1, vi 4, vi 0] [] rfl (dk dtk_X5_doRetake 17 rfl) kcv_X5_117 rfl (kk_M0 ho) rfl (kl_M0 hq ho) (Nat.le_of_ble_eq_true rfl) (Nat.le_of_ble_eq_true rfl) (gok_i (av_c (gkr (kl_M0 hq ho)) (av_c rfl av_n)) as_n) rfl h (fun x5 h => ?_)
  refine T_aload_n 0 (dk dtk_X5_doRetake 18 rfl) rfl rfl ?_
  refine T_iload_n 1 (dk dtk_X5_doRetake 19 rfl) rfl rfl ?_
  refine T_iconst (v := 5) (dk dtk_X5_doRetake 20 rfl) (by decide +kernel) ?_
  refine T_iconst (v := 0) (dk dtk_X5_doRetake 21 rfl) (by decide +kernel) ?_
  refine T_sub (lv2 := []) [] rfl ?_
  refine KC_Vv [vi l1, vi 5, vi 0] [] rfl (dk dtk_X5_doRetake 22 rfl) kcv_X5_117 rfl (kk_M0 ho) rfl (kl_M0 hq ho) (Nat.le_of_ble_eq_true rfl) (Nat.le_of_ble_eq_true rfl) (gok_i av_n as_n) rfl h (fun x6 h => ?_)
  refine T_iconst (v := 0) (dk dtk_X5_doRetake 23 rfl) (by decide +kernel) ?_
  exact KT_iret (dk dtk_X5_doRetake 24 rfl) rfl rfl h
set_option maxRecDepth 100000 in
theorem dtk_X5_doWake : dck cX5_doWake [(0, .aload_n 0, 1), (1, .iload_n 2, 1), (2, .invokevirtual 113, 3), (5, .iload_n 1, 1), (6, .if_icmp .eq 5, 3), (9, .iconst 4, 1), (10, .ireturn, 1), (11, .aload_n 0, 1), (12, .getfield 25, 3), (15, .iload_n 3, 1), (16, .ifCond .eq 11, 3), (19, .aload_n 0, 1), (20, .iload_n 2, 1), (21, .invokevirtual 185, 3), (24, .goto 17, 3), (27, .iload 4, 2), (29, .iconst (-1), 1), (30, .if_icmp .ne 7, 3), (33, .iconst 0, 1), (34, .goto 7, 3), (37, .iconst 1, 1), (38, .iload 4, 2), (40, .ishl, 1), (41, .putfield 255, 3), (44, .iconst 0, 1), (45, .istore 5, 2), (47, .iload 5, 2), (49, .aload_n 0, 1), (50, .getfield 11, 3), (53, .getfield 67, 3), (56, .if_icmp .ge 33, 3), (59, .aload_n 0, 1), (60, .getfield 25, 3), (63, .getfield 255, 3), (66, .iload 5, 2), (68, .ishr, 1), (69, .iconst 1, 1), (70, .iand, 1), (71, .iconst 1, 1), (72, .if_icmp .ne 11, 3), (75, .aload_n 0, 1), (76, .iload 5, 2), (78, .iconst 5, 1), (79, .iconst 1, 1), (80, .invokevirtual 117, 3), (83, .iinc 5 1, 3), (86, .goto (-39), 3), (89, .iconst 0, 1), (90, .ireturn, 1)] = true := by decide +kernel
set_option maxRecDepth 100000 in
set_option maxHeartbeats 4000000 in
theorem kg_X5_doWake_0 {G : kG} {q : kP} {d : Nat} {x : gd} {P : Option gv → gd → Prop} (hq : kV q) {o : Nat} (ho : kiM q o) (l1 : Int32) (l2 : Int32) (l3 : Int32) (l4 : Int32)
    (h : KT G q d zk_X5_holder 0 [(0, vr o), (1, vi l2)] [] x (ri (fun r2 x1 => ((r2 = l1 → ((l3 = (0 : Int32) → ((¬ (l4 = (-1 : Int32)) → (∀ x6 : gd, x6 = si x1 (o + 20) 6 (1 <<< (l4 &&& 31 : Int32)) → KT G q (d + 1) zk_X5_doWake 47 [(0, vr o), (5, vi 0)] [] x6 P)) ∧ (l4 = (-1 : Int32) → (∀ x7 : gd, x7 = si x1 (o + 20) 6 0 → KT G q (d + 1) zk_X5_doWake 47 [(0, vr o), (5, vi 0)] [] x7 P)))) ∧ (¬ (l3 = (0 : Int32)) → KT G q d zk_X5_waiters 0 [(0, vr o), (1, vi l2)] [] x1 (ri (fun r9 x8 => (∀ x10 : gd, x10 = si x8 (o + 20) 6 r9 → KT G q (d + 1) zk_X5_doWake 47 [(0, vr o), (5, vi 0)] [] x10 P)))))) ∧ (¬ (r2 = l1) → P (some (vi 4)) x1))))) :
    KT G q (d + 1) zk_X5_doWake 0 [(0, vr o), (1, vi l1), (2, vi l2), (3, vi l3), (4, vi l4)] [] x P := by
  refine T_aload_n 0 (dk dtk_X5_doWake 0 rfl) rfl rfl ?_
  refine T_iload_n 2 (dk dtk_X5_doWake 1 rfl) rfl rfl ?_
  refine KC_Vi [vi l2] [] rfl (dk dtk_X5_doWake 2 rfl) kcv_X5_113 rfl (kk_M0 ho) rfl (kl_M0 hq ho) (Nat.le_of_ble_eq_true rfl) (Nat.le_of_ble_eq_true rfl) (gok_i (av_c (gkr (kl_M0 hq ho)) (av_c rfl (av_c rfl (av_c rfl (av_c rfl av_n))))) as_n) rfl h (fun r2 x1 h => ?_)
  refine T_iload_n 1 (dk dtk_X5_doWake 3 rfl) rfl rfl ?_
  refine T_icmp_eq 11 (dk dtk_X5_doWake 4 rfl) (by decide) (fun c3 => ?_) (fun c3 => ?_)
  · have h := h.1 c3
    refine T_aload_n 0 (dk dtk_X5_doWake 7 rfl) rfl rfl ?_
    refine T_getR o 2 (o + 20) (dk dtk_X5_doWake 8 rfl) kfl_X5_25 (kk_M0 ho) (kl_M0 hq ho) (by decide) rfl (kr_M_2 ho) ?_
    refine T_iload_n 3 (dk dtk_X5_doWake 9 rfl) rfl rfl ?_
    refine T_if_eq 27 (dk dtk_X5_doWake 10 rfl) (by decide) (fun c4 => ?_) (fun c4 => ?_)
    · have h := h.1 c4
      refine T_iload 4 (dk dtk_X5_doWake 15 rfl) rfl ?_
      refine T_iconst (v := (-1)) (dk dtk_X5_doWake 16 rfl) (by decide +kernel) ?_
      refine T_icmp_ne 37 (dk dtk_X5_doWake 17 rfl) (by decide) (fun c5 => ?_) (fun c5 => ?_)
      · have h := h.1 c5
        refine T_iconst (v := 1) (dk dtk_X5_doWake 20 rfl) (by decide +kernel) ?_
        refine T_iload 4 (dk dtk_X5_doWake 21 rfl) rfl ?_
        refine T_ishl (dk dtk_X5_doWake 22 rfl) ?_
        obtain ⟨x6, ex6⟩ : ∃ z, z = si x1 (o + 20) 6 (1 <<< (l4 &&& 31 : Int32)) := ⟨_, rfl⟩
        have h := h x6 ex6
        refine T_putI (o + 20) 6 (dk dtk_X5_doWake 23 rfl) kfl_X5_255 (kk_D0 (kiM_D ho)) (kl_D0 hq (kiM_D ho)) (by decide) rfl ⟨rfl, rfl⟩ ?_
        rw [← ex6]
        refine T_iconst (v := 0) (dk dtk_X5_doWake 24 rfl) (by decide +kernel) ?_
        refine T_istore (lv2 := [(5, vi 0), (0, vr o), (1, vi l1), (2, vi l2), (3, vi l3), (4, vi l4)]) (dk dtk_X5_doWake 25 rfl) (by decide) rfl ?_
        exact T_sub [1, 0] rfl h
      · have h := h.2 c5
        refine T_iconst (v := 0) (dk dtk_X5_doWake 18 rfl) (by decide +kernel) ?_
        refine T_goto 41 (dk dtk_X5_doWake 19 rfl) (by decide) ?_
        obtain ⟨x7, ex7⟩ : ∃ z, z = si x1 (o + 20) 6 0 := ⟨_, rfl⟩
        have h := h x7 ex7
        refine T_putI (o + 20) 6 (dk dtk_X5_doWake 23 rfl) kfl_X5_255 (kk_D0 (kiM_D ho)) (kl_D0 hq (kiM_D ho)) (by decide) rfl ⟨rfl, rfl⟩ ?_
        rw [← ex7]
        refine T_iconst (v := 0) (dk dtk_X5_doWake 24 rfl) (by decide +kernel) ?_
        refine T_istore (lv2 := [(5, vi 0), (0, vr o), (1, vi l1), (2, vi l2), (3, vi l3), (4, vi l4)]) (dk dtk_X5_doWake 25 rfl) (by decide) rfl ?_
        exact T_sub [1, 0] rfl h
    · have h := h.2 c4
      refine T_aload_n 0 (dk dtk_X5_doWake 11 rfl) rfl rfl ?_
      refine T_iload_n 2 (dk dtk_X5_doWake 12 rfl) rfl rfl ?_
      refine T_sub (lv2 := [(0, vr o)]) [0] rfl ?_
      refine KC_Vi [vi l2] [vr (o + 20)] rfl (dk dtk_X5_doWake 13 rfl) kcv_X5_185 rfl (kk_M0 ho) rfl (kl_M0 hq ho) (Nat.le_of_ble_eq_true rfl) (Nat.le_of_ble_eq_true rfl) (gok_i (av_c (gkr (kl_M0 hq ho)) av_n) (as_c (gkr (kl_D0 hq (kiM_D ho))) as_n)) rfl h (fun r9 x8 h => ?_)
      refine T_goto 41 (dk dtk_X5_doWake 14 rfl) (by decide) ?_
      obtain ⟨x10, ex10⟩ : ∃ z, z = si x8 (o + 20) 6 r9 := ⟨_, rfl⟩
      have h := h x10 ex10
      refine T_putI (o + 20) 6 (dk dtk_X5_doWake 23 rfl) kfl_X5_255 (kk_D0 (kiM_D ho)) (kl_D0 hq (kiM_D ho)) (by decide) rfl ⟨rfl, rfl⟩ ?_
      rw [← ex10]
      refine T_iconst (v := 0) (dk dtk_X5_doWake 24 rfl) (by decide +kernel) ?_
      refine T_istore (lv2 := [(5, vi 0), (0, vr o)]) (dk dtk_X5_doWake 25 rfl) (by decide) rfl ?_
      exact T_sub [1, 0] rfl h
  · have h := h.2 c3
    refine T_iconst (v := 4) (dk dtk_X5_doWake 5 rfl) (by decide +kernel) ?_
    exact KT_iret (dk dtk_X5_doWake 6 rfl) rfl rfl h
set_option maxRecDepth 100000 in
set_option maxHeartbeats 4000000 in
theorem kg_X5_doWake_47 {G : kG} {q : kP} {d : Nat} {x : gd} {P : Option gv → gd → Prop} (hq : kV q) {o : Nat} (ho : kiM q o) (l5 : Int32)
    (h : (((x.1 60 10) ≤ l5 → P (some (vi 0)) x) ∧ (¬ ((x.1 60 10) ≤ l5) → ((¬ ((((x.1 (o + 20) 6) >>> (l5 &&& 31 : Int32)) &&& 1) = (1 : Int32)) → KT G q (d + 1) zk_X5_doWake 47 [(0, vr o), (5, vi (l5 + 1))] [] x P) ∧ ((((x.1 (o + 20) 6) >>> (l5 &&& 31 : Int32)) &&& 1) = (1 : Int32) → KT G q d zk_X5_set 0 [(0, vr o), (1, vi l5), (2, vi 5), (3, vi 1)] [] x (rv (fun x3 => KT G q (d + 1) zk_X5_doWake 47 [(0, vr o), (5, vi (l5 + 1))] [] x3 P))))))) :
    KT G q (d + 1) zk_X5_doWake 47 [(0, vr o), (5, vi l5)] [] x P := by
  refine T_iload 1 (dk dtk_X5_doWake 26 rfl) rfl ?_
  refine T_aload_n 0 (dk dtk_X5_doWake 27 rfl) rfl rfl ?_
  refine T_getR o 0 60 (dk dtk_X5_doWake 28 rfl) kfl_X5_11 (kk_M0 ho) (kl_M0 hq ho) (by decide) rfl (kr_M_0 ho) ?_
  refine T_getI 60 10 (dk dtk_X5_doWake 29 rfl) kfl_X5_67 kk_60 (kl_60 hq) (by decide) rfl ?_
  refine T_icmp_ge 89 (dk dtk_X5_doWake 30 rfl) (by decide) (fun c1 => ?_) (fun c1 => ?_)
  · have h := h.1 c1
    refine T_iconst (v := 0) (dk dtk_X5_doWake 47 rfl) (by decide +kernel) ?_
    exact KT_iret (dk dtk_X5_doWake 48 rfl) rfl rfl h
  · have h := h.2 c1
    refine T_aload_n 0 (dk dtk_X5_doWake 31 rfl) rfl rfl ?_
    refine T_getR o 2 (o + 20) (dk dtk_X5_doWake 32 rfl) kfl_X5_25 (kk_M0 ho) (kl_M0 hq ho) (by decide) rfl (kr_M_2 ho) ?_
    refine T_getI (o + 20) 6 (dk dtk_X5_doWake 33 rfl) kfl_X5_255 (kk_D0 (kiM_D ho)) (kl_D0 hq (kiM_D ho)) (by decide) rfl ?_
    refine T_iload 1 (dk dtk_X5_doWake 34 rfl) rfl ?_
    refine T_ishr (dk dtk_X5_doWake 35 rfl) ?_
    refine T_iconst (v := 1) (dk dtk_X5_doWake 36 rfl) (by decide +kernel) ?_
    refine T_iand (dk dtk_X5_doWake 37 rfl) ?_
    refine T_iconst (v := 1) (dk dtk_X5_doWake 38 rfl) (by decide +kernel) ?_
    refine T_icmp_ne 83 (dk dtk_X5_doWake 39 rfl) (by decide) (fun c2 => ?_) (fun c2 => ?_)
    · have h := h.1 c2
      refine T_iinc (v := l5 + 1) (lv2 := [(5, vi (l5 + 1)), (0, vr o)]) 1 (dk dtk_X5_doWake 45 rfl) rfl rfl (by decide) rfl ?_
      refine T_goto 47 (dk dtk_X5_doWake 46 rfl) (by decide) ?_
      exact T_sub [1, 0] rfl h
    · have h := h.2 c2
      refine T_aload_n 0 (dk dtk_X5_doWake 40 rfl) rfl rfl ?_
      refine T_iload 1 (dk dtk_X5_doWake 41 rfl) rfl ?_
      refine T_iconst (v := 5) (dk dtk_X5_doWake 42 rfl) (by decide +kernel) ?_
      refine T_iconst (v := 1) (dk dtk_X5_doWake 43 rfl) (by decide +kernel) ?_
      refine KC_Vv [vi l5, vi 5, vi 1] [] rfl (dk dtk_X5_doWake 44 rfl) kcv_X5_117 rfl (kk_M0 ho) rfl (kl_M0 hq ho) (Nat.le_of_ble_eq_true rfl) (Nat.le_of_ble_eq_true rfl) (gok_i (av_c (gkr (kl_M0 hq ho)) (av_c rfl av_n)) as_n) rfl h (fun x3 h => ?_)
      refine T_iinc (v := l5 + 1) (lv2 := [(5, vi (l5 + 1)), (0, vr o)]) 1 (dk dtk_X5_doWake 45 rfl) rfl rfl (by decide) rfl ?_
      refine T_goto 47 (dk dtk_X5_doWake 46 rfl) (by decide) ?_
      exact T_sub [1, 0] rfl h
set_option maxRecDepth 100000 in
theorem dtk_X5_doCallOrBack : dck cX5_doCallOrBack [(0, .aload_n 0, 1), (1, .getfield 11, 3), (4, .aload_n 0, 1), (5, .getfield 21, 3), (8, .getfield 160, 3), (11, .iload_n 2, 1), (12, .iaload, 1), (13, .aload_n 0, 1), (14, .getfield 29, 3), (17, .aload_n 0, 1), (18, .iload_n 1, 1), (19, .invokevirtual 142, 3), (22, .iload_n 1, 1), (23, .invokevirtual 145, 3), (26, .istore 4, 2), (28, .aload_n 0, 1), (29, .getfield 11, 3), (32, .getfield 149, 3), (35, .ifCond .eq 5, 3), (38, .iconst 1, 1), (39, .ireturn, 1), (40, .aload_n 0, 1), (41, .iload_n 1, 1), (42, .bipush 6, 2), (44, .invokevirtual 90, 3), (47, .ifCond .eq 7, 3), (50, .iconst 1, 1), (51, .goto 4, 3), (54, .iconst 0, 1), (55, .istore 5, 2), (57, .iload 5, 2), (59, .iload_n 3, 1), (60, .bipush 13, 2), (62, .if_icmp .ne 7, 3), (65, .iconst 1, 1), (66, .goto 4, 3), (69, .iconst 0, 1), (70, .if_icmp .ne 6, 3), (73, .bipush 8, 2), (75, .ireturn, 1), (76, .aload_n 0, 1), (77, .iload_n 1, 1), (78, .bipush 6, 2), (80, .iload_n 3, 1), (81, .bipush 13, 2), (83, .if_icmp .ne 17, 3), (86, .aload_n 0, 1), (87, .getfield 21, 3), (90, .getfield 136, 3), (93, .iload_n 2, 1), (94, .iaload, 1), (95, .iconst 1, 1), (96, .iadd, 1), (97, .goto 4, 3), (100, .iconst 0, 1), (101, .invokevirtual 117, 3), (104, .aload_n 0, 1), (105, .getfield 25, 3), (108, .iload 4, 2), (110, .putfield 252, 3), (113, .iconst 0, 1), (114, .ireturn, 1)] = true := by decide +kernel
set_option maxRecDepth 100000 in
set_option maxHeartbeats 4000000 in
theorem kg_X5_doCallOrBack_0 {G : kG} {q : kP} {d : Nat} {x : gd} {P : Option gv → gd → Prop} (hq : kV q) {o : Nat} (ho : kiM q o) (l1 : Int32) (l2 : Int32) (l3 : Int32)
    (h : vp_in l2 400 ∧ KT G q d zk_X5_localsAt 0 [(0, vr o), (1, vi l1)] [] x (ri (fun r3 x2 => KT G q d zk_X0_work 0 [(0, vr 60), (1, vi (x.1 88 (l2 : Int32).toNatClampNeg)), (2, vr (o + 5)), (3, vi r3), (4, vi l1)] [] x2 (ri (fun r5 x4 => (((x4.1 60 5) = (0 : Int32) → KT G q d zk_X5_get 0 [(0, vr o), (1, vi l1), (2, vi 6)] [] x4 (ri (fun r8 x7 => ((r8 = (0 : Int32) → KT G q (d + 1) zk_X5_doCallOrBack 55 [(0, vr o), (1, vi l1), (2, vi l2), (3, vi l3), (4, vi r5)] [vi 0] x7 P) ∧ (¬ (r8 = (0 : Int32)) → KT G q (d + 1) zk_X5_doCallOrBack 55 [(0, vr o), (1, vi l1), (2, vi l2), (3, vi l3), (4, vi r5)] [vi 1] x7 P))))) ∧ (¬ ((x4.1 60 5) = (0 : Int32)) → P (some (vi 1)) x4))))))) :
    KT G q (d + 1) zk_X5_doCallOrBack 0 [(0, vr o), (1, vi l1), (2, vi l2), (3, vi l3)] [] x P := by
  refine T_aload_n 0 (dk dtk_X5_doCallOrBack 0 rfl) rfl rfl ?_
  refine T_getR o 0 60 (dk dtk_X5_doCallOrBack 1 rfl) kfl_X5_11 (kk_M0 ho) (kl_M0 hq ho) (by decide) rfl (kr_M_0 ho) ?_
  refine T_aload_n 0 (dk dtk_X5_doCallOrBack 2 rfl) rfl rfl ?_
  refine T_getR o 1 80 (dk dtk_X5_doCallOrBack 3 rfl) kfl_X5_21 (kk_M0 ho) (kl_M0 hq ho) (by decide) rfl (kr_M_1 ho) ?_
  refine T_getR 80 7 88 (dk dtk_X5_doCallOrBack 4 rfl) kfl_X5_160 kk_80 (kl_80 hq) (by decide) rfl kr_80_7 ?_
  refine T_iload_n 2 (dk dtk_X5_doCallOrBack 5 rfl) rfl rfl ?_
  obtain ⟨h1, h⟩ := h
  refine T_iald 88 400 (dk dtk_X5_doCallOrBack 6 rfl) kk_88 (kl_88 hq) h1 ?_
  refine T_aload_n 0 (dk dtk_X5_doCallOrBack 7 rfl) rfl rfl ?_
  refine T_getR o 4 (o + 5) (dk dtk_X5_doCallOrBack 8 rfl) kfl_X5_29 (kk_M0 ho) (kl_M0 hq ho) (by decide) rfl (kr_M_4 ho) ?_
  refine T_aload_n 0 (dk dtk_X5_doCallOrBack 9 rfl) rfl rfl ?_
  refine T_iload_n 1 (dk dtk_X5_doCallOrBack 10 rfl) rfl rfl ?_
  refine KC_Vi [vi l1] [vr (o + 5), vi (x.1 88 (l2 : Int32).toNatClampNeg), vr 60] rfl (dk dtk_X5_doCallOrBack 11 rfl) kcv_X5_142 rfl (kk_M0 ho) rfl (kl_M0 hq ho) (Nat.le_of_ble_eq_true rfl) (Nat.le_of_ble_eq_true rfl) (gok_i (av_c (gkr (kl_M0 hq ho)) (av_c rfl (av_c rfl (av_c rfl av_n)))) (as_c (gkr (kl_M5 hq ho)) (as_c rfl (as_c (gkr (kl_60 hq)) as_n)))) rfl h (fun r3 x2 h => ?_)
  refine T_iload_n 1 (dk dtk_X5_doCallOrBack 12 rfl) rfl rfl ?_
  refine KC_Vi [vi (x.1 88 (l2 : Int32).toNatClampNeg), vr (o + 5), vi r3, vi l1] [] rfl (dk dtk_X5_doCallOrBack 13 rfl) kcv_X5_145 rfl kk_60 rfl (kl_60 hq) (Nat.le_of_ble_eq_true rfl) (Nat.le_of_ble_eq_true rfl) (gok_i (av_c (gkr (kl_M0 hq ho)) (av_c rfl (av_c rfl (av_c rfl av_n)))) as_n) rfl h (fun r5 x4 h => ?_)
  refine T_istore (lv2 := [(4, vi r5), (0, vr o), (1, vi l1), (2, vi l2), (3, vi l3)]) (dk dtk_X5_doCallOrBack 14 rfl) (by decide) rfl ?_
  refine T_aload_n 1 (dk dtk_X5_doCallOrBack 15 rfl) rfl rfl ?_
  refine T_getR o 0 60 (dk dtk_X5_doCallOrBack 16 rfl) kfl_X5_11 (kk_M0 ho) (kl_M0 hq ho) (by decide) rfl (kr_M_0 ho) ?_
  refine T_getI 60 5 (dk dtk_X5_doCallOrBack 17 rfl) kfl_X5_149 kk_60 (kl_60 hq) (by decide) rfl ?_
  refine T_if_eq 40 (dk dtk_X5_doCallOrBack 18 rfl) (by decide) (fun c6 => ?_) (fun c6 => ?_)
  · have h := h.1 c6
    refine T_aload_n 1 (dk dtk_X5_doCallOrBack 21 rfl) rfl rfl ?_
    refine T_iload_n 2 (dk dtk_X5_doCallOrBack 22 rfl) rfl rfl ?_
    refine T_bipush (v := 6) (dk dtk_X5_doCallOrBack 23 rfl) (by decide +kernel) ?_
    refine KC_Vi [vi l1, vi 6] [] rfl (dk dtk_X5_doCallOrBack 24 rfl) kcv_X5_90 rfl (kk_M0 ho) rfl (kl_M0 hq ho) (Nat.le_of_ble_eq_true rfl) (Nat.le_of_ble_eq_true rfl) (gok_i (av_c rfl (av_c (gkr (kl_M0 hq ho)) (av_c rfl (av_c rfl (av_c rfl av_n))))) as_n) rfl h (fun r8 x7 h => ?_)
    refine T_if_eq 54 (dk dtk_X5_doCallOrBack 25 rfl) (by decide) (fun c9 => ?_) (fun c9 => ?_)
    · have h := h.1 c9
      refine T_iconst (v := 0) (dk dtk_X5_doCallOrBack 28 rfl) (by decide +kernel) ?_
      exact T_sub [1, 2, 3, 4, 0] rfl h
    · have h := h.2 c9
      refine T_iconst (v := 1) (dk dtk_X5_doCallOrBack 26 rfl) (by decide +kernel) ?_
      refine T_goto 55 (dk dtk_X5_doCallOrBack 27 rfl) (by decide) ?_
      exact T_sub [1, 2, 3, 4, 0] rfl h
  · have h := h.2 c6
    refine T_iconst (v := 1) (dk dtk_X5_doCallOrBack 19 rfl) (by decide +kernel) ?_
    exact KT_iret (dk dtk_X5_doCallOrBack 20 rfl) rfl rfl h
set_option maxRecDepth 100000 in
set_option maxHeartbeats 4000000 in
theorem kg_X5_doCallOrBack_55 {G : kG} {q : kP} {d : Nat} {x : gd} {P : Option gv → gd → Prop} (hq : kV q) {o : Nat} (ho : kiM q o) (l1 : Int32) (l2 : Int32) (l3 : Int32) (l4 : Int32) (s0 : Int32)
    (h : ((¬ (l3 = (13 : Int32)) → KT G q (d + 1) zk_X5_doCallOrBack 70 [(0, vr o), (1, vi l1), (2, vi l2), (3, vi l3), (4, vi l4)] [vi 0, vi s0] x P) ∧ (l3 = (13 : Int32) → KT G q (d + 1) zk_X5_doCallOrBack 70 [(0, vr o), (1, vi l1), (2, vi l2), (3, vi l3), (4, vi l4)] [vi 1, vi s0] x P))) :
    KT G q (d + 1) zk_X5_doCallOrBack 55 [(0, vr o), (1, vi l1), (2, vi l2), (3, vi l3), (4, vi l4)] [vi s0] x P := by
  refine T_istore (lv2 := [(5, vi s0), (0, vr o), (1, vi l1), (2, vi l2), (3, vi l3), (4, vi l4)]) (dk dtk_X5_doCallOrBack 29 rfl) (by decide) rfl ?_
  refine T_iload 0 (dk dtk_X5_doCallOrBack 30 rfl) rfl ?_
  refine T_iload_n 4 (dk dtk_X5_doCallOrBack 31 rfl) rfl rfl ?_
  refine T_bipush (v := 13) (dk dtk_X5_doCallOrBack 32 rfl) (by decide +kernel) ?_
  refine T_icmp_ne 69 (dk dtk_X5_doCallOrBack 33 rfl) (by decide) (fun c1 => ?_) (fun c1 => ?_)
  · have h := h.1 c1
    refine T_iconst (v := 0) (dk dtk_X5_doCallOrBack 36 rfl) (by decide +kernel) ?_
    exact T_sub [1, 2, 3, 4, 5] rfl h
  · have h := h.2 c1
    refine T_iconst (v := 1) (dk dtk_X5_doCallOrBack 34 rfl) (by decide +kernel) ?_
    refine T_goto 70 (dk dtk_X5_doCallOrBack 35 rfl) (by decide) ?_
    exact T_sub [1, 2, 3, 4, 5] rfl h
set_option maxRecDepth 100000 in
set_option maxHeartbeats 4000000 in
theorem kg_X5_doCallOrBack_70 {G : kG} {q : kP} {d : Nat} {x : gd} {P : Option gv → gd → Prop} (hq : kV q) {o : Nat} (ho : kiM q o) (l1 : Int32) (l2 : Int32) (l3 : Int32) (l4 : Int32) (s0 : Int32) (s1 : Int32)
    (h : ((¬ (s1 = s0) → ((¬ (l3 = (13 : Int32)) → KT G q (d + 1) zk_X5_doCallOrBack 101 [(0, vr o), (4, vi l4)] [vi 0, vi 6, vi l1, vr o] x P) ∧ (l3 = (13 : Int32) → vp_in l2 400 ∧ KT G q (d + 1) zk_X5_doCallOrBack 101 [(0, vr o), (4, vi l4)] [vi ((x.1 85 (l2 : Int32).toNatClampNeg) + 1), vi 6, vi l1, vr o] x P))) ∧ (s1 = s0 → P (some (vi 8)) x))) :
    KT G q (d + 1) zk_X5_doCallOrBack 70 [(0, vr o), (1, vi l1), (2, vi l2), (3, vi l3), (4, vi l4)] [vi s0, vi s1] x P := by
  refine T_icmp_ne 76 (dk dtk_X5_doCallOrBack 37 rfl) (by decide) (fun c1 => ?_) (fun c1 => ?_)
  · have h := h.1 c1
    refine T_aload_n 0 (dk dtk_X5_doCallOrBack 40 rfl) rfl rfl ?_
    refine T_iload_n 1 (dk dtk_X5_doCallOrBack 41 rfl) rfl rfl ?_
    refine T_bipush (v := 6) (dk dtk_X5_doCallOrBack 42 rfl) (by decide +kernel) ?_
    refine T_iload_n 3 (dk dtk_X5_doCallOrBack 43 rfl) rfl rfl ?_
    refine T_bipush (v := 13) (dk dtk_X5_doCallOrBack 44 rfl) (by decide +kernel) ?_
    refine T_icmp_ne 100 (dk dtk_X5_doCallOrBack 45 rfl) (by decide) (fun c2 => ?_) (fun c2 => ?_)
    · have h := h.1 c2
      refine T_iconst (v := 0) (dk dtk_X5_doCallOrBack 54 rfl) (by decide +kernel) ?_
      exact T_sub [0, 4] rfl h
    · have h := h.2 c2
      refine T_aload_n 0 (dk dtk_X5_doCallOrBack 46 rfl) rfl rfl ?_
      refine T_getR o 1 80 (dk dtk_X5_doCallOrBack 47 rfl) kfl_X5_21 (kk_M0 ho) (kl_M0 hq ho) (by decide) rfl (kr_M_1 ho) ?_
      refine T_getR 80 4 85 (dk dtk_X5_doCallOrBack 48 rfl) kfl_X5_136 kk_80 (kl_80 hq) (by decide) rfl kr_80_4 ?_
      refine T_iload_n 2 (dk dtk_X5_doCallOrBack 49 rfl) rfl rfl ?_
      obtain ⟨h3, h⟩ := h
      refine T_iald 85 400 (dk dtk_X5_doCallOrBack 50 rfl) kk_85 (kl_85 hq) h3 ?_
      refine T_iconst (v := 1) (dk dtk_X5_doCallOrBack 51 rfl) (by decide +kernel) ?_
      refine T_iadd (dk dtk_X5_doCallOrBack 52 rfl) ?_
      refine T_goto 101 (dk dtk_X5_doCallOrBack 53 rfl) (by decide) ?_
      exact T_sub [0, 4] rfl h
  · have h := h.2 c1
    refine T_bipush (v := 8) (dk dtk_X5_doCallOrBack 38 rfl) (by decide +kernel) ?_
    exact KT_iret (dk dtk_X5_doCallOrBack 39 rfl) rfl rfl h
set_option maxRecDepth 100000 in
set_option maxHeartbeats 4000000 in
theorem kg_X5_doCallOrBack_101 {G : kG} {q : kP} {d : Nat} {x : gd} {P : Option gv → gd → Prop} (hq : kV q) {o : Nat} (ho : kiM q o) (l4 : Int32) (s0 : Int32) (s1 : Int32) (s2 : Int32)
    (h : KT G q d zk_X5_set 0 [(0, vr o), (1, vi s2), (2, vi s1), (3, vi s0)] [] x (rv (fun x1 => (∀ x2 : gd, x2 = si x1 (o + 20) 4 l4 → P (some (vi 0)) x2)))) :
    KT G q (d + 1) zk_X5_doCallOrBack 101 [(0, vr o), (4, vi l4)] [vi s0, vi s1, vi s2, vr o] x P := by
  refine KC_Vv [vi s2, vi s1, vi s0] [] rfl (dk dtk_X5_doCallOrBack 55 rfl) kcv_X5_117 rfl (kk_M0 ho) rfl (kl_M0 hq ho) (Nat.le_of_ble_eq_true rfl) (Nat.le_of_ble_eq_true rfl) (gok_i (av_c (gkr (kl_M0 hq ho)) (av_c rfl av_n)) as_n) rfl h (fun x1 h => ?_)
  refine T_aload_n 0 (dk dtk_X5_doCallOrBack 56 rfl) rfl rfl ?_
  refine T_getR o 2 (o + 20) (dk dtk_X5_doCallOrBack 57 rfl) kfl_X5_25 (kk_M0 ho) (kl_M0 hq ho) (by decide) rfl (kr_M_2 ho) ?_
  refine T_iload 1 (dk dtk_X5_doCallOrBack 58 rfl) rfl ?_
  obtain ⟨x2, ex2⟩ : ∃ z, z = si x1 (o + 20) 4 l4 := ⟨_, rfl⟩
  have h := h x2 ex2
  refine T_putI (o + 20) 4 (dk dtk_X5_doCallOrBack 59 rfl) kfl_X5_252 (kk_D0 (kiM_D ho)) (kl_D0 hq (kiM_D ho)) (by decide) rfl ⟨rfl, rfl⟩ ?_
  rw [← ex2]
  refine T_iconst (v := 0) (dk dtk_X5_doCallOrBack 60 rfl) (by decide +kernel) ?_
  exact KT_iret (dk dtk_X5_doCallOrBack 61 rfl) rfl rfl h
set_option maxRecDepth 100000 in
theorem dtk_X5_rouse : dck cX5_rouse [(0, .aload_n 0, 1), (1, .iload_n 1, 1), (2, .iconst 0, 1), (3, .iconst 1, 1), (4, .invokevirtual 117, 3), (7, .aload_n 0, 1), (8, .iload_n 1, 1), (9, .iconst 2, 1), (10, .aload_n 0, 1), (11, .getfield 11, 3), (14, .getfield 258, 3), (17, .iload_n 1, 1), (18, .iaload, 1), (19, .invokevirtual 117, 3), (22, .aload_n 0, 1), (23, .iload_n 1, 1), (24, .invokevirtual 205, 3), (27, .return_, 1)] = true := by decide +kernel
set_option maxRecDepth 100000 in
set_option maxHeartbeats 4000000 in
theorem kg_X5_rouse_0 {G : kG} {q : kP} {d : Nat} {x : gd} {P : Option gv → gd → Prop} (hq : kV q) {o : Nat} (ho : kiM q o) (l1 : Int32)
    (h : KT G q d zk_X5_set 0 [(0, vr o), (1, vi l1), (2, vi 0), (3, vi 1)] [] x (rv (fun x1 => vp_in l1 6 ∧ KT G q d zk_X5_set 0 [(0, vr o), (1, vi l1), (2, vi 2), (3, vi (x1.1 72 (l1 : Int32).toNatClampNeg))] [] x1 (rv (fun x3 => KT G q d zk_X5_settle 0 [(0, vr o), (1, vi l1)] [] x3 (rv (fun x4 => P none x4))))))) :
    KT G q (d + 1) zk_X5_rouse 0 [(0, vr o), (1, vi l1)] [] x P := by
  refine T_aload_n 0 (dk dtk_X5_rouse 0 rfl) rfl rfl ?_
  refine T_iload_n 1 (dk dtk_X5_rouse 1 rfl) rfl rfl ?_
  refine T_iconst (v := 0) (dk dtk_X5_rouse 2 rfl) (by decide +kernel) ?_
  refine T_iconst (v := 1) (dk dtk_X5_rouse 3 rfl) (by decide +kernel) ?_
  refine KC_Vv [vi l1, vi 0, vi 1] [] rfl (dk dtk_X5_rouse 4 rfl) kcv_X5_117 rfl (kk_M0 ho) rfl (kl_M0 hq ho) (Nat.le_of_ble_eq_true rfl) (Nat.le_of_ble_eq_true rfl) (gok_i (av_c (gkr (kl_M0 hq ho)) (av_c rfl av_n)) as_n) rfl h (fun x1 h => ?_)
  refine T_aload_n 0 (dk dtk_X5_rouse 5 rfl) rfl rfl ?_
  refine T_iload_n 1 (dk dtk_X5_rouse 6 rfl) rfl rfl ?_
  refine T_iconst (v := 2) (dk dtk_X5_rouse 7 rfl) (by decide +kernel) ?_
  refine T_aload_n 0 (dk dtk_X5_rouse 8 rfl) rfl rfl ?_
  refine T_getR o 0 60 (dk dtk_X5_rouse 9 rfl) kfl_X5_11 (kk_M0 ho) (kl_M0 hq ho) (by decide) rfl (kr_M_0 ho) ?_
  refine T_getR 60 11 72 (dk dtk_X5_rouse 10 rfl) kfl_X5_258 kk_60 (kl_60 hq) (by decide) rfl kr_60_11 ?_
  refine T_iload_n 1 (dk dtk_X5_rouse 11 rfl) rfl rfl ?_
  obtain ⟨h2, h⟩ := h
  refine T_iald 72 6 (dk dtk_X5_rouse 12 rfl) kk_72 (kl_72 hq) h2 ?_
  refine KC_Vv [vi l1, vi 2, vi (x1.1 72 (l1 : Int32).toNatClampNeg)] [] rfl (dk dtk_X5_rouse 13 rfl) kcv_X5_117 rfl (kk_M0 ho) rfl (kl_M0 hq ho) (Nat.le_of_ble_eq_true rfl) (Nat.le_of_ble_eq_true rfl) (gok_i (av_c (gkr (kl_M0 hq ho)) (av_c rfl av_n)) as_n) rfl h (fun x3 h => ?_)
  refine T_aload_n 0 (dk dtk_X5_rouse 14 rfl) rfl rfl ?_
  refine T_iload_n 1 (dk dtk_X5_rouse 15 rfl) rfl rfl ?_
  refine T_sub (lv2 := []) [] rfl ?_
  refine KC_Vv [vi l1] [] rfl (dk dtk_X5_rouse 16 rfl) kcv_X5_205 rfl (kk_M0 ho) rfl (kl_M0 hq ho) (Nat.le_of_ble_eq_true rfl) (Nat.le_of_ble_eq_true rfl) (gok_i av_n as_n) rfl h (fun x4 h => ?_)
  exact KT_vret (dk dtk_X5_rouse 17 rfl) rfl h
set_option maxRecDepth 100000 in
theorem dtk_X5_settle : dck cX5_settle [(0, .iconst 0, 1), (1, .istore_n 2, 1), (2, .iconst 0, 1), (3, .istore_n 3, 1), (4, .iload_n 3, 1), (5, .ldc_w 261, 3), (8, .if_icmp .ge 92, 3), (11, .aload_n 0, 1), (12, .iload_n 1, 1), (13, .invokevirtual 94, 3), (16, .ifCond .eq 84, 3), (19, .aload_n 0, 1), (20, .iload_n 1, 1), (21, .iconst 2, 1), (22, .invokevirtual 90, 3), (25, .istore 4, 2), (27, .aload_n 0, 1), (28, .getfield 21, 3), (31, .getfield 127, 3), (34, .iload 4, 2), (36, .iaload, 1), (37, .istore 5, 2), (39, .iload 5, 2), (41, .bipush 16, 2), (43, .if_icmp .ge 6, 3), (46, .goto 54, 3), (49, .iload 5, 2), (51, .bipush 20, 2), (53, .if_icmp .ge 6, 3), (56, .iinc 2 1, 3), (59, .iload_n 2, 1), (60, .sipush 300, 3), (63, .if_icmp .le 8, 3), (66, .bipush 6, 2), (68, .goto 12, 3), (71, .aload_n 0, 1), (72, .iload_n 1, 1), (73, .iload 4, 2), (75, .iload 5, 2), (77, .invokevirtual 262, 3), (80, .istore 6, 2), (82, .iload 6, 2), (84, .ifCond .eq 10, 3), (87, .aload_n 0, 1), (88, .iload_n 1, 1), (89, .iload 6, 2), (91, .invokevirtual 202, 3), (94, .iinc 3 1, 3), (97, .goto (-93), 3), (100, .aload_n 0, 1), (101, .iload_n 1, 1), (102, .invokevirtual 265, 3), (105, .return_, 1)] = true := by decide +kernel
set_option maxRecDepth 100000 in
set_option maxHeartbeats 4000000 in
theorem kg_X5_settle_0 {G : kG} {q : kP} {d : Nat} {x : gd} {P : Option gv → gd → Prop} (hq : kV q) {o : Nat} (ho : kiM q o) (l1 : Int32)
    (h : KT G q (d + 1) zk_X5_settle 4 [(0, vr o), (1, vi l1), (2, vi 0), (3, vi 0)] [] x P) :
    KT G q (d + 1) zk_X5_settle 0 [(0, vr o), (1, vi l1)] [] x P := by
  refine T_iconst (v := 0) (dk dtk_X5_settle 0 rfl) (by decide +kernel) ?_
  refine T_istore_n (lv2 := [(2, vi 0), (0, vr o), (1, vi l1)]) (dk dtk_X5_settle 1 rfl) rfl (by decide) rfl ?_
  refine T_iconst (v := 0) (dk dtk_X5_settle 2 rfl) (by decide +kernel) ?_
  refine T_istore_n (lv2 := [(3, vi 0), (2, vi 0), (0, vr o), (1, vi l1)]) (dk dtk_X5_settle 3 rfl) rfl (by decide) rfl ?_
  exact T_sub [2, 3, 1, 0] rfl h
set_option maxRecDepth 100000 in
set_option maxHeartbeats 4000000 in
theorem kg_X5_settle_4 {G : kG} {q : kP} {d : Nat} {x : gd} {P : Option gv → gd → Prop} (hq : kV q) {o : Nat} (ho : kiM q o) (l1 : Int32) (l2 : Int32) (l3 : Int32)
    (h : (((1000000 : Int32) ≤ l3 → KT G q (d + 1) zk_X5_settle 100 [(0, vr o), (1, vi l1)] [] x P) ∧ (¬ ((1000000 : Int32) ≤ l3) → KT G q d zk_X5_isGoing 0 [(0, vr o), (1, vi l1)] [] x (ri (fun r3 x2 => ((r3 = (0 : Int32) → KT G q (d + 1) zk_X5_settle 100 [(0, vr o), (1, vi l1)] [] x2 P) ∧ (¬ (r3 = (0 : Int32)) → KT G q d zk_X5_get 0 [(0, vr o), (1, vi l1), (2, vi 2)] [] x2 (ri (fun r6 x5 => vp_in r6 400 ∧ (((16 : Int32) ≤ (x5.1 81 (r6 : Int32).toNatClampNeg) → (((20 : Int32) ≤ (x5.1 81 (r6 : Int32).toNatClampNeg) → KT G q (d + 1) zk_X5_settle 59 [(0, vr o), (1, vi l1), (2, vi l2), (3, vi l3), (4, vi r6), (5, vi (x5.1 81 (r6 : Int32).toNatClampNeg))] [] x5 P) ∧ (¬ ((20 : Int32) ≤ (x5.1 81 (r6 : Int32).toNatClampNeg)) → KT G q (d + 1) zk_X5_settle 59 [(0, vr o), (1, vi l1), (2, vi (l2 + 1)), (3, vi l3), (4, vi r6), (5, vi (x5.1 81 (r6 : Int32).toNatClampNeg))] [] x5 P))) ∧ (¬ ((16 : Int32) ≤ (x5.1 81 (r6 : Int32).toNatClampNeg)) → KT G q (d + 1) zk_X5_settle 100 [(0, vr o), (1, vi l1)] [] x5 P))))))))))) :
    KT G q (d + 1) zk_X5_settle 4 [(0, vr o), (1, vi l1), (2, vi l2), (3, vi l3)] [] x P := by
  refine T_iload_n 3 (dk dtk_X5_settle 4 rfl) rfl rfl ?_
  refine T_ldcw (v := 1000000) (dk dtk_X5_settle 5 rfl) kkc_X5_261 ?_
  refine T_icmp_ge 100 (dk dtk_X5_settle 6 rfl) (by decide) (fun c1 => ?_) (fun c1 => ?_)
  · have h := h.1 c1
    exact T_sub [0, 1] rfl h
  · have h := h.2 c1
    refine T_aload_n 0 (dk dtk_X5_settle 7 rfl) rfl rfl ?_
    refine T_iload_n 1 (dk dtk_X5_settle 8 rfl) rfl rfl ?_
    refine KC_Vi [vi l1] [] rfl (dk dtk_X5_settle 9 rfl) kcv_X5_94 rfl (kk_M0 ho) rfl (kl_M0 hq ho) (Nat.le_of_ble_eq_true rfl) (Nat.le_of_ble_eq_true rfl) (gok_i (av_c (gkr (kl_M0 hq ho)) (av_c rfl (av_c rfl (av_c rfl av_n)))) as_n) rfl h (fun r3 x2 h => ?_)
    refine T_if_eq 100 (dk dtk_X5_settle 10 rfl) (by decide) (fun c4 => ?_) (fun c4 => ?_)
    · have h := h.1 c4
      exact T_sub [0, 1] rfl h
    · have h := h.2 c4
      refine T_aload_n 0 (dk dtk_X5_settle 11 rfl) rfl rfl ?_
      refine T_iload_n 1 (dk dtk_X5_settle 12 rfl) rfl rfl ?_
      refine T_iconst (v := 2) (dk dtk_X5_settle 13 rfl) (by decide +kernel) ?_
      refine KC_Vi [vi l1, vi 2] [] rfl (dk dtk_X5_settle 14 rfl) kcv_X5_90 rfl (kk_M0 ho) rfl (kl_M0 hq ho) (Nat.le_of_ble_eq_true rfl) (Nat.le_of_ble_eq_true rfl) (gok_i (av_c (gkr (kl_M0 hq ho)) (av_c rfl (av_c rfl (av_c rfl av_n)))) as_n) rfl h (fun r6 x5 h => ?_)
      refine T_istore (lv2 := [(4, vi r6), (0, vr o), (1, vi l1), (2, vi l2), (3, vi l3)]) (dk dtk_X5_settle 15 rfl) (by decide) rfl ?_
      refine T_aload_n 1 (dk dtk_X5_settle 16 rfl) rfl rfl ?_
      refine T_getR o 1 80 (dk dtk_X5_settle 17 rfl) kfl_X5_21 (kk_M0 ho) (kl_M0 hq ho) (by decide) rfl (kr_M_1 ho) ?_
      refine T_getR 80 0 81 (dk dtk_X5_settle 18 rfl) kfl_X5_127 kk_80 (kl_80 hq) (by decide) rfl kr_80_0 ?_
      refine T_iload 0 (dk dtk_X5_settle 19 rfl) rfl ?_
      obtain ⟨h7, h⟩ := h
      refine T_iald 81 400 (dk dtk_X5_settle 20 rfl) kk_81 (kl_81 hq) h7 ?_
      refine T_istore (lv2 := [(5, vi (x5.1 81 (r6 : Int32).toNatClampNeg)), (4, vi r6), (0, vr o), (1, vi l1), (2, vi l2), (3, vi l3)]) (dk dtk_X5_settle 21 rfl) (by decide) rfl ?_
      refine T_iload 0 (dk dtk_X5_settle 22 rfl) rfl ?_
      refine T_bipush (v := 16) (dk dtk_X5_settle 23 rfl) (by decide +kernel) ?_
      refine T_icmp_ge 49 (dk dtk_X5_settle 24 rfl) (by decide) (fun c8 => ?_) (fun c8 => ?_)
      · have h := h.1 c8
        refine T_iload 0 (dk dtk_X5_settle 26 rfl) rfl ?_
        refine T_bipush (v := 20) (dk dtk_X5_settle 27 rfl) (by decide +kernel) ?_
        refine T_icmp_ge 59 (dk dtk_X5_settle 28 rfl) (by decide) (fun c9 => ?_) (fun c9 => ?_)
        · have h := h.1 c9
          exact T_sub [2, 3, 4, 5, 1, 0] rfl h
        · have h := h.2 c9
          refine T_iinc (v := l2 + 1) (lv2 := [(2, vi (l2 + 1)), (5, vi (x5.1 81 (r6 : Int32).toNatClampNeg)), (4, vi r6), (0, vr o), (1, vi l1), (3, vi l3)]) 4 (dk dtk_X5_settle 29 rfl) rfl rfl (by decide) rfl ?_
          exact T_sub [3, 4, 0, 5, 2, 1] rfl h
      · have h := h.2 c8
        refine T_goto 100 (dk dtk_X5_settle 25 rfl) (by decide) ?_
        exact T_sub [2, 3] rfl h
set_option maxRecDepth 100000 in
set_option maxHeartbeats 4000000 in
theorem kg_X5_settle_59 {G : kG} {q : kP} {d : Nat} {x : gd} {P : Option gv → gd → Prop} (hq : kV q) {o : Nat} (ho : kiM q o) (l1 : Int32) (l2 : Int32) (l3 : Int32) (l4 : Int32) (l5 : Int32)
    (h : ((l2 ≤ (300 : Int32) → KT G q d zk_X5_ownFailure 0 [(0, vr o), (1, vi l1), (2, vi l4), (3, vi l5)] [] x (ri (fun r3 x2 => KT G q (d + 1) zk_X5_settle 80 [(0, vr o), (1, vi l1), (2, vi l2), (3, vi l3)] [vi r3] x2 P))) ∧ (¬ (l2 ≤ (300 : Int32)) → KT G q (d + 1) zk_X5_settle 80 [(0, vr o), (1, vi l1), (2, vi l2), (3, vi l3)] [vi 6] x P))) :
    KT G q (d + 1) zk_X5_settle 59 [(0, vr o), (1, vi l1), (2, vi l2), (3, vi l3), (4, vi l4), (5, vi l5)] [] x P := by
  refine T_iload_n 2 (dk dtk_X5_settle 30 rfl) rfl rfl ?_
  refine T_sipush (v := 300) (dk dtk_X5_settle 31 rfl) (by decide +kernel) ?_
  refine T_icmp_le 71 (dk dtk_X5_settle 32 rfl) (by decide) (fun c1 => ?_) (fun c1 => ?_)
  · have h := h.1 c1
    refine T_aload_n 0 (dk dtk_X5_settle 35 rfl) rfl rfl ?_
    refine T_iload_n 1 (dk dtk_X5_settle 36 rfl) rfl rfl ?_
    refine T_iload 4 (dk dtk_X5_settle 37 rfl) rfl ?_
    refine T_iload 5 (dk dtk_X5_settle 38 rfl) rfl ?_
    refine T_sub (lv2 := [(0, vr o), (1, vi l1), (2, vi l2), (3, vi l3)]) [0, 1, 2, 3] rfl ?_
    refine KC_Vi [vi l1, vi l4, vi l5] [] rfl (dk dtk_X5_settle 39 rfl) kcv_X5_262 rfl (kk_M0 ho) rfl (kl_M0 hq ho) (Nat.le_of_ble_eq_true rfl) (Nat.le_of_ble_eq_true rfl) (gok_i (av_c (gkr (kl_M0 hq ho)) (av_c rfl (av_c rfl (av_c rfl av_n)))) as_n) rfl h (fun r3 x2 h => ?_)
    exact h
  · have h := h.2 c1
    refine T_bipush (v := 6) (dk dtk_X5_settle 33 rfl) (by decide +kernel) ?_
    refine T_goto 80 (dk dtk_X5_settle 34 rfl) (by decide) ?_
    exact T_sub [0, 1, 2, 3] rfl h
set_option maxRecDepth 100000 in
set_option maxHeartbeats 4000000 in
theorem kg_X5_settle_80 {G : kG} {q : kP} {d : Nat} {x : gd} {P : Option gv → gd → Prop} (hq : kV q) {o : Nat} (ho : kiM q o) (l1 : Int32) (l2 : Int32) (l3 : Int32) (s0 : Int32)
    (h : ((s0 = (0 : Int32) → KT G q (d + 1) zk_X5_settle 4 [(0, vr o), (1, vi l1), (2, vi l2), (3, vi (l3 + 1))] [] x P) ∧ (¬ (s0 = (0 : Int32)) → KT G q d zk_X5_fail 0 [(0, vr o), (1, vi l1), (2, vi s0)] [] x (rv (fun x2 => KT G q (d + 1) zk_X5_settle 4 [(0, vr o), (1, vi l1), (2, vi l2), (3, vi (l3 + 1))] [] x2 P))))) :
    KT G q (d + 1) zk_X5_settle 80 [(0, vr o), (1, vi l1), (2, vi l2), (3, vi l3)] [vi s0] x P := by
  refine T_istore (lv2 := [(6, vi s0), (0, vr o), (1, vi l1), (2, vi l2), (3, vi l3)]) (dk dtk_X5_settle 40 rfl) (by decide) rfl ?_
  refine T_iload 0 (dk dtk_X5_settle 41 rfl) rfl ?_
  refine T_if_eq 94 (dk dtk_X5_settle 42 rfl) (by decide) (fun c1 => ?_) (fun c1 => ?_)
  · have h := h.1 c1
    refine T_iinc (v := l3 + 1) (lv2 := [(3, vi (l3 + 1)), (6, vi s0), (0, vr o), (1, vi l1), (2, vi l2)]) 4 (dk dtk_X5_settle 47 rfl) rfl rfl (by decide) rfl ?_
    refine T_goto 4 (dk dtk_X5_settle 48 rfl) (by decide) ?_
    exact T_sub [2, 3, 4, 0] rfl h
  · have h := h.2 c1
    refine T_aload_n 1 (dk dtk_X5_settle 43 rfl) rfl rfl ?_
    refine T_iload_n 2 (dk dtk_X5_settle 44 rfl) rfl rfl ?_
    refine T_iload 0 (dk dtk_X5_settle 45 rfl) rfl ?_
    refine T_sub (lv2 := [(0, vr o), (1, vi l1), (2, vi l2), (3, vi l3)]) [1, 2, 3, 4] rfl ?_
    refine KC_Vv [vi l1, vi s0] [] rfl (dk dtk_X5_settle 46 rfl) kcv_X5_202 rfl (kk_M0 ho) rfl (kl_M0 hq ho) (Nat.le_of_ble_eq_true rfl) (Nat.le_of_ble_eq_true rfl) (gok_i (av_c (gkr (kl_M0 hq ho)) (av_c rfl (av_c rfl (av_c rfl av_n)))) as_n) rfl h (fun x2 h => ?_)
    refine T_iinc (v := l3 + 1) (lv2 := [(3, vi (l3 + 1)), (0, vr o), (1, vi l1), (2, vi l2)]) 3 (dk dtk_X5_settle 47 rfl) rfl rfl (by decide) rfl ?_
    refine T_goto 4 (dk dtk_X5_settle 48 rfl) (by decide) ?_
    exact T_sub [1, 2, 3, 0] rfl h
set_option maxRecDepth 100000 in
set_option maxHeartbeats 4000000 in
theorem kg_X5_settle_100 {G : kG} {q : kP} {d : Nat} {x : gd} {P : Option gv → gd → Prop} (hq : kV q) {o : Nat} (ho : kiM q o) (l1 : Int32)
    (h : KT G q d zk_X5_blankUnknown 0 [(0, vr o), (1, vi l1)] [] x (rv (fun x1 => P none x1))) :
    KT G q (d + 1) zk_X5_settle 100 [(0, vr o), (1, vi l1)] [] x P := by
  refine T_aload_n 0 (dk dtk_X5_settle 49 rfl) rfl rfl ?_
  refine T_iload_n 1 (dk dtk_X5_settle 50 rfl) rfl rfl ?_
  refine T_sub (lv2 := []) [] rfl ?_
  refine KC_Vv [vi l1] [] rfl (dk dtk_X5_settle 51 rfl) kcv_X5_265 rfl (kk_M0 ho) rfl (kl_M0 hq ho) (Nat.le_of_ble_eq_true rfl) (Nat.le_of_ble_eq_true rfl) (gok_i av_n as_n) rfl h (fun x1 h => ?_)
  exact KT_vret (dk dtk_X5_settle 52 rfl) rfl h
set_option maxRecDepth 100000 in
theorem dtk_X5_ownFailure : dck cX5_ownFailure [(0, .iload_n 3, 1), (1, .bipush 21, 2), (3, .if_icmp .eq 9, 3), (6, .iload_n 3, 1), (7, .bipush 19, 2), (9, .if_icmp .ne 19, 3), (12, .aload_n 0, 1), (13, .iload_n 1, 1), (14, .iconst 0, 1), (15, .iconst 2, 1), (16, .invokevirtual 117, 3), (19, .aload_n 0, 1), (20, .iload_n 1, 1), (21, .iconst 2, 1), (22, .iconst 0, 1), (23, .invokevirtual 117, 3), (26, .iconst 0, 1), (27, .ireturn, 1), (28, .iload_n 3, 1), (29, .bipush 20, 2), (31, .if_icmp .ne 20, 3), (34, .aload_n 0, 1), (35, .iload_n 1, 1), (36, .iconst 2, 1), (37, .aload_n 0, 1), (38, .getfield 21, 3), (41, .getfield 182, 3), (44, .iload_n 2, 1), (45, .iaload, 1), (46, .invokevirtual 117, 3), (49, .iconst 0, 1), (50, .ireturn, 1), (51, .aload_n 0, 1), (52, .getfield 11, 3), (55, .aload_n 0, 1), (56, .getfield 21, 3), (59, .getfield 160, 3), (62, .iload_n 2, 1), (63, .iaload, 1), (64, .aload_n 0, 1), (65, .getfield 29, 3), (68, .aload_n 0, 1), (69, .iload_n 1, 1), (70, .invokevirtual 142, 3), (73, .iload_n 1, 1), (74, .invokevirtual 145, 3), (77, .istore 4, 2), (79, .aload_n 0, 1), (80, .getfield 11, 3), (83, .getfield 149, 3), (86, .ifCond .eq 5, 3), (89, .iconst 1, 1), (90, .ireturn, 1), (91, .iload_n 3, 1), (92, .bipush 18, 2), (94, .if_icmp .ne 10, 3), (97, .iload 4, 2), (99, .ifCond .ne 5, 3), (102, .iconst 5, 1), (103, .ireturn, 1), (104, .iload_n 3, 1), (105, .bipush 16, 2), (107, .if_icmp .ne 22, 3), (110, .aload_n 0, 1), (111, .iload_n 1, 1), (112, .bipush 8, 2), (114, .aload_n 0, 1), (115, .getfield 21, 3), (118, .getfield 182, 3), (121, .iload_n 2, 1), (122, .iaload, 1), (123, .iadd, 1), (124, .iload 4, 2), (126, .invokevirtual 117, 3), (129, .aload_n 0, 1), (130, .iload_n 1, 1), (131, .iconst 2, 1), (132, .iload_n 3, 1), (133, .bipush 17, 2), (135, .if_icmp .ne 20, 3), (138, .iload 4, 2), (140, .ifCond .ne 15, 3), (143, .aload_n 0, 1), (144, .getfield 21, 3), (147, .getfield 182, 3), (150, .iload_n 2, 1), (151, .iaload, 1), (152, .goto 6, 3), (155, .iload_n 2, 1), (156, .iconst 1, 1), (157, .iadd, 1), (158, .invokevirtual 117, 3), (161, .iconst 0, 1), (162, .ireturn, 1)] = true := by decide +kernel
set_option maxRecDepth 100000 in
set_option maxHeartbeats 4000000 in
theorem kg_X5_ownFailure_0 {G : kG} {q : kP} {d : Nat} {x : gd} {P : Option gv → gd → Prop} (hq : kV q) {o : Nat} (ho : kiM q o) (l1 : Int32) (l2 : Int32) (l3 : Int32)
    (h : ((l3 = (21 : Int32) → KT G q (d + 1) zk_X5_ownFailure 12 [(0, vr o), (1, vi l1)] [] x P) ∧ (¬ (l3 = (21 : Int32)) → ((¬ (l3 = (19 : Int32)) → ((¬ (l3 = (20 : Int32)) → vp_in l2 400 ∧ KT G q d zk_X5_localsAt 0 [(0, vr o), (1, vi l1)] [] x (ri (fun r6 x5 => KT G q d zk_X0_work 0 [(0, vr 60), (1, vi (x.1 88 (l2 : Int32).toNatClampNeg)), (2, vr (o + 5)), (3, vi r6), (4, vi l1)] [] x5 (ri (fun r8 x7 => (((x7.1 60 5) = (0 : Int32) → ((¬ (l3 = (18 : Int32)) → KT G q (d + 1) zk_X5_ownFailure 104 [(0, vr o), (1, vi l1), (2, vi l2), (3, vi l3), (4, vi r8)] [] x7 P) ∧ (l3 = (18 : Int32) → ((¬ (r8 = (0 : Int32)) → KT G q (d + 1) zk_X5_ownFailure 104 [(0, vr o), (1, vi l1), (2, vi l2), (3, vi l3), (4, vi r8)] [] x7 P) ∧ (r8 = (0 : Int32) → P (some (vi 5)) x7))))) ∧ (¬ ((x7.1 60 5) = (0 : Int32)) → P (some (vi 1)) x7))))))) ∧ (l3 = (20 : Int32) → vp_in l2 400 ∧ KT G q d zk_X5_set 0 [(0, vr o), (1, vi l1), (2, vi 2), (3, vi (x.1 84 (l2 : Int32).toNatClampNeg))] [] x (rv (fun x13 => P (some (vi 0)) x13))))) ∧ (l3 = (19 : Int32) → KT G q (d + 1) zk_X5_ownFailure 12 [(0, vr o), (1, vi l1)] [] x P))))) :
    KT G q (d + 1) zk_X5_ownFailure 0 [(0, vr o), (1, vi l1), (2, vi l2), (3, vi l3)] [] x P := by
  refine T_iload_n 3 (dk dtk_X5_ownFailure 0 rfl) rfl rfl ?_
  refine T_bipush (v := 21) (dk dtk_X5_ownFailure 1 rfl) (by decide +kernel) ?_
  refine T_icmp_eq 12 (dk dtk_X5_ownFailure 2 rfl) (by decide) (fun c1 => ?_) (fun c1 => ?_)
  · have h := h.1 c1
    exact T_sub [0, 1] rfl h
  · have h := h.2 c1
    refine T_iload_n 3 (dk dtk_X5_ownFailure 3 rfl) rfl rfl ?_
    refine T_bipush (v := 19) (dk dtk_X5_ownFailure 4 rfl) (by decide +kernel) ?_
    refine T_icmp_ne 28 (dk dtk_X5_ownFailure 5 rfl) (by decide) (fun c2 => ?_) (fun c2 => ?_)
    · have h := h.1 c2
      refine T_iload_n 3 (dk dtk_X5_ownFailure 18 rfl) rfl rfl ?_
      refine T_bipush (v := 20) (dk dtk_X5_ownFailure 19 rfl) (by decide +kernel) ?_
      refine T_icmp_ne 51 (dk dtk_X5_ownFailure 20 rfl) (by decide) (fun c3 => ?_) (fun c3 => ?_)
      · have h := h.1 c3
        refine T_aload_n 0 (dk dtk_X5_ownFailure 32 rfl) rfl rfl ?_
        refine T_getR o 0 60 (dk dtk_X5_ownFailure 33 rfl) kfl_X5_11 (kk_M0 ho) (kl_M0 hq ho) (by decide) rfl (kr_M_0 ho) ?_
        refine T_aload_n 0 (dk dtk_X5_ownFailure 34 rfl) rfl rfl ?_
        refine T_getR o 1 80 (dk dtk_X5_ownFailure 35 rfl) kfl_X5_21 (kk_M0 ho) (kl_M0 hq ho) (by decide) rfl (kr_M_1 ho) ?_
        refine T_getR 80 7 88 (dk dtk_X5_ownFailure 36 rfl) kfl_X5_160 kk_80 (kl_80 hq) (by decide) rfl kr_80_7 ?_
        refine T_iload_n 2 (dk dtk_X5_ownFailure 37 rfl) rfl rfl ?_
        obtain ⟨h4, h⟩ := h
        refine T_iald 88 400 (dk dtk_X5_ownFailure 38 rfl) kk_88 (kl_88 hq) h4 ?_
        refine T_aload_n 0 (dk dtk_X5_ownFailure 39 rfl) rfl rfl ?_
        refine T_getR o 4 (o + 5) (dk dtk_X5_ownFailure 40 rfl) kfl_X5_29 (kk_M0 ho) (kl_M0 hq ho) (by decide) rfl (kr_M_4 ho) ?_
        refine T_aload_n 0 (dk dtk_X5_ownFailure 41 rfl) rfl rfl ?_
        refine T_iload_n 1 (dk dtk_X5_ownFailure 42 rfl) rfl rfl ?_
        refine KC_Vi [vi l1] [vr (o + 5), vi (x.1 88 (l2 : Int32).toNatClampNeg), vr 60] rfl (dk dtk_X5_ownFailure 43 rfl) kcv_X5_142 rfl (kk_M0 ho) rfl (kl_M0 hq ho) (Nat.le_of_ble_eq_true rfl) (Nat.le_of_ble_eq_true rfl) (gok_i (av_c (gkr (kl_M0 hq ho)) (av_c rfl (av_c rfl (av_c rfl av_n)))) (as_c (gkr (kl_M5 hq ho)) (as_c rfl (as_c (gkr (kl_60 hq)) as_n)))) rfl h (fun r6 x5 h => ?_)
        refine T_iload_n 1 (dk dtk_X5_ownFailure 44 rfl) rfl rfl ?_
        refine KC_Vi [vi (x.1 88 (l2 : Int32).toNatClampNeg), vr (o + 5), vi r6, vi l1] [] rfl (dk dtk_X5_ownFailure 45 rfl) kcv_X5_145 rfl kk_60 rfl (kl_60 hq) (Nat.le_of_ble_eq_true rfl) (Nat.le_of_ble_eq_true rfl) (gok_i (av_c (gkr (kl_M0 hq ho)) (av_c rfl (av_c rfl (av_c rfl av_n)))) as_n) rfl h (fun r8 x7 h => ?_)
        refine T_istore (lv2 := [(4, vi r8), (0, vr o), (1, vi l1), (2, vi l2), (3, vi l3)]) (dk dtk_X5_ownFailure 46 rfl) (by decide) rfl ?_
        refine T_aload_n 1 (dk dtk_X5_ownFailure 47 rfl) rfl rfl ?_
        refine T_getR o 0 60 (dk dtk_X5_ownFailure 48 rfl) kfl_X5_11 (kk_M0 ho) (kl_M0 hq ho) (by decide) rfl (kr_M_0 ho) ?_
        refine T_getI 60 5 (dk dtk_X5_ownFailure 49 rfl) kfl_X5_149 kk_60 (kl_60 hq) (by decide) rfl ?_
        refine T_if_eq 91 (dk dtk_X5_ownFailure 50 rfl) (by decide) (fun c9 => ?_) (fun c9 => ?_)
        · have h := h.1 c9
          refine T_iload_n 4 (dk dtk_X5_ownFailure 53 rfl) rfl rfl ?_
          refine T_bipush (v := 18) (dk dtk_X5_ownFailure 54 rfl) (by decide +kernel) ?_
          refine T_icmp_ne 104 (dk dtk_X5_ownFailure 55 rfl) (by decide) (fun c10 => ?_) (fun c10 => ?_)
          · have h := h.1 c10
            exact T_sub [1, 2, 3, 4, 0] rfl h
          · have h := h.2 c10
            refine T_iload 0 (dk dtk_X5_ownFailure 56 rfl) rfl ?_
            refine T_if_ne 104 (dk dtk_X5_ownFailure 57 rfl) (by decide) (fun c11 => ?_) (fun c11 => ?_)
            · have h := h.1 c11
              exact T_sub [1, 2, 3, 4, 0] rfl h
            · have h := h.2 c11
              refine T_iconst (v := 5) (dk dtk_X5_ownFailure 58 rfl) (by decide +kernel) ?_
              exact KT_iret (dk dtk_X5_ownFailure 59 rfl) rfl rfl h
        · have h := h.2 c9
          refine T_iconst (v := 1) (dk dtk_X5_ownFailure 51 rfl) (by decide +kernel) ?_
          exact KT_iret (dk dtk_X5_ownFailure 52 rfl) rfl rfl h
      · have h := h.2 c3
        refine T_aload_n 0 (dk dtk_X5_ownFailure 21 rfl) rfl rfl ?_
        refine T_iload_n 1 (dk dtk_X5_ownFailure 22 rfl) rfl rfl ?_
        refine T_iconst (v := 2) (dk dtk_X5_ownFailure 23 rfl) (by decide +kernel) ?_
        refine T_aload_n 0 (dk dtk_X5_ownFailure 24 rfl) rfl rfl ?_
        refine T_getR o 1 80 (dk dtk_X5_ownFailure 25 rfl) kfl_X5_21 (kk_M0 ho) (kl_M0 hq ho) (by decide) rfl (kr_M_1 ho) ?_
        refine T_getR 80 3 84 (dk dtk_X5_ownFailure 26 rfl) kfl_X5_182 kk_80 (kl_80 hq) (by decide) rfl kr_80_3 ?_
        refine T_iload_n 2 (dk dtk_X5_ownFailure 27 rfl) rfl rfl ?_
        obtain ⟨h12, h⟩ := h
        refine T_iald 84 400 (dk dtk_X5_ownFailure 28 rfl) kk_84 (kl_84 hq) h12 ?_
        refine T_sub (lv2 := []) [] rfl ?_
        refine KC_Vv [vi l1, vi 2, vi (x.1 84 (l2 : Int32).toNatClampNeg)] [] rfl (dk dtk_X5_ownFailure 29 rfl) kcv_X5_117 rfl (kk_M0 ho) rfl (kl_M0 hq ho) (Nat.le_of_ble_eq_true rfl) (Nat.le_of_ble_eq_true rfl) (gok_i av_n as_n) rfl h (fun x13 h => ?_)
        refine T_iconst (v := 0) (dk dtk_X5_ownFailure 30 rfl) (by decide +kernel) ?_
        exact KT_iret (dk dtk_X5_ownFailure 31 rfl) rfl rfl h
    · have h := h.2 c2
      exact T_sub [0, 1] rfl h
set_option maxRecDepth 100000 in
set_option maxHeartbeats 4000000 in
theorem kg_X5_ownFailure_12 {G : kG} {q : kP} {d : Nat} {x : gd} {P : Option gv → gd → Prop} (hq : kV q) {o : Nat} (ho : kiM q o) (l1 : Int32)
    (h : KT G q d zk_X5_set 0 [(0, vr o), (1, vi l1), (2, vi 0), (3, vi 2)] [] x (rv (fun x1 => KT G q d zk_X5_set 0 [(0, vr o), (1, vi l1), (2, vi 2), (3, vi 0)] [] x1 (rv (fun x2 => P (some (vi 0)) x2))))) :
    KT G q (d + 1) zk_X5_ownFailure 12 [(0, vr o), (1, vi l1)] [] x P := by
  refine T_aload_n 0 (dk dtk_X5_ownFailure 6 rfl) rfl rfl ?_
  refine T_iload_n 1 (dk dtk_X5_ownFailure 7 rfl) rfl rfl ?_
  refine T_iconst (v := 0) (dk dtk_X5_ownFailure 8 rfl) (by decide +kernel) ?_
  refine T_iconst (v := 2) (dk dtk_X5_ownFailure 9 rfl) (by decide +kernel) ?_
  refine KC_Vv [vi l1, vi 0, vi 2] [] rfl (dk dtk_X5_ownFailure 10 rfl) kcv_X5_117 rfl (kk_M0 ho) rfl (kl_M0 hq ho) (Nat.le_of_ble_eq_true rfl) (Nat.le_of_ble_eq_true rfl) (gok_i (av_c (gkr (kl_M0 hq ho)) (av_c rfl av_n)) as_n) rfl h (fun x1 h => ?_)
  refine T_aload_n 0 (dk dtk_X5_ownFailure 11 rfl) rfl rfl ?_
  refine T_iload_n 1 (dk dtk_X5_ownFailure 12 rfl) rfl rfl ?_
  refine T_iconst (v := 2) (dk dtk_X5_ownFailure 13 rfl) (by decide +kernel) ?_
  refine T_iconst (v := 0) (dk dtk_X5_ownFailure 14 rfl) (by decide +kernel) ?_
  refine T_sub (lv2 := []) [] rfl ?_
  refine KC_Vv [vi l1, vi 2, vi 0] [] rfl (dk dtk_X5_ownFailure 15 rfl) kcv_X5_117 rfl (kk_M0 ho) rfl (kl_M0 hq ho) (Nat.le_of_ble_eq_true rfl) (Nat.le_of_ble_eq_true rfl) (gok_i av_n as_n) rfl h (fun x2 h => ?_)
  refine T_iconst (v := 0) (dk dtk_X5_ownFailure 16 rfl) (by decide +kernel) ?_
  exact KT_iret (dk dtk_X5_ownFailure 17 rfl) rfl rfl h
set_option maxRecDepth 100000 in
set_option maxHeartbeats 4000000 in
theorem kg_X5_ownFailure_104 {G : kG} {q : kP} {d : Nat} {x : gd} {P : Option gv → gd → Prop} (hq : kV q) {o : Nat} (ho : kiM q o) (l1 : Int32) (l2 : Int32) (l3 : Int32) (l4 : Int32)
    (h : ((¬ (l3 = (16 : Int32)) → KT G q (d + 1) zk_X5_ownFailure 129 [(0, vr o), (1, vi l1), (2, vi l2), (3, vi l3), (4, vi l4)] [] x P) ∧ (l3 = (16 : Int32) → vp_in l2 400 ∧ KT G q d zk_X5_set 0 [(0, vr o), (1, vi l1), (2, vi (8 + (x.1 84 (l2 : Int32).toNatClampNeg))), (3, vi l4)] [] x (rv (fun x3 => KT G q (d + 1) zk_X5_ownFailure 129 [(0, vr o), (1, vi l1), (2, vi l2), (3, vi l3), (4, vi l4)] [] x3 P))))) :
    KT G q (d + 1) zk_X5_ownFailure 104 [(0, vr o), (1, vi l1), (2, vi l2), (3, vi l3), (4, vi l4)] [] x P := by
  refine T_iload_n 3 (dk dtk_X5_ownFailure 60 rfl) rfl rfl ?_
  refine T_bipush (v := 16) (dk dtk_X5_ownFailure 61 rfl) (by decide +kernel) ?_
  refine T_icmp_ne 129 (dk dtk_X5_ownFailure 62 rfl) (by decide) (fun c1 => ?_) (fun c1 => ?_)
  · have h := h.1 c1
    exact h
  · have h := h.2 c1
    refine T_aload_n 0 (dk dtk_X5_ownFailure 63 rfl) rfl rfl ?_
    refine T_iload_n 1 (dk dtk_X5_ownFailure 64 rfl) rfl rfl ?_
    refine T_bipush (v := 8) (dk dtk_X5_ownFailure 65 rfl) (by decide +kernel) ?_
    refine T_aload_n 0 (dk dtk_X5_ownFailure 66 rfl) rfl rfl ?_
    refine T_getR o 1 80 (dk dtk_X5_ownFailure 67 rfl) kfl_X5_21 (kk_M0 ho) (kl_M0 hq ho) (by decide) rfl (kr_M_1 ho) ?_
    refine T_getR 80 3 84 (dk dtk_X5_ownFailure 68 rfl) kfl_X5_182 kk_80 (kl_80 hq) (by decide) rfl kr_80_3 ?_
    refine T_iload_n 2 (dk dtk_X5_ownFailure 69 rfl) rfl rfl ?_
    obtain ⟨h2, h⟩ := h
    refine T_iald 84 400 (dk dtk_X5_ownFailure 70 rfl) kk_84 (kl_84 hq) h2 ?_
    refine T_iadd (dk dtk_X5_ownFailure 71 rfl) ?_
    refine T_iload 4 (dk dtk_X5_ownFailure 72 rfl) rfl ?_
    refine KC_Vv [vi l1, vi (8 + (x.1 84 (l2 : Int32).toNatClampNeg)), vi l4] [] rfl (dk dtk_X5_ownFailure 73 rfl) kcv_X5_117 rfl (kk_M0 ho) rfl (kl_M0 hq ho) (Nat.le_of_ble_eq_true rfl) (Nat.le_of_ble_eq_true rfl) (gok_i (av_c (gkr (kl_M0 hq ho)) (av_c rfl (av_c rfl (av_c rfl (av_c rfl av_n))))) as_n) rfl h (fun x3 h => ?_)
    exact h
set_option maxRecDepth 100000 in
set_option maxHeartbeats 4000000 in
theorem kg_X5_ownFailure_129 {G : kG} {q : kP} {d : Nat} {x : gd} {P : Option gv → gd → Prop} (hq : kV q) {o : Nat} (ho : kiM q o) (l1 : Int32) (l2 : Int32) (l3 : Int32) (l4 : Int32)
    (h : ((¬ (l3 = (17 : Int32)) → KT G q (d + 1) zk_X5_ownFailure 158 [] [vi (l2 + 1), vi 2, vi l1, vr o] x P) ∧ (l3 = (17 : Int32) → ((¬ (l4 = (0 : Int32)) → KT G q (d + 1) zk_X5_ownFailure 158 [] [vi (l2 + 1), vi 2, vi l1, vr o] x P) ∧ (l4 = (0 : Int32) → vp_in l2 400 ∧ KT G q (d + 1) zk_X5_ownFailure 158 [] [vi (x.1 84 (l2 : Int32).toNatClampNeg), vi 2, vi l1, vr o] x P))))) :
    KT G q (d + 1) zk_X5_ownFailure 129 [(0, vr o), (1, vi l1), (2, vi l2), (3, vi l3), (4, vi l4)] [] x P := by
  refine T_aload_n 0 (dk dtk_X5_ownFailure 74 rfl) rfl rfl ?_
  refine T_iload_n 1 (dk dtk_X5_ownFailure 75 rfl) rfl rfl ?_
  refine T_iconst (v := 2) (dk dtk_X5_ownFailure 76 rfl) (by decide +kernel) ?_
  refine T_iload_n 3 (dk dtk_X5_ownFailure 77 rfl) rfl rfl ?_
  refine T_bipush (v := 17) (dk dtk_X5_ownFailure 78 rfl) (by decide +kernel) ?_
  refine T_icmp_ne 155 (dk dtk_X5_ownFailure 79 rfl) (by decide) (fun c1 => ?_) (fun c1 => ?_)
  · have h := h.1 c1
    refine T_iload_n 2 (dk dtk_X5_ownFailure 88 rfl) rfl rfl ?_
    refine T_iconst (v := 1) (dk dtk_X5_ownFailure 89 rfl) (by decide +kernel) ?_
    refine T_iadd (dk dtk_X5_ownFailure 90 rfl) ?_
    exact T_sub [] rfl h
  · have h := h.2 c1
    refine T_iload 4 (dk dtk_X5_ownFailure 80 rfl) rfl ?_
    refine T_if_ne 155 (dk dtk_X5_ownFailure 81 rfl) (by decide) (fun c2 => ?_) (fun c2 => ?_)
    · have h := h.1 c2
      refine T_iload_n 2 (dk dtk_X5_ownFailure 88 rfl) rfl rfl ?_
      refine T_iconst (v := 1) (dk dtk_X5_ownFailure 89 rfl) (by decide +kernel) ?_
      refine T_iadd (dk dtk_X5_ownFailure 90 rfl) ?_
      exact T_sub [] rfl h
    · have h := h.2 c2
      refine T_aload_n 0 (dk dtk_X5_ownFailure 82 rfl) rfl rfl ?_
      refine T_getR o 1 80 (dk dtk_X5_ownFailure 83 rfl) kfl_X5_21 (kk_M0 ho) (kl_M0 hq ho) (by decide) rfl (kr_M_1 ho) ?_
      refine T_getR 80 3 84 (dk dtk_X5_ownFailure 84 rfl) kfl_X5_182 kk_80 (kl_80 hq) (by decide) rfl kr_80_3 ?_
      refine T_iload_n 2 (dk dtk_X5_ownFailure 85 rfl) rfl rfl ?_
      obtain ⟨h3, h⟩ := h
      refine T_iald 84 400 (dk dtk_X5_ownFailure 86 rfl) kk_84 (kl_84 hq) h3 ?_
      refine T_goto 158 (dk dtk_X5_ownFailure 87 rfl) (by decide) ?_
      exact T_sub [] rfl h
set_option maxRecDepth 100000 in
set_option maxHeartbeats 4000000 in
theorem kg_X5_ownFailure_158 {G : kG} {q : kP} {d : Nat} {x : gd} {P : Option gv → gd → Prop} (hq : kV q) {o : Nat} (ho : kiM q o) (s0 : Int32) (s1 : Int32) (s2 : Int32)
    (h : KT G q d zk_X5_set 0 [(0, vr o), (1, vi s2), (2, vi s1), (3, vi s0)] [] x (rv (fun x1 => P (some (vi 0)) x1))) :
    KT G q (d + 1) zk_X5_ownFailure 158 [] [vi s0, vi s1, vi s2, vr o] x P := by
  refine KC_Vv [vi s2, vi s1, vi s0] [] rfl (dk dtk_X5_ownFailure 91 rfl) kcv_X5_117 rfl (kk_M0 ho) rfl (kl_M0 hq ho) (Nat.le_of_ble_eq_true rfl) (Nat.le_of_ble_eq_true rfl) (gok_i av_n as_n) rfl h (fun x1 h => ?_)
  refine T_iconst (v := 0) (dk dtk_X5_ownFailure 92 rfl) (by decide +kernel) ?_
  exact KT_iret (dk dtk_X5_ownFailure 93 rfl) rfl rfl h
set_option maxRecDepth 100000 in
theorem dtk_X5_fail : dck cX5_fail [(0, .aload_n 0, 1), (1, .iload_n 1, 1), (2, .iconst 0, 1), (3, .iconst 3, 1), (4, .invokevirtual 117, 3), (7, .aload_n 0, 1), (8, .iload_n 1, 1), (9, .iconst 1, 1), (10, .iload_n 2, 1), (11, .invokevirtual 117, 3), (14, .return_, 1)] = true := by decide +kernel
set_option maxRecDepth 100000 in
set_option maxHeartbeats 4000000 in
theorem kg_X5_fail_0 {G : kG} {q : kP} {d : Nat} {x : gd} {P : Option gv → gd → Prop} (hq : kV q) {o : Nat} (ho : kiM q o) (l1 : Int32) (l2 : Int32)
    (h : KT G q d zk_X5_set 0 [(0, vr o), (1, vi l1), (2, vi 0), (3, vi 3)] [] x (rv (fun x1 => KT G q d zk_X5_set 0 [(0, vr o), (1, vi l1), (2, vi 1), (3, vi l2)] [] x1 (rv (fun x2 => P none x2))))) :
    KT G q (d + 1) zk_X5_fail 0 [(0, vr o), (1, vi l1), (2, vi l2)] [] x P := by
  refine T_aload_n 0 (dk dtk_X5_fail 0 rfl) rfl rfl ?_
  refine T_iload_n 1 (dk dtk_X5_fail 1 rfl) rfl rfl ?_
  refine T_iconst (v := 0) (dk dtk_X5_fail 2 rfl) (by decide +kernel) ?_
  refine T_iconst (v := 3) (dk dtk_X5_fail 3 rfl) (by decide +kernel) ?_
  refine KC_Vv [vi l1, vi 0, vi 3] [] rfl (dk dtk_X5_fail 4 rfl) kcv_X5_117 rfl (kk_M0 ho) rfl (kl_M0 hq ho) (Nat.le_of_ble_eq_true rfl) (Nat.le_of_ble_eq_true rfl) (gok_i (av_c (gkr (kl_M0 hq ho)) (av_c rfl (av_c rfl av_n))) as_n) rfl h (fun x1 h => ?_)
  refine T_aload_n 0 (dk dtk_X5_fail 5 rfl) rfl rfl ?_
  refine T_iload_n 1 (dk dtk_X5_fail 6 rfl) rfl rfl ?_
  refine T_iconst (v := 1) (dk dtk_X5_fail 7 rfl) (by decide +kernel) ?_
  refine T_iload_n 2 (dk dtk_X5_fail 8 rfl) rfl rfl ?_
  refine T_sub (lv2 := []) [] rfl ?_
  refine KC_Vv [vi l1, vi 1, vi l2] [] rfl (dk dtk_X5_fail 9 rfl) kcv_X5_117 rfl (kk_M0 ho) rfl (kl_M0 hq ho) (Nat.le_of_ble_eq_true rfl) (Nat.le_of_ble_eq_true rfl) (gok_i av_n as_n) rfl h (fun x2 h => ?_)
  exact KT_vret (dk dtk_X5_fail 10 rfl) rfl h
set_option maxRecDepth 100000 in
theorem dtk_X5_mix : dck cX5_mix [(0, .aload_n 0, 1), (1, .iconst 0, 1), (2, .iconst 0, 1), (3, .aload_n 0, 1), (4, .getfield 55, 3), (7, .invokevirtual 268, 3), (10, .istore_n 1, 1), (11, .iconst 0, 1), (12, .istore_n 2, 1), (13, .iload_n 2, 1), (14, .aload_n 0, 1), (15, .getfield 11, 3), (18, .getfield 67, 3), (21, .if_icmp .ge 31, 3), (24, .aload_n 0, 1), (25, .iload_n 1, 1), (26, .aload_n 0, 1), (27, .getfield 55, 3), (30, .iload_n 2, 1), (31, .aload_n 0, 1), (32, .getfield 64, 3), (35, .imul, 1), (36, .iadd, 1), (37, .aload_n 0, 1), (38, .iload_n 2, 1), (39, .invokevirtual 271, 3), (42, .invokevirtual 268, 3), (45, .istore_n 1, 1), (46, .iinc 2 1, 3), (49, .goto (-36), 3), (52, .iload_n 1, 1), (53, .ireturn, 1)] = true := by decide +kernel
set_option maxRecDepth 100000 in
set_option maxHeartbeats 4000000 in
theorem kg_X5_mix_0 {G : kG} {q : kP} {d : Nat} {x : gd} {P : Option gv → gd → Prop} (hq : kV q) {o : Nat} (ho : kiM q o)
    (h : KT G q d zk_X5_mixPart 0 [(0, vr o), (1, vi 0), (2, vi 0), (3, vi (x.1 o 7))] [] x (ri (fun r2 x1 => KT G q (d + 1) zk_X5_mix 13 [(0, vr o), (1, vi r2), (2, vi 0)] [] x1 P))) :
    KT G q (d + 1) zk_X5_mix 0 [(0, vr o)] [] x P := by
  refine T_aload_n 0 (dk dtk_X5_mix 0 rfl) rfl rfl ?_
  refine T_iconst (v := 0) (dk dtk_X5_mix 1 rfl) (by decide +kernel) ?_
  refine T_iconst (v := 0) (dk dtk_X5_mix 2 rfl) (by decide +kernel) ?_
  refine T_aload_n 0 (dk dtk_X5_mix 3 rfl) rfl rfl ?_
  refine T_getI o 7 (dk dtk_X5_mix 4 rfl) kfl_X5_55 (kk_M0 ho) (kl_M0 hq ho) (by decide) rfl ?_
  refine KC_Vi [vi 0, vi 0, vi (x.1 o 7)] [] rfl (dk dtk_X5_mix 5 rfl) kcv_X5_268 rfl (kk_M0 ho) rfl (kl_M0 hq ho) (Nat.le_of_ble_eq_true rfl) (Nat.le_of_ble_eq_true rfl) (gok_i (av_c (gkr (kl_M0 hq ho)) av_n) as_n) rfl h (fun r2 x1 h => ?_)
  refine T_istore_n (lv2 := [(1, vi r2), (0, vr o)]) (dk dtk_X5_mix 6 rfl) rfl (by decide) rfl ?_
  refine T_iconst (v := 0) (dk dtk_X5_mix 7 rfl) (by decide +kernel) ?_
  refine T_istore_n (lv2 := [(2, vi 0), (1, vi r2), (0, vr o)]) (dk dtk_X5_mix 8 rfl) rfl (by decide) rfl ?_
  exact T_sub [2, 1, 0] rfl h
set_option maxRecDepth 100000 in
set_option maxHeartbeats 4000000 in
theorem kg_X5_mix_13 {G : kG} {q : kP} {d : Nat} {x : gd} {P : Option gv → gd → Prop} (hq : kV q) {o : Nat} (ho : kiM q o) (l1 : Int32) (l2 : Int32)
    (h : (((x.1 60 10) ≤ l2 → P (some (vi l1)) x) ∧ (¬ ((x.1 60 10) ≤ l2) → KT G q d zk_X5_usedOf 0 [(0, vr o), (1, vi l2)] [] x (ri (fun r3 x2 => KT G q d zk_X5_mixPart 0 [(0, vr o), (1, vi l1), (2, vi ((x.1 o 7) + (l2 * (x.1 o 8)))), (3, vi r3)] [] x2 (ri (fun r5 x4 => KT G q (d + 1) zk_X5_mix 13 [(0, vr o), (1, vi r5), (2, vi (l2 + 1))] [] x4 P))))))) :
    KT G q (d + 1) zk_X5_mix 13 [(0, vr o), (1, vi l1), (2, vi l2)] [] x P := by
  refine T_iload_n 2 (dk dtk_X5_mix 9 rfl) rfl rfl ?_
  refine T_aload_n 0 (dk dtk_X5_mix 10 rfl) rfl rfl ?_
  refine T_getR o 0 60 (dk dtk_X5_mix 11 rfl) kfl_X5_11 (kk_M0 ho) (kl_M0 hq ho) (by decide) rfl (kr_M_0 ho) ?_
  refine T_getI 60 10 (dk dtk_X5_mix 12 rfl) kfl_X5_67 kk_60 (kl_60 hq) (by decide) rfl ?_
  refine T_icmp_ge 52 (dk dtk_X5_mix 13 rfl) (by decide) (fun c1 => ?_) (fun c1 => ?_)
  · have h := h.1 c1
    refine T_iload_n 1 (dk dtk_X5_mix 30 rfl) rfl rfl ?_
    exact KT_iret (dk dtk_X5_mix 31 rfl) rfl rfl h
  · have h := h.2 c1
    refine T_aload_n 0 (dk dtk_X5_mix 14 rfl) rfl rfl ?_
    refine T_iload_n 1 (dk dtk_X5_mix 15 rfl) rfl rfl ?_
    refine T_aload_n 0 (dk dtk_X5_mix 16 rfl) rfl rfl ?_
    refine T_getI o 7 (dk dtk_X5_mix 17 rfl) kfl_X5_55 (kk_M0 ho) (kl_M0 hq ho) (by decide) rfl ?_
    refine T_iload_n 2 (dk dtk_X5_mix 18 rfl) rfl rfl ?_
    refine T_aload_n 0 (dk dtk_X5_mix 19 rfl) rfl rfl ?_
    refine T_getI o 8 (dk dtk_X5_mix 20 rfl) kfl_X5_64 (kk_M0 ho) (kl_M0 hq ho) (by decide) rfl ?_
    refine T_imul (dk dtk_X5_mix 21 rfl) ?_
    refine T_iadd (dk dtk_X5_mix 22 rfl) ?_
    refine T_aload_n 0 (dk dtk_X5_mix 23 rfl) rfl rfl ?_
    refine T_iload_n 2 (dk dtk_X5_mix 24 rfl) rfl rfl ?_
    refine T_sub (lv2 := [(0, vr o), (2, vi l2)]) [0, 2] rfl ?_
    refine KC_Vi [vi l2] [vi ((x.1 o 7) + (l2 * (x.1 o 8))), vi l1, vr o] rfl (dk dtk_X5_mix 25 rfl) kcv_X5_271 rfl (kk_M0 ho) rfl (kl_M0 hq ho) (Nat.le_of_ble_eq_true rfl) (Nat.le_of_ble_eq_true rfl) (gok_i (av_c (gkr (kl_M0 hq ho)) (av_c rfl av_n)) (as_c rfl (as_c rfl (as_c (gkr (kl_M0 hq ho)) as_n)))) rfl h (fun r3 x2 h => ?_)
    refine KC_Vi [vi l1, vi ((x.1 o 7) + (l2 * (x.1 o 8))), vi r3] [] rfl (dk dtk_X5_mix 26 rfl) kcv_X5_268 rfl (kk_M0 ho) rfl (kl_M0 hq ho) (Nat.le_of_ble_eq_true rfl) (Nat.le_of_ble_eq_true rfl) (gok_i (av_c (gkr (kl_M0 hq ho)) (av_c rfl av_n)) as_n) rfl h (fun r5 x4 h => ?_)
    refine T_istore_n (lv2 := [(1, vi r5), (0, vr o), (2, vi l2)]) (dk dtk_X5_mix 27 rfl) rfl (by decide) rfl ?_
    refine T_iinc (v := l2 + 1) (lv2 := [(2, vi (l2 + 1)), (1, vi r5), (0, vr o)]) 2 (dk dtk_X5_mix 28 rfl) rfl rfl (by decide) rfl ?_
    refine T_goto 13 (dk dtk_X5_mix 29 rfl) (by decide) ?_
    exact T_sub [2, 1, 0] rfl h
set_option maxRecDepth 100000 in
theorem dtk_X5_mixPart : dck cX5_mixPart [(0, .iload_n 1, 1), (1, .istore 4, 2), (3, .iload_n 2, 1), (4, .istore 5, 2), (6, .iload 5, 2), (8, .iload_n 2, 1), (9, .iload_n 3, 1), (10, .iadd, 1), (11, .if_icmp .ge 35, 3), (14, .iload 4, 2), (16, .aload_n 0, 1), (17, .getfield 29, 3), (20, .iload 5, 2), (22, .iaload, 1), (23, .ixor, 1), (24, .ldc_w 274, 3), (27, .imul, 1), (28, .istore 4, 2), (30, .iload 4, 2), (32, .iload 4, 2), (34, .bipush 15, 2), (36, .iushr, 1), (37, .ixor, 1), (38, .istore 4, 2), (40, .iinc 5 1, 3), (43, .goto (-37), 3), (46, .iload 4, 2), (48, .ireturn, 1)] = true := by decide +kernel
set_option maxRecDepth 100000 in
set_option maxHeartbeats 4000000 in
theorem kg_X5_mixPart_0 {G : kG} {q : kP} {d : Nat} {x : gd} {P : Option gv → gd → Prop} (hq : kV q) {o : Nat} (ho : kiM q o) (l1 : Int32) (l2 : Int32) (l3 : Int32)
    (h : KT G q d zk_X5_mixPart 6 [(0, vr o), (2, vi l2), (3, vi l3), (4, vi l1), (5, vi l2)] [] x P) :
    KT G q d zk_X5_mixPart 0 [(0, vr o), (1, vi l1), (2, vi l2), (3, vi l3)] [] x P := by
  refine T_iload_n 1 (dk dtk_X5_mixPart 0 rfl) rfl rfl ?_
  refine T_istore (lv2 := [(4, vi l1), (0, vr o), (1, vi l1), (2, vi l2), (3, vi l3)]) (dk dtk_X5_mixPart 1 rfl) (by decide) rfl ?_
  refine T_iload_n 3 (dk dtk_X5_mixPart 2 rfl) rfl rfl ?_
  refine T_istore (lv2 := [(5, vi l2), (4, vi l1), (0, vr o), (1, vi l1), (2, vi l2), (3, vi l3)]) (dk dtk_X5_mixPart 3 rfl) (by decide) rfl ?_
  exact T_sub [2, 4, 5, 1, 0] rfl h
set_option maxRecDepth 100000 in
set_option maxHeartbeats 4000000 in
theorem kg_X5_mixPart_6 {G : kG} {q : kP} {d : Nat} {x : gd} {P : Option gv → gd → Prop} (hq : kV q) {o : Nat} (ho : kiM q o) (l2 : Int32) (l3 : Int32) (l4 : Int32) (l5 : Int32)
    (h : (((l2 + l3) ≤ l5 → P (some (vi l4)) x) ∧ (¬ ((l2 + l3) ≤ l5) → vp_in l5 228 ∧ KT G q d zk_X5_mixPart 6 [(0, vr o), (2, vi l2), (3, vi l3), (4, vi (((l4 ^^^ (x.1 (o + 5) (l5 : Int32).toNatClampNeg)) * 16777619) ^^^ ((((l4 ^^^ (x.1 (o + 5) (l5 : Int32).toNatClampNeg)) * 16777619 : Int32).toUInt32 >>> ((15 : Int32).toUInt32 &&& Int32.toUInt32 31)).toInt32))), (5, vi (l5 + 1))] [] x P))) :
    KT G q d zk_X5_mixPart 6 [(0, vr o), (2, vi l2), (3, vi l3), (4, vi l4), (5, vi l5)] [] x P := by
  refine T_iload 4 (dk dtk_X5_mixPart 4 rfl) rfl ?_
  refine T_iload_n 1 (dk dtk_X5_mixPart 5 rfl) rfl rfl ?_
  refine T_iload_n 2 (dk dtk_X5_mixPart 6 rfl) rfl rfl ?_
  refine T_iadd (dk dtk_X5_mixPart 7 rfl) ?_
  refine T_icmp_ge 46 (dk dtk_X5_mixPart 8 rfl) (by decide) (fun c1 => ?_) (fun c1 => ?_)
  · have h := h.1 c1
    refine T_iload 3 (dk dtk_X5_mixPart 26 rfl) rfl ?_
    exact KT_iret (dk dtk_X5_mixPart 27 rfl) rfl rfl h
  · have h := h.2 c1
    refine T_iload 3 (dk dtk_X5_mixPart 9 rfl) rfl ?_
    refine T_aload_n 0 (dk dtk_X5_mixPart 10 rfl) rfl rfl ?_
    refine T_getR o 4 (o + 5) (dk dtk_X5_mixPart 11 rfl) kfl_X5_29 (kk_M0 ho) (kl_M0 hq ho) (by decide) rfl (kr_M_4 ho) ?_
    refine T_iload 4 (dk dtk_X5_mixPart 12 rfl) rfl ?_
    obtain ⟨h2, h⟩ := h
    refine T_iald (o + 5) 228 (dk dtk_X5_mixPart 13 rfl) (kk_M5 ho) (kl_M5 hq ho) h2 ?_
    refine T_ixor (dk dtk_X5_mixPart 14 rfl) ?_
    refine T_ldcw (v := 16777619) (dk dtk_X5_mixPart 15 rfl) kkc_X5_274 ?_
    refine T_imul (dk dtk_X5_mixPart 16 rfl) ?_
    refine T_istore (lv2 := [(4, vi ((l4 ^^^ (x.1 (o + 5) (l5 : Int32).toNatClampNeg)) * 16777619)), (0, vr o), (2, vi l2), (3, vi l3), (5, vi l5)]) (dk dtk_X5_mixPart 17 rfl) (by decide) rfl ?_
    refine T_iload 0 (dk dtk_X5_mixPart 18 rfl) rfl ?_
    refine T_iload 0 (dk dtk_X5_mixPart 19 rfl) rfl ?_
    refine T_bipush (v := 15) (dk dtk_X5_mixPart 20 rfl) (by decide +kernel) ?_
    refine T_iushr (dk dtk_X5_mixPart 21 rfl) ?_
    refine T_ixor (dk dtk_X5_mixPart 22 rfl) ?_
    refine T_istore (lv2 := [(4, vi (((l4 ^^^ (x.1 (o + 5) (l5 : Int32).toNatClampNeg)) * 16777619) ^^^ ((((l4 ^^^ (x.1 (o + 5) (l5 : Int32).toNatClampNeg)) * 16777619 : Int32).toUInt32 >>> ((15 : Int32).toUInt32 &&& Int32.toUInt32 31)).toInt32))), (0, vr o), (2, vi l2), (3, vi l3), (5, vi l5)]) (dk dtk_X5_mixPart 23 rfl) (by decide) rfl ?_
    refine T_iinc (v := l5 + 1) (lv2 := [(5, vi (l5 + 1)), (4, vi (((l4 ^^^ (x.1 (o + 5) (l5 : Int32).toNatClampNeg)) * 16777619) ^^^ ((((l4 ^^^ (x.1 (o + 5) (l5 : Int32).toNatClampNeg)) * 16777619 : Int32).toUInt32 >>> ((15 : Int32).toUInt32 &&& Int32.toUInt32 31)).toInt32))), (0, vr o), (2, vi l2), (3, vi l3)]) 4 (dk dtk_X5_mixPart 24 rfl) rfl rfl (by decide) rfl ?_
    refine T_goto 6 (dk dtk_X5_mixPart 25 rfl) (by decide) ?_
    exact T_sub [2, 3, 4, 1, 0] rfl h
set_option maxRecDepth 100000 in
theorem dtk_X5_usedOf : dck cX5_usedOf [(0, .aload_n 0, 1), (1, .getfield 61, 3), (4, .iconst 2, 1), (5, .aload_n 0, 1), (6, .iload_n 1, 1), (7, .bipush 7, 2), (9, .invokevirtual 90, 3), (12, .imul, 1), (13, .iadd, 1), (14, .ireturn, 1)] = true := by decide +kernel
set_option maxRecDepth 100000 in
set_option maxHeartbeats 4000000 in
theorem kg_X5_usedOf_0 {G : kG} {q : kP} {d : Nat} {x : gd} {P : Option gv → gd → Prop} (hq : kV q) {o : Nat} (ho : kiM q o) (l1 : Int32)
    (h : KT G q d zk_X5_get 0 [(0, vr o), (1, vi l1), (2, vi 7)] [] x (ri (fun r2 x1 => P (some (vi ((x.1 o 9) + (2 * r2)))) x1))) :
    KT G q (d + 1) zk_X5_usedOf 0 [(0, vr o), (1, vi l1)] [] x P := by
  refine T_aload_n 0 (dk dtk_X5_usedOf 0 rfl) rfl rfl ?_
  refine T_getI o 9 (dk dtk_X5_usedOf 1 rfl) kfl_X5_61 (kk_M0 ho) (kl_M0 hq ho) (by decide) rfl ?_
  refine T_iconst (v := 2) (dk dtk_X5_usedOf 2 rfl) (by decide +kernel) ?_
  refine T_aload_n 0 (dk dtk_X5_usedOf 3 rfl) rfl rfl ?_
  refine T_iload_n 1 (dk dtk_X5_usedOf 4 rfl) rfl rfl ?_
  refine T_bipush (v := 7) (dk dtk_X5_usedOf 5 rfl) (by decide +kernel) ?_
  refine T_sub (lv2 := []) [] rfl ?_
  refine KC_Vi [vi l1, vi 7] [vi 2, vi (x.1 o 9)] rfl (dk dtk_X5_usedOf 6 rfl) kcv_X5_90 rfl (kk_M0 ho) rfl (kl_M0 hq ho) (Nat.le_of_ble_eq_true rfl) (Nat.le_of_ble_eq_true rfl) (gok_i av_n (as_c rfl (as_c rfl as_n))) rfl h (fun r2 x1 h => ?_)
  refine T_imul (dk dtk_X5_usedOf 7 rfl) ?_
  refine T_iadd (dk dtk_X5_usedOf 8 rfl) ?_
  exact KT_iret (dk dtk_X5_usedOf 9 rfl) rfl rfl h
