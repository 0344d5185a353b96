set_option maxRecDepth 100000 in
theorem dtk_X5_isSame : dck cX5_isSame [(0, .aload_n 0, 1), (1, .aload_n 1, 1), (2, .iconst 0, 1), (3, .aload_n 0, 1), (4, .getfield 55, 3), (7, .invokevirtual 275, 3), (10, .istore_n 2, 1), (11, .iconst 0, 1), (12, .istore_n 3, 1), (13, .iload_n 3, 1), (14, .aload_n 0, 1), (15, .getfield 11, 3), (18, .getfield 67, 3), (21, .if_icmp .ge 35, 3), (24, .iload_n 2, 1), (25, .ifCond .eq 31, 3), (28, .aload_n 0, 1), (29, .aload_n 1, 1), (30, .aload_n 0, 1), (31, .getfield 55, 3), (34, .iload_n 3, 1), (35, .aload_n 0, 1), (36, .getfield 64, 3), (39, .imul, 1), (40, .iadd, 1), (41, .aload_n 0, 1), (42, .iload_n 3, 1), (43, .invokevirtual 271, 3), (46, .invokevirtual 275, 3), (49, .istore_n 2, 1), (50, .iinc 3 1, 3), (53, .goto (-40), 3), (56, .iload_n 2, 1), (57, .ireturn, 1)] = true := by decide +kernel
set_option maxRecDepth 100000 in
set_option maxHeartbeats 4000000 in
theorem kg_X5_isSame_0 {G : kG} {q : kP} {d : Nat} {x : gd} {P : Option gv → gd → Prop} (hq : kV q) {o : Nat} (ho : kiM q o) {a1 n1 : Nat} (ka1 : kK a1 = .inr (.int, n1)) (ma1 : a1 ∈ (kf q).2.1)
    (h : KT G q d zk_X5_isSamePart 0 [(0, vr o), (1, vr a1), (2, vi 0), (3, vi (x.1 o 7))] [] x (ri (fun r2 x1 => KT G q (d + 1) zk_X5_isSame 13 [(0, vr o), (1, vr a1), (2, vi r2), (3, vi 0)] [] x1 P))) :
    KT G q (d + 1) zk_X5_isSame 0 [(0, vr o), (1, vr a1)] [] x P := by
  refine T_aload_n 0 (dk dtk_X5_isSame 0 rfl) rfl rfl ?_
  refine T_aload_n 1 (dk dtk_X5_isSame 1 rfl) rfl rfl ?_
  refine T_iconst (v := 0) (dk dtk_X5_isSame 2 rfl) (by decide +kernel) ?_
  refine T_aload_n 0 (dk dtk_X5_isSame 3 rfl) rfl rfl ?_
  refine T_getI o 7 (dk dtk_X5_isSame 4 rfl) kfl_X5_55 (kk_M0 ho) (kl_M0 hq ho) (by decide) rfl ?_
  refine KC_Vi [vr a1, vi 0, vi (x.1 o 7)] [] rfl (dk dtk_X5_isSame 5 rfl) kcv_X5_275 rfl (kk_M0 ho) rfl (kl_M0 hq ho) (Nat.le_of_ble_eq_true rfl) (Nat.le_of_ble_eq_true rfl) (gok_i (av_c (gkr (kl_M0 hq ho)) (av_c (gkr ma1) av_n)) as_n) rfl h (fun r2 x1 h => ?_)
  refine T_istore_n (lv2 := [(2, vi r2), (0, vr o), (1, vr a1)]) (dk dtk_X5_isSame 6 rfl) rfl (by decide) rfl ?_
  refine T_iconst (v := 0) (dk dtk_X5_isSame 7 rfl) (by decide +kernel) ?_
  refine T_istore_n (lv2 := [(3, vi 0), (2, vi r2), (0, vr o), (1, vr a1)]) (dk dtk_X5_isSame 8 rfl) rfl (by decide) rfl ?_
  exact T_sub [2, 3, 1, 0] rfl h
set_option maxRecDepth 100000 in
set_option maxHeartbeats 4000000 in
theorem kg_X5_isSame_13 {G : kG} {q : kP} {d : Nat} {x : gd} {P : Option gv → gd → Prop} (hq : kV q) {o : Nat} (ho : kiM q o) {a1 n1 : Nat} (ka1 : kK a1 = .inr (.int, n1)) (ma1 : a1 ∈ (kf q).2.1) (l2 : Int32) (l3 : Int32)
    (h : (((x.1 60 10) ≤ l3 → gbool l2 ∧ P (some (vi l2)) x) ∧ (¬ ((x.1 60 10) ≤ l3) → ((l2 = (0 : Int32) → gbool l2 ∧ P (some (vi l2)) x) ∧ (¬ (l2 = (0 : Int32)) → KT G q d zk_X5_usedOf 0 [(0, vr o), (1, vi l3)] [] x (ri (fun r4 x3 => KT G q d zk_X5_isSamePart 0 [(0, vr o), (1, vr a1), (2, vi ((x.1 o 7) + (l3 * (x.1 o 8)))), (3, vi r4)] [] x3 (ri (fun r6 x5 => KT G q (d + 1) zk_X5_isSame 13 [(0, vr o), (1, vr a1), (2, vi r6), (3, vi (l3 + 1))] [] x5 P))))))))) :
    KT G q (d + 1) zk_X5_isSame 13 [(0, vr o), (1, vr a1), (2, vi l2), (3, vi l3)] [] x P := by
  refine T_iload_n 3 (dk dtk_X5_isSame 9 rfl) rfl rfl ?_
  refine T_aload_n 0 (dk dtk_X5_isSame 10 rfl) rfl rfl ?_
  refine T_getR o 0 60 (dk dtk_X5_isSame 11 rfl) kfl_X5_11 (kk_M0 ho) (kl_M0 hq ho) (by decide) rfl (kr_M_0 ho) ?_
  refine T_getI 60 10 (dk dtk_X5_isSame 12 rfl) kfl_X5_67 kk_60 (kl_60 hq) (by decide) rfl ?_
  refine T_icmp_ge 56 (dk dtk_X5_isSame 13 rfl) (by decide) (fun c1 => ?_) (fun c1 => ?_)
  · have h := h.1 c1
    refine T_iload_n 2 (dk dtk_X5_isSame 32 rfl) rfl rfl ?_
    exact KT_iret (dk dtk_X5_isSame 33 rfl) rfl h.1.1 h.2
  · have h := h.2 c1
    refine T_iload_n 2 (dk dtk_X5_isSame 14 rfl) rfl rfl ?_
    refine T_if_eq 56 (dk dtk_X5_isSame 15 rfl) (by decide) (fun c2 => ?_) (fun c2 => ?_)
    · have h := h.1 c2
      refine T_iload_n 2 (dk dtk_X5_isSame 32 rfl) rfl rfl ?_
      exact KT_iret (dk dtk_X5_isSame 33 rfl) rfl h.1.1 h.2
    · have h := h.2 c2
      refine T_aload_n 0 (dk dtk_X5_isSame 16 rfl) rfl rfl ?_
      refine T_aload_n 1 (dk dtk_X5_isSame 17 rfl) rfl rfl ?_
      refine T_aload_n 0 (dk dtk_X5_isSame 18 rfl) rfl rfl ?_
      refine T_getI o 7 (dk dtk_X5_isSame 19 rfl) kfl_X5_55 (kk_M0 ho) (kl_M0 hq ho) (by decide) rfl ?_
      refine T_iload_n 3 (dk dtk_X5_isSame 20 rfl) rfl rfl ?_
      refine T_aload_n 0 (dk dtk_X5_isSame 21 rfl) rfl rfl ?_
      refine T_getI o 8 (dk dtk_X5_isSame 22 rfl) kfl_X5_64 (kk_M0 ho) (kl_M0 hq ho) (by decide) rfl ?_
      refine T_imul (dk dtk_X5_isSame 23 rfl) ?_
      refine T_iadd (dk dtk_X5_isSame 24 rfl) ?_
      refine T_aload_n 0 (dk dtk_X5_isSame 25 rfl) rfl rfl ?_
      refine T_iload_n 3 (dk dtk_X5_isSame 26 rfl) rfl rfl ?_
      refine T_sub (lv2 := [(0, vr o), (1, vr a1), (3, vi l3)]) [0, 1, 3] rfl ?_
      refine KC_Vi [vi l3] [vi ((x.1 o 7) + (l3 * (x.1 o 8))), vr a1, vr o] rfl (dk dtk_X5_isSame 27 rfl) kcv_X5_271 rfl (kk_M0 ho) rfl (kl_M0 hq ho) (Nat.le_of_ble_eq_true rfl) (Nat.le_of_ble_eq_true rfl) (gok_i (av_c (gkr (kl_M0 hq ho)) (av_c (gkr ma1) (av_c rfl av_n))) (as_c rfl (as_c (gkr ma1) (as_c (gkr (kl_M0 hq ho)) as_n)))) rfl h (fun r4 x3 h => ?_)
      refine KC_Vi [vr a1, vi ((x.1 o 7) + (l3 * (x.1 o 8))), vi r4] [] rfl (dk dtk_X5_isSame 28 rfl) kcv_X5_275 rfl (kk_M0 ho) rfl (kl_M0 hq ho) (Nat.le_of_ble_eq_true rfl) (Nat.le_of_ble_eq_true rfl) (gok_i (av_c (gkr (kl_M0 hq ho)) (av_c (gkr ma1) (av_c rfl av_n))) as_n) rfl h (fun r6 x5 h => ?_)
      refine T_istore_n (lv2 := [(2, vi r6), (0, vr o), (1, vr a1), (3, vi l3)]) (dk dtk_X5_isSame 29 rfl) rfl (by decide) rfl ?_
      refine T_iinc (v := l3 + 1) (lv2 := [(3, vi (l3 + 1)), (2, vi r6), (0, vr o), (1, vr a1)]) 3 (dk dtk_X5_isSame 30 rfl) rfl rfl (by decide) rfl ?_
      refine T_goto 13 (dk dtk_X5_isSame 31 rfl) (by decide) ?_
      exact T_sub [2, 3, 1, 0] rfl h
set_option maxRecDepth 100000 in
theorem dtk_X5_isSamePart : dck cX5_isSamePart [(0, .iload_n 2, 1), (1, .istore 4, 2), (3, .iload 4, 2), (5, .iload_n 2, 1), (6, .iload_n 3, 1), (7, .iadd, 1), (8, .if_icmp .ge 25, 3), (11, .aload_n 0, 1), (12, .getfield 29, 3), (15, .iload 4, 2), (17, .iaload, 1), (18, .aload_n 1, 1), (19, .iload 4, 2), (21, .iaload, 1), (22, .if_icmp .eq 5, 3), (25, .iconst 0, 1), (26, .ireturn, 1), (27, .iinc 4 1, 3), (30, .goto (-27), 3), (33, .iconst 1, 1), (34, .ireturn, 1)] = true := by decide +kernel
set_option maxRecDepth 100000 in
set_option maxHeartbeats 4000000 in
theorem kg_X5_isSamePart_0 {G : kG} {q : kP} {d : Nat} {x : gd} {P : Option gv → gd → Prop} (hq : kV q) {o : Nat} (ho : kiM q o) {a1 n1 : Nat} (ka1 : kK a1 = .inr (.int, n1)) (ma1 : a1 ∈ (kf q).2.1) (l2 : Int32) (l3 : Int32)
    (h : KT G q d zk_X5_isSamePart 3 [(0, vr o), (1, vr a1), (2, vi l2), (3, vi l3), (4, vi l2)] [] x P) :
    KT G q d zk_X5_isSamePart 0 [(0, vr o), (1, vr a1), (2, vi l2), (3, vi l3)] [] x P := by
  refine T_iload_n 2 (dk dtk_X5_isSamePart 0 rfl) rfl rfl ?_
  refine T_istore (lv2 := [(4, vi l2), (0, vr o), (1, vr a1), (2, vi l2), (3, vi l3)]) (dk dtk_X5_isSamePart 1 rfl) (by decide) rfl ?_
  exact T_sub [1, 2, 3, 4, 0] rfl h
set_option maxRecDepth 100000 in
set_option maxHeartbeats 4000000 in
theorem kg_X5_isSamePart_3 {G : kG} {q : kP} {d : Nat} {x : gd} {P : Option gv → gd → Prop} (hq : kV q) {o : Nat} (ho : kiM q o) {a1 n1 : Nat} (ka1 : kK a1 = .inr (.int, n1)) (ma1 : a1 ∈ (kf q).2.1) (l2 : Int32) (l3 : Int32) (l4 : Int32)
    (h : (((l2 + l3) ≤ l4 → P (some (vi 1)) x) ∧ (¬ ((l2 + l3) ≤ l4) → vp_in l4 228 ∧ vp_in l4 n1 ∧ (((x.1 (o + 5) (l4 : Int32).toNatClampNeg) = (x.1 a1 (l4 : Int32).toNatClampNeg) → KT G q d zk_X5_isSamePart 3 [(0, vr o), (1, vr a1), (2, vi l2), (3, vi l3), (4, vi (l4 + 1))] [] x P) ∧ (¬ ((x.1 (o + 5) (l4 : Int32).toNatClampNeg) = (x.1 a1 (l4 : Int32).toNatClampNeg)) → P (some (vi 0)) x))))) :
    KT G q d zk_X5_isSamePart 3 [(0, vr o), (1, vr a1), (2, vi l2), (3, vi l3), (4, vi l4)] [] x P := by
  refine T_iload 4 (dk dtk_X5_isSamePart 2 rfl) rfl ?_
  refine T_iload_n 2 (dk dtk_X5_isSamePart 3 rfl) rfl rfl ?_
  refine T_iload_n 3 (dk dtk_X5_isSamePart 4 rfl) rfl rfl ?_
  refine T_iadd (dk dtk_X5_isSamePart 5 rfl) ?_
  refine T_icmp_ge 33 (dk dtk_X5_isSamePart 6 rfl) (by decide) (fun c1 => ?_) (fun c1 => ?_)
  · have h := h.1 c1
    refine T_iconst (v := 1) (dk dtk_X5_isSamePart 19 rfl) (by decide +kernel) ?_
    exact KT_iret (dk dtk_X5_isSamePart 20 rfl) rfl rfl h
  · have h := h.2 c1
    refine T_aload_n 0 (dk dtk_X5_isSamePart 7 rfl) rfl rfl ?_
    refine T_getR o 4 (o + 5) (dk dtk_X5_isSamePart 8 rfl) kfl_X5_29 (kk_M0 ho) (kl_M0 hq ho) (by decide) rfl (kr_M_4 ho) ?_
    refine T_iload 4 (dk dtk_X5_isSamePart 9 rfl) rfl ?_
    obtain ⟨h2, h⟩ := h
    refine T_iald (o + 5) 228 (dk dtk_X5_isSamePart 10 rfl) (kk_M5 ho) (kl_M5 hq ho) h2 ?_
    refine T_aload_n 1 (dk dtk_X5_isSamePart 11 rfl) rfl rfl ?_
    refine T_iload 4 (dk dtk_X5_isSamePart 12 rfl) rfl ?_
    obtain ⟨h3, h⟩ := h
    refine T_iald a1 n1 (dk dtk_X5_isSamePart 13 rfl) ka1 ma1 h3 ?_
    refine T_icmp_eq 27 (dk dtk_X5_isSamePart 14 rfl) (by decide) (fun c4 => ?_) (fun c4 => ?_)
    · have h := h.1 c4
      refine T_iinc (v := l4 + 1) (lv2 := [(4, vi (l4 + 1)), (0, vr o), (1, vr a1), (2, vi l2), (3, vi l3)]) 4 (dk dtk_X5_isSamePart 17 rfl) rfl rfl (by decide) rfl ?_
      refine T_goto 3 (dk dtk_X5_isSamePart 18 rfl) (by decide) ?_
      exact T_sub [1, 2, 3, 4, 0] rfl h
    · have h := h.2 c4
      refine T_iconst (v := 0) (dk dtk_X5_isSamePart 15 rfl) (by decide +kernel) ?_
      exact KT_iret (dk dtk_X5_isSamePart 16 rfl) rfl rfl h
set_option maxRecDepth 100000 in
theorem dtk_X5_blankUnknown : dck cX5_blankUnknown [(0, .aload_n 0, 1), (1, .iload_n 1, 1), (2, .invokevirtual 279, 3), (5, .istore_n 2, 1), (6, .iload_n 2, 1), (7, .aload_n 0, 1), (8, .getfield 11, 3), (11, .getfield 58, 3), (14, .if_icmp .ge 19, 3), (17, .aload_n 0, 1), (18, .iload_n 1, 1), (19, .bipush 8, 2), (21, .iload_n 2, 1), (22, .iadd, 1), (23, .iconst 0, 1), (24, .invokevirtual 117, 3), (27, .iinc 2 1, 3), (30, .goto (-24), 3), (33, .return_, 1)] = true := by decide +kernel
set_option maxRecDepth 100000 in
set_option maxHeartbeats 4000000 in
theorem kg_X5_blankUnknown_0 {G : kG} {q : kP} {d : Nat} {x : gd} {P : Option gv → gd → Prop} (hq : kV q) {o : Nat} (ho : kiM q o) (l1 : Int32)
    (h : KT G q d zk_X5_known 0 [(0, vr o), (1, vi l1)] [] x (ri (fun r2 x1 => KT G q (d + 1) zk_X5_blankUnknown 6 [(0, vr o), (1, vi l1), (2, vi r2)] [] x1 P))) :
    KT G q (d + 1) zk_X5_blankUnknown 0 [(0, vr o), (1, vi l1)] [] x P := by
  refine T_aload_n 0 (dk dtk_X5_blankUnknown 0 rfl) rfl rfl ?_
  refine T_iload_n 1 (dk dtk_X5_blankUnknown 1 rfl) rfl rfl ?_
  refine KC_Vi [vi l1] [] rfl (dk dtk_X5_blankUnknown 2 rfl) kcv_X5_279 rfl (kk_M0 ho) rfl (kl_M0 hq ho) (Nat.le_of_ble_eq_true rfl) (Nat.le_of_ble_eq_true rfl) (gok_i (av_c (gkr (kl_M0 hq ho)) (av_c rfl av_n)) as_n) rfl h (fun r2 x1 h => ?_)
  refine T_istore_n (lv2 := [(2, vi r2), (0, vr o), (1, vi l1)]) (dk dtk_X5_blankUnknown 3 rfl) rfl (by decide) rfl ?_
  exact T_sub [1, 2, 0] rfl h
set_option maxRecDepth 100000 in
set_option maxHeartbeats 4000000 in
theorem kg_X5_blankUnknown_6 {G : kG} {q : kP} {d : Nat} {x : gd} {P : Option gv → gd → Prop} (hq : kV q) {o : Nat} (ho : kiM q o) (l1 : Int32) (l2 : Int32)
    (h : (((x.1 60 13) ≤ l2 → P none x) ∧ (¬ ((x.1 60 13) ≤ l2) → KT G q d zk_X5_set 0 [(0, vr o), (1, vi l1), (2, vi (8 + l2)), (3, vi 0)] [] x (rv (fun x2 => KT G q (d + 1) zk_X5_blankUnknown 6 [(0, vr o), (1, vi l1), (2, vi (l2 + 1))] [] x2 P))))) :
    KT G q (d + 1) zk_X5_blankUnknown 6 [(0, vr o), (1, vi l1), (2, vi l2)] [] x P := by
  refine T_iload_n 2 (dk dtk_X5_blankUnknown 4 rfl) rfl rfl ?_
  refine T_aload_n 0 (dk dtk_X5_blankUnknown 5 rfl) rfl rfl ?_
  refine T_getR o 0 60 (dk dtk_X5_blankUnknown 6 rfl) kfl_X5_11 (kk_M0 ho) (kl_M0 hq ho) (by decide) rfl (kr_M_0 ho) ?_
  refine T_getI 60 13 (dk dtk_X5_blankUnknown 7 rfl) kfl_X5_58 kk_60 (kl_60 hq) (by decide) rfl ?_
  refine T_icmp_ge 33 (dk dtk_X5_blankUnknown 8 rfl) (by decide) (fun c1 => ?_) (fun c1 => ?_)
  · have h := h.1 c1
    exact KT_vret (dk dtk_X5_blankUnknown 18 rfl) rfl h
  · have h := h.2 c1
    refine T_aload_n 0 (dk dtk_X5_blankUnknown 9 rfl) rfl rfl ?_
    refine T_iload_n 1 (dk dtk_X5_blankUnknown 10 rfl) rfl rfl ?_
    refine T_bipush (v := 8) (dk dtk_X5_blankUnknown 11 rfl) (by decide +kernel) ?_
    refine T_iload_n 2 (dk dtk_X5_blankUnknown 12 rfl) rfl rfl ?_
    refine T_iadd (dk dtk_X5_blankUnknown 13 rfl) ?_
    refine T_iconst (v := 0) (dk dtk_X5_blankUnknown 14 rfl) (by decide +kernel) ?_
    refine KC_Vv [vi l1, vi (8 + l2), vi 0] [] rfl (dk dtk_X5_blankUnknown 15 rfl) kcv_X5_117 rfl (kk_M0 ho) rfl (kl_M0 hq ho) (Nat.le_of_ble_eq_true rfl) (Nat.le_of_ble_eq_true rfl) (gok_i (av_c (gkr (kl_M0 hq ho)) (av_c rfl (av_c rfl av_n))) as_n) rfl h (fun x2 h => ?_)
    refine T_iinc (v := l2 + 1) (lv2 := [(2, vi (l2 + 1)), (0, vr o), (1, vi l1)]) 2 (dk dtk_X5_blankUnknown 16 rfl) rfl rfl (by decide) rfl ?_
    refine T_goto 6 (dk dtk_X5_blankUnknown 17 rfl) (by decide) ?_
    exact T_sub [1, 2, 0] rfl h
set_option maxRecDepth 100000 in
theorem dtk_X4_clear : dck cX4_clear [(0, .aload_n 0, 1), (1, .iconst 0, 1), (2, .putfield 61, 3), (5, .aload_n 0, 1), (6, .iconst 0, 1), (7, .putfield 65, 3), (10, .aload_n 0, 1), (11, .iconst 0, 1), (12, .putfield 68, 3), (15, .aload_n 0, 1), (16, .getfield 46, 3), (19, .iconst (-1), 1), (20, .invokestatic 71, 3), (23, .aload_n 0, 1), (24, .getfield 49, 3), (27, .iconst 0, 1), (28, .invokestatic 71, 3), (31, .aload_n 0, 1), (32, .getfield 52, 3), (35, .iconst 0, 1), (36, .invokestatic 71, 3), (39, .aload_n 0, 1), (40, .getfield 55, 3), (43, .iconst 0, 1), (44, .invokestatic 71, 3), (47, .aload_n 0, 1), (48, .getfield 58, 3), (51, .iconst 0, 1), (52, .invokestatic 71, 3), (55, .return_, 1)] = true := by decide +kernel
set_option maxRecDepth 100000 in
set_option maxHeartbeats 4000000 in
theorem kg_X4_clear_0 {G : kG} {q : kP} {d : Nat} {x : gd} {P : Option gv → gd → Prop} (hq : kV q) 
    (h : (∀ x1 : gd, x1 = si x 160 2 0 → (∀ x2 : gd, x2 = si x1 160 3 0 → (∀ x3 : gd, x3 = si x2 160 4 0 → (∀ x4 : gd, x4 = sfl x3 174 (-1) 6 → (∀ x5 : gd, x5 = sfl x4 175 0 36 → (∀ x6 : gd, x6 = sfl x5 176 0 36 → (∀ x7 : gd, x7 = sfl x6 177 0 144 → (∀ x8 : gd, x8 = sfl x7 178 0 36 → P none x8))))))))) :
    KT G q (d + 1) zk_X4_clear 0 [(0, vr 160)] [] x P := by
  refine T_aload_n 0 (dk dtk_X4_clear 0 rfl) rfl rfl ?_
  refine T_iconst (v := 0) (dk dtk_X4_clear 1 rfl) (by decide +kernel) ?_
  obtain ⟨x1, ex1⟩ : ∃ z, z = si x 160 2 0 := ⟨_, rfl⟩
  have h := h x1 ex1
  refine T_putI 160 2 (dk dtk_X4_clear 2 rfl) kfl_X4_61 kk_160 (kl_160 hq) (by decide) rfl ⟨rfl, rfl⟩ ?_
  rw [← ex1]
  refine T_aload_n 0 (dk dtk_X4_clear 3 rfl) rfl rfl ?_
  refine T_iconst (v := 0) (dk dtk_X4_clear 4 rfl) (by decide +kernel) ?_
  obtain ⟨x2, ex2⟩ : ∃ z, z = si x1 160 3 0 := ⟨_, rfl⟩
  have h := h x2 ex2
  refine T_putI 160 3 (dk dtk_X4_clear 5 rfl) kfl_X4_65 kk_160 (kl_160 hq) (by decide) rfl ⟨rfl, rfl⟩ ?_
  rw [← ex2]
  refine T_aload_n 0 (dk dtk_X4_clear 6 rfl) rfl rfl ?_
  refine T_iconst (v := 0) (dk dtk_X4_clear 7 rfl) (by decide +kernel) ?_
  obtain ⟨x3, ex3⟩ : ∃ z, z = si x2 160 4 0 := ⟨_, rfl⟩
  have h := h x3 ex3
  refine T_putI 160 4 (dk dtk_X4_clear 8 rfl) kfl_X4_68 kk_160 (kl_160 hq) (by decide) rfl ⟨rfl, rfl⟩ ?_
  rw [← ex3]
  refine T_aload_n 0 (dk dtk_X4_clear 9 rfl) rfl rfl ?_
  refine T_getR 160 13 174 (dk dtk_X4_clear 10 rfl) kfl_X4_46 kk_160 (kl_160 hq) (by decide) rfl kr_160_13 ?_
  refine T_iconst (v := (-1)) (dk dtk_X4_clear 11 rfl) (by decide +kernel) ?_
  refine KC_Sv (F := fun z => z = sfl x3 174 (-1) 6) [vr 174, vi (-1)] [] rfl (dk dtk_X4_clear 12 rfl) kcs_X4_71 rfl (Nat.le_of_ble_eq_true rfl) (Nat.le_of_ble_eq_true rfl) (gok_i (av_c (gkr (kl_160 hq)) av_n) as_n) rfl (tj_fill 174 6 (-1) kk_174 (kl_174 hq) (by decide) ⟨rfl, none, rfl, rfl, rfl⟩) (fun x4 ex4 => ?_)
  have h := h x4 ex4
  refine T_aload_n 0 (dk dtk_X4_clear 13 rfl) rfl rfl ?_
  refine T_getR 160 14 175 (dk dtk_X4_clear 14 rfl) kfl_X4_49 kk_160 (kl_160 hq) (by decide) rfl kr_160_14 ?_
  refine T_iconst (v := 0) (dk dtk_X4_clear 15 rfl) (by decide +kernel) ?_
  refine KC_Sv (F := fun z => z = sfl x4 175 0 36) [vr 175, vi 0] [] rfl (dk dtk_X4_clear 16 rfl) kcs_X4_71 rfl (Nat.le_of_ble_eq_true rfl) (Nat.le_of_ble_eq_true rfl) (gok_i (av_c (gkr (kl_160 hq)) av_n) as_n) rfl (tj_fill 175 36 0 kk_175 (kl_175 hq) (by decide) ⟨rfl, none, rfl, rfl, rfl⟩) (fun x5 ex5 => ?_)
  have h := h x5 ex5
  refine T_aload_n 0 (dk dtk_X4_clear 17 rfl) rfl rfl ?_
  refine T_getR 160 15 176 (dk dtk_X4_clear 18 rfl) kfl_X4_52 kk_160 (kl_160 hq) (by decide) rfl kr_160_15 ?_
  refine T_iconst (v := 0) (dk dtk_X4_clear 19 rfl) (by decide +kernel) ?_
  refine KC_Sv (F := fun z => z = sfl x5 176 0 36) [vr 176, vi 0] [] rfl (dk dtk_X4_clear 20 rfl) kcs_X4_71 rfl (Nat.le_of_ble_eq_true rfl) (Nat.le_of_ble_eq_true rfl) (gok_i (av_c (gkr (kl_160 hq)) av_n) as_n) rfl (tj_fill 176 36 0 kk_176 (kl_176 hq) (by decide) ⟨rfl, none, rfl, rfl, rfl⟩) (fun x6 ex6 => ?_)
  have h := h x6 ex6
  refine T_aload_n 0 (dk dtk_X4_clear 21 rfl) rfl rfl ?_
  refine T_getR 160 16 177 (dk dtk_X4_clear 22 rfl) kfl_X4_55 kk_160 (kl_160 hq) (by decide) rfl kr_160_16 ?_
  refine T_iconst (v := 0) (dk dtk_X4_clear 23 rfl) (by decide +kernel) ?_
  refine KC_Sv (F := fun z => z = sfl x6 177 0 144) [vr 177, vi 0] [] rfl (dk dtk_X4_clear 24 rfl) kcs_X4_71 rfl (Nat.le_of_ble_eq_true rfl) (Nat.le_of_ble_eq_true rfl) (gok_i (av_c (gkr (kl_160 hq)) av_n) as_n) rfl (tj_fill 177 144 0 kk_177 (kl_177 hq) (by decide) ⟨rfl, none, rfl, rfl, rfl⟩) (fun x7 ex7 => ?_)
  have h := h x7 ex7
  refine T_aload_n 0 (dk dtk_X4_clear 25 rfl) rfl rfl ?_
  refine T_getR 160 17 178 (dk dtk_X4_clear 26 rfl) kfl_X4_58 kk_160 (kl_160 hq) (by decide) rfl kr_160_17 ?_
  refine T_iconst (v := 0) (dk dtk_X4_clear 27 rfl) (by decide +kernel) ?_
  refine T_sub (lv2 := []) [] rfl ?_
  refine KC_Sv (F := fun z => z = sfl x7 178 0 36) [vr 178, vi 0] [] rfl (dk dtk_X4_clear 28 rfl) kcs_X4_71 rfl (Nat.le_of_ble_eq_true rfl) (Nat.le_of_ble_eq_true rfl) (gok_i av_n as_n) rfl (tj_fill 178 36 0 kk_178 (kl_178 hq) (by decide) ⟨rfl, none, rfl, rfl, rfl⟩) (fun x8 ex8 => ?_)
  have h := h x8 ex8
  exact KT_vret (dk dtk_X4_clear 29 rfl) rfl h
set_option maxRecDepth 100000 in
theorem dtk_X4_note : dck cX4_note [(0, .aload_n 0, 1), (1, .getfield 61, 3), (4, .sipush 400, 3), (7, .if_icmp .lt 4, 3), (10, .return_, 1), (11, .aload_n 0, 1), (12, .getfield 17, 3), (15, .aload_n 0, 1), (16, .getfield 61, 3), (19, .iload_n 1, 1), (20, .iastore, 1), (21, .aload_n 0, 1), (22, .dup, 1), (23, .getfield 61, 3), (26, .iconst 1, 1), (27, .iadd, 1), (28, .putfield 61, 3), (31, .aload_n 2, 1), (32, .getfield 77, 3), (35, .iconst (-1), 1), (36, .if_icmp .ne 4, 3), (39, .return_, 1), (40, .aload_n 0, 1), (41, .getfield 65, 3), (44, .istore_n 3, 1), (45, .aload_n 0, 1), (46, .dup, 1), (47, .getfield 65, 3), (50, .iconst 1, 1), (51, .iadd, 1), (52, .putfield 65, 3), (55, .aload_n 0, 1), (56, .getfield 21, 3), (59, .iload_n 3, 1), (60, .aload_n 2, 1), (61, .getfield 77, 3), (64, .iastore, 1), (65, .aload_n 0, 1), (66, .getfield 24, 3), (69, .iload_n 3, 1), (70, .aload_n 2, 1), (71, .getfield 81, 3), (74, .iastore, 1), (75, .aload_n 0, 1), (76, .getfield 27, 3), (79, .iload_n 3, 1), (80, .aload_n 2, 1), (81, .getfield 83, 3), (84, .iastore, 1), (85, .aload_n 0, 1), (86, .getfield 30, 3), (89, .iload_n 3, 1), (90, .aload_n 2, 1), (91, .getfield 85, 3), (94, .iastore, 1), (95, .aload_n 0, 1), (96, .getfield 33, 3), (99, .iload_n 3, 1), (100, .aload_n 2, 1), (101, .getfield 87, 3), (104, .iastore, 1), (105, .aload_n 0, 1), (106, .getfield 36, 3), (109, .iload_n 3, 1), (110, .aload_n 2, 1), (111, .getfield 89, 3), (114, .bastore, 1), (115, .aload_n 2, 1), (116, .getfield 81, 3), (119, .bipush 13, 2), (121, .if_icmp .ne 20, 3), (124, .aload_n 2, 1), (125, .getfield 89, 3), (128, .ifCond .ne 13, 3), (131, .aload_n 0, 1), (132, .dup, 1), (133, .getfield 68, 3), (136, .iconst 1, 1), (137, .iadd, 1), (138, .putfield 68, 3), (141, .aload_n 0, 1), (142, .iload_n 3, 1), (143, .invokevirtual 94, 3), (146, .aload_n 2, 1), (147, .getfield 89, 3), (150, .ifCond .ne 12, 3), (153, .aload_n 0, 1), (154, .iload_n 3, 1), (155, .aload_n 2, 1), (156, .getfield 98, 3), (159, .invokevirtual 101, 3), (162, .aload_n 0, 1), (163, .getfield 40, 3), (166, .iload_n 3, 1), (167, .iload_n 3, 1), (168, .ifCond .ne 7, 3), (171, .iconst 0, 1), (172, .goto 11, 3), (175, .aload_n 0, 1), (176, .getfield 40, 3), (179, .iload_n 3, 1), (180, .iconst 1, 1), (181, .isub, 1), (182, .iaload, 1), (183, .aload_n 0, 1), (184, .iload_n 3, 1), (185, .invokevirtual 105, 3), (188, .iadd, 1), (189, .iastore, 1), (190, .return_, 1)] = true := by decide +kernel
set_option maxRecDepth 100000 in
set_option maxHeartbeats 4000000 in
theorem kg_X4_note_0 {G : kG} {q : kP} {d : Nat} {x : gd} {P : Option gv → gd → Prop} (hq : kV q) (l1 : Int32)
    (h : (((x.1 160 2) < (400 : Int32) → vp_in (x.1 160 2) 400 ∧ (∀ x3 : gd, x3 = si x 162 (x.1 160 2 : Int32).toNatClampNeg l1 → (∀ x4 : gd, x4 = si x3 160 2 ((x3.1 160 2) + 1) → ((¬ ((x4.1 140 0) = (-1 : Int32)) → (∀ x6 : gd, x6 = si x4 160 3 ((x4.1 160 3) + 1) → vp_in (x4.1 160 3) 400 ∧ (∀ x8 : gd, x8 = si x6 166 (x4.1 160 3 : Int32).toNatClampNeg (x6.1 140 0) → vp_in (x4.1 160 3) 400 ∧ (∀ x10 : gd, x10 = si x8 167 (x4.1 160 3 : Int32).toNatClampNeg (x8.1 140 1) → vp_in (x4.1 160 3) 400 ∧ (∀ x12 : gd, x12 = si x10 168 (x4.1 160 3 : Int32).toNatClampNeg (x10.1 140 2) → vp_in (x4.1 160 3) 400 ∧ (∀ x14 : gd, x14 = si x12 169 (x4.1 160 3 : Int32).toNatClampNeg (x12.1 140 3) → vp_in (x4.1 160 3) 400 ∧ (∀ x16 : gd, x16 = si x14 170 (x4.1 160 3 : Int32).toNatClampNeg (x14.1 140 4) → vp_in (x4.1 160 3) 400 ∧ (∀ x18 : gd, x18 = si x16 171 (x4.1 160 3 : Int32).toNatClampNeg (vp_nar .boolean (x16.1 140 5)) → ((¬ ((x18.1 140 1) = (13 : Int32)) → KT G q (d + 1) zk_X4_note 141 [(0, vr 160), (2, vr 140), (3, vi (x4.1 160 3))] [] x18 P) ∧ ((x18.1 140 1) = (13 : Int32) → ((¬ ((x18.1 140 5) = (0 : Int32)) → KT G q (d + 1) zk_X4_note 141 [(0, vr 160), (2, vr 140), (3, vi (x4.1 160 3))] [] x18 P) ∧ ((x18.1 140 5) = (0 : Int32) → (∀ x21 : gd, x21 = si x18 160 4 ((x18.1 160 4) + 1) → KT G q (d + 1) zk_X4_note 141 [(0, vr 160), (2, vr 140), (3, vi (x4.1 160 3))] [] x21 P))))))))))))) ∧ ((x4.1 140 0) = (-1 : Int32) → P none x4))))) ∧ (¬ ((x.1 160 2) < (400 : Int32)) → P none x))) :
    KT G q (d + 1) zk_X4_note 0 [(0, vr 160), (1, vi l1), (2, vr 140)] [] x P := by
  refine T_aload_n 0 (dk dtk_X4_note 0 rfl) rfl rfl ?_
  refine T_getI 160 2 (dk dtk_X4_note 1 rfl) kfl_X4_61 kk_160 (kl_160 hq) (by decide) rfl ?_
  refine T_sipush (v := 400) (dk dtk_X4_note 2 rfl) (by decide +kernel) ?_
  refine T_icmp_lt 11 (dk dtk_X4_note 3 rfl) (by decide) (fun c1 => ?_) (fun c1 => ?_)
  · have h := h.1 c1
    refine T_aload_n 0 (dk dtk_X4_note 5 rfl) rfl rfl ?_
    refine T_getR 160 1 162 (dk dtk_X4_note 6 rfl) kfl_X4_17 kk_160 (kl_160 hq) (by decide) rfl kr_160_1 ?_
    refine T_aload_n 0 (dk dtk_X4_note 7 rfl) rfl rfl ?_
    refine T_getI 160 2 (dk dtk_X4_note 8 rfl) kfl_X4_61 kk_160 (kl_160 hq) (by decide) rfl ?_
    refine T_iload_n 1 (dk dtk_X4_note 9 rfl) rfl rfl ?_
    obtain ⟨h2, h⟩ := h
    obtain ⟨x3, ex3⟩ : ∃ z, z = si x 162 (x.1 160 2 : Int32).toNatClampNeg l1 := ⟨_, rfl⟩
    have h := h x3 ex3
    refine T_iast 162 400 (dk dtk_X4_note 10 rfl) kk_162 (kl_162 hq) h2 ?_
    rw [← ex3]
    refine T_aload_n 0 (dk dtk_X4_note 11 rfl) rfl rfl ?_
    refine T_dup (dk dtk_X4_note 12 rfl) rfl ?_
    refine T_getI 160 2 (dk dtk_X4_note 13 rfl) kfl_X4_61 kk_160 (kl_160 hq) (by decide) rfl ?_
    refine T_iconst (v := 1) (dk dtk_X4_note 14 rfl) (by decide +kernel) ?_
    refine T_iadd (dk dtk_X4_note 15 rfl) ?_
    obtain ⟨x4, ex4⟩ : ∃ z, z = si x3 160 2 ((x3.1 160 2) + 1) := ⟨_, rfl⟩
    have h := h x4 ex4
    refine T_putI 160 2 (dk dtk_X4_note 16 rfl) kfl_X4_61 kk_160 (kl_160 hq) (by decide) rfl ⟨rfl, rfl⟩ ?_
    rw [← ex4]
    refine T_aload_n 2 (dk dtk_X4_note 17 rfl) rfl rfl ?_
    refine T_getI 140 0 (dk dtk_X4_note 18 rfl) kfl_X4_77 kk_140 (kl_140 hq) (by decide) rfl ?_
    refine T_iconst (v := (-1)) (dk dtk_X4_note 19 rfl) (by decide +kernel) ?_
    refine T_icmp_ne 40 (dk dtk_X4_note 20 rfl) (by decide) (fun c5 => ?_) (fun c5 => ?_)
    · have h := h.1 c5
      refine T_aload_n 0 (dk dtk_X4_note 22 rfl) rfl rfl ?_
      refine T_getI 160 3 (dk dtk_X4_note 23 rfl) kfl_X4_65 kk_160 (kl_160 hq) (by decide) rfl ?_
      refine T_istore_n (lv2 := [(3, vi (x4.1 160 3)), (0, vr 160), (1, vi l1), (2, vr 140)]) (dk dtk_X4_note 24 rfl) rfl (by decide) rfl ?_
      refine T_aload_n 1 (dk dtk_X4_note 25 rfl) rfl rfl ?_
      refine T_dup (dk dtk_X4_note 26 rfl) rfl ?_
      refine T_getI 160 3 (dk dtk_X4_note 27 rfl) kfl_X4_65 kk_160 (kl_160 hq) (by decide) rfl ?_
      refine T_iconst (v := 1) (dk dtk_X4_note 28 rfl) (by decide +kernel) ?_
      refine T_iadd (dk dtk_X4_note 29 rfl) ?_
      obtain ⟨x6, ex6⟩ : ∃ z, z = si x4 160 3 ((x4.1 160 3) + 1) := ⟨_, rfl⟩
      have h := h x6 ex6
      refine T_putI 160 3 (dk dtk_X4_note 30 rfl) kfl_X4_65 kk_160 (kl_160 hq) (by decide) rfl ⟨rfl, rfl⟩ ?_
      rw [← ex6]
      refine T_aload_n 1 (dk dtk_X4_note 31 rfl) rfl rfl ?_
      refine T_getR 160 5 166 (dk dtk_X4_note 32 rfl) kfl_X4_21 kk_160 (kl_160 hq) (by decide) rfl kr_160_5 ?_
      refine T_iload_n 0 (dk dtk_X4_note 33 rfl) rfl rfl ?_
      refine T_aload_n 3 (dk dtk_X4_note 34 rfl) rfl rfl ?_
      refine T_getI 140 0 (dk dtk_X4_note 35 rfl) kfl_X4_77 kk_140 (kl_140 hq) (by decide) rfl ?_
      obtain ⟨h7, h⟩ := h
      obtain ⟨x8, ex8⟩ : ∃ z, z = si x6 166 (x4.1 160 3 : Int32).toNatClampNeg (x6.1 140 0) := ⟨_, rfl⟩
      have h := h x8 ex8
      refine T_iast 166 400 (dk dtk_X4_note 36 rfl) kk_166 (kl_166 hq) h7 ?_
      rw [← ex8]
      refine T_aload_n 1 (dk dtk_X4_note 37 rfl) rfl rfl ?_
      refine T_getR 160 6 167 (dk dtk_X4_note 38 rfl) kfl_X4_24 kk_160 (kl_160 hq) (by decide) rfl kr_160_6 ?_
      refine T_iload_n 0 (dk dtk_X4_note 39 rfl) rfl rfl ?_
      refine T_aload_n 3 (dk dtk_X4_note 40 rfl) rfl rfl ?_
      refine T_getI 140 1 (dk dtk_X4_note 41 rfl) kfl_X4_81 kk_140 (kl_140 hq) (by decide) rfl ?_
      obtain ⟨h9, h⟩ := h
      obtain ⟨x10, ex10⟩ : ∃ z, z = si x8 167 (x4.1 160 3 : Int32).toNatClampNeg (x8.1 140 1) := ⟨_, rfl⟩
      have h := h x10 ex10
      refine T_iast 167 400 (dk dtk_X4_note 42 rfl) kk_167 (kl_167 hq) h9 ?_
      rw [← ex10]
      refine T_aload_n 1 (dk dtk_X4_note 43 rfl) rfl rfl ?_
      refine T_getR 160 7 168 (dk dtk_X4_note 44 rfl) kfl_X4_27 kk_160 (kl_160 hq) (by decide) rfl kr_160_7 ?_
      refine T_iload_n 0 (dk dtk_X4_note 45 rfl) rfl rfl ?_
      refine T_aload_n 3 (dk dtk_X4_note 46 rfl) rfl rfl ?_
      refine T_getI 140 2 (dk dtk_X4_note 47 rfl) kfl_X4_83 kk_140 (kl_140 hq) (by decide) rfl ?_
      obtain ⟨h11, h⟩ := h
      obtain ⟨x12, ex12⟩ : ∃ z, z = si x10 168 (x4.1 160 3 : Int32).toNatClampNeg (x10.1 140 2) := ⟨_, rfl⟩
      have h := h x12 ex12
      refine T_iast 168 400 (dk dtk_X4_note 48 rfl) kk_168 (kl_168 hq) h11 ?_
      rw [← ex12]
      refine T_aload_n 1 (dk dtk_X4_note 49 rfl) rfl rfl ?_
      refine T_getR 160 8 169 (dk dtk_X4_note 50 rfl) kfl_X4_30 kk_160 (kl_160 hq) (by decide) rfl kr_160_8 ?_
      refine T_iload_n 0 (dk dtk_X4_note 51 rfl) rfl rfl ?_
      refine T_aload_n 3 (dk dtk_X4_note 52 rfl) rfl rfl ?_
      refine T_getI 140 3 (dk dtk_X4_note 53 rfl) kfl_X4_85 kk_140 (kl_140 hq) (by decide) rfl ?_
      obtain ⟨h13, h⟩ := h
      obtain ⟨x14, ex14⟩ : ∃ z, z = si x12 169 (x4.1 160 3 : Int32).toNatClampNeg (x12.1 140 3) := ⟨_, rfl⟩
      have h := h x14 ex14
      refine T_iast 169 400 (dk dtk_X4_note 54 rfl) kk_169 (kl_169 hq) h13 ?_
      rw [← ex14]
      refine T_aload_n 1 (dk dtk_X4_note 55 rfl) rfl rfl ?_
      refine T_getR 160 9 170 (dk dtk_X4_note 56 rfl) kfl_X4_33 kk_160 (kl_160 hq) (by decide) rfl kr_160_9 ?_
      refine T_iload_n 0 (dk dtk_X4_note 57 rfl) rfl rfl ?_
      refine T_aload_n 3 (dk dtk_X4_note 58 rfl) rfl rfl ?_
      refine T_getI 140 4 (dk dtk_X4_note 59 rfl) kfl_X4_87 kk_140 (kl_140 hq) (by decide) rfl ?_
      obtain ⟨h15, h⟩ := h
      obtain ⟨x16, ex16⟩ : ∃ z, z = si x14 170 (x4.1 160 3 : Int32).toNatClampNeg (x14.1 140 4) := ⟨_, rfl⟩
      have h := h x16 ex16
      refine T_iast 170 400 (dk dtk_X4_note 60 rfl) kk_170 (kl_170 hq) h15 ?_
      rw [← ex16]
      refine T_aload_n 1 (dk dtk_X4_note 61 rfl) rfl rfl ?_
      refine T_getR 160 10 171 (dk dtk_X4_note 62 rfl) kfl_X4_36 kk_160 (kl_160 hq) (by decide) rfl kr_160_10 ?_
      refine T_iload_n 0 (dk dtk_X4_note 63 rfl) rfl rfl ?_
      refine T_aload_n 3 (dk dtk_X4_note 64 rfl) rfl rfl ?_
      refine T_getI 140 5 (dk dtk_X4_note 65 rfl) kfl_X4_89 kk_140 (kl_140 hq) (by decide) rfl ?_
      obtain ⟨h17, h⟩ := h
      obtain ⟨x18, ex18⟩ : ∃ z, z = si x16 171 (x4.1 160 3 : Int32).toNatClampNeg (vp_nar .boolean (x16.1 140 5)) := ⟨_, rfl⟩
      have h := h x18 ex18
      refine T_zast 171 400 (dk dtk_X4_note 66 rfl) kk_171 (kl_171 hq) h17 ?_
      rw [← ex18]
      refine T_aload_n 3 (dk dtk_X4_note 67 rfl) rfl rfl ?_
      refine T_getI 140 1 (dk dtk_X4_note 68 rfl) kfl_X4_81 kk_140 (kl_140 hq) (by decide) rfl ?_
      refine T_bipush (v := 13) (dk dtk_X4_note 69 rfl) (by decide +kernel) ?_
      refine T_icmp_ne 141 (dk dtk_X4_note 70 rfl) (by decide) (fun c19 => ?_) (fun c19 => ?_)
      · have h := h.1 c19
        exact T_sub [1, 3, 0] rfl h
      · have h := h.2 c19
        refine T_aload_n 3 (dk dtk_X4_note 71 rfl) rfl rfl ?_
        refine T_getI 140 5 (dk dtk_X4_note 72 rfl) kfl_X4_89 kk_140 (kl_140 hq) (by decide) rfl ?_
        refine T_if_ne 141 (dk dtk_X4_note 73 rfl) (by decide) (fun c20 => ?_) (fun c20 => ?_)
        · have h := h.1 c20
          exact T_sub [1, 3, 0] rfl h
        · have h := h.2 c20
          refine T_aload_n 1 (dk dtk_X4_note 74 rfl) rfl rfl ?_
          refine T_dup (dk dtk_X4_note 75 rfl) rfl ?_
          refine T_getI 160 4 (dk dtk_X4_note 76 rfl) kfl_X4_68 kk_160 (kl_160 hq) (by decide) rfl ?_
          refine T_iconst (v := 1) (dk dtk_X4_note 77 rfl) (by decide +kernel) ?_
          refine T_iadd (dk dtk_X4_note 78 rfl) ?_
          obtain ⟨x21, ex21⟩ : ∃ z, z = si x18 160 4 ((x18.1 160 4) + 1) := ⟨_, rfl⟩
          have h := h x21 ex21
          refine T_putI 160 4 (dk dtk_X4_note 79 rfl) kfl_X4_68 kk_160 (kl_160 hq) (by decide) rfl ⟨rfl, rfl⟩ ?_
          rw [← ex21]
          exact T_sub [1, 3, 0] rfl h
    · have h := h.2 c5
      exact KT_vret (dk dtk_X4_note 21 rfl) rfl h
  · have h := h.2 c1
    exact KT_vret (dk dtk_X4_note 4 rfl) rfl h
set_option maxRecDepth 100000 in
set_option maxHeartbeats 4000000 in
theorem kg_X4_note_141 {G : kG} {q : kP} {d : Nat} {x : gd} {P : Option gv → gd → Prop} (hq : kV q) (l3 : Int32)
    (h : KT G q d zk_X4_setClock 0 [(0, vr 160), (1, vi l3)] [] x (rv (fun x1 => ((¬ ((x1.1 140 5) = (0 : Int32)) → KT G q (d + 1) zk_X4_note 162 [(0, vr 160), (3, vi l3)] [] x1 P) ∧ ((x1.1 140 5) = (0 : Int32) → KT G q d zk_X4_handOn 0 [(0, vr 160), (1, vi l3), (2, vi (x1.1 140 6))] [] x1 (rv (fun x3 => KT G q (d + 1) zk_X4_note 162 [(0, vr 160), (3, vi l3)] [] x3 P))))))) :
    KT G q (d + 1) zk_X4_note 141 [(0, vr 160), (2, vr 140), (3, vi l3)] [] x P := by
  refine T_aload_n 0 (dk dtk_X4_note 80 rfl) rfl rfl ?_
  refine T_iload_n 2 (dk dtk_X4_note 81 rfl) rfl rfl ?_
  refine KC_Vv [vi l3] [] rfl (dk dtk_X4_note 82 rfl) kcv_X4_94 rfl kk_160 rfl (kl_160 hq) (Nat.le_of_ble_eq_true rfl) (Nat.le_of_ble_eq_true rfl) (gok_i (av_c (gkr (kl_160 hq)) (av_c (gkr (kl_140 hq)) (av_c rfl av_n))) as_n) rfl h (fun x1 h => ?_)
  refine T_aload_n 1 (dk dtk_X4_note 83 rfl) rfl rfl ?_
  refine T_getI 140 5 (dk dtk_X4_note 84 rfl) kfl_X4_89 kk_140 (kl_140 hq) (by decide) rfl ?_
  refine T_if_ne 162 (dk dtk_X4_note 85 rfl) (by decide) (fun c2 => ?_) (fun c2 => ?_)
  · have h := h.1 c2
    exact T_sub [0, 2] rfl h
  · have h := h.2 c2
    refine T_aload_n 0 (dk dtk_X4_note 86 rfl) rfl rfl ?_
    refine T_iload_n 2 (dk dtk_X4_note 87 rfl) rfl rfl ?_
    refine T_aload_n 1 (dk dtk_X4_note 88 rfl) rfl rfl ?_
    refine T_getI 140 6 (dk dtk_X4_note 89 rfl) kfl_X4_98 kk_140 (kl_140 hq) (by decide) rfl ?_
    refine T_sub (lv2 := [(0, vr 160), (3, vi l3)]) [0, 2] rfl ?_
    refine KC_Vv [vi l3, vi (x1.1 140 6)] [] rfl (dk dtk_X4_note 90 rfl) kcv_X4_101 rfl kk_160 rfl (kl_160 hq) (Nat.le_of_ble_eq_true rfl) (Nat.le_of_ble_eq_true rfl) (gok_i (av_c (gkr (kl_160 hq)) (av_c rfl av_n)) as_n) rfl h (fun x3 h => ?_)
    exact h
set_option maxRecDepth 100000 in
set_option maxHeartbeats 4000000 in
theorem kg_X4_note_162 {G : kG} {q : kP} {d : Nat} {x : gd} {P : Option gv → gd → Prop} (hq : kV q) (l3 : Int32)
    (h : ((¬ (l3 = (0 : Int32)) → vp_in (l3 - 1) 400 ∧ KT G q (d + 1) zk_X4_note 183 [(0, vr 160), (3, vi l3)] [vi (x.1 172 (l3 - 1 : Int32).toNatClampNeg), vi l3, vr 172] x P) ∧ (l3 = (0 : Int32) → KT G q (d + 1) zk_X4_note 183 [(0, vr 160), (3, vi l3)] [vi 0, vi l3, vr 172] x P))) :
    KT G q (d + 1) zk_X4_note 162 [(0, vr 160), (3, vi l3)] [] x P := by
  refine T_aload_n 0 (dk dtk_X4_note 91 rfl) rfl rfl ?_
  refine T_getR 160 11 172 (dk dtk_X4_note 92 rfl) kfl_X4_40 kk_160 (kl_160 hq) (by decide) rfl kr_160_11 ?_
  refine T_iload_n 1 (dk dtk_X4_note 93 rfl) rfl rfl ?_
  refine T_iload_n 1 (dk dtk_X4_note 94 rfl) rfl rfl ?_
  refine T_if_ne 175 (dk dtk_X4_note 95 rfl) (by decide) (fun c1 => ?_) (fun c1 => ?_)
  · have h := h.1 c1
    refine T_aload_n 0 (dk dtk_X4_note 98 rfl) rfl rfl ?_
    refine T_getR 160 11 172 (dk dtk_X4_note 99 rfl) kfl_X4_40 kk_160 (kl_160 hq) (by decide) rfl kr_160_11 ?_
    refine T_iload_n 1 (dk dtk_X4_note 100 rfl) rfl rfl ?_
    refine T_iconst (v := 1) (dk dtk_X4_note 101 rfl) (by decide +kernel) ?_
    refine T_isub (dk dtk_X4_note 102 rfl) ?_
    obtain ⟨h2, h⟩ := h
    refine T_iald 172 400 (dk dtk_X4_note 103 rfl) kk_172 (kl_172 hq) h2 ?_
    exact h
  · have h := h.2 c1
    refine T_iconst (v := 0) (dk dtk_X4_note 96 rfl) (by decide +kernel) ?_
    refine T_goto 183 (dk dtk_X4_note 97 rfl) (by decide) ?_
    exact h
set_option maxRecDepth 100000 in
set_option maxHeartbeats 4000000 in
theorem kg_X4_note_183 {G : kG} {q : kP} {d : Nat} {x : gd} {P : Option gv → gd → Prop} (hq : kV q) (l3 : Int32) (s0 : Int32) (s1 : Int32)
    (h : KT G q d zk_X4_racesOf 0 [(0, vr 160), (1, vi l3)] [] x (ri (fun r2 x1 => vp_in s1 400 ∧ (∀ x4 : gd, x4 = si x1 172 (s1 : Int32).toNatClampNeg (s0 + r2) → P none x4)))) :
    KT G q (d + 1) zk_X4_note 183 [(0, vr 160), (3, vi l3)] [vi s0, vi s1, vr 172] x P := by
  refine T_aload_n 0 (dk dtk_X4_note 104 rfl) rfl rfl ?_
  refine T_iload_n 1 (dk dtk_X4_note 105 rfl) rfl rfl ?_
  refine T_sub (lv2 := []) [] rfl ?_
  refine KC_Vi [vi l3] [vi s0, vi s1, vr 172] rfl (dk dtk_X4_note 106 rfl) kcv_X4_105 rfl kk_160 rfl (kl_160 hq) (Nat.le_of_ble_eq_true rfl) (Nat.le_of_ble_eq_true rfl) (gok_i av_n (as_c rfl (as_c rfl (as_c (gkr (kl_172 hq)) as_n)))) rfl h (fun r2 x1 h => ?_)
  refine T_iadd (dk dtk_X4_note 107 rfl) ?_
  obtain ⟨h3, h⟩ := h
  obtain ⟨x4, ex4⟩ : ∃ z, z = si x1 172 (s1 : Int32).toNatClampNeg (s0 + r2) := ⟨_, rfl⟩
  have h := h x4 ex4
  refine T_iast 172 400 (dk dtk_X4_note 108 rfl) kk_172 (kl_172 hq) h3 ?_
  rw [← ex4]
  exact KT_vret (dk dtk_X4_note 109 rfl) rfl h
set_option maxRecDepth 100000 in
theorem dtk_X4_setClock : dck cX4_setClock [(0, .aload_n 0, 1), (1, .getfield 21, 3), (4, .iload_n 1, 1), (5, .iaload, 1), (6, .istore_n 2, 1), (7, .iconst 0, 1), (8, .istore_n 3, 1), (9, .iload_n 3, 1), (10, .bipush 6, 2), (12, .if_icmp .ge 21, 3), (15, .aload_n 0, 1), (16, .getfield 43, 3), (19, .iload_n 1, 1), (20, .bipush 6, 2), (22, .imul, 1), (23, .iload_n 3, 1), (24, .iadd, 1), (25, .iconst 0, 1), (26, .iastore, 1), (27, .iinc 3 1, 3), (30, .goto (-21), 3), (33, .aload_n 0, 1), (34, .getfield 46, 3), (37, .iload_n 2, 1), (38, .iaload, 1), (39, .iconst (-1), 1), (40, .if_icmp .ne 19, 3), (43, .aload_n 0, 1), (44, .getfield 43, 3), (47, .iload_n 1, 1), (48, .aload_n 0, 1), (49, .getfield 49, 3), (52, .iload_n 2, 1), (53, .invokestatic 109, 3), (56, .goto 21, 3), (59, .aload_n 0, 1), (60, .getfield 43, 3), (63, .iload_n 1, 1), (64, .aload_n 0, 1), (65, .getfield 43, 3), (68, .aload_n 0, 1), (69, .getfield 46, 3), (72, .iload_n 2, 1), (73, .iaload, 1), (74, .invokestatic 109, 3), (77, .aload_n 0, 1), (78, .getfield 36, 3), (81, .iload_n 1, 1), (82, .baload, 1), (83, .ifCond .ne 8, 3), (86, .aload_n 0, 1), (87, .iload_n 1, 1), (88, .invokevirtual 113, 3), (91, .aload_n 0, 1), (92, .getfield 43, 3), (95, .iload_n 1, 1), (96, .bipush 6, 2), (98, .imul, 1), (99, .iload_n 2, 1), (100, .iadd, 1), (101, .dup2, 1), (102, .iaload, 1), (103, .iconst 1, 1), (104, .iadd, 1), (105, .iastore, 1), (106, .aload_n 0, 1), (107, .getfield 46, 3), (110, .iload_n 2, 1), (111, .iload_n 1, 1), (112, .iastore, 1), (113, .return_, 1)] = true := by decide +kernel
set_option maxRecDepth 100000 in
set_option maxHeartbeats 4000000 in
theorem kg_X4_setClock_0 {G : kG} {q : kP} {d : Nat} {x : gd} {P : Option gv → gd → Prop} (hq : kV q) (l1 : Int32)
    (h : vp_in l1 400 ∧ KT G q (d + 1) zk_X4_setClock 9 [(0, vr 160), (1, vi l1), (2, vi (x.1 166 (l1 : Int32).toNatClampNeg)), (3, vi 0)] [] x P) :
    KT G q (d + 1) zk_X4_setClock 0 [(0, vr 160), (1, vi l1)] [] x P := by
  refine T_aload_n 0 (dk dtk_X4_setClock 0 rfl) rfl rfl ?_
  refine T_getR 160 5 166 (dk dtk_X4_setClock 1 rfl) kfl_X4_21 kk_160 (kl_160 hq) (by decide) rfl kr_160_5 ?_
  refine T_iload_n 1 (dk dtk_X4_setClock 2 rfl) rfl rfl ?_
  obtain ⟨h1, h⟩ := h
  refine T_iald 166 400 (dk dtk_X4_setClock 3 rfl) kk_166 (kl_166 hq) h1 ?_
  refine T_istore_n (lv2 := [(2, vi (x.1 166 (l1 : Int32).toNatClampNeg)), (0, vr 160), (1, vi l1)]) (dk dtk_X4_setClock 4 rfl) rfl (by decide) rfl ?_
  refine T_iconst (v := 0) (dk dtk_X4_setClock 5 rfl) (by decide +kernel) ?_
  refine T_istore_n (lv2 := [(3, vi 0), (2, vi (x.1 166 (l1 : Int32).toNatClampNeg)), (0, vr 160), (1, vi l1)]) (dk dtk_X4_setClock 6 rfl) rfl (by decide) rfl ?_
  exact T_sub [2, 3, 1, 0] rfl h
set_option maxRecDepth 100000 in
set_option maxHeartbeats 4000000 in
theorem kg_X4_setClock_9 {G : kG} {q : kP} {d : Nat} {x : gd} {P : Option gv → gd → Prop} (hq : kV q) (l1 : Int32) (l2 : Int32) (l3 : Int32)
    (h : (((6 : Int32) ≤ l3 → vp_in l2 6 ∧ ((¬ ((x.1 174 (l2 : Int32).toNatClampNeg) = (-1 : Int32)) → vp_in l2 6 ∧ KT G q d zk_X4_join 0 [(0, vr 173), (1, vi l1), (2, vr 173), (3, vi (x.1 174 (l2 : Int32).toNatClampNeg))] [] x (rv (fun x5 => KT G q (d + 1) zk_X4_setClock 77 [(0, vr 160), (1, vi l1), (2, vi l2)] [] x5 P))) ∧ ((x.1 174 (l2 : Int32).toNatClampNeg) = (-1 : Int32) → KT G q d zk_X4_join 0 [(0, vr 173), (1, vi l1), (2, vr 175), (3, vi l2)] [] x (rv (fun x6 => KT G q (d + 1) zk_X4_setClock 77 [(0, vr 160), (1, vi l1), (2, vi l2)] [] x6 P))))) ∧ (¬ ((6 : Int32) ≤ l3) → vp_in ((l1 * 6) + l3) 2400 ∧ (∀ x8 : gd, x8 = si x 173 ((l1 * 6) + l3 : Int32).toNatClampNeg 0 → KT G q (d + 1) zk_X4_setClock 9 [(0, vr 160), (1, vi l1), (2, vi l2), (3, vi (l3 + 1))] [] x8 P)))) :
    KT G q (d + 1) zk_X4_setClock 9 [(0, vr 160), (1, vi l1), (2, vi l2), (3, vi l3)] [] x P := by
  refine T_iload_n 3 (dk dtk_X4_setClock 7 rfl) rfl rfl ?_
  refine T_bipush (v := 6) (dk dtk_X4_setClock 8 rfl) (by decide +kernel) ?_
  refine T_icmp_ge 33 (dk dtk_X4_setClock 9 rfl) (by decide) (fun c1 => ?_) (fun c1 => ?_)
  · have h := h.1 c1
    refine T_aload_n 0 (dk dtk_X4_setClock 21 rfl) rfl rfl ?_
    refine T_getR 160 13 174 (dk dtk_X4_setClock 22 rfl) kfl_X4_46 kk_160 (kl_160 hq) (by decide) rfl kr_160_13 ?_
    refine T_iload_n 2 (dk dtk_X4_setClock 23 rfl) rfl rfl ?_
    obtain ⟨h2, h⟩ := h
    refine T_iald 174 6 (dk dtk_X4_setClock 24 rfl) kk_174 (kl_174 hq) h2 ?_
    refine T_iconst (v := (-1)) (dk dtk_X4_setClock 25 rfl) (by decide +kernel) ?_
    refine T_icmp_ne 59 (dk dtk_X4_setClock 26 rfl) (by decide) (fun c3 => ?_) (fun c3 => ?_)
    · have h := h.1 c3
      refine T_aload_n 0 (dk dtk_X4_setClock 35 rfl) rfl rfl ?_
      refine T_getR 160 12 173 (dk dtk_X4_setClock 36 rfl) kfl_X4_43 kk_160 (kl_160 hq) (by decide) rfl kr_160_12 ?_
      refine T_iload_n 1 (dk dtk_X4_setClock 37 rfl) rfl rfl ?_
      refine T_aload_n 0 (dk dtk_X4_setClock 38 rfl) rfl rfl ?_
      refine T_getR 160 12 173 (dk dtk_X4_setClock 39 rfl) kfl_X4_43 kk_160 (kl_160 hq) (by decide) rfl kr_160_12 ?_
      refine T_aload_n 0 (dk dtk_X4_setClock 40 rfl) rfl rfl ?_
      refine T_getR 160 13 174 (dk dtk_X4_setClock 41 rfl) kfl_X4_46 kk_160 (kl_160 hq) (by decide) rfl kr_160_13 ?_
      refine T_iload_n 2 (dk dtk_X4_setClock 42 rfl) rfl rfl ?_
      obtain ⟨h4, h⟩ := h
      refine T_iald 174 6 (dk dtk_X4_setClock 43 rfl) kk_174 (kl_174 hq) h4 ?_
      refine T_sub (lv2 := [(0, vr 160), (1, vi l1), (2, vi l2)]) [0, 1, 2] rfl ?_
      refine KC_Sv [vr 173, vi l1, vr 173, vi (x.1 174 (l2 : Int32).toNatClampNeg)] [] rfl (dk dtk_X4_setClock 44 rfl) kcs_X4_109 rfl (Nat.le_of_ble_eq_true rfl) (Nat.le_of_ble_eq_true rfl) (gok_i (av_c (gkr (kl_160 hq)) (av_c rfl (av_c rfl av_n))) as_n) rfl h (fun x5 h => ?_)
      exact h
    · have h := h.2 c3
      refine T_aload_n 0 (dk dtk_X4_setClock 27 rfl) rfl rfl ?_
      refine T_getR 160 12 173 (dk dtk_X4_setClock 28 rfl) kfl_X4_43 kk_160 (kl_160 hq) (by decide) rfl kr_160_12 ?_
      refine T_iload_n 1 (dk dtk_X4_setClock 29 rfl) rfl rfl ?_
      refine T_aload_n 0 (dk dtk_X4_setClock 30 rfl) rfl rfl ?_
      refine T_getR 160 14 175 (dk dtk_X4_setClock 31 rfl) kfl_X4_49 kk_160 (kl_160 hq) (by decide) rfl kr_160_14 ?_
      refine T_iload_n 2 (dk dtk_X4_setClock 32 rfl) rfl rfl ?_
      refine T_sub (lv2 := [(0, vr 160), (1, vi l1), (2, vi l2)]) [0, 1, 2] rfl ?_
      refine KC_Sv [vr 173, vi l1, vr 175, vi l2] [] rfl (dk dtk_X4_setClock 33 rfl) kcs_X4_109 rfl (Nat.le_of_ble_eq_true rfl) (Nat.le_of_ble_eq_true rfl) (gok_i (av_c (gkr (kl_160 hq)) (av_c rfl (av_c rfl av_n))) as_n) rfl h (fun x6 h => ?_)
      refine T_goto 77 (dk dtk_X4_setClock 34 rfl) (by decide) ?_
      exact h
  · have h := h.2 c1
    refine T_aload_n 0 (dk dtk_X4_setClock 10 rfl) rfl rfl ?_
    refine T_getR 160 12 173 (dk dtk_X4_setClock 11 rfl) kfl_X4_43 kk_160 (kl_160 hq) (by decide) rfl kr_160_12 ?_
    refine T_iload_n 1 (dk dtk_X4_setClock 12 rfl) rfl rfl ?_
    refine T_bipush (v := 6) (dk dtk_X4_setClock 13 rfl) (by decide +kernel) ?_
    refine T_imul (dk dtk_X4_setClock 14 rfl) ?_
    refine T_iload_n 3 (dk dtk_X4_setClock 15 rfl) rfl rfl ?_
    refine T_iadd (dk dtk_X4_setClock 16 rfl) ?_
    refine T_iconst (v := 0) (dk dtk_X4_setClock 17 rfl) (by decide +kernel) ?_
    obtain ⟨h7, h⟩ := h
    obtain ⟨x8, ex8⟩ : ∃ z, z = si x 173 ((l1 * 6) + l3 : Int32).toNatClampNeg 0 := ⟨_, rfl⟩
    have h := h x8 ex8
    refine T_iast 173 2400 (dk dtk_X4_setClock 18 rfl) kk_173 (kl_173 hq) h7 ?_
    rw [← ex8]
    refine T_iinc (v := l3 + 1) (lv2 := [(3, vi (l3 + 1)), (0, vr 160), (1, vi l1), (2, vi l2)]) 3 (dk dtk_X4_setClock 19 rfl) rfl rfl (by decide) rfl ?_
    refine T_goto 9 (dk dtk_X4_setClock 20 rfl) (by decide) ?_
    exact T_sub [1, 2, 3, 0] rfl h
set_option maxRecDepth 100000 in
set_option maxHeartbeats 4000000 in
theorem kg_X4_setClock_77 {G : kG} {q : kP} {d : Nat} {x : gd} {P : Option gv → gd → Prop} (hq : kV q) (l1 : Int32) (l2 : Int32)
    (h : vp_in l1 400 ∧ ((¬ ((x.1 171 (l1 : Int32).toNatClampNeg) = (0 : Int32)) → KT G q (d + 1) zk_X4_setClock 91 [(0, vr 160), (1, vi l1), (2, vi l2)] [] x P) ∧ ((x.1 171 (l1 : Int32).toNatClampNeg) = (0 : Int32) → KT G q d zk_X4_takeOver 0 [(0, vr 160), (1, vi l1)] [] x (rv (fun x3 => KT G q (d + 1) zk_X4_setClock 91 [(0, vr 160), (1, vi l1), (2, vi l2)] [] x3 P))))) :
    KT G q (d + 1) zk_X4_setClock 77 [(0, vr 160), (1, vi l1), (2, vi l2)] [] x P := by
  refine T_aload_n 0 (dk dtk_X4_setClock 45 rfl) rfl rfl ?_
  refine T_getR 160 10 171 (dk dtk_X4_setClock 46 rfl) kfl_X4_36 kk_160 (kl_160 hq) (by decide) rfl kr_160_10 ?_
  refine T_iload_n 1 (dk dtk_X4_setClock 47 rfl) rfl rfl ?_
  obtain ⟨h1, h⟩ := h
  refine T_zald 171 400 (dk dtk_X4_setClock 48 rfl) kk_171 (kl_171 hq) h1 ?_
  refine T_if_ne 91 (dk dtk_X4_setClock 49 rfl) (by decide) (fun c2 => ?_) (fun c2 => ?_)
  · have h := h.1 c2
    exact h
  · have h := h.2 c2
    refine T_aload_n 0 (dk dtk_X4_setClock 50 rfl) rfl rfl ?_
    refine T_iload_n 1 (dk dtk_X4_setClock 51 rfl) rfl rfl ?_
    refine KC_Vv [vi l1] [] rfl (dk dtk_X4_setClock 52 rfl) kcv_X4_113 rfl kk_160 rfl (kl_160 hq) (Nat.le_of_ble_eq_true rfl) (Nat.le_of_ble_eq_true rfl) (gok_i (av_c (gkr (kl_160 hq)) (av_c rfl (av_c rfl av_n))) as_n) rfl h (fun x3 h => ?_)
    exact h
set_option maxRecDepth 100000 in
set_option maxHeartbeats 4000000 in
theorem kg_X4_setClock_91 {G : kG} {q : kP} {d : Nat} {x : gd} {P : Option gv → gd → Prop} (hq : kV q) (l1 : Int32) (l2 : Int32)
    (h : vp_in ((l1 * 6) + l2) 2400 ∧ vp_in ((l1 * 6) + l2) 2400 ∧ (∀ x3 : gd, x3 = si x 173 ((l1 * 6) + l2 : Int32).toNatClampNeg ((x.1 173 ((l1 * 6) + l2 : Int32).toNatClampNeg) + 1) → vp_in l2 6 ∧ (∀ x5 : gd, x5 = si x3 174 (l2 : Int32).toNatClampNeg l1 → P none x5))) :
    KT G q (d + 1) zk_X4_setClock 91 [(0, vr 160), (1, vi l1), (2, vi l2)] [] x P := by
  refine T_aload_n 0 (dk dtk_X4_setClock 53 rfl) rfl rfl ?_
  refine T_getR 160 12 173 (dk dtk_X4_setClock 54 rfl) kfl_X4_43 kk_160 (kl_160 hq) (by decide) rfl kr_160_12 ?_
  refine T_iload_n 1 (dk dtk_X4_setClock 55 rfl) rfl rfl ?_
  refine T_bipush (v := 6) (dk dtk_X4_setClock 56 rfl) (by decide +kernel) ?_
  refine T_imul (dk dtk_X4_setClock 57 rfl) ?_
  refine T_iload_n 2 (dk dtk_X4_setClock 58 rfl) rfl rfl ?_
  refine T_iadd (dk dtk_X4_setClock 59 rfl) ?_
  refine T_dup2 (dk dtk_X4_setClock 60 rfl) rfl rfl ?_
  obtain ⟨h1, h⟩ := h
  refine T_iald 173 2400 (dk dtk_X4_setClock 61 rfl) kk_173 (kl_173 hq) h1 ?_
  refine T_iconst (v := 1) (dk dtk_X4_setClock 62 rfl) (by decide +kernel) ?_
  refine T_iadd (dk dtk_X4_setClock 63 rfl) ?_
  obtain ⟨h2, h⟩ := h
  obtain ⟨x3, ex3⟩ : ∃ z, z = si x 173 ((l1 * 6) + l2 : Int32).toNatClampNeg ((x.1 173 ((l1 * 6) + l2 : Int32).toNatClampNeg) + 1) := ⟨_, rfl⟩
  have h := h x3 ex3
  refine T_iast 173 2400 (dk dtk_X4_setClock 64 rfl) kk_173 (kl_173 hq) h2 ?_
  rw [← ex3]
  refine T_aload_n 0 (dk dtk_X4_setClock 65 rfl) rfl rfl ?_
  refine T_getR 160 13 174 (dk dtk_X4_setClock 66 rfl) kfl_X4_46 kk_160 (kl_160 hq) (by decide) rfl kr_160_13 ?_
  refine T_iload_n 2 (dk dtk_X4_setClock 67 rfl) rfl rfl ?_
  refine T_iload_n 1 (dk dtk_X4_setClock 68 rfl) rfl rfl ?_
  obtain ⟨h4, h⟩ := h
  obtain ⟨x5, ex5⟩ : ∃ z, z = si x3 174 (l2 : Int32).toNatClampNeg l1 := ⟨_, rfl⟩
  have h := h x5 ex5
  refine T_iast 174 6 (dk dtk_X4_setClock 69 rfl) kk_174 (kl_174 hq) h4 ?_
  rw [← ex5]
  exact KT_vret (dk dtk_X4_setClock 70 rfl) rfl h
set_option maxRecDepth 100000 in
theorem dtk_X4_takeOver : dck cX4_takeOver [(0, .aload_n 0, 1), (1, .getfield 27, 3), (4, .iload_n 1, 1), (5, .iaload, 1), (6, .istore_n 2, 1), (7, .aload_n 0, 1), (8, .getfield 24, 3), (11, .iload_n 1, 1), (12, .iaload, 1), (13, .tableswitch 188 0 15 #[160, 188, 160, 160, 160, 144, 188, 188, 188, 188, 79, 188, 188, 188, 188, 110], 79), (92, .aload_n 0, 1), (93, .getfield 46, 3), (96, .iload_n 2, 1), (97, .iaload, 1), (98, .iconst (-1), 1), (99, .if_icmp .eq 102, 3), (102, .aload_n 0, 1), (103, .getfield 43, 3), (106, .iload_n 1, 1), (107, .aload_n 0, 1), (108, .getfield 43, 3), (111, .aload_n 0, 1), (112, .getfield 46, 3), (115, .iload_n 2, 1), (116, .iaload, 1), (117, .invokestatic 109, 3), (120, .goto 81, 3), (123, .aload_n 0, 1), (124, .getfield 43, 3), (127, .iload_n 1, 1), (128, .aload_n 0, 1), (129, .getfield 58, 3), (132, .aload_n 0, 1), (133, .getfield 21, 3), (136, .iload_n 1, 1), (137, .iaload, 1), (138, .invokestatic 109, 3), (141, .aload_n 0, 1), (142, .getfield 43, 3), (145, .iload_n 1, 1), (146, .aload_n 0, 1), (147, .getfield 52, 3), (150, .iload_n 2, 1), (151, .invokestatic 109, 3), (154, .goto 47, 3), (157, .aload_n 0, 1), (158, .getfield 43, 3), (161, .iload_n 1, 1), (162, .aload_n 0, 1), (163, .getfield 52, 3), (166, .iload_n 2, 1), (167, .invokestatic 109, 3), (170, .goto 31, 3), (173, .aload_n 0, 1), (174, .getfield 11, 3), (177, .getfield 116, 3), (180, .iload_n 2, 1), (181, .baload, 1), (182, .ifCond .eq 19, 3), (185, .aload_n 0, 1), (186, .getfield 43, 3), (189, .iload_n 1, 1), (190, .aload_n 0, 1), (191, .getfield 55, 3), (194, .iload_n 2, 1), (195, .invokestatic 109, 3), (198, .goto 3, 3), (201, .return_, 1)] = true := by decide +kernel
set_option maxRecDepth 100000 in
set_option maxHeartbeats 4000000 in
theorem kg_X4_takeOver_0 {G : kG} {q : kP} {d : Nat} {x : gd} {P : Option gv → gd → Prop} (hq : kV q) (l1 : Int32)
    (h : vp_in l1 400 ∧ vp_in l1 400 ∧ ((((x.1 167 (l1 : Int32).toNatClampNeg) = 10) → vp_in (x.1 168 (l1 : Int32).toNatClampNeg) 6 ∧ (((x.1 174 (x.1 168 (l1 : Int32).toNatClampNeg : Int32).toNatClampNeg) = (-1 : Int32) → P none x) ∧ (¬ ((x.1 174 (x.1 168 (l1 : Int32).toNatClampNeg : Int32).toNatClampNeg) = (-1 : Int32)) → vp_in (x.1 168 (l1 : Int32).toNatClampNeg) 6 ∧ KT G q d zk_X4_join 0 [(0, vr 173), (1, vi l1), (2, vr 173), (3, vi (x.1 174 (x.1 168 (l1 : Int32).toNatClampNeg : Int32).toNatClampNeg))] [] x (rv (fun x7 => P none x7))))) ∧ (((x.1 167 (l1 : Int32).toNatClampNeg) = 15) → vp_in l1 400 ∧ KT G q d zk_X4_join 0 [(0, vr 173), (1, vi l1), (2, vr 178), (3, vi (x.1 166 (l1 : Int32).toNatClampNeg))] [] x (rv (fun x10 => KT G q d zk_X4_join 0 [(0, vr 173), (1, vi l1), (2, vr 176), (3, vi (x.1 168 (l1 : Int32).toNatClampNeg))] [] x10 (rv (fun x11 => P none x11))))) ∧ (((x.1 167 (l1 : Int32).toNatClampNeg) = 5) → KT G q d zk_X4_join 0 [(0, vr 173), (1, vi l1), (2, vr 176), (3, vi (x.1 168 (l1 : Int32).toNatClampNeg))] [] x (rv (fun x13 => P none x13))) ∧ (((x.1 167 (l1 : Int32).toNatClampNeg) = 0 ∨ (x.1 167 (l1 : Int32).toNatClampNeg) = 2 ∨ (x.1 167 (l1 : Int32).toNatClampNeg) = 3 ∨ (x.1 167 (l1 : Int32).toNatClampNeg) = 4) → vp_in (x.1 168 (l1 : Int32).toNatClampNeg) 24 ∧ (((x.1 69 (x.1 168 (l1 : Int32).toNatClampNeg : Int32).toNatClampNeg) = (0 : Int32) → P none x) ∧ (¬ ((x.1 69 (x.1 168 (l1 : Int32).toNatClampNeg : Int32).toNatClampNeg) = (0 : Int32)) → KT G q d zk_X4_join 0 [(0, vr 173), (1, vi l1), (2, vr 177), (3, vi (x.1 168 (l1 : Int32).toNatClampNeg))] [] x (rv (fun x17 => P none x17))))) ∧ ((∀ k ∈ [(10 : Int32), (15 : Int32), (5 : Int32), (0 : Int32), (2 : Int32), (3 : Int32), (4 : Int32)], ¬ (x.1 167 (l1 : Int32).toNatClampNeg) = k) → P none x))) :
    KT G q (d + 1) zk_X4_takeOver 0 [(0, vr 160), (1, vi l1)] [] x P := by
  refine T_aload_n 0 (dk dtk_X4_takeOver 0 rfl) rfl rfl ?_
  refine T_getR 160 7 168 (dk dtk_X4_takeOver 1 rfl) kfl_X4_27 kk_160 (kl_160 hq) (by decide) rfl kr_160_7 ?_
  refine T_iload_n 1 (dk dtk_X4_takeOver 2 rfl) rfl rfl ?_
  obtain ⟨h1, h⟩ := h
  refine T_iald 168 400 (dk dtk_X4_takeOver 3 rfl) kk_168 (kl_168 hq) h1 ?_
  refine T_istore_n (lv2 := [(2, vi (x.1 168 (l1 : Int32).toNatClampNeg)), (0, vr 160), (1, vi l1)]) (dk dtk_X4_takeOver 4 rfl) rfl (by decide) rfl ?_
  refine T_aload_n 1 (dk dtk_X4_takeOver 5 rfl) rfl rfl ?_
  refine T_getR 160 6 167 (dk dtk_X4_takeOver 6 rfl) kfl_X4_24 kk_160 (kl_160 hq) (by decide) rfl kr_160_6 ?_
  refine T_iload_n 2 (dk dtk_X4_takeOver 7 rfl) rfl rfl ?_
  obtain ⟨h2, h⟩ := h
  refine T_iald 167 400 (dk dtk_X4_takeOver 8 rfl) kk_167 (kl_167 hq) h2 ?_
  by_cases c3 : (x.1 167 (l1 : Int32).toNatClampNeg) = 10
  · have h := h.1 c3
    refine T_table 79 92 (dk dtk_X4_takeOver 9 rfl) (by decide) (by rw [c3]; decide +kernel) (by decide) ?_
    refine T_aload_n 1 (dk dtk_X4_takeOver 10 rfl) rfl rfl ?_
    refine T_getR 160 13 174 (dk dtk_X4_takeOver 11 rfl) kfl_X4_46 kk_160 (kl_160 hq) (by decide) rfl kr_160_13 ?_
    refine T_iload_n 0 (dk dtk_X4_takeOver 12 rfl) rfl rfl ?_
    obtain ⟨h4, h⟩ := h
    refine T_iald 174 6 (dk dtk_X4_takeOver 13 rfl) kk_174 (kl_174 hq) h4 ?_
    refine T_iconst (v := (-1)) (dk dtk_X4_takeOver 14 rfl) (by decide +kernel) ?_
    refine T_icmp_eq 201 (dk dtk_X4_takeOver 15 rfl) (by decide) (fun c5 => ?_) (fun c5 => ?_)
    · have h := h.1 c5
      exact KT_vret (dk dtk_X4_takeOver 67 rfl) rfl h
    · have h := h.2 c5
      refine T_aload_n 1 (dk dtk_X4_takeOver 16 rfl) rfl rfl ?_
      refine T_getR 160 12 173 (dk dtk_X4_takeOver 17 rfl) kfl_X4_43 kk_160 (kl_160 hq) (by decide) rfl kr_160_12 ?_
      refine T_iload_n 2 (dk dtk_X4_takeOver 18 rfl) rfl rfl ?_
      refine T_aload_n 1 (dk dtk_X4_takeOver 19 rfl) rfl rfl ?_
      refine T_getR 160 12 173 (dk dtk_X4_takeOver 20 rfl) kfl_X4_43 kk_160 (kl_160 hq) (by decide) rfl kr_160_12 ?_
      refine T_aload_n 1 (dk dtk_X4_takeOver 21 rfl) rfl rfl ?_
      refine T_getR 160 13 174 (dk dtk_X4_takeOver 22 rfl) kfl_X4_46 kk_160 (kl_160 hq) (by decide) rfl kr_160_13 ?_
      refine T_iload_n 0 (dk dtk_X4_takeOver 23 rfl) rfl rfl ?_
      obtain ⟨h6, h⟩ := h
      refine T_iald 174 6 (dk dtk_X4_takeOver 24 rfl) kk_174 (kl_174 hq) h6 ?_
      refine T_sub (lv2 := []) [] rfl ?_
      refine KC_Sv [vr 173, vi l1, vr 173, vi (x.1 174 (x.1 168 (l1 : Int32).toNatClampNeg : Int32).toNatClampNeg)] [] rfl (dk dtk_X4_takeOver 25 rfl) kcs_X4_109 rfl (Nat.le_of_ble_eq_true rfl) (Nat.le_of_ble_eq_true rfl) (gok_i av_n as_n) rfl h (fun x7 h => ?_)
      refine T_goto 201 (dk dtk_X4_takeOver 26 rfl) (by decide) ?_
      exact KT_vret (dk dtk_X4_takeOver 67 rfl) rfl h
  · have h := h.2
    by_cases c8 : (x.1 167 (l1 : Int32).toNatClampNeg) = 15
    · have h := h.1 c8
      refine T_table 110 123 (dk dtk_X4_takeOver 9 rfl) (by decide) (by rw [c8]; decide +kernel) (by decide) ?_
      refine T_aload_n 1 (dk dtk_X4_takeOver 27 rfl) rfl rfl ?_
      refine T_getR 160 12 173 (dk dtk_X4_takeOver 28 rfl) kfl_X4_43 kk_160 (kl_160 hq) (by decide) rfl kr_160_12 ?_
      refine T_iload_n 2 (dk dtk_X4_takeOver 29 rfl) rfl rfl ?_
      refine T_aload_n 1 (dk dtk_X4_takeOver 30 rfl) rfl rfl ?_
      refine T_getR 160 17 178 (dk dtk_X4_takeOver 31 rfl) kfl_X4_58 kk_160 (kl_160 hq) (by decide) rfl kr_160_17 ?_
      refine T_aload_n 1 (dk dtk_X4_takeOver 32 rfl) rfl rfl ?_
      refine T_getR 160 5 166 (dk dtk_X4_takeOver 33 rfl) kfl_X4_21 kk_160 (kl_160 hq) (by decide) rfl kr_160_5 ?_
      refine T_iload_n 2 (dk dtk_X4_takeOver 34 rfl) rfl rfl ?_
      obtain ⟨h9, h⟩ := h
      refine T_iald 166 400 (dk dtk_X4_takeOver 35 rfl) kk_166 (kl_166 hq) h9 ?_
      refine KC_Sv [vr 173, vi l1, vr 178, vi (x.1 166 (l1 : Int32).toNatClampNeg)] [] rfl (dk dtk_X4_takeOver 36 rfl) kcs_X4_109 rfl (Nat.le_of_ble_eq_true rfl) (Nat.le_of_ble_eq_true rfl) (gok_i (av_c rfl (av_c (gkr (kl_160 hq)) (av_c rfl av_n))) as_n) rfl h (fun x10 h => ?_)
      refine T_aload_n 1 (dk dtk_X4_takeOver 37 rfl) rfl rfl ?_
      refine T_getR 160 12 173 (dk dtk_X4_takeOver 38 rfl) kfl_X4_43 kk_160 (kl_160 hq) (by decide) rfl kr_160_12 ?_
      refine T_iload_n 2 (dk dtk_X4_takeOver 39 rfl) rfl rfl ?_
      refine T_aload_n 1 (dk dtk_X4_takeOver 40 rfl) rfl rfl ?_
      refine T_getR 160 15 176 (dk dtk_X4_takeOver 41 rfl) kfl_X4_52 kk_160 (kl_160 hq) (by decide) rfl kr_160_15 ?_
      refine T_iload_n 0 (dk dtk_X4_takeOver 42 rfl) rfl rfl ?_
      refine T_sub (lv2 := []) [] rfl ?_
      refine KC_Sv [vr 173, vi l1, vr 176, vi (x.1 168 (l1 : Int32).toNatClampNeg)] [] rfl (dk dtk_X4_takeOver 43 rfl) kcs_X4_109 rfl (Nat.le_of_ble_eq_true rfl) (Nat.le_of_ble_eq_true rfl) (gok_i av_n as_n) rfl h (fun x11 h => ?_)
      refine T_goto 201 (dk dtk_X4_takeOver 44 rfl) (by decide) ?_
      exact KT_vret (dk dtk_X4_takeOver 67 rfl) rfl h
    · have h := h.2
      by_cases c12 : (x.1 167 (l1 : Int32).toNatClampNeg) = 5
      · have h := h.1 c12
        refine T_table 144 157 (dk dtk_X4_takeOver 9 rfl) (by decide) (by rw [c12]; decide +kernel) (by decide) ?_
        refine T_aload_n 1 (dk dtk_X4_takeOver 45 rfl) rfl rfl ?_
        refine T_getR 160 12 173 (dk dtk_X4_takeOver 46 rfl) kfl_X4_43 kk_160 (kl_160 hq) (by decide) rfl kr_160_12 ?_
        refine T_iload_n 2 (dk dtk_X4_takeOver 47 rfl) rfl rfl ?_
        refine T_aload_n 1 (dk dtk_X4_takeOver 48 rfl) rfl rfl ?_
        refine T_getR 160 15 176 (dk dtk_X4_takeOver 49 rfl) kfl_X4_52 kk_160 (kl_160 hq) (by decide) rfl kr_160_15 ?_
        refine T_iload_n 0 (dk dtk_X4_takeOver 50 rfl) rfl rfl ?_
        refine T_sub (lv2 := []) [] rfl ?_
        refine KC_Sv [vr 173, vi l1, vr 176, vi (x.1 168 (l1 : Int32).toNatClampNeg)] [] rfl (dk dtk_X4_takeOver 51 rfl) kcs_X4_109 rfl (Nat.le_of_ble_eq_true rfl) (Nat.le_of_ble_eq_true rfl) (gok_i av_n as_n) rfl h (fun x13 h => ?_)
        refine T_goto 201 (dk dtk_X4_takeOver 52 rfl) (by decide) ?_
        exact KT_vret (dk dtk_X4_takeOver 67 rfl) rfl h
      · have h := h.2
        by_cases c14 : (x.1 167 (l1 : Int32).toNatClampNeg) = 0 ∨ (x.1 167 (l1 : Int32).toNatClampNeg) = 2 ∨ (x.1 167 (l1 : Int32).toNatClampNeg) = 3 ∨ (x.1 167 (l1 : Int32).toNatClampNeg) = 4
        · have h := h.1 c14
          refine T_table 160 173 (dk dtk_X4_takeOver 9 rfl) (by decide) (by rcases c14 with q9 | q9 | q9 | q9 <;> rw [q9] <;> decide +kernel) (by decide) ?_
          refine T_aload_n 1 (dk dtk_X4_takeOver 53 rfl) rfl rfl ?_
          refine T_getR 160 0 60 (dk dtk_X4_takeOver 54 rfl) kfl_X4_11 kk_160 (kl_160 hq) (by decide) rfl kr_160_0 ?_
          refine T_getR 60 8 69 (dk dtk_X4_takeOver 55 rfl) kfl_X4_116 kk_60 (kl_60 hq) (by decide) rfl kr_60_8 ?_
          refine T_iload_n 0 (dk dtk_X4_takeOver 56 rfl) rfl rfl ?_
          obtain ⟨h15, h⟩ := h
          refine T_zald 69 24 (dk dtk_X4_takeOver 57 rfl) kk_69 (kl_69 hq) h15 ?_
          refine T_if_eq 201 (dk dtk_X4_takeOver 58 rfl) (by decide) (fun c16 => ?_) (fun c16 => ?_)
          · have h := h.1 c16
            exact KT_vret (dk dtk_X4_takeOver 67 rfl) rfl h
          · have h := h.2 c16
            refine T_aload_n 1 (dk dtk_X4_takeOver 59 rfl) rfl rfl ?_
            refine T_getR 160 12 173 (dk dtk_X4_takeOver 60 rfl) kfl_X4_43 kk_160 (kl_160 hq) (by decide) rfl kr_160_12 ?_
            refine T_iload_n 2 (dk dtk_X4_takeOver 61 rfl) rfl rfl ?_
            refine T_aload_n 1 (dk dtk_X4_takeOver 62 rfl) rfl rfl ?_
            refine T_getR 160 16 177 (dk dtk_X4_takeOver 63 rfl) kfl_X4_55 kk_160 (kl_160 hq) (by decide) rfl kr_160_16 ?_
            refine T_iload_n 0 (dk dtk_X4_takeOver 64 rfl) rfl rfl ?_
            refine T_sub (lv2 := []) [] rfl ?_
            refine KC_Sv [vr 173, vi l1, vr 177, vi (x.1 168 (l1 : Int32).toNatClampNeg)] [] rfl (dk dtk_X4_takeOver 65 rfl) kcs_X4_109 rfl (Nat.le_of_ble_eq_true rfl) (Nat.le_of_ble_eq_true rfl) (gok_i av_n as_n) rfl h (fun x17 h => ?_)
            refine T_goto 201 (dk dtk_X4_takeOver 66 rfl) (by decide) ?_
            exact KT_vret (dk dtk_X4_takeOver 67 rfl) rfl h
        · have h := h.2
          have n18 : ∀ k ∈ [(10 : Int32), (15 : Int32), (5 : Int32), (0 : Int32), (2 : Int32), (3 : Int32), (4 : Int32)], ¬ (x.1 167 (l1 : Int32).toNatClampNeg) = k := (gno c3 (gno c8 (gno c12 (gno (fun q9 => c14 (Or.inl q9)) (gno (fun q9 => c14 (Or.inr (Or.inl q9))) (gno (fun q9 => c14 (Or.inr (Or.inr (Or.inl q9)))) (gno (fun q9 => c14 (Or.inr (Or.inr (Or.inr (q9))))) gno0)))))))
          have h := h n18
          refine T_table 188 201 (dk dtk_X4_takeOver 9 rfl) (by decide) (gtab_d [(10 : Int32), (15 : Int32), (5 : Int32), (0 : Int32), (2 : Int32), (3 : Int32), (4 : Int32)] (by decide +kernel) n18) (by decide) ?_
          exact KT_vret (dk dtk_X4_takeOver 67 rfl) rfl h
