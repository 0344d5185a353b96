section
set_option maxRecDepth 100000 in
theorem dtk_X5_isSame : dck cX5_isSame [(0, .aload_n 0, 1), (1, .aload_n 1, 1), (2, .iconst 0, 1), (3, .aload_n 0, 1), (4, .getfield 55, 3), (7, .invokevirtual 275, 3), (10, .istore_n 2, 1), (11, .iconst 0, 1), (12, .istore_n 3, 1), (13, .iload_n 3, 1), (14, .aload_n 0, 1), (15, .getfield 11, 3), (18, .getfield 67, 3), (21, .if_icmp .ge 35, 3), (24, .iload_n 2, 1), (25, .ifCond .eq 31, 3), (28, .aload_n 0, 1), (29, .aload_n 1, 1), (30, .aload_n 0, 1), (31, .getfield 55, 3), (34, .iload_n 3, 1), (35, .aload_n 0, 1), (36, .getfield 64, 3), (39, .imul, 1), (40, .iadd, 1), (41, .aload_n 0, 1), (42, .iload_n 3, 1), (43, .invokevirtual 271, 3), (46, .invokevirtual 275, 3), (49, .istore_n 2, 1), (50, .iinc 3 1, 3), (53, .goto (-40), 3), (56, .iload_n 2, 1), (57, .ireturn, 1)] = true := by decide +kernel
set_option maxRecDepth 100000 in
set_option maxHeartbeats 4000000 in
theorem kg_X5_isSame_0 {G : kG} {q : kP} {d : Nat} {x : gd} {P : Option gv → gd → Prop} (hq : kV q) {o : Nat} (ho : kiM q o) {a1 n1 : Nat} (ka1 : kK a1 = .inr (.int, n1)) (ma1 : a1 ∈ (kf q).2.1)
    (h : KT G q d zk_X5_isSamePart 0 [(0, vr o), (1, vr a1), (2, vi 0), (3, vi (x.1 o 7))] [] x (ri (fun r2 x1 => KT G q (d + 1) zk_X5_isSame 13 [(0, vr o), (1, vr a1), (2, vi r2), (3, vi 0)] [] x1 P))) :
    KT G q (d + 1) zk_X5_isSame 0 [(0, vr o), (1, vr a1)] [] x P := by
  refine T_aload_n 0 (dk dtk_X5_isSame 0 rfl) rfl rfl ?_
  refine T_aload_n 1 (dk dtk_X5_isSame 1 rfl) rfl rfl ?_
  refine T_iconst (v := 0) (dk dtk_X5_isSame 2 rfl) (by decide +kernel) ?_
  refine T_aload_n 0 (dk dtk_X5_isSame 3 rfl) rfl rfl ?_
  refine T_getI o 7 (dk dtk_X5_isSame 4 rfl) kfl_X5_55 (kk_M0 ho) (kl_M0 hq ho) (by decide) rfl ?_
  refine KC_Vi [vr a1, vi 0, vi (x.1 o 7)] [] rfl (dk dtk_X5_isSame 5 rfl) kcv_X5_275 rfl (kk_M0 ho) rfl (kl_M0 hq ho) (Nat.le_of_ble_eq_true rfl) (Nat.le_of_ble_eq_true rfl) (gok_i (av_c (gkr (kl_M0 hq ho)) (av_c (gkr ma1) av_n)) as_n) rfl h (fun r2 x1 h => ?_)
  refine T_istore_n (lv2 := [(2, vi r2), (0, vr o), (1, vr a1)]) (dk dtk_X5_isSame 6 rfl) rfl (by decide) rfl ?_
  refine T_iconst (v := 0) (dk dtk_X5_isSame 7 rfl) (by decide +kernel) ?_
  refine T_istore_n (lv2 := [(3, vi 0), (2, vi r2), (0, vr o), (1, vr a1)]) (dk dtk_X5_isSame 8 rfl) rfl (by decide) rfl ?_
  exact T_sub [2, 3, 1, 0] rfl h
set_option maxRecDepth 100000 in
set_option maxHeartbeats 4000000 in
theorem kg_X5_isSame_13 {G : kG} {q : kP} {d : Nat} {x : gd} {P : Option gv → gd → Prop} (hq : kV q) {o : Nat} (ho : kiM q o) {a1 n1 : Nat} (ka1 : kK a1 = .inr (.int, n1)) (ma1 : a1 ∈ (kf q).2.1) (l2 : Int32) (l3 : Int32)
    (h : (((x.1 60 10) ≤ l3 → gbool l2 ∧ P (some (vi l2)) x) ∧ (¬ ((x.1 60 10) ≤ l3) → ((l2 = (0 : Int32) → gbool l2 ∧ P (some (vi l2)) x) ∧ (¬ (l2 = (0 : Int32)) → KT G q d zk_X5_usedOf 0 [(0, vr o), (1, vi l3)] [] x (ri (fun r4 x3 => KT G q d zk_X5_isSamePart 0 [(0, vr o), (1, vr a1), (2, vi ((x.1 o 7) + (l3 * (x.1 o 8)))), (3, vi r4)] [] x3 (ri (fun r6 x5 => KT G q (d + 1) zk_X5_isSame 13 [(0, vr o), (1, vr a1), (2, vi r6), (3, vi (l3 + 1))] [] x5 P))))))))) :
    KT G q (d + 1) zk_X5_isSame 13 [(0, vr o), (1, vr a1), (2, vi l2), (3, vi l3)] [] x P := by
  refine T_iload_n 3 (dk dtk_X5_isSame 9 rfl) rfl rfl ?_
  refine T_aload_n 0 (dk dtk_X5_isSame 10 rfl) rfl rfl ?_
  refine T_getR o 0 60 (dk dtk_X5_isSame 11 rfl) kfl_X5_11 (kk_M0 ho) (kl_M0 hq ho) (by decide) rfl (kr_M_0 ho) ?_
  refine T_getI 60 10 (dk dtk_X5_isSame 12 rfl) kfl_X5_67 kk_60 (kl_60 hq) (by decide) rfl ?_
  refine T_icmp_ge 56 (dk dtk_X5_isSame 13 rfl) (by decide) (fun c1 => ?_) (fun c1 => ?_)
  · have h := h.1 c1
    refine T_iload_n 2 (dk dtk_X5_isSame 32 rfl) rfl rfl ?_
    exact KT_iret (dk dtk_X5_isSame 33 rfl) rfl h.1.1 h.2
  · have h := h.2 c1
    refine T_iload_n 2 (dk dtk_X5_isSame 14 rfl) rfl rfl ?_
    refine T_if_eq 56 (dk dtk_X5_isSame 15 rfl) (by decide) (fun c2 => ?_) (fun c2 => ?_)
    · have h := h.1 c2
      refine T_iload_n 2 (dk dtk_X5_isSame 32 rfl) rfl rfl ?_
      exact KT_iret (dk dtk_X5_isSame 33 rfl) rfl h.1.1 h.2
    · have h := h.2 c2
      refine T_aload_n 0 (dk dtk_X5_isSame 16 rfl) rfl rfl ?_
      refine T_aload_n 1 (dk dtk_X5_isSame 17 rfl) rfl rfl ?_
      refine T_aload_n 0 (dk dtk_X5_isSame 18 rfl) rfl rfl ?_
      refine T_getI o 7 (dk dtk_X5_isSame 19 rfl) kfl_X5_55 (kk_M0 ho) (kl_M0 hq ho) (by decide) rfl ?_
      refine T_iload_n 3 (dk dtk_X5_isSame 20 rfl) rfl rfl ?_
      refine T_aload_n 0 (dk dtk_X5_isSame 21 rfl) rfl rfl ?_
      refine T_getI o 8 (dk dtk_X5_isSame 22 rfl) kfl_X5_64 (kk_M0 ho) (kl_M0 hq ho) (by decide) rfl ?_
      refine T_imul (dk dtk_X5_isSame 23 rfl) ?_
      refine T_iadd (dk dtk_X5_isSame 24 rfl) ?_
      refine T_aload_n 0 (dk dtk_X5_isSame 25 rfl) rfl rfl ?_
      refine T_iload_n 3 (dk dtk_X5_isSame 26 rfl) rfl rfl ?_
      refine T_sub (lv2 := [(0, vr o), (1, vr a1), (3, vi l3)]) [0, 1, 3] rfl ?_
      refine KC_Vi [vi l3] [vi ((x.1 o 7) + (l3 * (x.1 o 8))), vr a1, vr o] rfl (dk dtk_X5_isSame 27 rfl) kcv_X5_271 rfl (kk_M0 ho) rfl (kl_M0 hq ho) (Nat.le_of_ble_eq_true rfl) (Nat.le_of_ble_eq_true rfl) (gok_i (av_c (gkr (kl_M0 hq ho)) (av_c (gkr ma1) (av_c rfl av_n))) (as_c rfl (as_c (gkr ma1) (as_c (gkr (kl_M0 hq ho)) as_n)))) rfl h (fun r4 x3 h => ?_)
      refine KC_Vi [vr a1, vi ((x.1 o 7) + (l3 * (x.1 o 8))), vi r4] [] rfl (dk dtk_X5_isSame 28 rfl) kcv_X5_275 rfl (kk_M0 ho) rfl (kl_M0 hq ho) (Nat.le_of_ble_eq_true rfl) (Nat.le_of_ble_eq_true rfl) (gok_i (av_c (gkr (kl_M0 hq ho)) (av_c (gkr ma1) (av_c rfl av_n))) as_n) rfl h (fun r6 x5 h => ?_)
      refine T_istore_n (lv2 := [(2, vi r6), (0, vr o), (1, vr a1), (3, vi l3)]) (dk dtk_X5_isSame 29 rfl) rfl (by decide) rfl ?_
      refine T_iinc (v := l3 + 1) (lv2 := [(3, vi (l3 + 1)), (2, vi r6), (0, vr o), (1, vr a1)]) 3 (dk dtk_X5_isSame 30 rfl) rfl rfl (by decide) rfl ?_
      refine T_goto 13 (dk dtk_X5_isSame 31 rfl) (by decide) ?_
      exact T_sub [2, 3, 1, 0] rfl h
set_option maxRecDepth 100000 in
theorem dtk_X5_isSamePart : dck cX5_isSamePart [(0, .iload_n 2, 1), (1, .istore 4, 2), (3, .iload 4, 2), (5, .iload_n 2, 1), (6, .iload_n 3, 1), (7, .iadd, 1), (8, .if_icmp .ge 25, 3), (11, .aload_n 0, 1), (12, .getfield 29, 3), (15, .iload 4, 2), (17, .iaload, 1), (18, .aload_n 1, 1), (19, .iload 4, 2), (21, .iaload, 1), (22, .if_icmp .eq 5, 3), (25, .iconst 0, 1), (26, .ireturn, 1), (27, .iinc 4 1, 3), (30, .goto (-27), 3), (33, .iconst 1, 1), (34, .ireturn, 1)] = true := by decide +kernel
set_option maxRecDepth 100000 in
set_option maxHeartbeats 4000000 in
theorem kg_X5_isSamePart_0 {G : kG} {q : kP} {d : Nat} {x : gd} {P : Option gv → gd → Prop} (hq : kV q) {o : Nat} (ho : kiM q o) {a1 n1 : Nat} (ka1 : kK a1 = .inr (.int, n1)) (ma1 : a1 ∈ (kf q).2.1) (l2 : Int32) (l3 : Int32)
    (h : KT G q d zk_X5_isSamePart 3 [(0, vr o), (1, vr a1), (2, vi l2), (3, vi l3), (4, vi l2)] [] x P) :
    KT G q d zk_X5_isSamePart 0 [(0, vr o), (1, vr a1), (2, vi l2), (3, vi l3)] [] x P := by
  refine T_iload_n 2 (dk dtk_X5_isSamePart 0 rfl) rfl rfl ?_
  refine T_istore (lv2 := [(4, vi l2), (0, vr o), (1, vr a1), (2, vi l2), (3, vi l3)]) (dk dtk_X5_isSamePart 1 rfl) (by decide) rfl ?_
  exact T_sub [1, 2, 3, 4, 0] rfl h
set_option maxRecDepth 100000 in
set_option maxHeartbeats 4000000 in
theorem kg_X5_isSamePart_3 {G : kG} {q : kP} {d : Nat} {x : gd} {P : Option gv → gd → Prop} (hq : kV q) {o : Nat} (ho : kiM q o) {a1 n1 : Nat} (ka1 : kK a1 = .inr (.int, n1)) (ma1 : a1 ∈ (kf q).2.1) (l2 : Int32) (l3 : Int32) (l4 : Int32)
    (h : (((l2 + l3) ≤ l4 → P (some (vi 1)) x) ∧ (¬ ((l2 + l3) ≤ l4) → vp_in l4 228 ∧ vp_in l4 n1 ∧ (((x.1 (o + 5) (l4 : Int32).toNatClampNeg) = (x.1 a1 (l4 : Int32).toNatClampNeg) → KT G q d zk_X5_isSamePart 3 [(0, vr o), (1, vr a1), (2, vi l2), (3, vi l3), (4, vi (l4 + 1))] [] x P) ∧ (¬ ((x.1 (o + 5) (l4 : Int32).toNatClampNeg) = (x.1 a1 (l4 : Int32).toNatClampNeg)) → P (some (vi 0)) x))))) :
    KT G q d zk_X5_isSamePart 3 [(0, vr o), (1, vr a1), (2, vi l2), (3, vi l3), (4, vi l4)] [] x P := by
  refine T_iload 4 (dk dtk_X5_isSamePart 2 rfl) rfl ?_
  refine T_iload_n 2 (dk dtk_X5_isSamePart 3 rfl) rfl rfl ?_
  refine T_iload_n 3 (dk dtk_X5_isSamePart 4 rfl) rfl rfl ?_
  refine T_iadd (dk dtk_X5_isSamePart 5 rfl) ?_
  refine T_icmp_ge 33 (dk dtk_X5_isSamePart 6 rfl) (by decide) (fun c1 => ?_) (fun c1 => ?_)
  · have h := h.1 c1
    refine T_iconst (v := 1) (dk dtk_X5_isSamePart 19 rfl) (by decide +kernel) ?_
    exact KT_iret (dk dtk_X5_isSamePart 20 rfl) rfl rfl h
  · have h := h.2 c1
    refine T_aload_n 0 (dk dtk_X5_isSamePart 7 rfl) rfl rfl ?_
    refine T_getR o 4 (o + 5) (dk dtk_X5_isSamePart 8 rfl) kfl_X5_29 (kk_M0 ho) (kl_M0 hq ho) (by decide) rfl (kr_M_4 ho) ?_
    refine T_iload 4 (dk dtk_X5_isSamePart 9 rfl) rfl ?_
    obtain ⟨h2, h⟩ := h
    refine T_iald (o + 5) 228 (dk dtk_X5_isSamePart 10 rfl) (kk_M5 ho) (kl_M5 hq ho) h2 ?_
    refine T_aload_n 1 (dk dtk_X5_isSamePart 11 rfl) rfl rfl ?_
    refine T_iload 4 (dk dtk_X5_isSamePart 12 rfl) rfl ?_
    obtain ⟨h3, h⟩ := h
    refine T_iald a1 n1 (dk dtk_X5_isSamePart 13 rfl) ka1 ma1 h3 ?_
    refine T_icmp_eq 27 (dk dtk_X5_isSamePart 14 rfl) (by decide) (fun c4 => ?_) (fun c4 => ?_)
    · have h := h.1 c4
      refine T_iinc (v := l4 + 1) (lv2 := [(4, vi (l4 + 1)), (0, vr o), (1, vr a1), (2, vi l2), (3, vi l3)]) 4 (dk dtk_X5_isSamePart 17 rfl) rfl rfl (by decide) rfl ?_
      refine T_goto 3 (dk dtk_X5_isSamePart 18 rfl) (by decide) ?_
      exact T_sub [1, 2, 3, 4, 0] rfl h
    · have h := h.2 c4
      refine T_iconst (v := 0) (dk dtk_X5_isSamePart 15 rfl) (by decide +kernel) ?_
      exact KT_iret (dk dtk_X5_isSamePart 16 rfl) rfl rfl h
set_option maxRecDepth 100000 in
theorem dtk_X5_blankUnknown : dck cX5_blankUnknown [(0, .aload_n 0, 1), (1, .iload_n 1, 1), (2, .invokevirtual 279, 3), (5, .istore_n 2, 1), (6, .iload_n 2, 1), (7, .aload_n 0, 1), (8, .getfield 11, 3), (11, .getfield 58, 3), (14, .if_icmp .ge 19, 3), (17, .aload_n 0, 1), (18, .iload_n 1, 1), (19, .bipush 8, 2), (21, .iload_n 2, 1), (22, .iadd, 1), (23, .iconst 0, 1), (24, .invokevirtual 117, 3), (27, .iinc 2 1, 3), (30, .goto (-24), 3), (33, .return_, 1)] = true := by decide +kernel
set_option maxRecDepth 100000 in
set_option maxHeartbeats 4000000 in
theorem kg_X5_blankUnknown_0 {G : kG} {q : kP} {d : Nat} {x : gd} {P : Option gv → gd → Prop} (hq : kV q) {o : Nat} (ho : kiM q o) (l1 : Int32)
    (h : KT G q d zk_X5_known 0 [(0, vr o), (1, vi l1)] [] x (ri (fun r2 x1 => KT G q (d + 1) zk_X5_blankUnknown 6 [(0, vr o), (1, vi l1), (2, vi r2)] [] x1 P))) :
    KT G q (d + 1) zk_X5_blankUnknown 0 [(0, vr o), (1, vi l1)] [] x P := by
  refine T_aload_n 0 (dk dtk_X5_blankUnknown 0 rfl) rfl rfl ?_
  refine T_iload_n 1 (dk dtk_X5_blankUnknown 1 rfl) rfl rfl ?_
  refine KC_Vi [vi l1] [] rfl (dk dtk_X5_blankUnknown 2 rfl) kcv_X5_279 rfl (kk_M0 ho) rfl (kl_M0 hq ho) (Nat.le_of_ble_eq_true rfl) (Nat.le_of_ble_eq_true rfl) (gok_i (av_c (gkr (kl_M0 hq ho)) (av_c rfl av_n)) as_n) rfl h (fun r2 x1 h => ?_)
  refine T_istore_n (lv2 := [(2, vi r2), (0, vr o), (1, vi l1)]) (dk dtk_X5_blankUnknown 3 rfl) rfl (by decide) rfl ?_
  exact T_sub [1, 2, 0] rfl h
set_option maxRecDepth 100000 in
set_option maxHeartbeats 4000000 in
theorem kg_X5_blankUnknown_6 {G : kG} {q : kP} {d : Nat} {x : gd} {P : Option gv → gd → Prop} (hq : kV q) {o : Nat} (ho : kiM q o) (l1 : Int32) (l2 : Int32)
    (h : (((x.1 60 13) ≤ l2 → P none x) ∧ (¬ ((x.1 60 13) ≤ l2) → KT G q d zk_X5_set 0 [(0, vr o), (1, vi l1), (2, vi (8 + l2)), (3, vi 0)] [] x (rv (fun x2 => KT G q (d + 1) zk_X5_blankUnknown 6 [(0, vr o), (1, vi l1), (2, vi (l2 + 1))] [] x2 P))))) :
    KT G q (d + 1) zk_X5_blankUnknown 6 [(0, vr o), (1, vi l1), (2, vi l2)] [] x P := by
  refine T_iload_n 2 (dk dtk_X5_blankUnknown 4 rfl) rfl rfl ?_
  refine T_aload_n 0 (dk dtk_X5_blankUnknown 5 rfl) rfl rfl ?_
  refine T_getR o 0 60 (dk dtk_X5_blankUnknown 6 rfl) kfl_X5_11 (kk_M0 ho) (kl_M0 hq ho) (by decide) rfl (kr_M_0 ho) ?_
  refine T_getI 60 13 (dk dtk_X5_blankUnknown 7 rfl) kfl_X5_58 kk_60 (kl_60 hq) (by decide) rfl ?_
  refine T_icmp_ge 33 (dk dtk_X5_blankUnknown 8 rfl) (by decide) (fun c1 => ?_) (fun c1 => ?_)
  · have h := h.1 c1
    exact KT_vret (dk dtk_X5_blankUnknown 18 rfl) rfl h
  · have h := h.2 c1
    refine T_aload_n 0 (dk dtk_X5_blankUnknown 9 rfl) rfl rfl ?_
    refine T_iload_n 1 (dk dtk_X5_blankUnknown 10 rfl) rfl rfl ?_
    refine T_bipush (v := 8) (dk dtk_X5_blankUnknown 11 rfl) (by decide +kernel) ?_
    refine T_iload_n 2 (dk dtk_X5_blankUnknown 12 rfl) rfl rfl ?_
    refine T_iadd (dk dtk_X5_blankUnknown 13 rfl) ?_
    refine T_iconst (v := 0) (dk dtk_X5_blankUnknown 14 rfl) (by decide +kernel) ?_
    refine KC_Vv [vi l1, vi (8 + l2), vi 0] [] rfl (dk dtk_X5_blankUnknown 15 rfl) kcv_X5_117 rfl (kk_M0 ho) rfl (kl_M0 hq ho) (Nat.le_of_ble_eq_true rfl) (Nat.le_of_ble_eq_true rfl) (gok_i (av_c (gkr (kl_M0 hq ho)) (av_c rfl (av_c rfl av_n))) as_n) rfl h (fun x2 h => ?_)
    refine T_iinc (v := l2 + 1) (lv2 := [(2, vi (l2 + 1)), (0, vr o), (1, vi l1)]) 2 (dk dtk_X5_blankUnknown 16 rfl) rfl rfl (by decide) rfl ?_
    refine T_goto 6 (dk dtk_X5_blankUnknown 17 rfl) (by decide) ?_
    exact T_sub [1, 2, 0] rfl h
set_option maxRecDepth 100000 in
theorem dtk_X4_clear : dck cX4_clear [(0, .aload_n 0, 1), (1, .iconst 0, 1), (2, .putfield 61, 3), (5, .aload_n 0, 1), (6, .iconst 0, 1), (7, .putfield 65, 3), (10, .aload_n 0, 1), (11, .iconst 0, 1), (12, .putfield 68, 3), (15, .aload_n 0, 1), (16, .getfield 46, 3), (19, .iconst (-1), 1), (20, .invokestatic 71, 3), (23, .aload_n 0, 1), (24, .getfield 49, 3), (27, .iconst 0, 1), (28, .invokestatic 71, 3), (31, .aload_n 0, 1), (32, .getfield 52, 3), (35, .iconst 0, 1), (36, .invokestatic 71, 3), (39, .aload_n 0, 1), (40, .getfield 55, 3), (43, .iconst 0, 1), (44, .invokestatic 71, 3), (47, .aload_n 0, 1), (48, .getfield 58, 3), (51, .iconst 0, 1), (52, .invokestatic 71, 3), (55, .return_, 1)] = true := by decide +kernel
set_option maxRecDepth 100000 in
set_option maxHeartbeats 4000000 in
theorem kg_X4_clear_0 {G : kG} {q : kP} {d : Nat} {x : gd} {P : Option gv → gd → Prop} (hq : kV q) 
    (h : (∀ x1 : gd, x1 = si x 160 2 0 → (∀ x2 : gd, x2 = si x1 160 3 0 → (∀ x3 : gd, x3 = si x2 160 4 0 → (∀ x4 : gd, x4 = sfl x3 174 (-1) 6 → (∀ x5 : gd, x5 = sfl x4 175 0 36 → (∀ x6 : gd, x6 = sfl x5 176 0 36 → (∀ x7 : gd, x7 = sfl x6 177 0 144 → (∀ x8 : gd, x8 = sfl x7 178 0 36 → P none x8))))))))) :
    KT G q (d + 1) zk_X4_clear 0 [(0, vr 160)] [] x P := by
  refine T_aload_n 0 (dk dtk_X4_clear 0 rfl) rfl rfl ?_
  refine T_iconst (v := 0) (dk dtk_X4_clear 1 rfl) (by decide +kernel) ?_
  obtain ⟨x1, ex1⟩ : ∃ z, z = si x 160 2 0 := ⟨_, rfl⟩
  have h := h x1 ex1
  refine T_putI 160 2 (dk dtk_X4_clear 2 rfl) kfl_X4_61 kk_160 (kl_160 hq) (by decide) rfl ⟨rfl, rfl⟩ ?_
  rw [← ex1]
  refine T_aload_n 0 (dk dtk_X4_clear 3 rfl) rfl rfl ?_
  refine T_iconst (v := 0) (dk dtk_X4_clear 4 rfl) (by decide +kernel) ?_
  obtain ⟨x2, ex2⟩ : ∃ z, z = si x1 160 3 0 := ⟨_, rfl⟩
  have h := h x2 ex2
  refine T_putI 160 3 (dk dtk_X4_clear 5 rfl) kfl_X4_65 kk_160 (kl_160 hq) (by decide) rfl ⟨rfl, rfl⟩ ?_
  rw [← ex2]
  refine T_aload_n 0 (dk dtk_X4_clear 6 rfl) rfl rfl ?_
  refine T_iconst (v := 0) (dk dtk_X4_clear 7 rfl) (by decide +kernel) ?_
  obtain ⟨x3, ex3⟩ : ∃ z, z = si x2 160 4 0 := ⟨_, rfl⟩
  have h := h x3 ex3
  refine T_putI 160 4 (dk dtk_X4_clear 8 rfl) kfl_X4_68 kk_160 (kl_160 hq) (by decide) rfl ⟨rfl, rfl⟩ ?_
  rw [← ex3]
  refine T_aload_n 0 (dk dtk_X4_clear 9 rfl) rfl rfl ?_
  refine T_getR 160 13 174 (dk dtk_X4_clear 10 rfl) kfl_X4_46 kk_160 (kl_160 hq) (by decide) rfl kr_160_13 ?_
  refine T_iconst (v := (-1)) (dk dtk_X4_clear 11 rfl) (by decide +kernel) ?_
  refine KC_Sv (F := fun z => z = sfl x3 174 (-1) 6) [vr 174, vi (-1)] [] rfl (dk dtk_X4_clear 12 rfl) kcs_X4_71 rfl (Nat.le_of_ble_eq_true rfl) (Nat.le_of_ble_eq_true rfl) (gok_i (av_c (gkr (kl_160 hq)) av_n) as_n) rfl (tj_fill 174 6 (-1) kk_174 (kl_174 hq) (by decide) ⟨rfl, none, rfl, rfl, rfl⟩) (fun x4 ex4 => ?_)
  have h := h x4 ex4
  refine T_aload_n 0 (dk dtk_X4_clear 13 rfl) rfl rfl ?_
  refine T_getR 160 14 175 (dk dtk_X4_clear 14 rfl) kfl_X4_49 kk_160 (kl_160 hq) (by decide) rfl kr_160_14 ?_
  refine T_iconst (v := 0) (dk dtk_X4_clear 15 rfl) (by decide +kernel) ?_
  refine KC_Sv (F := fun z => z = sfl x4 175 0 36) [vr 175, vi 0] [] rfl (dk dtk_X4_clear 16 rfl) kcs_X4_71 rfl (Nat.le_of_ble_eq_true rfl) (Nat.le_of_ble_eq_true rfl) (gok_i (av_c (gkr (kl_160 hq)) av_n) as_n) rfl (tj_fill 175 36 0 kk_175 (kl_175 hq) (by decide) ⟨rfl, none, rfl, rfl, rfl⟩) (fun x5 ex5 => ?_)
  have h := h x5 ex5
  refine T_aload_n 0 (dk dtk_X4_clear 17 rfl) rfl rfl ?_
  refine T_getR 160 15 176 (dk dtk_X4_clear 18 rfl) kfl_X4_52 kk_160 (kl_160 hq) (by decide) rfl kr_160_15 ?_
  refine T_iconst (v := 0) (dk dtk_X4_clear 19 rfl) (by decide +kernel) ?_
  refine KC_Sv (F := fun z => z = sfl x5 176 0 36) [vr 176, vi 0] [] rfl (dk dtk_X4_clear 20 rfl) kcs_X4_71 rfl (Nat.le_of_ble_eq_true rfl) (Nat.le_of_ble_eq_true rfl) (gok_i (av_c (gkr (kl_160 hq)) av_n) as_n) rfl (tj_fill 176 36 0 kk_176 (kl_176 hq) (by decide) ⟨rfl, none, rfl, rfl, rfl⟩) (fun x6 ex6 => ?_)
  have h := h x6 ex6
  refine T_aload_n 0 (dk dtk_X4_clear 21 rfl) rfl rfl ?_
  refine T_getR 160 16 177 (dk dtk_X4_clear 22 rfl) kfl_X4_55 kk_160 (kl_160 hq) (by decide) rfl kr_160_16 ?_
  refine T_iconst (v := 0) (dk dtk_X4_clear 23 rfl) (by decide +kernel) ?_
  refine KC_Sv (F := fun z => z = sfl x6 177 0 144) [vr 177, vi 0] [] rfl (dk dtk_X4_clear 24 rfl) kcs_X4_71 rfl (Nat.le_of_ble_eq_true rfl) (Nat.le_of_ble_eq_true rfl) (gok_i (av_c (gkr (kl_160 hq)) av_n) as_n) rfl (tj_fill 177 144 0 kk_177 (kl_177 hq) (by decide) ⟨rfl, none, rfl, rfl, rfl⟩) (fun x7 ex7 => ?_)
  have h := h x7 ex7
  refine T_aload_n 0 (dk dtk_X4_clear 25 rfl) rfl rfl ?_
  refine T_getR 160 17 178 (dk dtk_X4_clear 26 rfl) kfl_X4_58 kk_160 (kl_160 hq) (by decide) rfl kr_160_17 ?_
  refine T_iconst (v := 0) (dk dtk_X4_clear 27 rfl) (by decide +kernel) ?_
  refine T_sub (lv2 := []) [] rfl ?_
  refine KC_Sv (F := fun z => z = sfl x7 178 0 36) [vr 178, vi 0] [] rfl (dk dtk_X4_clear 28 rfl) kcs_X4_71 rfl (Nat.le_of_ble_eq_true rfl) (Nat.le_of_ble_eq_true rfl) (gok_i av_n as_n) rfl (tj_fill 178 36 0 kk_178 (kl_178 hq) (by decide) ⟨rfl, none, rfl, rfl, rfl⟩) (fun x8 ex8 => ?_)
  have h := h x8 ex8
  exact KT_vret (dk dtk_X4_clear 29 rfl) rfl h
set_option maxRecDepth 100000 in
theorem dtk_X4_note : dck cX4_note [(0, .aload_n 0, 1), (1, .getfield 61, 3), (4, .sipush 400, 3), (7, .if_icmp .lt 4, 3), (10, .return_, 1), (11, .aload_n 0, 1), (12, .getfield 17, 3), (15, .aload_n 0, 1), (16, .getfield 61, 3), (19, .iload_n 1, 1), (20, .iastore, 1), (21, .aload_n 0, 1), (22, .dup, 1), (23, .getfield 61, 3), (26, .iconst 1, 1), (27, .iadd, 1), (28, .putfield 61, 3), (31, .aload_n 2, 1), (32, .getfield 77, 3), (35, .iconst (-1), 1), (36, .if_icmp .ne 4, 3), (39, .return_, 1), (40, .aload_n 0, 1), (41, .getfield 65, 3), (44, .istore_n 3, 1), (45, .aload_n 0, 1), (46, .dup, 1), (47, .getfield 65, 3), (50, .iconst 1, 1), (51, .iadd, 1), (52, .putfield 65, 3), (55, .aload_n 0, 1), (56, .getfield 21, 3), (59, .iload_n 3, 1), (60, .aload_n 2, 1), (61, .getfield 77, 3), (64, .iastore, 1), (65, .aload_n 0, 1), (66, .getfield 24, 3), (69, .iload_n 3, 1), (70, .aload_n 2, 1), (71, .getfield 81, 3), (74, .iastore, 1), (75, .aload_n 0, 1), (76, .getfield 27, 3), (79, .iload_n 3, 1), (80, .aload_n 2, 1), (81, .getfield 83, 3), (84, .iastore, 1), (85, .aload_n 0, 1), (86, .getfield 30, 3), (89, .iload_n 3, 1), (90, .aload_n 2, 1), (91, .getfield 85, 3), (94, .iastore, 1), (95, .aload_n 0, 1), (96, .getfield 33, 3), (99, .iload_n 3, 1), (100, .aload_n 2, 1), (101, .getfield 87, 3), (104, .iastore, 1), (105, .aload_n 0, 1), (106, .getfield 36, 3), (109, .iload_n 3, 1), (110, .aload_n 2, 1), (111, .getfield 89, 3), (114, .bastore, 1), (115, .aload_n 2, 1), (116, .getfield 81, 3), (119, .bipush 13, 2), (121, .if_icmp .ne 20, 3), (124, .aload_n 2, 1), (125, .getfield 89, 3), (128, .ifCond .ne 13, 3), (131, .aload_n 0, 1), (132, .dup, 1), (133, .getfield 68, 3), (136, .iconst 1, 1), (137, .iadd, 1), (138, .putfield 68, 3), (141, .aload_n 0, 1), (142, .iload_n 3, 1), (143, .invokevirtual 94, 3), (146, .aload_n 2, 1), (147, .getfield 89, 3), (150, .ifCond .ne 12, 3), (153, .aload_n 0, 1), (154, .iload_n 3, 1), (155, .aload_n 2, 1), (156, .getfield 98, 3), (159, .invokevirtual 101, 3), (162, .aload_n 0, 1), (163, .getfield 40, 3), (166, .iload_n 3, 1), (167, .iload_n 3, 1), (168, .ifCond .ne 7, 3), (171, .iconst 0, 1), (172, .goto 11, 3), (175, .aload_n 0, 1), (176, .getfield 40, 3), (179, .iload_n 3, 1), (180, .iconst 1, 1), (181, .isub, 1), (182, .iaload, 1), (183, .aload_n 0, 1), (184, .iload_n 3, 1), (185, .invokevirtual 105, 3), (188, .iadd, 1), (189, .iastore, 1), (190, .return_, 1)] = true := by decide +kernel
set_option maxRecDepth 100000 in
set_option maxHeartbeats 4000000 in
theorem kg_X4_note_0 {G : kG} {q : kP} {d : Nat} {x : gd} {P : Option gv → gd → Prop} (hq : kV q) (l1 : Int32)
    (h : (((x.1 160 2) < (400 : Int32) → vp_in (x.1 160 2) 400 ∧ (∀ x3 : gd, x3 = si x 162 (x.1 160 2 : Int32).toNatClampNeg l1 → (∀ x4 : gd, x4 = si x3 160 2 ((x3.1 160 2) + 1) → ((¬ ((x4.1 140 0) = (-1 : Int32)) → (∀ x6 : gd, x6 = si x4 160 3 ((x4.1 160 3) + 1) → vp_in (x4.1 160 3) 400 ∧ (∀ x8 : gd, x8 = si x6 166 (x4.1 160 3 : Int32).toNatClampNeg (x6.1 140 0) → vp_in (x4.1 160 3) 400 ∧ (∀ x10 : gd, x10 = si x8 167 (x4.1 160 3 : Int32).toNatClampNeg (x8.1 140 1) → vp_in (x4.1 160 3) 400 ∧ (∀ x12 : gd, x12 = si x10 168 (x4.1 160 3 : Int32).toNatClampNeg (x10.1 140 2) → vp_in (x4.1 160 3) 400 ∧ (∀ x14 : gd, x14 = si x12 169 (x4.1 160 3 : Int32).toNatClampNeg (x12.1 140 3) → vp_in (x4.1 160 3) 400 ∧ (∀ x16 : gd, x16 = si x14 170 (x4.1 160 3 : Int32).toNatClampNeg (x14.1 140 4) → vp_in (x4.1 160 3) 400 ∧ (∀ x18 : gd, x18 = si x16 171 (x4.1 160 3 : Int32).toNatClampNeg (vp_nar .boolean (x16.1 140 5)) → ((¬ ((x18.1 140 1) = (13 : Int32)) → KT G q (d + 1) zk_X4_note 141 [(0, vr 160), (2, vr 140), (3, vi (x4.1 160 3))] [] x18 P) ∧ ((x18.1 140 1) = (13 : Int32) → ((¬ ((x18.1 140 5) = (0 : Int32)) → KT G q (d + 1) zk_X4_note 141 [(0, vr 160), (2, vr 140), (3, vi (x4.1 160 3))] [] x18 P) ∧ ((x18.1 140 5) = (0 : Int32) → (∀ x21 : gd, x21 = si x18 160 4 ((x18.1 160 4) + 1) → KT G q (d + 1) zk_X4_note 141 [(0, vr 160), (2, vr 140), (3, vi (x4.1 160 3))] [] x21 P))))))))))))) ∧ ((x4.1 140 0) = (-1 : Int32) → P none x4))))) ∧ (¬ ((x.1 160 2) < (400 : Int32)) → P none x))) :
    KT G q (d + 1) zk_X4_note 0 [(0, vr 160), (1, vi l1), (2, vr 140)] [] x P := by
  refine T_aload_n 0 (dk dtk_X4_note 0 rfl) rfl rfl ?_
  refine T_getI 160 2 (dk dtk_X4_note 1 rfl) kfl_X4_61 kk_160 (kl_160 hq) (by decide) rfl ?_
  refine T_sipush (v := 400) (dk dtk_X4_note 2 rfl) (by decide +kernel) ?_
  refine T_icmp_lt 11 (dk dtk_X4_note 3 rfl) (by decide) (fun c1 => ?_) (fun c1 => ?_)
  · have h := h.1 c1
    refine T_aload_n 0 (dk dtk_X4_note 5 rfl) rfl rfl ?_
    refine T_getR 160 1 162 (dk dtk_X4_note 6 rfl) kfl_X4_17 kk_160 (kl_160 hq) (by decide) rfl kr_160_1 ?_
    refine T_aload_n 0 (dk dtk_X4_note 7 rfl) rfl rfl ?_
    refine T_getI 160 2 (dk dtk_X4_note 8 rfl) kfl_X4_61 kk_160 (kl_160 hq) (by decide) rfl ?_
    refine T_iload_n 1 (dk dtk_X4_note 9 rfl) rfl rfl ?_
    obtain ⟨h2, h⟩ := h
    obtain ⟨x3, ex3⟩ : ∃ z, z = si x 162 (x.1 160 2 : Int32).toNatClampNeg l1 := ⟨_, rfl⟩
    have h := h x3 ex3
    refine T_iast 162 400 (dk dtk_X4_note 10 rfl) kk_162 (kl_162 hq) h2 ?_
    rw [← ex3]
    refine T_aload_n 0 (dk dtk_X4_note 11 rfl) rfl rfl ?_
    refine T_dup (dk dtk_X4_note 12 rfl) rfl ?_
    refine T_getI 160 2 (dk dtk_X4_note 13 rfl) kfl_X4_61 kk_160 (kl_160 hq) (by decide) rfl ?_
    refine T_iconst (v := 1) (dk dtk_X4_note 14 rfl) (by decide +kernel) ?_
    refine T_iadd (dk dtk_X4_note 15 rfl) ?_
    obtain ⟨x4, ex4⟩ : ∃ z, z = si x3 160 2 ((x3.1 160 2) + 1) := ⟨_, rfl⟩
    have h := h x4 ex4
    refine T_putI 160 2 (dk dtk_X4_note 16 rfl) kfl_X4_61 kk_160 (kl_160 hq) (by decide) rfl ⟨rfl, rfl⟩ ?_
    rw [← ex4]
    refine T_aload_n 2 (dk dtk_X4_note 17 rfl) rfl rfl ?_
    refine T_getI 140 0 (dk dtk_X4_note 18 rfl) kfl_X4_77 kk_140 (kl_140 hq) (by decide) rfl ?_
    refine T_iconst (v := (-1)) (dk dtk_X4_note 19 rfl) (by decide +kernel) ?_
    refine T_icmp_ne 40 (dk dtk_X4_note 20 rfl) (by decide) (fun c5 => ?_) (fun c5 => ?_)
    · have h := h.1 c5
      refine T_aload_n 0 (dk dtk_X4_note 22 rfl) rfl rfl ?_
      refine T_getI 160 3 (dk dtk_X4_note 23 rfl) kfl_X4_65 kk_160 (kl_160 hq) (by decide) rfl ?_
      refine T_istore_n (lv2 := [(3, vi (x4.1 160 3)), (0, vr 160), (1, vi l1), (2, vr 140)]) (dk dtk_X4_note 24 rfl) rfl (by decide) rfl ?_
      refine T_aload_n 1 (dk dtk_X4_note 25 rfl) rfl rfl ?_
      refine T_dup (dk dtk_X4_note 26 rfl) rfl ?_
      refine T_getI 160 3 (dk dtk_X4_note 27 rfl) kfl_X4_65 kk_160 (kl_160 hq) (by decide) rfl ?_
      refine T_iconst (v := 1) (dk dtk_X4_note 28 rfl) (by decide +kernel) ?_
      refine T_iadd (dk dtk_X4_note 29 rfl) ?_
      obtain ⟨x6, ex6⟩ : ∃ z, z = si x4 160 3 ((x4.1 160 3) + 1) := ⟨_, rfl⟩
      have h := h x6 ex6
      refine T_putI 160 3 (dk dtk_X4_note 30 rfl) kfl_X4_65 kk_160 (kl_160 hq) (by decide) rfl ⟨rfl, rfl⟩ ?_
      rw [← ex6]
      refine T_aload_n 1 (dk dtk_X4_note 31 rfl) rfl rfl ?_
      refine T_getR 160 5 166 (dk dtk_X4_note 32 rfl) kfl_X4_21 kk_160 (kl_160 hq) (by decide) rfl kr_160_5 ?_
      refine T_iload_n 0 (dk dtk_X4_note 33 rfl) rfl rfl ?_
      refine T_aload_n 3 (dk dtk_X4_note 34 rfl) rfl rfl ?_
      refine T_getI 140 0 (dk dtk_X4_note 35 rfl) kfl_X4_77 kk_140 (kl_140 hq) (by decide) rfl ?_
      obtain ⟨h7, h⟩ := h
      obtain ⟨x8, ex8⟩ : ∃ z, z = si x6 166 (x4.1 160 3 : Int32).toNatClampNeg (x6.1 140 0) := ⟨_, rfl⟩
      have h := h x8 ex8
      refine T_iast 166 400 (dk dtk_X4_note 36 rfl) kk_166 (kl_166 hq) h7 ?_
      rw [← ex8]
      refine T_aload_n 1 (dk dtk_X4_note 37 rfl) rfl rfl ?_
      refine T_getR 160 6 167 (dk dtk_X4_note 38 rfl) kfl_X4_24 kk_160 (kl_160 hq) (by decide) rfl kr_160_6 ?_
      refine T_iload_n 0 (dk dtk_X4_note 39 rfl) rfl rfl ?_
      refine T_aload_n 3 (dk dtk_X4_note 40 rfl) rfl rfl ?_
      refine T_getI 140 1 (dk dtk_X4_note 41 rfl) kfl_X4_81 kk_140 (kl_140 hq) (by decide) rfl ?_
      obtain ⟨h9, h⟩ := h
      obtain ⟨x10, ex10⟩ : ∃ z, z = si x8 167 (x4.1 160 3 : Int32).toNatClampNeg (x8.1 140 1) := ⟨_, rfl⟩
      have h := h x10 ex10
      refine T_iast 167 400 (dk dtk_X4_note 42 rfl) kk_167 (kl_167 hq) h9 ?_
      rw [← ex10]
      refine T_aload_n 1 (dk dtk_X4_note 43 rfl) rfl rfl ?_
      refine T_getR 160 7 168 (dk dtk_X4_note 44 rfl) kfl_X4_27 kk_160 (kl_160 hq) (by decide) rfl kr_160_7 ?_
      refine T_iload_n 0 (dk dtk_X4_note 45 rfl) rfl rfl ?_
      refine T_aload_n 3 (dk dtk_X4_note 46 rfl) rfl rfl ?_
      refine T_getI 140 2 (dk dtk_X4_note 47 rfl) kfl_X4_83 kk_140 (kl_140 hq) (by decide) rfl ?_
      obtain ⟨h11, h⟩ := h
      obtain ⟨x12, ex12⟩ : ∃ z, z = si x10 168 (x4.1 160 3 : Int32).toNatClampNeg (x10.1 140 2) := ⟨_, rfl⟩
      have h := h x12 ex12
      refine T_iast 168 400 (dk dtk_X4_note 48 rfl) kk_168 (kl_168 hq) h11 ?_
      rw [← ex12]
      refine T_aload_n 1 (dk dtk_X4_note 49 rfl) rfl rfl ?_
      refine T_getR 160 8 169 (dk dtk_X4_note 50 rfl) kfl_X4_30 kk_160 (kl_160 hq) (by decide) rfl kr_160_8 ?_
      refine T_iload_n 0 (dk dtk_X4_note 51 rfl) rfl rfl ?_
      refine T_aload_n 3 (dk dtk_X4_note 52 rfl) rfl rfl ?_
      refine T_getI 140 3 (dk dtk_X4_note 53 rfl) kfl_X4_85 kk_140 (kl_140 hq) (by decide) rfl ?_
      obtain ⟨h13, h⟩ := h
      obtain ⟨x14, ex14⟩ : ∃ z, z = si x12 169 (x4.1 160 3 : Int32).toNatClampNeg (x12.1 140 3) := ⟨_, rfl⟩
      have h := h x14 ex14
      refine T_iast 169 400 (dk dtk_X4_note 54 rfl) kk_169 (kl_169 hq) h13 ?_
      rw [← ex14]
      refine T_aload_n 1 (dk dtk_X4_note 55 rfl) rfl rfl ?_
      refine T_getR 160 9 170 (dk dtk_X4_note 56 rfl) kfl_X4_33 kk_160 (kl_160 hq) (by decide) rfl kr_160_9 ?_
      refine T_iload_n 0 (dk dtk_X4_note 57 rfl) rfl rfl ?_
      refine T_aload_n 3 (dk dtk_X4_note 58 rfl) rfl rfl ?_
      refine T_getI 140 4 (dk dtk_X4_note 59 rfl) kfl_X4_87 kk_140 (kl_140 hq) (by decide) rfl ?_
      obtain ⟨h15, h⟩ := h
      obtain ⟨x16, ex16⟩ : ∃ z, z = si x14 170 (x4.1 160 3 : Int32).toNatClampNeg (x14.1 140 4) := ⟨_, rfl⟩
      have h := h x16 ex16
      refine T_iast 170 400 (dk dtk_X4_note 60 rfl) kk_170 (kl_170 hq) h15 ?_
      rw [← ex16]
      refine T_aload_n 1 (dk dtk_X4_note 61 rfl) rfl rfl ?_
      refine T_getR 160 10 171 (dk dtk_X4_note 62 rfl) kfl_X4_36 kk_160 (kl_160 hq) (by decide) rfl kr_160_10 ?_
      refine T_iload_n 0 (dk dtk_X4_note 63 rfl) rfl rfl ?_
      refine T_aload_n 3 (dk dtk_X4_note 64 rfl) rfl rfl ?_
      refine T_getI 140 5 (dk dtk_X4_note 65 rfl) kfl_X4_89 kk_140 (kl_140 hq) (by decide) rfl ?_
      obtain ⟨h17, h⟩ := h
      obtain ⟨x18, ex18⟩ : ∃ z, z = si x16 171 (x4.1 160 3 : Int32).toNatClampNeg (vp_nar .boolean (x16.1 140 5)) := ⟨_, rfl⟩
      have h := h x18 ex18
      refine T_zast 171 400 (dk dtk_X4_note 66 rfl) kk_171 (kl_171 hq) h17 ?_
      rw [← ex18]
      refine T_aload_n 3 (dk dtk_X4_note 67 rfl) rfl rfl ?_
      refine T_getI 140 1 (dk dtk_X4_note 68 rfl) kfl_X4_81 kk_140 (kl_140 hq) (by decide) rfl ?_
      refine T_bipush (v := 13) (dk dtk_X4_note 69 rfl) (by decide +kernel) ?_
      refine T_icmp_ne 141 (dk dtk_X4_note 70 rfl) (by decide) (fun c19 => ?_) (fun c19 => ?_)
      · have h := h.1 c19
        exact T_sub [1, 3, 0] rfl h
      · have h := h.2 c19
        refine T_aload_n 3 (dk dtk_X4_note 71 rfl) rfl rfl ?_
        refine T_getI 140 5 (dk dtk_X4_note 72 rfl) kfl_X4_89 kk_140 (kl_140 hq) (by decide) rfl ?_
        refine T_if_ne 141 (dk dtk_X4_note 73 rfl) (by decide) (fun c20 => ?_) (fun c20 => ?_)
        · have h := h.1 c20
          exact T_sub [1, 3, 0] rfl h
        · have h := h.2 c20
          refine T_aload_n 1 (dk dtk_X4_note 74 rfl) rfl rfl ?_
          refine T_dup (dk dtk_X4_note 75 rfl) rfl ?_
          refine T_getI 160 4 (dk dtk_X4_note 76 rfl) kfl_X4_68 kk_160 (kl_160 hq) (by decide) rfl ?_
          refine T_iconst (v := 1) (dk dtk_X4_note 77 rfl) (by decide +kernel) ?_
          refine T_iadd (dk dtk_X4_note 78 rfl) ?_
          obtain ⟨x21, ex21⟩ : ∃ z, z = si x18 160 4 ((x18.1 160 4) + 1) := ⟨_, rfl⟩
          have h := h x21 ex21
          refine T_putI 160 4 (dk dtk_X4_note 79 rfl) kfl_X4_68 kk_160 (kl_160 hq) (by decide) rfl ⟨rfl, rfl⟩ ?_
          rw [← ex21]
          exact T_sub [1, 3, 0] rfl h
    · have h := h.2 c5
      exact KT_vret (dk dtk_X4_note 21 rfl) rfl h
  · have h := h.2 c1
    exact KT_vret (dk dtk_X4_note 4 rfl) rfl h
set_option maxRecDepth 100000 in
set_option maxHeartbeats 4000000 in
theorem kg_X4_note_141 {G : kG} {q : kP} {d : Nat} {x : gd} {P : Option gv → gd → Prop} (hq : kV q) (l3 : Int32)
    (h : KT G q d zk_X4_setClock 0 [(0, vr 160), (1, vi l3)] [] x (rv (fun x1 => ((¬ ((x1.1 140 5) = (0 : Int32)) → KT G q (d + 1) zk_X4_note 162 [(0, vr 160), (3, vi l3)] [] x1 P) ∧ ((x1.1 140 5) = (0 : Int32) → KT G q d zk_X4_handOn 0 [(0, vr 160), (1, vi l3), (2, vi (x1.1 140 6))] [] x1 (rv (fun x3 => KT G q (d + 1) zk_X4_note 162 [(0, vr 160), (3, vi l3)] [] x3 P))))))) :
    KT G q (d + 1) zk_X4_note 141 [(0, vr 160), (2, vr 140), (3, vi l3)] [] x P := by
  refine T_aload_n 0 (dk dtk_X4_note 80 rfl) rfl rfl ?_
  refine T_iload_n 2 (dk dtk_X4_note 81 rfl) rfl rfl ?_
  refine KC_Vv [vi l3] [] rfl (dk dtk_X4_note 82 rfl) kcv_X4_94 rfl kk_160 rfl (kl_160 hq) (Nat.le_of_ble_eq_true rfl) (Nat.le_of_ble_eq_true rfl) (gok_i (av_c (gkr (kl_160 hq)) (av_c (gkr (kl_140 hq)) (av_c rfl av_n))) as_n) rfl h (fun x1 h => ?_)
  refine T_aload_n 1 (dk dtk_X4_note 83 rfl) rfl rfl ?_
  refine T_getI 140 5 (dk dtk_X4_note 84 rfl) kfl_X4_89 kk_140 (kl_140 hq) (by decide) rfl ?_
  refine T_if_ne 162 (dk dtk_X4_note 85 rfl) (by decide) (fun c2 => ?_) (fun c2 => ?_)
  · have h := h.1 c2
    exact T_sub [0, 2] rfl h
  · have h := h.2 c2
    refine T_aload_n 0 (dk dtk_X4_note 86 rfl) rfl rfl ?_
    refine T_iload_n 2 (dk dtk_X4_note 87 rfl) rfl rfl ?_
    refine T_aload_n 1 (dk dtk_X4_note 88 rfl) rfl rfl ?_
    refine T_getI 140 6 (dk dtk_X4_note 89 rfl) kfl_X4_98 kk_140 (kl_140 hq) (by decide) rfl ?_
    refine T_sub (lv2 := [(0, vr 160), (3, vi l3)]) [0, 2] rfl ?_
    refine KC_Vv [vi l3, vi (x1.1 140 6)] [] rfl (dk dtk_X4_note 90 rfl) kcv_X4_101 rfl kk_160 rfl (kl_160 hq) (Nat.le_of_ble_eq_true rfl) (Nat.le_of_ble_eq_true rfl) (gok_i (av_c (gkr (kl_160 hq)) (av_c rfl av_n)) as_n) rfl h (fun x3 h => ?_)
    exact h
set_option maxRecDepth 100000 in
set_option maxHeartbeats 4000000 in
theorem kg_X4_note_162 {G : kG} {q : kP} {d : Nat} {x : gd} {P : Option gv → gd → Prop} (hq : kV q) (l3 : Int32)
    (h : ((¬ (l3 = (0 : Int32)) → vp_in (l3 - 1) 400 ∧ KT G q (d + 1) zk_X4_note 183 [(0, vr 160), (3, vi l3)] [vi (x.1 172 (l3 - 1 : Int32).toNatClampNeg), vi l3, vr 172] x P) ∧ (l3 = (0 : Int32) → KT G q (d + 1) zk_X4_note 183 [(0, vr 160), (3, vi l3)] [vi 0, vi l3, vr 172] x P))) :
    KT G q (d + 1) zk_X4_note 162 [(0, vr 160), (3, vi l3)] [] x P := by
  refine T_aload_n 0 (dk dtk_X4_note 91 rfl) rfl rfl ?_
  refine T_getR 160 11 172 (dk dtk_X4_note 92 rfl) kfl_X4_40 kk_160 (kl_160 hq) (by decide) rfl kr_160_11 ?_
  refine T_iload_n 1 (dk dtk_X4_note 93 rfl) rfl rfl ?_
  refine T_iload_n 1 (dk dtk_X4_note 94 rfl) rfl rfl ?_
  refine T_if_ne 175 (dk dtk_X4_note 95 rfl) (by decide) (fun c1 => ?_) (fun c1 => ?_)
  · have h := h.1 c1
    refine T_aload_n 0 (dk dtk_X4_note 98 rfl) rfl rfl ?_
    refine T_getR 160 11 172 (dk dtk_X4_note 99 rfl) kfl_X4_40 kk_160 (kl_160 hq) (by decide) rfl kr_160_11 ?_
    refine T_iload_n 1 (dk dtk_X4_note 100 rfl) rfl rfl ?_
    refine T_iconst (v := 1) (dk dtk_X4_note 101 rfl) (by decide +kernel) ?_
    refine T_isub (dk dtk_X4_note 102 rfl) ?_
    obtain ⟨h2, h⟩ := h
    refine T_iald 172 400 (dk dtk_X4_note 103 rfl) kk_172 (kl_172 hq) h2 ?_
    exact h
  · have h := h.2 c1
    refine T_iconst (v := 0) (dk dtk_X4_note 96 rfl) (by decide +kernel) ?_
    refine T_goto 183 (dk dtk_X4_note 97 rfl) (by decide) ?_
    exact h
set_option maxRecDepth 100000 in
set_option maxHeartbeats 4000000 in
theorem kg_X4_note_183 {G : kG} {q : kP} {d : Nat} {x : gd} {P : Option gv → gd → Prop} (hq : kV q) (l3 : Int32) (s0 : Int32) (s1 : Int32)
    (h : KT G q d zk_X4_racesOf 0 [(0, vr 160), (1, vi l3)] [] x (ri (fun r2 x1 => vp_in s1 400 ∧ (∀ x4 : gd, x4 = si x1 172 (s1 : Int32).toNatClampNeg (s0 + r2) → P none x4)))) :
    KT G q (d + 1) zk_X4_note 183 [(0, vr 160), (3, vi l3)] [vi s0, vi s1, vr 172] x P := by
  refine T_aload_n 0 (dk dtk_X4_note 104 rfl) rfl rfl ?_
  refine T_iload_n 1 (dk dtk_X4_note 105 rfl) rfl rfl ?_
  refine T_sub (lv2 := []) [] rfl ?_
  refine KC_Vi [vi l3] [vi s0, vi s1, vr 172] rfl (dk dtk_X4_note 106 rfl) kcv_X4_105 rfl kk_160 rfl (kl_160 hq) (Nat.le_of_ble_eq_true rfl) (Nat.le_of_ble_eq_true rfl) (gok_i av_n (as_c rfl (as_c rfl (as_c (gkr (kl_172 hq)) as_n)))) rfl h (fun r2 x1 h => ?_)
  refine T_iadd (dk dtk_X4_note 107 rfl) ?_
  obtain ⟨h3, h⟩ := h
  obtain ⟨x4, ex4⟩ : ∃ z, z = si x1 172 (s1 : Int32).toNatClampNeg (s0 + r2) := ⟨_, rfl⟩
  have h := h x4 ex4
  refine T_iast 172 400 (dk dtk_X4_note 108 rfl) kk_172 (kl_172 hq) h3 ?_
  rw [← ex4]
  exact KT_vret (dk dtk_X4_note 109 rfl) rfl h
set_option maxRecDepth 100000 in
theorem dtk_X4_setClock : dck cX4_setClock [(0, .aload_n 0, 1), (1, .getfield 21, 3), (4, .iload_n 1, 1), (5, .iaload, 1), (6, .istore_n 2, 1), (7, .iconst 0, 1), (8, .istore_n 3, 1), (9, .iload_n 3, 1), (10, .bipush 6, 2), (12, .if_icmp .ge 21, 3), (15, .aload_n 0, 1), (16, .getfield 43, 3), (19, .iload_n 1, 1), (20, .bipush 6, 2), (22, .imul, 1), (23, .iload_n 3, 1), (24, .iadd, 1), (25, .iconst 0, 1), (26, .iastore, 1), (27, .iinc 3 1, 3), (30, .goto (-21), 3), (33, .aload_n 0, 1), (34, .getfield 46, 3), (37, .iload_n 2, 1), (38, .iaload, 1), (39, .iconst (-1), 1), (40, .if_icmp .ne 19, 3), (43, .aload_n 0, 1), (44, .getfield 43, 3), (47, .iload_n 1, 1), (48, .aload_n 0, 1), (49, .getfield 49, 3), (52, .iload_n 2, 1), (53, .invokestatic 109, 3), (56, .goto 21, 3), (59, .aload_n 0, 1), (60, .getfield 43, 3), (63, .iload_n 1, 1), (64, .aload_n 0, 1), (65, .getfield 43, 3), (68, .aload_n 0, 1), (69, .getfield 46, 3), (72, .iload_n 2, 1), (73, .iaload, 1), (74, .invokestatic 109, 3), (77, .aload_n 0, 1), (78, .getfield 36, 3), (81, .iload_n 1, 1), (82, .baload, 1), (83, .ifCond .ne 8, 3), (86, .aload_n 0, 1), (87, .iload_n 1, 1), (88, .invokevirtual 113, 3), (91, .aload_n 0, 1), (92, .getfield 43, 3), (95, .iload_n 1, 1), (96, .bipush 6, 2), (98, .imul, 1), (99, .iload_n 2, 1), (100, .iadd, 1), (101, .dup2, 1), (102, .iaload, 1), (103, .iconst 1, 1), (104, .iadd, 1), (105, .iastore, 1), (106, .aload_n 0, 1), (107, .getfield 46, 3), (110, .iload_n 2, 1), (111, .iload_n 1, 1), (112, .iastore, 1), (113, .return_, 1)] = true := by decide +kernel
set_option maxRecDepth 100000 in
set_option maxHeartbeats 4000000 in
theorem kg_X4_setClock_0 {G : kG} {q : kP} {d : Nat} {x : gd} {P : Option gv → gd → Prop} (hq : kV q) (l1 : Int32)
    (h : vp_in l1 400 ∧ KT G q (d + 1) zk_X4_setClock 9 [(0, vr 160), (1, vi l1), (2, vi (x.1 166 (l1 : Int32).toNatClampNeg)), (3, vi 0)] [] x P) :
    KT G q (d + 1) zk_X4_setClock 0 [(0, vr 160), (1, vi l1)] [] x P := by
  refine T_aload_n 0 (dk dtk_X4_setClock 0 rfl) rfl rfl ?_
  refine T_getR 160 5 166 (dk dtk_X4_setClock 1 rfl) kfl_X4_21 kk_160 (kl_160 hq) (by decide) rfl kr_160_5 ?_
  refine T_iload_n 1 (dk dtk_X4_setClock 2 rfl) rfl rfl ?_
  obtain ⟨h1, h⟩ := h
  refine T_iald 166 400 (dk dtk_X4_setClock 3 rfl) kk_166 (kl_166 hq) h1 ?_
  refine T_istore_n (lv2 := [(2, vi (x.1 166 (l1 : Int32).toNatClampNeg)), (0, vr 160), (1, vi l1)]) (dk dtk_X4_setClock 4 rfl) rfl (by decide) rfl ?_
  refine T_iconst (v := 0) (dk dtk_X4_setClock 5 rfl) (by decide +kernel) ?_
  refine T_istore_n (lv2 := [(3, vi 0), (2, vi (x.1 166 (l1 : Int32).toNatClampNeg)), (0, vr 160), (1, vi l1)]) (dk dtk_X4_setClock 6 rfl) rfl (by decide) rfl ?_
  exact T_sub [2, 3, 1, 0] rfl h
set_option maxRecDepth 100000 in
set_option maxHeartbeats 4000000 in
theorem kg_X4_setClock_9 {G : kG} {q : kP} {d : Nat} {x : gd} {P : Option gv → gd → Prop} (hq : kV q) (l1 : Int32) (l2 : Int32) (l3 : Int32)
    (h : (((6 : Int32) ≤ l3 → vp_in l2 6 ∧ ((¬ ((x.1 174 (l2 : Int32).toNatClampNeg) = (-1 : Int32)) → vp_in l2 6 ∧ KT G q d zk_X4_join 0 [(0, vr 173), (1, vi l1), (2, vr 173), (3, vi (x.1 174 (l2 : Int32).toNatClampNeg))] [] x (rv (fun x5 => KT G q (d + 1) zk_X4_setClock 77 [(0, vr 160), (1, vi l1), (2, vi l2)] [] x5 P))) ∧ ((x.1 174 (l2 : Int32).toNatClampNeg) = (-1 : Int32) → KT G q d zk_X4_join 0 [(0, vr 173), (1, vi l1), (2, vr 175), (3, vi l2)] [] x (rv (fun x6 => KT G q (d + 1) zk_X4_setClock 77 [(0, vr 160), (1, vi l1), (2, vi l2)] [] x6 P))))) ∧ (¬ ((6 : Int32) ≤ l3) → vp_in ((l1 * 6) + l3) 2400 ∧ (∀ x8 : gd, x8 = si x 173 ((l1 * 6) + l3 : Int32).toNatClampNeg 0 → KT G q (d + 1) zk_X4_setClock 9 [(0, vr 160), (1, vi l1), (2, vi l2), (3, vi (l3 + 1))] [] x8 P)))) :
    KT G q (d + 1) zk_X4_setClock 9 [(0, vr 160), (1, vi l1), (2, vi l2), (3, vi l3)] [] x P := by
  refine T_iload_n 3 (dk dtk_X4_setClock 7 rfl) rfl rfl ?_
  refine T_bipush (v := 6) (dk dtk_X4_setClock 8 rfl) (by decide +kernel) ?_
  refine T_icmp_ge 33 (dk dtk_X4_setClock 9 rfl) (by decide) (fun c1 => ?_) (fun c1 => ?_)
  · have h := h.1 c1
    refine T_aload_n 0 (dk dtk_X4_setClock 21 rfl) rfl rfl ?_
    refine T_getR 160 13 174 (dk dtk_X4_setClock 22 rfl) kfl_X4_46 kk_160 (kl_160 hq) (by decide) rfl kr_160_13 ?_
    refine T_iload_n 2 (dk dtk_X4_setClock 23 rfl) rfl rfl ?_
    obtain ⟨h2, h⟩ := h
    refine T_iald 174 6 (dk dtk_X4_setClock 24 rfl) kk_174 (kl_174 hq) h2 ?_
    refine T_iconst (v := (-1)) (dk dtk_X4_setClock 25 rfl) (by decide +kernel) ?_
    refine T_icmp_ne 59 (dk dtk_X4_setClock 26 rfl) (by decide) (fun c3 => ?_) (fun c3 => ?_)
    · have h := h.1 c3
      refine T_aload_n 0 (dk dtk_X4_setClock 35 rfl) rfl rfl ?_
      refine T_getR 160 12 173 (dk dtk_X4_setClock 36 rfl) kfl_X4_43 kk_160 (kl_160 hq) (by decide) rfl kr_160_12 ?_
      refine T_iload_n 1 (dk dtk_X4_setClock 37 rfl) rfl rfl ?_
      refine T_aload_n 0 (dk dtk_X4_setClock 38 rfl) rfl rfl ?_
      refine T_getR 160 12 173 (dk dtk_X4_setClock 39 rfl) kfl_X4_43 kk_160 (kl_160 hq) (by decide) rfl kr_160_12 ?_
      refine T_aload_n 0 (dk dtk_X4_setClock 40 rfl) rfl rfl ?_
      refine T_getR 160 13 174 (dk dtk_X4_setClock 41 rfl) kfl_X4_46 kk_160 (kl_160 hq) (by decide) rfl kr_160_13 ?_
      refine T_iload_n 2 (dk dtk_X4_setClock 42 rfl) rfl rfl ?_
      obtain ⟨h4, h⟩ := h
      refine T_iald 174 6 (dk dtk_X4_setClock 43 rfl) kk_174 (kl_174 hq) h4 ?_
      refine T_sub (lv2 := [(0, vr 160), (1, vi l1), (2, vi l2)]) [0, 1, 2] rfl ?_
      refine KC_Sv [vr 173, vi l1, vr 173, vi (x.1 174 (l2 : Int32).toNatClampNeg)] [] rfl (dk dtk_X4_setClock 44 rfl) kcs_X4_109 rfl (Nat.le_of_ble_eq_true rfl) (Nat.le_of_ble_eq_true rfl) (gok_i (av_c (gkr (kl_160 hq)) (av_c rfl (av_c rfl av_n))) as_n) rfl h (fun x5 h => ?_)
      exact h
    · have h := h.2 c3
      refine T_aload_n 0 (dk dtk_X4_setClock 27 rfl) rfl rfl ?_
      refine T_getR 160 12 173 (dk dtk_X4_setClock 28 rfl) kfl_X4_43 kk_160 (kl_160 hq) (by decide) rfl kr_160_12 ?_
      refine T_iload_n 1 (dk dtk_X4_setClock 29 rfl) rfl rfl ?_
      refine T_aload_n 0 (dk dtk_X4_setClock 30 rfl) rfl rfl ?_
      refine T_getR 160 14 175 (dk dtk_X4_setClock 31 rfl) kfl_X4_49 kk_160 (kl_160 hq) (by decide) rfl kr_160_14 ?_
      refine T_iload_n 2 (dk dtk_X4_setClock 32 rfl) rfl rfl ?_
      refine T_sub (lv2 := [(0, vr 160), (1, vi l1), (2, vi l2)]) [0, 1, 2] rfl ?_
      refine KC_Sv [vr 173, vi l1, vr 175, vi l2] [] rfl (dk dtk_X4_setClock 33 rfl) kcs_X4_109 rfl (Nat.le_of_ble_eq_true rfl) (Nat.le_of_ble_eq_true rfl) (gok_i (av_c (gkr (kl_160 hq)) (av_c rfl (av_c rfl av_n))) as_n) rfl h (fun x6 h => ?_)
      refine T_goto 77 (dk dtk_X4_setClock 34 rfl) (by decide) ?_
      exact h
  · have h := h.2 c1
    refine T_aload_n 0 (dk dtk_X4_setClock 10 rfl) rfl rfl ?_
    refine T_getR 160 12 173 (dk dtk_X4_setClock 11 rfl) kfl_X4_43 kk_160 (kl_160 hq) (by decide) rfl kr_160_12 ?_
    refine T_iload_n 1 (dk dtk_X4_setClock 12 rfl) rfl rfl ?_
    refine T_bipush (v := 6) (dk dtk_X4_setClock 13 rfl) (by decide +kernel) ?_
    refine T_imul (dk dtk_X4_setClock 14 rfl) ?_
    refine T_iload_n 3 (dk dtk_X4_setClock 15 rfl) rfl rfl ?_
    refine T_iadd (dk dtk_X4_setClock 16 rfl) ?_
    refine T_iconst (v := 0) (dk dtk_X4_setClock 17 rfl) (by decide +kernel) ?_
    obtain ⟨h7, h⟩ := h
    obtain ⟨x8, ex8⟩ : ∃ z, z = si x 173 ((l1 * 6) + l3 : Int32).toNatClampNeg 0 := ⟨_, rfl⟩
    have h := h x8 ex8
    refine T_iast 173 2400 (dk dtk_X4_setClock 18 rfl) kk_173 (kl_173 hq) h7 ?_
    rw [← ex8]
    refine T_iinc (v := l3 + 1) (lv2 := [(3, vi (l3 + 1)), (0, vr 160), (1, vi l1), (2, vi l2)]) 3 (dk dtk_X4_setClock 19 rfl) rfl rfl (by decide) rfl ?_
    refine T_goto 9 (dk dtk_X4_setClock 20 rfl) (by decide) ?_
    exact T_sub [1, 2, 3, 0] rfl h
set_option maxRecDepth 100000 in
set_option maxHeartbeats 4000000 in
theorem kg_X4_setClock_77 {G : kG} {q : kP} {d : Nat} {x : gd} {P : Option gv → gd → Prop} (hq : kV q) (l1 : Int32) (l2 : Int32)
    (h : vp_in l1 400 ∧ ((¬ ((x.1 171 (l1 : Int32).toNatClampNeg) = (0 : Int32)) → KT G q (d + 1) zk_X4_setClock 91 [(0, vr 160), (1, vi l1), (2, vi l2)] [] x P) ∧ ((x.1 171 (l1 : Int32).toNatClampNeg) = (0 : Int32) → KT G q d zk_X4_takeOver 0 [(0, vr 160), (1, vi l1)] [] x (rv (fun x3 => KT G q (d + 1) zk_X4_setClock 91 [(0, vr 160), (1, vi l1), (2, vi l2)] [] x3 P))))) :
    KT G q (d + 1) zk_X4_setClock 77 [(0, vr 160), (1, vi l1), (2, vi l2)] [] x P := by
  refine T_aload_n 0 (dk dtk_X4_setClock 45 rfl) rfl rfl ?_
  refine T_getR 160 10 171 (dk dtk_X4_setClock 46 rfl) kfl_X4_36 kk_160 (kl_160 hq) (by decide) rfl kr_160_10 ?_
  refine T_iload_n 1 (dk dtk_X4_setClock 47 rfl) rfl rfl ?_
  obtain ⟨h1, h⟩ := h
  refine T_zald 171 400 (dk dtk_X4_setClock 48 rfl) kk_171 (kl_171 hq) h1 ?_
  refine T_if_ne 91 (dk dtk_X4_setClock 49 rfl) (by decide) (fun c2 => ?_) (fun c2 => ?_)
  · have h := h.1 c2
    exact h
  · have h := h.2 c2
    refine T_aload_n 0 (dk dtk_X4_setClock 50 rfl) rfl rfl ?_
    refine T_iload_n 1 (dk dtk_X4_setClock 51 rfl) rfl rfl ?_
    refine KC_Vv [vi l1] [] rfl (dk dtk_X4_setClock 52 rfl) kcv_X4_113 rfl kk_160 rfl (kl_160 hq) (Nat.le_of_ble_eq_true rfl) (Nat.le_of_ble_eq_true rfl) (gok_i (av_c (gkr (kl_160 hq)) (av_c rfl (av_c rfl av_n))) as_n) rfl h (fun x3 h => ?_)
    exact h
set_option maxRecDepth 100000 in
set_option maxHeartbeats 4000000 in
theorem kg_X4_setClock_91 {G : kG} {q : kP} {d : Nat} {x : gd} {P : Option gv → gd → Prop} (hq : kV q) (l1 : Int32) (l2 : Int32)
    (h : vp_in ((l1 * 6) + l2) 2400 ∧ vp_in ((l1 * 6) + l2) 2400 ∧ (∀ x3 : gd, x3 = si x 173 ((l1 * 6) + l2 : Int32).toNatClampNeg ((x.1 173 ((l1 * 6) + l2 : Int32).toNatClampNeg) + 1) → vp_in l2 6 ∧ (∀ x5 : gd, x5 = si x3 174 (l2 : Int32).toNatClampNeg l1 → P none x5))) :
    KT G q (d + 1) zk_X4_setClock 91 [(0, vr 160), (1, vi l1), (2, vi l2)] [] x P := by
  refine T_aload_n 0 (dk dtk_X4_setClock 53 rfl) rfl rfl ?_
  refine T_getR 160 12 173 (dk dtk_X4_setClock 54 rfl) kfl_X4_43 kk_160 (kl_160 hq) (by decide) rfl kr_160_12 ?_
  refine T_iload_n 1 (dk dtk_X4_setClock 55 rfl) rfl rfl ?_
  refine T_bipush (v := 6) (dk dtk_X4_setClock 56 rfl) (by decide +kernel) ?_
  refine T_imul (dk dtk_X4_setClock 57 rfl) ?_
  refine T_iload_n 2 (dk dtk_X4_setClock 58 rfl) rfl rfl ?_
  refine T_iadd (dk dtk_X4_setClock 59 rfl) ?_
  refine T_dup2 (dk dtk_X4_setClock 60 rfl) rfl rfl ?_
  obtain ⟨h1, h⟩ := h
  refine T_iald 173 2400 (dk dtk_X4_setClock 61 rfl) kk_173 (kl_173 hq) h1 ?_
  refine T_iconst (v := 1) (dk dtk_X4_setClock 62 rfl) (by decide +kernel) ?_
  refine T_iadd (dk dtk_X4_setClock 63 rfl) ?_
  obtain ⟨h2, h⟩ := h
  obtain ⟨x3, ex3⟩ : ∃ z, z = si x 173 ((l1 * 6) + l2 : Int32).toNatClampNeg ((x.1 173 ((l1 * 6) + l2 : Int32).toNatClampNeg) + 1) := ⟨_, rfl⟩
  have h := h x3 ex3
  refine T_iast 173 2400 (dk dtk_X4_setClock 64 rfl) kk_173 (kl_173 hq) h2 ?_
  rw [← ex3]
  refine T_aload_n 0 (dk dtk_X4_setClock 65 rfl) rfl rfl ?_
  refine T_getR 160 13 174 (dk dtk_X4_setClock 66 rfl) kfl_X4_46 kk_160 (kl_160 hq) (by decide) rfl kr_160_13 ?_
  refine T_iload_n 2 (dk dtk_X4_setClock 67 rfl) rfl rfl ?_
  refine T_iload_n 1 (dk dtk_X4_setClock 68 rfl) rfl rfl ?_
  obtain ⟨h4, h⟩ := h
  obtain ⟨x5, ex5⟩ : ∃ z, z = si x3 174 (l2 : Int32).toNatClampNeg l1 := ⟨_, rfl⟩
  have h := h x5 ex5
  refine T_iast 174 6 (dk dtk_X4_setClock 69 rfl) kk_174 (kl_174 hq) h4 ?_
  rw [← ex5]
  exact KT_vret (dk dtk_X4_setClock 70 rfl) rfl h
set_option maxRecDepth 100000 in
theorem dtk_X4_takeOver : dck cX4_takeOver [(0, .aload_n 0, 1), (1, .getfield 27, 3), (4, .iload_n 1, 1), (5, .iaload, 1), (6, .istore_n 2, 1), (7, .aload_n 0, 1), (8, .getfield 24, 3), (11, .iload_n 1, 1), (12, .iaload, 1), (13, .tableswitch 188 0 15 #[160, 188, 160, 160, 160, 144, 188, 188, 188, 188, 79, 188, 188, 188, 188, 110], 79), (92, .aload_n 0, 1), (93, .getfield 46, 3), (96, .iload_n 2, 1), (97, .iaload, 1), (98, .iconst (-1), 1), (99, .if_icmp .eq 102, 3), (102, .aload_n 0, 1), (103, .getfield 43, 3), (106, .iload_n 1, 1), (107, .aload_n 0, 1), (108, .getfield 43, 3), (111, .aload_n 0, 1), (112, .getfield 46, 3), (115, .iload_n 2, 1), (116, .iaload, 1), (117, .invokestatic 109, 3), (120, .goto 81, 3), (123, .aload_n 0, 1), (124, .getfield 43, 3), (127, .iload_n 1, 1), (128, .aload_n 0, 1), (129, .getfield 58, 3), (132, .aload_n 0, 1), (133, .getfield 21, 3), (136, .iload_n 1, 1), (137, .iaload, 1), (138, .invokestatic 109, 3), (141, .aload_n 0, 1), (142, .getfield 43, 3), (145, .iload_n 1, 1), (146, .aload_n 0, 1), (147, .getfield 52, 3), (150, .iload_n 2, 1), (151, .invokestatic 109, 3), (154, .goto 47, 3), (157, .aload_n 0, 1), (158, .getfield 43, 3), (161, .iload_n 1, 1), (162, .aload_n 0, 1), (163, .getfield 52, 3), (166, .iload_n 2, 1), (167, .invokestatic 109, 3), (170, .goto 31, 3), (173, .aload_n 0, 1), (174, .getfield 11, 3), (177, .getfield 116, 3), (180, .iload_n 2, 1), (181, .baload, 1), (182, .ifCond .eq 19, 3), (185, .aload_n 0, 1), (186, .getfield 43, 3), (189, .iload_n 1, 1), (190, .aload_n 0, 1), (191, .getfield 55, 3), (194, .iload_n 2, 1), (195, .invokestatic 109, 3), (198, .goto 3, 3), (201, .return_, 1)] = true := by decide +kernel
set_option maxRecDepth 100000 in
set_option maxHeartbeats 4000000 in
theorem kg_X4_takeOver_0 {G : kG} {q : kP} {d : Nat} {x : gd} {P : Option gv → gd → Prop} (hq : kV q) (l1 : Int32)
    (h : vp_in l1 400 ∧ vp_in l1 400 ∧ ((((x.1 167 (l1 : Int32).toNatClampNeg) = 10) → vp_in (x.1 168 (l1 : Int32).toNatClampNeg) 6 ∧ (((x.1 174 (x.1 168 (l1 : Int32).toNatClampNeg : Int32).toNatClampNeg) = (-1 : Int32) → P none x) ∧ (¬ ((x.1 174 (x.1 168 (l1 : Int32).toNatClampNeg : Int32).toNatClampNeg) = (-1 : Int32)) → vp_in (x.1 168 (l1 : Int32).toNatClampNeg) 6 ∧ KT G q d zk_X4_join 0 [(0, vr 173), (1, vi l1), (2, vr 173), (3, vi (x.1 174 (x.1 168 (l1 : Int32).toNatClampNeg : Int32).toNatClampNeg))] [] x (rv (fun x7 => P none x7))))) ∧ (((x.1 167 (l1 : Int32).toNatClampNeg) = 15) → vp_in l1 400 ∧ KT G q d zk_X4_join 0 [(0, vr 173), (1, vi l1), (2, vr 178), (3, vi (x.1 166 (l1 : Int32).toNatClampNeg))] [] x (rv (fun x10 => KT G q d zk_X4_join 0 [(0, vr 173), (1, vi l1), (2, vr 176), (3, vi (x.1 168 (l1 : Int32).toNatClampNeg))] [] x10 (rv (fun x11 => P none x11))))) ∧ (((x.1 167 (l1 : Int32).toNatClampNeg) = 5) → KT G q d zk_X4_join 0 [(0, vr 173), (1, vi l1), (2, vr 176), (3, vi (x.1 168 (l1 : Int32).toNatClampNeg))] [] x (rv (fun x13 => P none x13))) ∧ (((x.1 167 (l1 : Int32).toNatClampNeg) = 0 ∨ (x.1 167 (l1 : Int32).toNatClampNeg) = 2 ∨ (x.1 167 (l1 : Int32).toNatClampNeg) = 3 ∨ (x.1 167 (l1 : Int32).toNatClampNeg) = 4) → vp_in (x.1 168 (l1 : Int32).toNatClampNeg) 24 ∧ (((x.1 69 (x.1 168 (l1 : Int32).toNatClampNeg : Int32).toNatClampNeg) = (0 : Int32) → P none x) ∧ (¬ ((x.1 69 (x.1 168 (l1 : Int32).toNatClampNeg : Int32).toNatClampNeg) = (0 : Int32)) → KT G q d zk_X4_join 0 [(0, vr 173), (1, vi l1), (2, vr 177), (3, vi (x.1 168 (l1 : Int32).toNatClampNeg))] [] x (rv (fun x17 => P none x17))))) ∧ ((∀ k ∈ [(10 : Int32), (15 : Int32), (5 : Int32), (0 : Int32), (2 : Int32), (3 : Int32), (4 : Int32)], ¬ (x.1 167 (l1 : Int32).toNatClampNeg) = k) → P none x))) :
    KT G q (d + 1) zk_X4_takeOver 0 [(0, vr 160), (1, vi l1)] [] x P := by
  refine T_aload_n 0 (dk dtk_X4_takeOver 0 rfl) rfl rfl ?_
  refine T_getR 160 7 168 (dk dtk_X4_takeOver 1 rfl) kfl_X4_27 kk_160 (kl_160 hq) (by decide) rfl kr_160_7 ?_
  refine T_iload_n 1 (dk dtk_X4_takeOver 2 rfl) rfl rfl ?_
  obtain ⟨h1, h⟩ := h
  refine T_iald 168 400 (dk dtk_X4_takeOver 3 rfl) kk_168 (kl_168 hq) h1 ?_
  refine T_istore_n (lv2 := [(2, vi (x.1 168 (l1 : Int32).toNatClampNeg)), (0, vr 160), (1, vi l1)]) (dk dtk_X4_takeOver 4 rfl) rfl (by decide) rfl ?_
  refine T_aload_n 1 (dk dtk_X4_takeOver 5 rfl) rfl rfl ?_
  refine T_getR 160 6 167 (dk dtk_X4_takeOver 6 rfl) kfl_X4_24 kk_160 (kl_160 hq) (by decide) rfl kr_160_6 ?_
  refine T_iload_n 2 (dk dtk_X4_takeOver 7 rfl) rfl rfl ?_
  obtain ⟨h2, h⟩ := h
  refine T_iald 167 400 (dk dtk_X4_takeOver 8 rfl) kk_167 (kl_167 hq) h2 ?_
  by_cases c3 : (x.1 167 (l1 : Int32).toNatClampNeg) = 10
  · have h := h.1 c3
    refine T_table 79 92 (dk dtk_X4_takeOver 9 rfl) (by decide) (by rw [c3]; decide +kernel) (by decide) ?_
    refine T_aload_n 1 (dk dtk_X4_takeOver 10 rfl) rfl rfl ?_
    refine T_getR 160 13 174 (dk dtk_X4_takeOver 11 rfl) kfl_X4_46 kk_160 (kl_160 hq) (by decide) rfl kr_160_13 ?_
    refine T_iload_n 0 (dk dtk_X4_takeOver 12 rfl) rfl rfl ?_
    obtain ⟨h4, h⟩ := h
    refine T_iald 174 6 (dk dtk_X4_takeOver 13 rfl) kk_174 (kl_174 hq) h4 ?_
    refine T_iconst (v := (-1)) (dk dtk_X4_takeOver 14 rfl) (by decide +kernel) ?_
    refine T_icmp_eq 201 (dk dtk_X4_takeOver 15 rfl) (by decide) (fun c5 => ?_) (fun c5 => ?_)
    · have h := h.1 c5
      exact KT_vret (dk dtk_X4_takeOver 67 rfl) rfl h
    · have h := h.2 c5
      refine T_aload_n 1 (dk dtk_X4_takeOver 16 rfl) rfl rfl ?_
      refine T_getR 160 12 173 (dk dtk_X4_takeOver 17 rfl) kfl_X4_43 kk_160 (kl_160 hq) (by decide) rfl kr_160_12 ?_
      refine T_iload_n 2 (dk dtk_X4_takeOver 18 rfl) rfl rfl ?_
      refine T_aload_n 1 (dk dtk_X4_takeOver 19 rfl) rfl rfl ?_
      refine T_getR 160 12 173 (dk dtk_X4_takeOver 20 rfl) kfl_X4_43 kk_160 (kl_160 hq) (by decide) rfl kr_160_12 ?_
      refine T_aload_n 1 (dk dtk_X4_takeOver 21 rfl) rfl rfl ?_
      refine T_getR 160 13 174 (dk dtk_X4_takeOver 22 rfl) kfl_X4_46 kk_160 (kl_160 hq) (by decide) rfl kr_160_13 ?_
      refine T_iload_n 0 (dk dtk_X4_takeOver 23 rfl) rfl rfl ?_
      obtain ⟨h6, h⟩ := h
      refine T_iald 174 6 (dk dtk_X4_takeOver 24 rfl) kk_174 (kl_174 hq) h6 ?_
      refine T_sub (lv2 := []) [] rfl ?_
      refine KC_Sv [vr 173, vi l1, vr 173, vi (x.1 174 (x.1 168 (l1 : Int32).toNatClampNeg : Int32).toNatClampNeg)] [] rfl (dk dtk_X4_takeOver 25 rfl) kcs_X4_109 rfl (Nat.le_of_ble_eq_true rfl) (Nat.le_of_ble_eq_true rfl) (gok_i av_n as_n) rfl h (fun x7 h => ?_)
      refine T_goto 201 (dk dtk_X4_takeOver 26 rfl) (by decide) ?_
      exact KT_vret (dk dtk_X4_takeOver 67 rfl) rfl h
  · have h := h.2
    by_cases c8 : (x.1 167 (l1 : Int32).toNatClampNeg) = 15
    · have h := h.1 c8
      refine T_table 110 123 (dk dtk_X4_takeOver 9 rfl) (by decide) (by rw [c8]; decide +kernel) (by decide) ?_
      refine T_aload_n 1 (dk dtk_X4_takeOver 27 rfl) rfl rfl ?_
      refine T_getR 160 12 173 (dk dtk_X4_takeOver 28 rfl) kfl_X4_43 kk_160 (kl_160 hq) (by decide) rfl kr_160_12 ?_
      refine T_iload_n 2 (dk dtk_X4_takeOver 29 rfl) rfl rfl ?_
      refine T_aload_n 1 (dk dtk_X4_takeOver 30 rfl) rfl rfl ?_
      refine T_getR 160 17 178 (dk dtk_X4_takeOver 31 rfl) kfl_X4_58 kk_160 (kl_160 hq) (by decide) rfl kr_160_17 ?_
      refine T_aload_n 1 (dk dtk_X4_takeOver 32 rfl) rfl rfl ?_
      refine T_getR 160 5 166 (dk dtk_X4_takeOver 33 rfl) kfl_X4_21 kk_160 (kl_160 hq) (by decide) rfl kr_160_5 ?_
      refine T_iload_n 2 (dk dtk_X4_takeOver 34 rfl) rfl rfl ?_
      obtain ⟨h9, h⟩ := h
      refine T_iald 166 400 (dk dtk_X4_takeOver 35 rfl) kk_166 (kl_166 hq) h9 ?_
      refine KC_Sv [vr 173, vi l1, vr 178, vi (x.1 166 (l1 : Int32).toNatClampNeg)] [] rfl (dk dtk_X4_takeOver 36 rfl) kcs_X4_109 rfl (Nat.le_of_ble_eq_true rfl) (Nat.le_of_ble_eq_true rfl) (gok_i (av_c rfl (av_c (gkr (kl_160 hq)) (av_c rfl av_n))) as_n) rfl h (fun x10 h => ?_)
      refine T_aload_n 1 (dk dtk_X4_takeOver 37 rfl) rfl rfl ?_
      refine T_getR 160 12 173 (dk dtk_X4_takeOver 38 rfl) kfl_X4_43 kk_160 (kl_160 hq) (by decide) rfl kr_160_12 ?_
      refine T_iload_n 2 (dk dtk_X4_takeOver 39 rfl) rfl rfl ?_
      refine T_aload_n 1 (dk dtk_X4_takeOver 40 rfl) rfl rfl ?_
      refine T_getR 160 15 176 (dk dtk_X4_takeOver 41 rfl) kfl_X4_52 kk_160 (kl_160 hq) (by decide) rfl kr_160_15 ?_
      refine T_iload_n 0 (dk dtk_X4_takeOver 42 rfl) rfl rfl ?_
      refine T_sub (lv2 := []) [] rfl ?_
      refine KC_Sv [vr 173, vi l1, vr 176, vi (x.1 168 (l1 : Int32).toNatClampNeg)] [] rfl (dk dtk_X4_takeOver 43 rfl) kcs_X4_109 rfl (Nat.le_of_ble_eq_true rfl) (Nat.le_of_ble_eq_true rfl) (gok_i av_n as_n) rfl h (fun x11 h => ?_)
      refine T_goto 201 (dk dtk_X4_takeOver 44 rfl) (by decide) ?_
      exact KT_vret (dk dtk_X4_takeOver 67 rfl) rfl h
    · have h := h.2
      by_cases c12 : (x.1 167 (l1 : Int32).toNatClampNeg) = 5
      · have h := h.1 c12
        refine T_table 144 157 (dk dtk_X4_takeOver 9 rfl) (by decide) (by rw [c12]; decide +kernel) (by decide) ?_
        refine T_aload_n 1 (dk dtk_X4_takeOver 45 rfl) rfl rfl ?_
        refine T_getR 160 12 173 (dk dtk_X4_takeOver 46 rfl) kfl_X4_43 kk_160 (kl_160 hq) (by decide) rfl kr_160_12 ?_
        refine T_iload_n 2 (dk dtk_X4_takeOver 47 rfl) rfl rfl ?_
        refine T_aload_n 1 (dk dtk_X4_takeOver 48 rfl) rfl rfl ?_
        refine T_getR 160 15 176 (dk dtk_X4_takeOver 49 rfl) kfl_X4_52 kk_160 (kl_160 hq) (by decide) rfl kr_160_15 ?_
        refine T_iload_n 0 (dk dtk_X4_takeOver 50 rfl) rfl rfl ?_
        refine T_sub (lv2 := []) [] rfl ?_
        refine KC_Sv [vr 173, vi l1, vr 176, vi (x.1 168 (l1 : Int32).toNatClampNeg)] [] rfl (dk dtk_X4_takeOver 51 rfl) kcs_X4_109 rfl (Nat.le_of_ble_eq_true rfl) (Nat.le_of_ble_eq_true rfl) (gok_i av_n as_n) rfl h (fun x13 h => ?_)
        refine T_goto 201 (dk dtk_X4_takeOver 52 rfl) (by decide) ?_
        exact KT_vret (dk dtk_X4_takeOver 67 rfl) rfl h
      · have h := h.2
        by_cases c14 : (x.1 167 (l1 : Int32).toNatClampNeg) = 0 ∨ (x.1 167 (l1 : Int32).toNatClampNeg) = 2 ∨ (x.1 167 (l1 : Int32).toNatClampNeg) = 3 ∨ (x.1 167 (l1 : Int32).toNatClampNeg) = 4
        · have h := h.1 c14
          refine T_table 160 173 (dk dtk_X4_takeOver 9 rfl) (by decide) (by rcases c14 with q9 | q9 | q9 | q9 <;> rw [q9] <;> decide +kernel) (by decide) ?_
          refine T_aload_n 1 (dk dtk_X4_takeOver 53 rfl) rfl rfl ?_
          refine T_getR 160 0 60 (dk dtk_X4_takeOver 54 rfl) kfl_X4_11 kk_160 (kl_160 hq) (by decide) rfl kr_160_0 ?_
          refine T_getR 60 8 69 (dk dtk_X4_takeOver 55 rfl) kfl_X4_116 kk_60 (kl_60 hq) (by decide) rfl kr_60_8 ?_
          refine T_iload_n 0 (dk dtk_X4_takeOver 56 rfl) rfl rfl ?_
          obtain ⟨h15, h⟩ := h
          refine T_zald 69 24 (dk dtk_X4_takeOver 57 rfl) kk_69 (kl_69 hq) h15 ?_
          refine T_if_eq 201 (dk dtk_X4_takeOver 58 rfl) (by decide) (fun c16 => ?_) (fun c16 => ?_)
          · have h := h.1 c16
            exact KT_vret (dk dtk_X4_takeOver 67 rfl) rfl h
          · have h := h.2 c16
            refine T_aload_n 1 (dk dtk_X4_takeOver 59 rfl) rfl rfl ?_
            refine T_getR 160 12 173 (dk dtk_X4_takeOver 60 rfl) kfl_X4_43 kk_160 (kl_160 hq) (by decide) rfl kr_160_12 ?_
            refine T_iload_n 2 (dk dtk_X4_takeOver 61 rfl) rfl rfl ?_
            refine T_aload_n 1 (dk dtk_X4_takeOver 62 rfl) rfl rfl ?_
            refine T_getR 160 16 177 (dk dtk_X4_takeOver 63 rfl) kfl_X4_55 kk_160 (kl_160 hq) (by decide) rfl kr_160_16 ?_
            refine T_iload_n 0 (dk dtk_X4_takeOver 64 rfl) rfl rfl ?_
            refine T_sub (lv2 := []) [] rfl ?_
            refine KC_Sv [vr 173, vi l1, vr 177, vi (x.1 168 (l1 : Int32).toNatClampNeg)] [] rfl (dk dtk_X4_takeOver 65 rfl) kcs_X4_109 rfl (Nat.le_of_ble_eq_true rfl) (Nat.le_of_ble_eq_true rfl) (gok_i av_n as_n) rfl h (fun x17 h => ?_)
            refine T_goto 201 (dk dtk_X4_takeOver 66 rfl) (by decide) ?_
            exact KT_vret (dk dtk_X4_takeOver 67 rfl) rfl h
        · have h := h.2
          have n18 : ∀ k ∈ [(10 : Int32), (15 : Int32), (5 : Int32), (0 : Int32), (2 : Int32), (3 : Int32), (4 : Int32)], ¬ (x.1 167 (l1 : Int32).toNatClampNeg) = k := (gno c3 (gno c8 (gno c12 (gno (fun q9 => c14 (Or.inl q9)) (gno (fun q9 => c14 (Or.inr (Or.inl q9))) (gno (fun q9 => c14 (Or.inr (Or.inr (Or.inl q9)))) (gno (fun q9 => c14 (Or.inr (Or.inr (Or.inr (q9))))) gno0)))))))
          have h := h n18
          refine T_table 188 201 (dk dtk_X4_takeOver 9 rfl) (by decide) (gtab_d [(10 : Int32), (15 : Int32), (5 : Int32), (0 : Int32), (2 : Int32), (3 : Int32), (4 : Int32)] (by decide +kernel) n18) (by decide) ?_
          exact KT_vret (dk dtk_X4_takeOver 67 rfl) rfl h
end
section
set_option maxRecDepth 100000 in
theorem dtk_X4_handOn : dck cX4_handOn [(0, .aload_n 0, 1), (1, .getfield 27, 3), (4, .iload_n 1, 1), (5, .iaload, 1), (6, .istore_n 3, 1), (7, .aload_n 0, 1), (8, .getfield 24, 3), (11, .iload_n 1, 1), (12, .iaload, 1), (13, .tableswitch 154 1 9 #[126, 126, 126, 126, 154, 67, 67, 83, 51], 51), (64, .aload_n 0, 1), (65, .getfield 49, 3), (68, .iload_n 3, 1), (69, .aload_n 0, 1), (70, .getfield 43, 3), (73, .iload_n 1, 1), (74, .invokestatic 109, 3), (77, .goto 90, 3), (80, .aload_n 0, 1), (81, .getfield 52, 3), (84, .iload_n 3, 1), (85, .aload_n 0, 1), (86, .getfield 43, 3), (89, .iload_n 1, 1), (90, .invokestatic 109, 3), (93, .goto 74, 3), (96, .iconst 0, 1), (97, .istore 4, 2), (99, .iload 4, 2), (101, .bipush 6, 2), (103, .if_icmp .ge 33, 3), (106, .iload_n 2, 1), (107, .iload 4, 2), (109, .ishr, 1), (110, .iconst 1, 1), (111, .iand, 1), (112, .iconst 1, 1), (113, .if_icmp .ne 17, 3), (116, .aload_n 0, 1), (117, .getfield 58, 3), (120, .iload 4, 2), (122, .aload_n 0, 1), (123, .getfield 43, 3), (126, .iload_n 1, 1), (127, .invokestatic 109, 3), (130, .iinc 4 1, 3), (133, .goto (-34), 3), (136, .goto 31, 3), (139, .aload_n 0, 1), (140, .getfield 11, 3), (143, .getfield 116, 3), (146, .iload_n 3, 1), (147, .baload, 1), (148, .ifCond .eq 19, 3), (151, .aload_n 0, 1), (152, .getfield 55, 3), (155, .iload_n 3, 1), (156, .aload_n 0, 1), (157, .getfield 43, 3), (160, .iload_n 1, 1), (161, .invokestatic 109, 3), (164, .goto 3, 3), (167, .return_, 1)] = true := by decide +kernel
set_option maxRecDepth 100000 in
set_option maxHeartbeats 4000000 in
theorem kg_X4_handOn_0 {G : kG} {q : kP} {d : Nat} {x : gd} {P : Option gv → gd → Prop} (hq : kV q) (l1 : Int32) (l2 : Int32)
    (h : vp_in l1 400 ∧ vp_in l1 400 ∧ ((((x.1 167 (l1 : Int32).toNatClampNeg) = 9) → KT G q d zk_X4_join 0 [(0, vr 175), (1, vi (x.1 168 (l1 : Int32).toNatClampNeg)), (2, vr 173), (3, vi l1)] [] x (rv (fun x4 => P none x4))) ∧ (((x.1 167 (l1 : Int32).toNatClampNeg) = 6 ∨ (x.1 167 (l1 : Int32).toNatClampNeg) = 7) → KT G q d zk_X4_join 0 [(0, vr 176), (1, vi (x.1 168 (l1 : Int32).toNatClampNeg)), (2, vr 173), (3, vi l1)] [] x (rv (fun x6 => P none x6))) ∧ (((x.1 167 (l1 : Int32).toNatClampNeg) = 8) → KT G q (d + 1) zk_X4_handOn 99 [(0, vr 160), (1, vi l1), (2, vi l2), (4, vi 0)] [] x P) ∧ (((x.1 167 (l1 : Int32).toNatClampNeg) = 1 ∨ (x.1 167 (l1 : Int32).toNatClampNeg) = 2 ∨ (x.1 167 (l1 : Int32).toNatClampNeg) = 3 ∨ (x.1 167 (l1 : Int32).toNatClampNeg) = 4) → vp_in (x.1 168 (l1 : Int32).toNatClampNeg) 24 ∧ (((x.1 69 (x.1 168 (l1 : Int32).toNatClampNeg : Int32).toNatClampNeg) = (0 : Int32) → P none x) ∧ (¬ ((x.1 69 (x.1 168 (l1 : Int32).toNatClampNeg : Int32).toNatClampNeg) = (0 : Int32)) → KT G q d zk_X4_join 0 [(0, vr 177), (1, vi (x.1 168 (l1 : Int32).toNatClampNeg)), (2, vr 173), (3, vi l1)] [] x (rv (fun x11 => P none x11))))) ∧ ((∀ k ∈ [(9 : Int32), (6 : Int32), (7 : Int32), (8 : Int32), (1 : Int32), (2 : Int32), (3 : Int32), (4 : Int32)], ¬ (x.1 167 (l1 : Int32).toNatClampNeg) = k) → P none x))) :
    KT G q (d + 1) zk_X4_handOn 0 [(0, vr 160), (1, vi l1), (2, vi l2)] [] x P := by
  refine T_aload_n 0 (dk dtk_X4_handOn 0 rfl) rfl rfl ?_
  refine T_getR 160 7 168 (dk dtk_X4_handOn 1 rfl) kfl_X4_27 kk_160 (kl_160 hq) (by decide) rfl kr_160_7 ?_
  refine T_iload_n 1 (dk dtk_X4_handOn 2 rfl) rfl rfl ?_
  obtain ⟨h1, h⟩ := h
  refine T_iald 168 400 (dk dtk_X4_handOn 3 rfl) kk_168 (kl_168 hq) h1 ?_
  refine T_istore_n (lv2 := [(3, vi (x.1 168 (l1 : Int32).toNatClampNeg)), (0, vr 160), (1, vi l1), (2, vi l2)]) (dk dtk_X4_handOn 4 rfl) rfl (by decide) rfl ?_
  refine T_aload_n 1 (dk dtk_X4_handOn 5 rfl) rfl rfl ?_
  refine T_getR 160 6 167 (dk dtk_X4_handOn 6 rfl) kfl_X4_24 kk_160 (kl_160 hq) (by decide) rfl kr_160_6 ?_
  refine T_iload_n 2 (dk dtk_X4_handOn 7 rfl) rfl rfl ?_
  obtain ⟨h2, h⟩ := h
  refine T_iald 167 400 (dk dtk_X4_handOn 8 rfl) kk_167 (kl_167 hq) h2 ?_
  by_cases c3 : (x.1 167 (l1 : Int32).toNatClampNeg) = 9
  · have h := h.1 c3
    refine T_table 51 64 (dk dtk_X4_handOn 9 rfl) (by decide) (by rw [c3]; decide +kernel) (by decide) ?_
    refine T_aload_n 1 (dk dtk_X4_handOn 10 rfl) rfl rfl ?_
    refine T_getR 160 14 175 (dk dtk_X4_handOn 11 rfl) kfl_X4_49 kk_160 (kl_160 hq) (by decide) rfl kr_160_14 ?_
    refine T_iload_n 0 (dk dtk_X4_handOn 12 rfl) rfl rfl ?_
    refine T_aload_n 1 (dk dtk_X4_handOn 13 rfl) rfl rfl ?_
    refine T_getR 160 12 173 (dk dtk_X4_handOn 14 rfl) kfl_X4_43 kk_160 (kl_160 hq) (by decide) rfl kr_160_12 ?_
    refine T_iload_n 2 (dk dtk_X4_handOn 15 rfl) rfl rfl ?_
    refine T_sub (lv2 := []) [] rfl ?_
    refine KC_Sv [vr 175, vi (x.1 168 (l1 : Int32).toNatClampNeg), vr 173, vi l1] [] rfl (dk dtk_X4_handOn 16 rfl) kcs_X4_109 rfl (Nat.le_of_ble_eq_true rfl) (Nat.le_of_ble_eq_true rfl) (gok_i av_n as_n) rfl h (fun x4 h => ?_)
    refine T_goto 167 (dk dtk_X4_handOn 17 rfl) (by decide) ?_
    exact KT_vret (dk dtk_X4_handOn 62 rfl) rfl h
  · have h := h.2
    by_cases c5 : (x.1 167 (l1 : Int32).toNatClampNeg) = 6 ∨ (x.1 167 (l1 : Int32).toNatClampNeg) = 7
    · have h := h.1 c5
      refine T_table 67 80 (dk dtk_X4_handOn 9 rfl) (by decide) (by rcases c5 with q9 | q9 <;> rw [q9] <;> decide +kernel) (by decide) ?_
      refine T_aload_n 1 (dk dtk_X4_handOn 18 rfl) rfl rfl ?_
      refine T_getR 160 15 176 (dk dtk_X4_handOn 19 rfl) kfl_X4_52 kk_160 (kl_160 hq) (by decide) rfl kr_160_15 ?_
      refine T_iload_n 0 (dk dtk_X4_handOn 20 rfl) rfl rfl ?_
      refine T_aload_n 1 (dk dtk_X4_handOn 21 rfl) rfl rfl ?_
      refine T_getR 160 12 173 (dk dtk_X4_handOn 22 rfl) kfl_X4_43 kk_160 (kl_160 hq) (by decide) rfl kr_160_12 ?_
      refine T_iload_n 2 (dk dtk_X4_handOn 23 rfl) rfl rfl ?_
      refine T_sub (lv2 := []) [] rfl ?_
      refine KC_Sv [vr 176, vi (x.1 168 (l1 : Int32).toNatClampNeg), vr 173, vi l1] [] rfl (dk dtk_X4_handOn 24 rfl) kcs_X4_109 rfl (Nat.le_of_ble_eq_true rfl) (Nat.le_of_ble_eq_true rfl) (gok_i av_n as_n) rfl h (fun x6 h => ?_)
      refine T_goto 167 (dk dtk_X4_handOn 25 rfl) (by decide) ?_
      exact KT_vret (dk dtk_X4_handOn 62 rfl) rfl h
    · have h := h.2
      by_cases c7 : (x.1 167 (l1 : Int32).toNatClampNeg) = 8
      · have h := h.1 c7
        refine T_table 83 96 (dk dtk_X4_handOn 9 rfl) (by decide) (by rw [c7]; decide +kernel) (by decide) ?_
        refine T_iconst (v := 0) (dk dtk_X4_handOn 26 rfl) (by decide +kernel) ?_
        refine T_istore (lv2 := [(4, vi 0), (3, vi (x.1 168 (l1 : Int32).toNatClampNeg)), (0, vr 160), (1, vi l1), (2, vi l2)]) (dk dtk_X4_handOn 27 rfl) (by decide) rfl ?_
        exact T_sub [2, 3, 4, 0] rfl h
      · have h := h.2
        by_cases c8 : (x.1 167 (l1 : Int32).toNatClampNeg) = 1 ∨ (x.1 167 (l1 : Int32).toNatClampNeg) = 2 ∨ (x.1 167 (l1 : Int32).toNatClampNeg) = 3 ∨ (x.1 167 (l1 : Int32).toNatClampNeg) = 4
        · have h := h.1 c8
          refine T_table 126 139 (dk dtk_X4_handOn 9 rfl) (by decide) (by rcases c8 with q9 | q9 | q9 | q9 <;> rw [q9] <;> decide +kernel) (by decide) ?_
          refine T_aload_n 1 (dk dtk_X4_handOn 48 rfl) rfl rfl ?_
          refine T_getR 160 0 60 (dk dtk_X4_handOn 49 rfl) kfl_X4_11 kk_160 (kl_160 hq) (by decide) rfl kr_160_0 ?_
          refine T_getR 60 8 69 (dk dtk_X4_handOn 50 rfl) kfl_X4_116 kk_60 (kl_60 hq) (by decide) rfl kr_60_8 ?_
          refine T_iload_n 0 (dk dtk_X4_handOn 51 rfl) rfl rfl ?_
          obtain ⟨h9, h⟩ := h
          refine T_zald 69 24 (dk dtk_X4_handOn 52 rfl) kk_69 (kl_69 hq) h9 ?_
          refine T_if_eq 167 (dk dtk_X4_handOn 53 rfl) (by decide) (fun c10 => ?_) (fun c10 => ?_)
          · have h := h.1 c10
            exact KT_vret (dk dtk_X4_handOn 62 rfl) rfl h
          · have h := h.2 c10
            refine T_aload_n 1 (dk dtk_X4_handOn 54 rfl) rfl rfl ?_
            refine T_getR 160 16 177 (dk dtk_X4_handOn 55 rfl) kfl_X4_55 kk_160 (kl_160 hq) (by decide) rfl kr_160_16 ?_
            refine T_iload_n 0 (dk dtk_X4_handOn 56 rfl) rfl rfl ?_
            refine T_aload_n 1 (dk dtk_X4_handOn 57 rfl) rfl rfl ?_
            refine T_getR 160 12 173 (dk dtk_X4_handOn 58 rfl) kfl_X4_43 kk_160 (kl_160 hq) (by decide) rfl kr_160_12 ?_
            refine T_iload_n 2 (dk dtk_X4_handOn 59 rfl) rfl rfl ?_
            refine T_sub (lv2 := []) [] rfl ?_
            refine KC_Sv [vr 177, vi (x.1 168 (l1 : Int32).toNatClampNeg), vr 173, vi l1] [] rfl (dk dtk_X4_handOn 60 rfl) kcs_X4_109 rfl (Nat.le_of_ble_eq_true rfl) (Nat.le_of_ble_eq_true rfl) (gok_i av_n as_n) rfl h (fun x11 h => ?_)
            refine T_goto 167 (dk dtk_X4_handOn 61 rfl) (by decide) ?_
            exact KT_vret (dk dtk_X4_handOn 62 rfl) rfl h
        · have h := h.2
          have n12 : ∀ k ∈ [(9 : Int32), (6 : Int32), (7 : Int32), (8 : Int32), (1 : Int32), (2 : Int32), (3 : Int32), (4 : Int32)], ¬ (x.1 167 (l1 : Int32).toNatClampNeg) = k := (gno c3 (gno (fun q9 => c5 (Or.inl q9)) (gno (fun q9 => c5 (Or.inr (q9))) (gno c7 (gno (fun q9 => c8 (Or.inl q9)) (gno (fun q9 => c8 (Or.inr (Or.inl q9))) (gno (fun q9 => c8 (Or.inr (Or.inr (Or.inl q9)))) (gno (fun q9 => c8 (Or.inr (Or.inr (Or.inr (q9))))) gno0))))))))
          have h := h n12
          refine T_table 154 167 (dk dtk_X4_handOn 9 rfl) (by decide) (gtab_d [(9 : Int32), (6 : Int32), (7 : Int32), (8 : Int32), (1 : Int32), (2 : Int32), (3 : Int32), (4 : Int32)] (by decide +kernel) n12) (by decide) ?_
          exact KT_vret (dk dtk_X4_handOn 62 rfl) rfl h
set_option maxRecDepth 100000 in
set_option maxHeartbeats 4000000 in
theorem kg_X4_handOn_99 {G : kG} {q : kP} {d : Nat} {x : gd} {P : Option gv → gd → Prop} (hq : kV q) (l1 : Int32) (l2 : Int32) (l4 : Int32)
    (h : (((6 : Int32) ≤ l4 → P none x) ∧ (¬ ((6 : Int32) ≤ l4) → ((¬ (((l2 >>> (l4 &&& 31 : Int32)) &&& 1) = (1 : Int32)) → KT G q (d + 1) zk_X4_handOn 99 [(0, vr 160), (1, vi l1), (2, vi l2), (4, vi (l4 + 1))] [] x P) ∧ (((l2 >>> (l4 &&& 31 : Int32)) &&& 1) = (1 : Int32) → KT G q d zk_X4_join 0 [(0, vr 178), (1, vi l4), (2, vr 173), (3, vi l1)] [] x (rv (fun x3 => KT G q (d + 1) zk_X4_handOn 99 [(0, vr 160), (1, vi l1), (2, vi l2), (4, vi (l4 + 1))] [] x3 P))))))) :
    KT G q (d + 1) zk_X4_handOn 99 [(0, vr 160), (1, vi l1), (2, vi l2), (4, vi l4)] [] x P := by
  refine T_iload 3 (dk dtk_X4_handOn 28 rfl) rfl ?_
  refine T_bipush (v := 6) (dk dtk_X4_handOn 29 rfl) (by decide +kernel) ?_
  refine T_icmp_ge 136 (dk dtk_X4_handOn 30 rfl) (by decide) (fun c1 => ?_) (fun c1 => ?_)
  · have h := h.1 c1
    refine T_goto 167 (dk dtk_X4_handOn 47 rfl) (by decide) ?_
    exact KT_vret (dk dtk_X4_handOn 62 rfl) rfl h
  · have h := h.2 c1
    refine T_iload_n 2 (dk dtk_X4_handOn 31 rfl) rfl rfl ?_
    refine T_iload 3 (dk dtk_X4_handOn 32 rfl) rfl ?_
    refine T_ishr (dk dtk_X4_handOn 33 rfl) ?_
    refine T_iconst (v := 1) (dk dtk_X4_handOn 34 rfl) (by decide +kernel) ?_
    refine T_iand (dk dtk_X4_handOn 35 rfl) ?_
    refine T_iconst (v := 1) (dk dtk_X4_handOn 36 rfl) (by decide +kernel) ?_
    refine T_icmp_ne 130 (dk dtk_X4_handOn 37 rfl) (by decide) (fun c2 => ?_) (fun c2 => ?_)
    · have h := h.1 c2
      refine T_iinc (v := l4 + 1) (lv2 := [(4, vi (l4 + 1)), (0, vr 160), (1, vi l1), (2, vi l2)]) 3 (dk dtk_X4_handOn 45 rfl) rfl rfl (by decide) rfl ?_
      refine T_goto 99 (dk dtk_X4_handOn 46 rfl) (by decide) ?_
      exact T_sub [1, 2, 3, 0] rfl h
    · have h := h.2 c2
      refine T_aload_n 0 (dk dtk_X4_handOn 38 rfl) rfl rfl ?_
      refine T_getR 160 17 178 (dk dtk_X4_handOn 39 rfl) kfl_X4_58 kk_160 (kl_160 hq) (by decide) rfl kr_160_17 ?_
      refine T_iload 3 (dk dtk_X4_handOn 40 rfl) rfl ?_
      refine T_aload_n 0 (dk dtk_X4_handOn 41 rfl) rfl rfl ?_
      refine T_getR 160 12 173 (dk dtk_X4_handOn 42 rfl) kfl_X4_43 kk_160 (kl_160 hq) (by decide) rfl kr_160_12 ?_
      refine T_iload_n 1 (dk dtk_X4_handOn 43 rfl) rfl rfl ?_
      refine KC_Sv [vr 178, vi l4, vr 173, vi l1] [] rfl (dk dtk_X4_handOn 44 rfl) kcs_X4_109 rfl (Nat.le_of_ble_eq_true rfl) (Nat.le_of_ble_eq_true rfl) (gok_i (av_c (gkr (kl_160 hq)) (av_c rfl (av_c rfl (av_c rfl av_n)))) as_n) rfl h (fun x3 h => ?_)
      refine T_iinc (v := l4 + 1) (lv2 := [(4, vi (l4 + 1)), (0, vr 160), (1, vi l1), (2, vi l2)]) 3 (dk dtk_X4_handOn 45 rfl) rfl rfl (by decide) rfl ?_
      refine T_goto 99 (dk dtk_X4_handOn 46 rfl) (by decide) ?_
      exact T_sub [1, 2, 3, 0] rfl h
set_option maxRecDepth 100000 in
theorem dtk_X4_join : dck cX4_join [(0, .iconst 0, 1), (1, .istore 4, 2), (3, .iload 4, 2), (5, .bipush 6, 2), (7, .if_icmp .ge 38, 3), (10, .iload_n 1, 1), (11, .bipush 6, 2), (13, .imul, 1), (14, .iload 4, 2), (16, .iadd, 1), (17, .istore 5, 2), (19, .aload_n 0, 1), (20, .iload 5, 2), (22, .aload_n 0, 1), (23, .iload 5, 2), (25, .iaload, 1), (26, .aload_n 2, 1), (27, .iload_n 3, 1), (28, .bipush 6, 2), (30, .imul, 1), (31, .iload 4, 2), (33, .iadd, 1), (34, .iaload, 1), (35, .invokestatic 119, 3), (38, .iastore, 1), (39, .iinc 4 1, 3), (42, .goto (-39), 3), (45, .return_, 1)] = true := by decide +kernel
set_option maxRecDepth 100000 in
set_option maxHeartbeats 4000000 in
theorem kg_X4_join_0 {G : kG} {q : kP} {d : Nat} {x : gd} {P : Option gv → gd → Prop} (hq : kV q) {a0 n0 : Nat} (ka0 : kK a0 = .inr (.int, n0)) (ma0 : a0 ∈ (kf q).2.1) {a2 n2 : Nat} (ka2 : kK a2 = .inr (.int, n2)) (ma2 : a2 ∈ (kf q).2.1) (l1 : Int32) (l3 : Int32)
    (h : KT G q (d + 1) zk_X4_join 3 [(0, vr a0), (1, vi l1), (2, vr a2), (3, vi l3), (4, vi 0)] [] x P) :
    KT G q (d + 1) zk_X4_join 0 [(0, vr a0), (1, vi l1), (2, vr a2), (3, vi l3)] [] x P := by
  refine T_iconst (v := 0) (dk dtk_X4_join 0 rfl) (by decide +kernel) ?_
  refine T_istore (lv2 := [(4, vi 0), (0, vr a0), (1, vi l1), (2, vr a2), (3, vi l3)]) (dk dtk_X4_join 1 rfl) (by decide) rfl ?_
  exact T_sub [1, 2, 3, 4, 0] rfl h
set_option maxRecDepth 100000 in
set_option maxHeartbeats 4000000 in
theorem kg_X4_join_3 {G : kG} {q : kP} {d : Nat} {x : gd} {P : Option gv → gd → Prop} (hq : kV q) {a0 n0 : Nat} (ka0 : kK a0 = .inr (.int, n0)) (ma0 : a0 ∈ (kf q).2.1) {a2 n2 : Nat} (ka2 : kK a2 = .inr (.int, n2)) (ma2 : a2 ∈ (kf q).2.1) (l1 : Int32) (l3 : Int32) (l4 : Int32)
    (h : (((6 : Int32) ≤ l4 → P none x) ∧ (¬ ((6 : Int32) ≤ l4) → vp_in ((l1 * 6) + l4) n0 ∧ vp_in ((l3 * 6) + l4) n2 ∧ (∀ r5 : Int32, (r5.toInt = Int32.toInt (x.1 a0 ((l1 * 6) + l4 : Int32).toNatClampNeg) ∨ r5.toInt = Int32.toInt (x.1 a2 ((l3 * 6) + l4 : Int32).toNatClampNeg)) → Int32.toInt (x.1 a0 ((l1 * 6) + l4 : Int32).toNatClampNeg) ≤ r5.toInt → Int32.toInt (x.1 a2 ((l3 * 6) + l4 : Int32).toNatClampNeg) ≤ r5.toInt → vp_in ((l1 * 6) + l4) n0 ∧ (∀ x10 : gd, x10 = si x a0 ((l1 * 6) + l4 : Int32).toNatClampNeg r5 → KT G q (d + 1) zk_X4_join 3 [(0, vr a0), (1, vi l1), (2, vr a2), (3, vi l3), (4, vi (l4 + 1))] [] x10 P))))) :
    KT G q (d + 1) zk_X4_join 3 [(0, vr a0), (1, vi l1), (2, vr a2), (3, vi l3), (4, vi l4)] [] x P := by
  refine T_iload 4 (dk dtk_X4_join 2 rfl) rfl ?_
  refine T_bipush (v := 6) (dk dtk_X4_join 3 rfl) (by decide +kernel) ?_
  refine T_icmp_ge 45 (dk dtk_X4_join 4 rfl) (by decide) (fun c1 => ?_) (fun c1 => ?_)
  · have h := h.1 c1
    exact KT_vret (dk dtk_X4_join 27 rfl) rfl h
  · have h := h.2 c1
    refine T_iload_n 1 (dk dtk_X4_join 5 rfl) rfl rfl ?_
    refine T_bipush (v := 6) (dk dtk_X4_join 6 rfl) (by decide +kernel) ?_
    refine T_imul (dk dtk_X4_join 7 rfl) ?_
    refine T_iload 4 (dk dtk_X4_join 8 rfl) rfl ?_
    refine T_iadd (dk dtk_X4_join 9 rfl) ?_
    refine T_istore (lv2 := [(5, vi ((l1 * 6) + l4)), (0, vr a0), (1, vi l1), (2, vr a2), (3, vi l3), (4, vi l4)]) (dk dtk_X4_join 10 rfl) (by decide) rfl ?_
    refine T_aload_n 1 (dk dtk_X4_join 11 rfl) rfl rfl ?_
    refine T_iload 0 (dk dtk_X4_join 12 rfl) rfl ?_
    refine T_aload_n 1 (dk dtk_X4_join 13 rfl) rfl rfl ?_
    refine T_iload 0 (dk dtk_X4_join 14 rfl) rfl ?_
    obtain ⟨h2, h⟩ := h
    refine T_iald a0 n0 (dk dtk_X4_join 15 rfl) ka0 ma0 h2 ?_
    refine T_aload_n 3 (dk dtk_X4_join 16 rfl) rfl rfl ?_
    refine T_iload_n 4 (dk dtk_X4_join 17 rfl) rfl rfl ?_
    refine T_bipush (v := 6) (dk dtk_X4_join 18 rfl) (by decide +kernel) ?_
    refine T_imul (dk dtk_X4_join 19 rfl) ?_
    refine T_iload 5 (dk dtk_X4_join 20 rfl) rfl ?_
    refine T_iadd (dk dtk_X4_join 21 rfl) ?_
    obtain ⟨h3, h⟩ := h
    refine T_iald a2 n2 (dk dtk_X4_join 22 rfl) ka2 ma2 h3 ?_
    refine T_sub (lv2 := [(0, vr a0), (1, vi l1), (2, vr a2), (3, vi l3), (4, vi l4)]) [1, 2, 3, 4, 5] rfl ?_
    refine T_max (dk dtk_X4_join 23 rfl) kmx_X4_119 (by omega) (Nat.le_of_ble_eq_true rfl) (fun r5 h6 h7 h8 => ?_)
    have h := h r5 h6 h7 h8
    obtain ⟨h9, h⟩ := h
    obtain ⟨x10, ex10⟩ : ∃ z, z = si x a0 ((l1 * 6) + l4 : Int32).toNatClampNeg r5 := ⟨_, rfl⟩
    have h := h x10 ex10
    refine T_iast a0 n0 (dk dtk_X4_join 24 rfl) ka0 ma0 h9 ?_
    rw [← ex10]
    refine T_iinc (v := l4 + 1) (lv2 := [(4, vi (l4 + 1)), (0, vr a0), (1, vi l1), (2, vr a2), (3, vi l3)]) 4 (dk dtk_X4_join 25 rfl) rfl rfl (by decide) rfl ?_
    refine T_goto 3 (dk dtk_X4_join 26 rfl) (by decide) ?_
    exact T_sub [1, 2, 3, 4, 0] rfl h
set_option maxRecDepth 100000 in
theorem dtk_X4_isBefore : dck cX4_isBefore [(0, .aload_n 0, 1), (1, .getfield 21, 3), (4, .iload_n 1, 1), (5, .iaload, 1), (6, .istore_n 3, 1), (7, .iload_n 1, 1), (8, .iload_n 2, 1), (9, .if_icmp .eq 32, 3), (12, .aload_n 0, 1), (13, .getfield 43, 3), (16, .iload_n 2, 1), (17, .bipush 6, 2), (19, .imul, 1), (20, .iload_n 3, 1), (21, .iadd, 1), (22, .iaload, 1), (23, .aload_n 0, 1), (24, .getfield 43, 3), (27, .iload_n 1, 1), (28, .bipush 6, 2), (30, .imul, 1), (31, .iload_n 3, 1), (32, .iadd, 1), (33, .iaload, 1), (34, .if_icmp .lt 7, 3), (37, .iconst 1, 1), (38, .goto 4, 3), (41, .iconst 0, 1), (42, .ireturn, 1)] = true := by decide +kernel
set_option maxRecDepth 100000 in
set_option maxHeartbeats 4000000 in
theorem kg_X4_isBefore_0 {G : kG} {q : kP} {d : Nat} {x : gd} {P : Option gv → gd → Prop} (hq : kV q) (l1 : Int32) (l2 : Int32)
    (h : vp_in l1 400 ∧ ((l1 = l2 → P (some (vi 0)) x) ∧ (¬ (l1 = l2) → vp_in ((l2 * 6) + (x.1 166 (l1 : Int32).toNatClampNeg)) 2400 ∧ vp_in ((l1 * 6) + (x.1 166 (l1 : Int32).toNatClampNeg)) 2400 ∧ (((x.1 173 ((l2 * 6) + (x.1 166 (l1 : Int32).toNatClampNeg) : Int32).toNatClampNeg) < (x.1 173 ((l1 * 6) + (x.1 166 (l1 : Int32).toNatClampNeg) : Int32).toNatClampNeg) → P (some (vi 0)) x) ∧ (¬ ((x.1 173 ((l2 * 6) + (x.1 166 (l1 : Int32).toNatClampNeg) : Int32).toNatClampNeg) < (x.1 173 ((l1 * 6) + (x.1 166 (l1 : Int32).toNatClampNeg) : Int32).toNatClampNeg)) → P (some (vi 1)) x))))) :
    KT G q d zk_X4_isBefore 0 [(0, vr 160), (1, vi l1), (2, vi l2)] [] x P := by
  refine T_aload_n 0 (dk dtk_X4_isBefore 0 rfl) rfl rfl ?_
  refine T_getR 160 5 166 (dk dtk_X4_isBefore 1 rfl) kfl_X4_21 kk_160 (kl_160 hq) (by decide) rfl kr_160_5 ?_
  refine T_iload_n 1 (dk dtk_X4_isBefore 2 rfl) rfl rfl ?_
  obtain ⟨h1, h⟩ := h
  refine T_iald 166 400 (dk dtk_X4_isBefore 3 rfl) kk_166 (kl_166 hq) h1 ?_
  refine T_istore_n (lv2 := [(3, vi (x.1 166 (l1 : Int32).toNatClampNeg)), (0, vr 160), (1, vi l1), (2, vi l2)]) (dk dtk_X4_isBefore 4 rfl) rfl (by decide) rfl ?_
  refine T_iload_n 2 (dk dtk_X4_isBefore 5 rfl) rfl rfl ?_
  refine T_iload_n 3 (dk dtk_X4_isBefore 6 rfl) rfl rfl ?_
  refine T_icmp_eq 41 (dk dtk_X4_isBefore 7 rfl) (by decide) (fun c2 => ?_) (fun c2 => ?_)
  · have h := h.1 c2
    refine T_iconst (v := 0) (dk dtk_X4_isBefore 27 rfl) (by decide +kernel) ?_
    exact KT_iret (dk dtk_X4_isBefore 28 rfl) rfl rfl h
  · have h := h.2 c2
    refine T_aload_n 1 (dk dtk_X4_isBefore 8 rfl) rfl rfl ?_
    refine T_getR 160 12 173 (dk dtk_X4_isBefore 9 rfl) kfl_X4_43 kk_160 (kl_160 hq) (by decide) rfl kr_160_12 ?_
    refine T_iload_n 3 (dk dtk_X4_isBefore 10 rfl) rfl rfl ?_
    refine T_bipush (v := 6) (dk dtk_X4_isBefore 11 rfl) (by decide +kernel) ?_
    refine T_imul (dk dtk_X4_isBefore 12 rfl) ?_
    refine T_iload_n 0 (dk dtk_X4_isBefore 13 rfl) rfl rfl ?_
    refine T_iadd (dk dtk_X4_isBefore 14 rfl) ?_
    obtain ⟨h3, h⟩ := h
    refine T_iald 173 2400 (dk dtk_X4_isBefore 15 rfl) kk_173 (kl_173 hq) h3 ?_
    refine T_aload_n 1 (dk dtk_X4_isBefore 16 rfl) rfl rfl ?_
    refine T_getR 160 12 173 (dk dtk_X4_isBefore 17 rfl) kfl_X4_43 kk_160 (kl_160 hq) (by decide) rfl kr_160_12 ?_
    refine T_iload_n 2 (dk dtk_X4_isBefore 18 rfl) rfl rfl ?_
    refine T_bipush (v := 6) (dk dtk_X4_isBefore 19 rfl) (by decide +kernel) ?_
    refine T_imul (dk dtk_X4_isBefore 20 rfl) ?_
    refine T_iload_n 0 (dk dtk_X4_isBefore 21 rfl) rfl rfl ?_
    refine T_iadd (dk dtk_X4_isBefore 22 rfl) ?_
    obtain ⟨h4, h⟩ := h
    refine T_iald 173 2400 (dk dtk_X4_isBefore 23 rfl) kk_173 (kl_173 hq) h4 ?_
    refine T_icmp_lt 41 (dk dtk_X4_isBefore 24 rfl) (by decide) (fun c5 => ?_) (fun c5 => ?_)
    · have h := h.1 c5
      refine T_iconst (v := 0) (dk dtk_X4_isBefore 27 rfl) (by decide +kernel) ?_
      exact KT_iret (dk dtk_X4_isBefore 28 rfl) rfl rfl h
    · have h := h.2 c5
      refine T_iconst (v := 1) (dk dtk_X4_isBefore 25 rfl) (by decide +kernel) ?_
      refine T_goto 42 (dk dtk_X4_isBefore 26 rfl) (by decide) ?_
      exact KT_iret (dk dtk_X4_isBefore 28 rfl) rfl rfl h
set_option maxRecDepth 100000 in
theorem dtk_X4_races : dck cX4_races [(0, .aload_n 0, 1), (1, .getfield 65, 3), (4, .ifCond .ne 7, 3), (7, .iconst 0, 1), (8, .goto 14, 3), (11, .aload_n 0, 1), (12, .getfield 40, 3), (15, .aload_n 0, 1), (16, .getfield 65, 3), (19, .iconst 1, 1), (20, .isub, 1), (21, .iaload, 1), (22, .ireturn, 1)] = true := by decide +kernel
set_option maxRecDepth 100000 in
set_option maxHeartbeats 4000000 in
theorem kg_X4_races_0 {G : kG} {q : kP} {d : Nat} {x : gd} {P : Option gv → gd → Prop} (hq : kV q) 
    (h : ((¬ ((x.1 160 3) = (0 : Int32)) → vp_in ((x.1 160 3) - 1) 400 ∧ P (some (vi (x.1 172 ((x.1 160 3) - 1 : Int32).toNatClampNeg))) x) ∧ ((x.1 160 3) = (0 : Int32) → P (some (vi 0)) x))) :
    KT G q d zk_X4_races 0 [(0, vr 160)] [] x P := by
  refine T_aload_n 0 (dk dtk_X4_races 0 rfl) rfl rfl ?_
  refine T_getI 160 3 (dk dtk_X4_races 1 rfl) kfl_X4_65 kk_160 (kl_160 hq) (by decide) rfl ?_
  refine T_if_ne 11 (dk dtk_X4_races 2 rfl) (by decide) (fun c1 => ?_) (fun c1 => ?_)
  · have h := h.1 c1
    refine T_aload_n 0 (dk dtk_X4_races 5 rfl) rfl rfl ?_
    refine T_getR 160 11 172 (dk dtk_X4_races 6 rfl) kfl_X4_40 kk_160 (kl_160 hq) (by decide) rfl kr_160_11 ?_
    refine T_aload_n 0 (dk dtk_X4_races 7 rfl) rfl rfl ?_
    refine T_getI 160 3 (dk dtk_X4_races 8 rfl) kfl_X4_65 kk_160 (kl_160 hq) (by decide) rfl ?_
    refine T_iconst (v := 1) (dk dtk_X4_races 9 rfl) (by decide +kernel) ?_
    refine T_isub (dk dtk_X4_races 10 rfl) ?_
    obtain ⟨h2, h⟩ := h
    refine T_iald 172 400 (dk dtk_X4_races 11 rfl) kk_172 (kl_172 hq) h2 ?_
    exact KT_iret (dk dtk_X4_races 12 rfl) rfl rfl h
  · have h := h.2 c1
    refine T_iconst (v := 0) (dk dtk_X4_races 3 rfl) (by decide +kernel) ?_
    refine T_goto 22 (dk dtk_X4_races 4 rfl) (by decide) ?_
    exact KT_iret (dk dtk_X4_races 12 rfl) rfl rfl h
set_option maxRecDepth 100000 in
theorem dtk_X4_laterOfRace : dck cX4_laterOfRace [(0, .iconst 0, 1), (1, .istore_n 2, 1), (2, .iload_n 2, 1), (3, .aload_n 0, 1), (4, .getfield 65, 3), (7, .if_icmp .ge 21, 3), (10, .aload_n 0, 1), (11, .getfield 40, 3), (14, .iload_n 2, 1), (15, .iaload, 1), (16, .iload_n 1, 1), (17, .if_icmp .le 5, 3), (20, .iload_n 2, 1), (21, .ireturn, 1), (22, .iinc 2 1, 3), (25, .goto (-23), 3), (28, .iconst (-1), 1), (29, .ireturn, 1)] = true := by decide +kernel
set_option maxRecDepth 100000 in
set_option maxHeartbeats 4000000 in
theorem kg_X4_laterOfRace_0 {G : kG} {q : kP} {d : Nat} {x : gd} {P : Option gv → gd → Prop} (hq : kV q) (l1 : Int32)
    (h : KT G q d zk_X4_laterOfRace 2 [(0, vr 160), (1, vi l1), (2, vi 0)] [] x P) :
    KT G q d zk_X4_laterOfRace 0 [(0, vr 160), (1, vi l1)] [] x P := by
  refine T_iconst (v := 0) (dk dtk_X4_laterOfRace 0 rfl) (by decide +kernel) ?_
  refine T_istore_n (lv2 := [(2, vi 0), (0, vr 160), (1, vi l1)]) (dk dtk_X4_laterOfRace 1 rfl) rfl (by decide) rfl ?_
  exact T_sub [1, 2, 0] rfl h
set_option maxRecDepth 100000 in
set_option maxHeartbeats 4000000 in
theorem kg_X4_laterOfRace_2 {G : kG} {q : kP} {d : Nat} {x : gd} {P : Option gv → gd → Prop} (hq : kV q) (l1 : Int32) (l2 : Int32)
    (h : (((x.1 160 3) ≤ l2 → P (some (vi (-1))) x) ∧ (¬ ((x.1 160 3) ≤ l2) → vp_in l2 400 ∧ (((x.1 172 (l2 : Int32).toNatClampNeg) ≤ l1 → KT G q d zk_X4_laterOfRace 2 [(0, vr 160), (1, vi l1), (2, vi (l2 + 1))] [] x P) ∧ (¬ ((x.1 172 (l2 : Int32).toNatClampNeg) ≤ l1) → P (some (vi l2)) x))))) :
    KT G q d zk_X4_laterOfRace 2 [(0, vr 160), (1, vi l1), (2, vi l2)] [] x P := by
  refine T_iload_n 2 (dk dtk_X4_laterOfRace 2 rfl) rfl rfl ?_
  refine T_aload_n 0 (dk dtk_X4_laterOfRace 3 rfl) rfl rfl ?_
  refine T_getI 160 3 (dk dtk_X4_laterOfRace 4 rfl) kfl_X4_65 kk_160 (kl_160 hq) (by decide) rfl ?_
  refine T_icmp_ge 28 (dk dtk_X4_laterOfRace 5 rfl) (by decide) (fun c1 => ?_) (fun c1 => ?_)
  · have h := h.1 c1
    refine T_iconst (v := (-1)) (dk dtk_X4_laterOfRace 16 rfl) (by decide +kernel) ?_
    exact KT_iret (dk dtk_X4_laterOfRace 17 rfl) rfl rfl h
  · have h := h.2 c1
    refine T_aload_n 0 (dk dtk_X4_laterOfRace 6 rfl) rfl rfl ?_
    refine T_getR 160 11 172 (dk dtk_X4_laterOfRace 7 rfl) kfl_X4_40 kk_160 (kl_160 hq) (by decide) rfl kr_160_11 ?_
    refine T_iload_n 2 (dk dtk_X4_laterOfRace 8 rfl) rfl rfl ?_
    obtain ⟨h2, h⟩ := h
    refine T_iald 172 400 (dk dtk_X4_laterOfRace 9 rfl) kk_172 (kl_172 hq) h2 ?_
    refine T_iload_n 1 (dk dtk_X4_laterOfRace 10 rfl) rfl rfl ?_
    refine T_icmp_le 22 (dk dtk_X4_laterOfRace 11 rfl) (by decide) (fun c3 => ?_) (fun c3 => ?_)
    · have h := h.1 c3
      refine T_iinc (v := l2 + 1) (lv2 := [(2, vi (l2 + 1)), (0, vr 160), (1, vi l1)]) 2 (dk dtk_X4_laterOfRace 14 rfl) rfl rfl (by decide) rfl ?_
      refine T_goto 2 (dk dtk_X4_laterOfRace 15 rfl) (by decide) ?_
      exact T_sub [1, 2, 0] rfl h
    · have h := h.2 c3
      refine T_iload_n 2 (dk dtk_X4_laterOfRace 12 rfl) rfl rfl ?_
      exact KT_iret (dk dtk_X4_laterOfRace 13 rfl) rfl rfl h
set_option maxRecDepth 100000 in
theorem dtk_X4_earlierOfRace : dck cX4_earlierOfRace [(0, .iload_n 1, 1), (1, .iload_n 2, 1), (2, .ifCond .le 14, 3), (5, .aload_n 0, 1), (6, .getfield 40, 3), (9, .iload_n 2, 1), (10, .iconst 1, 1), (11, .isub, 1), (12, .iaload, 1), (13, .goto 4, 3), (16, .iconst 0, 1), (17, .isub, 1), (18, .istore_n 3, 1), (19, .iconst 0, 1), (20, .istore 4, 2), (22, .iload 4, 2), (24, .iload_n 2, 1), (25, .if_icmp .ge 29, 3), (28, .aload_n 0, 1), (29, .iload 4, 2), (31, .iload_n 2, 1), (32, .invokevirtual 125, 3), (35, .ifCond .eq 13, 3), (38, .iload_n 3, 1), (39, .ifCond .ne 6, 3), (42, .iload 4, 2), (44, .ireturn, 1), (45, .iinc 3 (-1), 3), (48, .iinc 4 1, 3), (51, .goto (-29), 3), (54, .iconst (-1), 1), (55, .ireturn, 1)] = true := by decide +kernel
set_option maxRecDepth 100000 in
set_option maxHeartbeats 4000000 in
theorem kg_X4_earlierOfRace_0 {G : kG} {q : kP} {d : Nat} {x : gd} {P : Option gv → gd → Prop} (hq : kV q) (l1 : Int32) (l2 : Int32)
    (h : ((l2 ≤ (0 : Int32) → KT G q (d + 1) zk_X4_earlierOfRace 22 [(0, vr 160), (2, vi l2), (3, vi (l1 - 0)), (4, vi 0)] [] x P) ∧ (¬ (l2 ≤ (0 : Int32)) → vp_in (l2 - 1) 400 ∧ KT G q (d + 1) zk_X4_earlierOfRace 22 [(0, vr 160), (2, vi l2), (3, vi (l1 - (x.1 172 (l2 - 1 : Int32).toNatClampNeg))), (4, vi 0)] [] x P))) :
    KT G q (d + 1) zk_X4_earlierOfRace 0 [(0, vr 160), (1, vi l1), (2, vi l2)] [] x P := by
  refine T_iload_n 1 (dk dtk_X4_earlierOfRace 0 rfl) rfl rfl ?_
  refine T_iload_n 2 (dk dtk_X4_earlierOfRace 1 rfl) rfl rfl ?_
  refine T_if_le 16 (dk dtk_X4_earlierOfRace 2 rfl) (by decide) (fun c1 => ?_) (fun c1 => ?_)
  · have h := h.1 c1
    refine T_iconst (v := 0) (dk dtk_X4_earlierOfRace 10 rfl) (by decide +kernel) ?_
    refine T_isub (dk dtk_X4_earlierOfRace 11 rfl) ?_
    refine T_istore_n (lv2 := [(3, vi (l1 - 0)), (0, vr 160), (1, vi l1), (2, vi l2)]) (dk dtk_X4_earlierOfRace 12 rfl) rfl (by decide) rfl ?_
    refine T_iconst (v := 0) (dk dtk_X4_earlierOfRace 13 rfl) (by decide +kernel) ?_
    refine T_istore (lv2 := [(4, vi 0), (3, vi (l1 - 0)), (0, vr 160), (1, vi l1), (2, vi l2)]) (dk dtk_X4_earlierOfRace 14 rfl) (by decide) rfl ?_
    exact T_sub [2, 4, 1, 0] rfl h
  · have h := h.2 c1
    refine T_aload_n 0 (dk dtk_X4_earlierOfRace 3 rfl) rfl rfl ?_
    refine T_getR 160 11 172 (dk dtk_X4_earlierOfRace 4 rfl) kfl_X4_40 kk_160 (kl_160 hq) (by decide) rfl kr_160_11 ?_
    refine T_iload_n 2 (dk dtk_X4_earlierOfRace 5 rfl) rfl rfl ?_
    refine T_iconst (v := 1) (dk dtk_X4_earlierOfRace 6 rfl) (by decide +kernel) ?_
    refine T_isub (dk dtk_X4_earlierOfRace 7 rfl) ?_
    obtain ⟨h2, h⟩ := h
    refine T_iald 172 400 (dk dtk_X4_earlierOfRace 8 rfl) kk_172 (kl_172 hq) h2 ?_
    refine T_goto 17 (dk dtk_X4_earlierOfRace 9 rfl) (by decide) ?_
    refine T_isub (dk dtk_X4_earlierOfRace 11 rfl) ?_
    refine T_istore_n (lv2 := [(3, vi (l1 - (x.1 172 (l2 - 1 : Int32).toNatClampNeg))), (0, vr 160), (1, vi l1), (2, vi l2)]) (dk dtk_X4_earlierOfRace 12 rfl) rfl (by decide) rfl ?_
    refine T_iconst (v := 0) (dk dtk_X4_earlierOfRace 13 rfl) (by decide +kernel) ?_
    refine T_istore (lv2 := [(4, vi 0), (3, vi (l1 - (x.1 172 (l2 - 1 : Int32).toNatClampNeg))), (0, vr 160), (1, vi l1), (2, vi l2)]) (dk dtk_X4_earlierOfRace 14 rfl) (by decide) rfl ?_
    exact T_sub [2, 4, 1, 0] rfl h
set_option maxRecDepth 100000 in
set_option maxHeartbeats 4000000 in
theorem kg_X4_earlierOfRace_22 {G : kG} {q : kP} {d : Nat} {x : gd} {P : Option gv → gd → Prop} (hq : kV q) (l2 : Int32) (l3 : Int32) (l4 : Int32)
    (h : ((l2 ≤ l4 → P (some (vi (-1))) x) ∧ (¬ (l2 ≤ l4) → KT G q d zk_X4_isRace 0 [(0, vr 160), (1, vi l4), (2, vi l2)] [] x (ri (fun r3 x2 => ((r3 = (0 : Int32) → KT G q (d + 1) zk_X4_earlierOfRace 22 [(0, vr 160), (2, vi l2), (3, vi l3), (4, vi (l4 + 1))] [] x2 P) ∧ (¬ (r3 = (0 : Int32)) → ((¬ (l3 = (0 : Int32)) → KT G q (d + 1) zk_X4_earlierOfRace 22 [(0, vr 160), (2, vi l2), (3, vi (l3 + (-1))), (4, vi (l4 + 1))] [] x2 P) ∧ (l3 = (0 : Int32) → P (some (vi l4)) x2))))))))) :
    KT G q (d + 1) zk_X4_earlierOfRace 22 [(0, vr 160), (2, vi l2), (3, vi l3), (4, vi l4)] [] x P := by
  refine T_iload 3 (dk dtk_X4_earlierOfRace 15 rfl) rfl ?_
  refine T_iload_n 1 (dk dtk_X4_earlierOfRace 16 rfl) rfl rfl ?_
  refine T_icmp_ge 54 (dk dtk_X4_earlierOfRace 17 rfl) (by decide) (fun c1 => ?_) (fun c1 => ?_)
  · have h := h.1 c1
    refine T_iconst (v := (-1)) (dk dtk_X4_earlierOfRace 30 rfl) (by decide +kernel) ?_
    exact KT_iret (dk dtk_X4_earlierOfRace 31 rfl) rfl rfl h
  · have h := h.2 c1
    refine T_aload_n 0 (dk dtk_X4_earlierOfRace 18 rfl) rfl rfl ?_
    refine T_iload 3 (dk dtk_X4_earlierOfRace 19 rfl) rfl ?_
    refine T_iload_n 1 (dk dtk_X4_earlierOfRace 20 rfl) rfl rfl ?_
    refine KC_Vi [vi l4, vi l2] [] rfl (dk dtk_X4_earlierOfRace 21 rfl) kcv_X4_125 rfl kk_160 rfl (kl_160 hq) (Nat.le_of_ble_eq_true rfl) (Nat.le_of_ble_eq_true rfl) (gok_i (av_c (gkr (kl_160 hq)) (av_c rfl (av_c rfl (av_c rfl av_n)))) as_n) rfl h (fun r3 x2 h => ?_)
    refine T_if_eq 48 (dk dtk_X4_earlierOfRace 22 rfl) (by decide) (fun c4 => ?_) (fun c4 => ?_)
    · have h := h.1 c4
      refine T_iinc (v := l4 + 1) (lv2 := [(4, vi (l4 + 1)), (0, vr 160), (2, vi l2), (3, vi l3)]) 3 (dk dtk_X4_earlierOfRace 28 rfl) rfl rfl (by decide) rfl ?_
      refine T_goto 22 (dk dtk_X4_earlierOfRace 29 rfl) (by decide) ?_
      exact T_sub [1, 2, 3, 0] rfl h
    · have h := h.2 c4
      refine T_iload_n 2 (dk dtk_X4_earlierOfRace 23 rfl) rfl rfl ?_
      refine T_if_ne 45 (dk dtk_X4_earlierOfRace 24 rfl) (by decide) (fun c5 => ?_) (fun c5 => ?_)
      · have h := h.1 c5
        refine T_iinc (v := l3 + (-1)) (lv2 := [(3, vi (l3 + (-1))), (0, vr 160), (2, vi l2), (4, vi l4)]) 2 (dk dtk_X4_earlierOfRace 27 rfl) rfl rfl (by decide) rfl ?_
        refine T_iinc (v := l4 + 1) (lv2 := [(4, vi (l4 + 1)), (3, vi (l3 + (-1))), (0, vr 160), (2, vi l2)]) 3 (dk dtk_X4_earlierOfRace 28 rfl) rfl rfl (by decide) rfl ?_
        refine T_goto 22 (dk dtk_X4_earlierOfRace 29 rfl) (by decide) ?_
        exact T_sub [2, 3, 1, 0] rfl h
      · have h := h.2 c5
        refine T_iload 3 (dk dtk_X4_earlierOfRace 25 rfl) rfl ?_
        exact KT_iret (dk dtk_X4_earlierOfRace 26 rfl) rfl rfl h
set_option maxRecDepth 100000 in
theorem dtk_X4_racesOf : dck cX4_racesOf [(0, .aload_n 0, 1), (1, .iload_n 1, 1), (2, .invokevirtual 129, 3), (5, .ifCond .ne 5, 3), (8, .iconst 0, 1), (9, .ireturn, 1), (10, .iconst 0, 1), (11, .istore_n 2, 1), (12, .iconst 0, 1), (13, .istore_n 3, 1), (14, .iload_n 3, 1), (15, .iload_n 1, 1), (16, .if_icmp .ge 21, 3), (19, .aload_n 0, 1), (20, .iload_n 3, 1), (21, .iload_n 1, 1), (22, .invokevirtual 125, 3), (25, .ifCond .eq 6, 3), (28, .iinc 2 1, 3), (31, .iinc 3 1, 3), (34, .goto (-20), 3), (37, .iload_n 2, 1), (38, .ireturn, 1)] = true := by decide +kernel
set_option maxRecDepth 100000 in
set_option maxHeartbeats 4000000 in
theorem kg_X4_racesOf_0 {G : kG} {q : kP} {d : Nat} {x : gd} {P : Option gv → gd → Prop} (hq : kV q) (l1 : Int32)
    (h : KT G q d zk_X4_mayRace 0 [(0, vr 160), (1, vi l1)] [] x (ri (fun r2 x1 => ((¬ (r2 = (0 : Int32)) → KT G q (d + 1) zk_X4_racesOf 14 [(0, vr 160), (1, vi l1), (2, vi 0), (3, vi 0)] [] x1 P) ∧ (r2 = (0 : Int32) → P (some (vi 0)) x1))))) :
    KT G q (d + 1) zk_X4_racesOf 0 [(0, vr 160), (1, vi l1)] [] x P := by
  refine T_aload_n 0 (dk dtk_X4_racesOf 0 rfl) rfl rfl ?_
  refine T_iload_n 1 (dk dtk_X4_racesOf 1 rfl) rfl rfl ?_
  refine KC_Vi [vi l1] [] rfl (dk dtk_X4_racesOf 2 rfl) kcv_X4_129 rfl kk_160 rfl (kl_160 hq) (Nat.le_of_ble_eq_true rfl) (Nat.le_of_ble_eq_true rfl) (gok_i (av_c (gkr (kl_160 hq)) (av_c rfl av_n)) as_n) rfl h (fun r2 x1 h => ?_)
  refine T_if_ne 10 (dk dtk_X4_racesOf 3 rfl) (by decide) (fun c3 => ?_) (fun c3 => ?_)
  · have h := h.1 c3
    refine T_iconst (v := 0) (dk dtk_X4_racesOf 6 rfl) (by decide +kernel) ?_
    refine T_istore_n (lv2 := [(2, vi 0), (0, vr 160), (1, vi l1)]) (dk dtk_X4_racesOf 7 rfl) rfl (by decide) rfl ?_
    refine T_iconst (v := 0) (dk dtk_X4_racesOf 8 rfl) (by decide +kernel) ?_
    refine T_istore_n (lv2 := [(3, vi 0), (2, vi 0), (0, vr 160), (1, vi l1)]) (dk dtk_X4_racesOf 9 rfl) rfl (by decide) rfl ?_
    exact T_sub [2, 3, 1, 0] rfl h
  · have h := h.2 c3
    refine T_iconst (v := 0) (dk dtk_X4_racesOf 4 rfl) (by decide +kernel) ?_
    exact KT_iret (dk dtk_X4_racesOf 5 rfl) rfl rfl h
set_option maxRecDepth 100000 in
set_option maxHeartbeats 4000000 in
theorem kg_X4_racesOf_14 {G : kG} {q : kP} {d : Nat} {x : gd} {P : Option gv → gd → Prop} (hq : kV q) (l1 : Int32) (l2 : Int32) (l3 : Int32)
    (h : ((l1 ≤ l3 → P (some (vi l2)) x) ∧ (¬ (l1 ≤ l3) → KT G q d zk_X4_isRace 0 [(0, vr 160), (1, vi l3), (2, vi l1)] [] x (ri (fun r3 x2 => ((r3 = (0 : Int32) → KT G q (d + 1) zk_X4_racesOf 14 [(0, vr 160), (1, vi l1), (2, vi l2), (3, vi (l3 + 1))] [] x2 P) ∧ (¬ (r3 = (0 : Int32)) → KT G q (d + 1) zk_X4_racesOf 14 [(0, vr 160), (1, vi l1), (2, vi (l2 + 1)), (3, vi (l3 + 1))] [] x2 P))))))) :
    KT G q (d + 1) zk_X4_racesOf 14 [(0, vr 160), (1, vi l1), (2, vi l2), (3, vi l3)] [] x P := by
  refine T_iload_n 3 (dk dtk_X4_racesOf 10 rfl) rfl rfl ?_
  refine T_iload_n 1 (dk dtk_X4_racesOf 11 rfl) rfl rfl ?_
  refine T_icmp_ge 37 (dk dtk_X4_racesOf 12 rfl) (by decide) (fun c1 => ?_) (fun c1 => ?_)
  · have h := h.1 c1
    refine T_iload_n 2 (dk dtk_X4_racesOf 21 rfl) rfl rfl ?_
    exact KT_iret (dk dtk_X4_racesOf 22 rfl) rfl rfl h
  · have h := h.2 c1
    refine T_aload_n 0 (dk dtk_X4_racesOf 13 rfl) rfl rfl ?_
    refine T_iload_n 3 (dk dtk_X4_racesOf 14 rfl) rfl rfl ?_
    refine T_iload_n 1 (dk dtk_X4_racesOf 15 rfl) rfl rfl ?_
    refine KC_Vi [vi l3, vi l1] [] rfl (dk dtk_X4_racesOf 16 rfl) kcv_X4_125 rfl kk_160 rfl (kl_160 hq) (Nat.le_of_ble_eq_true rfl) (Nat.le_of_ble_eq_true rfl) (gok_i (av_c (gkr (kl_160 hq)) (av_c rfl (av_c rfl (av_c rfl av_n)))) as_n) rfl h (fun r3 x2 h => ?_)
    refine T_if_eq 31 (dk dtk_X4_racesOf 17 rfl) (by decide) (fun c4 => ?_) (fun c4 => ?_)
    · have h := h.1 c4
      refine T_iinc (v := l3 + 1) (lv2 := [(3, vi (l3 + 1)), (0, vr 160), (1, vi l1), (2, vi l2)]) 3 (dk dtk_X4_racesOf 19 rfl) rfl rfl (by decide) rfl ?_
      refine T_goto 14 (dk dtk_X4_racesOf 20 rfl) (by decide) ?_
      exact T_sub [1, 2, 3, 0] rfl h
    · have h := h.2 c4
      refine T_iinc (v := l2 + 1) (lv2 := [(2, vi (l2 + 1)), (0, vr 160), (1, vi l1), (3, vi l3)]) 2 (dk dtk_X4_racesOf 18 rfl) rfl rfl (by decide) rfl ?_
      refine T_iinc (v := l3 + 1) (lv2 := [(3, vi (l3 + 1)), (2, vi (l2 + 1)), (0, vr 160), (1, vi l1)]) 3 (dk dtk_X4_racesOf 19 rfl) rfl rfl (by decide) rfl ?_
      refine T_goto 14 (dk dtk_X4_racesOf 20 rfl) (by decide) ?_
      exact T_sub [2, 3, 1, 0] rfl h
set_option maxRecDepth 100000 in
theorem dtk_X4_mayRace : dck cX4_mayRace [(0, .aload_n 0, 1), (1, .getfield 24, 3), (4, .iload_n 1, 1), (5, .iaload, 1), (6, .iconst 4, 1), (7, .if_icmp .gt 33, 3), (10, .aload_n 0, 1), (11, .getfield 36, 3), (14, .iload_n 1, 1), (15, .baload, 1), (16, .ifCond .ne 24, 3), (19, .aload_n 0, 1), (20, .getfield 11, 3), (23, .getfield 116, 3), (26, .aload_n 0, 1), (27, .getfield 27, 3), (30, .iload_n 1, 1), (31, .iaload, 1), (32, .baload, 1), (33, .ifCond .ne 7, 3), (36, .iconst 1, 1), (37, .goto 4, 3), (40, .iconst 0, 1), (41, .ireturn, 1)] = true := by decide +kernel
set_option maxRecDepth 100000 in
set_option maxHeartbeats 4000000 in
theorem kg_X4_mayRace_0 {G : kG} {q : kP} {d : Nat} {x : gd} {P : Option gv → gd → Prop} (hq : kV q) (l1 : Int32)
    (h : vp_in l1 400 ∧ (((4 : Int32) < (x.1 167 (l1 : Int32).toNatClampNeg) → P (some (vi 0)) x) ∧ (¬ ((4 : Int32) < (x.1 167 (l1 : Int32).toNatClampNeg)) → vp_in l1 400 ∧ ((¬ ((x.1 171 (l1 : Int32).toNatClampNeg) = (0 : Int32)) → P (some (vi 0)) x) ∧ ((x.1 171 (l1 : Int32).toNatClampNeg) = (0 : Int32) → vp_in l1 400 ∧ vp_in (x.1 168 (l1 : Int32).toNatClampNeg) 24 ∧ ((¬ ((x.1 69 (x.1 168 (l1 : Int32).toNatClampNeg : Int32).toNatClampNeg) = (0 : Int32)) → P (some (vi 0)) x) ∧ ((x.1 69 (x.1 168 (l1 : Int32).toNatClampNeg : Int32).toNatClampNeg) = (0 : Int32) → P (some (vi 1)) x))))))) :
    KT G q d zk_X4_mayRace 0 [(0, vr 160), (1, vi l1)] [] x P := by
  refine T_aload_n 0 (dk dtk_X4_mayRace 0 rfl) rfl rfl ?_
  refine T_getR 160 6 167 (dk dtk_X4_mayRace 1 rfl) kfl_X4_24 kk_160 (kl_160 hq) (by decide) rfl kr_160_6 ?_
  refine T_iload_n 1 (dk dtk_X4_mayRace 2 rfl) rfl rfl ?_
  obtain ⟨h1, h⟩ := h
  refine T_iald 167 400 (dk dtk_X4_mayRace 3 rfl) kk_167 (kl_167 hq) h1 ?_
  refine T_iconst (v := 4) (dk dtk_X4_mayRace 4 rfl) (by decide +kernel) ?_
  refine T_icmp_gt 40 (dk dtk_X4_mayRace 5 rfl) (by decide) (fun c2 => ?_) (fun c2 => ?_)
  · have h := h.1 c2
    refine T_iconst (v := 0) (dk dtk_X4_mayRace 22 rfl) (by decide +kernel) ?_
    exact KT_iret (dk dtk_X4_mayRace 23 rfl) rfl rfl h
  · have h := h.2 c2
    refine T_aload_n 0 (dk dtk_X4_mayRace 6 rfl) rfl rfl ?_
    refine T_getR 160 10 171 (dk dtk_X4_mayRace 7 rfl) kfl_X4_36 kk_160 (kl_160 hq) (by decide) rfl kr_160_10 ?_
    refine T_iload_n 1 (dk dtk_X4_mayRace 8 rfl) rfl rfl ?_
    obtain ⟨h3, h⟩ := h
    refine T_zald 171 400 (dk dtk_X4_mayRace 9 rfl) kk_171 (kl_171 hq) h3 ?_
    refine T_if_ne 40 (dk dtk_X4_mayRace 10 rfl) (by decide) (fun c4 => ?_) (fun c4 => ?_)
    · have h := h.1 c4
      refine T_iconst (v := 0) (dk dtk_X4_mayRace 22 rfl) (by decide +kernel) ?_
      exact KT_iret (dk dtk_X4_mayRace 23 rfl) rfl rfl h
    · have h := h.2 c4
      refine T_aload_n 0 (dk dtk_X4_mayRace 11 rfl) rfl rfl ?_
      refine T_getR 160 0 60 (dk dtk_X4_mayRace 12 rfl) kfl_X4_11 kk_160 (kl_160 hq) (by decide) rfl kr_160_0 ?_
      refine T_getR 60 8 69 (dk dtk_X4_mayRace 13 rfl) kfl_X4_116 kk_60 (kl_60 hq) (by decide) rfl kr_60_8 ?_
      refine T_aload_n 0 (dk dtk_X4_mayRace 14 rfl) rfl rfl ?_
      refine T_getR 160 7 168 (dk dtk_X4_mayRace 15 rfl) kfl_X4_27 kk_160 (kl_160 hq) (by decide) rfl kr_160_7 ?_
      refine T_iload_n 1 (dk dtk_X4_mayRace 16 rfl) rfl rfl ?_
      obtain ⟨h5, h⟩ := h
      refine T_iald 168 400 (dk dtk_X4_mayRace 17 rfl) kk_168 (kl_168 hq) h5 ?_
      obtain ⟨h6, h⟩ := h
      refine T_zald 69 24 (dk dtk_X4_mayRace 18 rfl) kk_69 (kl_69 hq) h6 ?_
      refine T_if_ne 40 (dk dtk_X4_mayRace 19 rfl) (by decide) (fun c7 => ?_) (fun c7 => ?_)
      · have h := h.1 c7
        refine T_iconst (v := 0) (dk dtk_X4_mayRace 22 rfl) (by decide +kernel) ?_
        exact KT_iret (dk dtk_X4_mayRace 23 rfl) rfl rfl h
      · have h := h.2 c7
        refine T_iconst (v := 1) (dk dtk_X4_mayRace 20 rfl) (by decide +kernel) ?_
        refine T_goto 41 (dk dtk_X4_mayRace 21 rfl) (by decide) ?_
        exact KT_iret (dk dtk_X4_mayRace 23 rfl) rfl rfl h
set_option maxRecDepth 100000 in
theorem dtk_X4_isRace : dck cX4_isRace [(0, .aload_n 0, 1), (1, .getfield 27, 3), (4, .iload_n 1, 1), (5, .iaload, 1), (6, .aload_n 0, 1), (7, .getfield 27, 3), (10, .iload_n 2, 1), (11, .iaload, 1), (12, .if_icmp .ne 57, 3), (15, .aload_n 0, 1), (16, .getfield 21, 3), (19, .iload_n 1, 1), (20, .iaload, 1), (21, .aload_n 0, 1), (22, .getfield 21, 3), (25, .iload_n 2, 1), (26, .iaload, 1), (27, .if_icmp .eq 42, 3), (30, .aload_n 0, 1), (31, .iload_n 1, 1), (32, .invokevirtual 129, 3), (35, .ifCond .eq 34, 3), (38, .aload_n 0, 1), (39, .getfield 24, 3), (42, .iload_n 1, 1), (43, .iaload, 1), (44, .aload_n 0, 1), (45, .getfield 24, 3), (48, .iload_n 2, 1), (49, .iaload, 1), (50, .invokestatic 133, 3), (53, .ifCond .eq 16, 3), (56, .aload_n 0, 1), (57, .iload_n 1, 1), (58, .iload_n 2, 1), (59, .invokevirtual 136, 3), (62, .ifCond .ne 7, 3), (65, .iconst 1, 1), (66, .goto 4, 3), (69, .iconst 0, 1), (70, .ireturn, 1)] = true := by decide +kernel
set_option maxRecDepth 100000 in
set_option maxHeartbeats 4000000 in
theorem kg_X4_isRace_0 {G : kG} {q : kP} {d : Nat} {x : gd} {P : Option gv → gd → Prop} (hq : kV q) (l1 : Int32) (l2 : Int32)
    (h : vp_in l1 400 ∧ vp_in l2 400 ∧ ((¬ ((x.1 168 (l1 : Int32).toNatClampNeg) = (x.1 168 (l2 : Int32).toNatClampNeg)) → P (some (vi 0)) x) ∧ ((x.1 168 (l1 : Int32).toNatClampNeg) = (x.1 168 (l2 : Int32).toNatClampNeg) → vp_in l1 400 ∧ vp_in l2 400 ∧ (((x.1 166 (l1 : Int32).toNatClampNeg) = (x.1 166 (l2 : Int32).toNatClampNeg) → P (some (vi 0)) x) ∧ (¬ ((x.1 166 (l1 : Int32).toNatClampNeg) = (x.1 166 (l2 : Int32).toNatClampNeg)) → KT G q d zk_X4_mayRace 0 [(0, vr 160), (1, vi l1)] [] x (ri (fun r8 x7 => ((r8 = (0 : Int32) → P (some (vi 0)) x7) ∧ (¬ (r8 = (0 : Int32)) → vp_in l1 400 ∧ vp_in l2 400 ∧ KT G q d zk_X4_sortsRace 0 [(0, vi (x7.1 167 (l1 : Int32).toNatClampNeg)), (1, vi (x7.1 167 (l2 : Int32).toNatClampNeg))] [] x7 (ri (fun r13 x12 => ((r13 = (0 : Int32) → P (some (vi 0)) x12) ∧ (¬ (r13 = (0 : Int32)) → KT G q d zk_X4_isBefore 0 [(0, vr 160), (1, vi l1), (2, vi l2)] [] x12 (ri (fun r16 x15 => ((¬ (r16 = (0 : Int32)) → P (some (vi 0)) x15) ∧ (r16 = (0 : Int32) → P (some (vi 1)) x15))))))))))))))))) :
    KT G q (d + 1) zk_X4_isRace 0 [(0, vr 160), (1, vi l1), (2, vi l2)] [] x P := by
  refine T_aload_n 0 (dk dtk_X4_isRace 0 rfl) rfl rfl ?_
  refine T_getR 160 7 168 (dk dtk_X4_isRace 1 rfl) kfl_X4_27 kk_160 (kl_160 hq) (by decide) rfl kr_160_7 ?_
  refine T_iload_n 1 (dk dtk_X4_isRace 2 rfl) rfl rfl ?_
  obtain ⟨h1, h⟩ := h
  refine T_iald 168 400 (dk dtk_X4_isRace 3 rfl) kk_168 (kl_168 hq) h1 ?_
  refine T_aload_n 0 (dk dtk_X4_isRace 4 rfl) rfl rfl ?_
  refine T_getR 160 7 168 (dk dtk_X4_isRace 5 rfl) kfl_X4_27 kk_160 (kl_160 hq) (by decide) rfl kr_160_7 ?_
  refine T_iload_n 2 (dk dtk_X4_isRace 6 rfl) rfl rfl ?_
  obtain ⟨h2, h⟩ := h
  refine T_iald 168 400 (dk dtk_X4_isRace 7 rfl) kk_168 (kl_168 hq) h2 ?_
  refine T_icmp_ne 69 (dk dtk_X4_isRace 8 rfl) (by decide) (fun c3 => ?_) (fun c3 => ?_)
  · have h := h.1 c3
    refine T_iconst (v := 0) (dk dtk_X4_isRace 39 rfl) (by decide +kernel) ?_
    exact KT_iret (dk dtk_X4_isRace 40 rfl) rfl rfl h
  · have h := h.2 c3
    refine T_aload_n 0 (dk dtk_X4_isRace 9 rfl) rfl rfl ?_
    refine T_getR 160 5 166 (dk dtk_X4_isRace 10 rfl) kfl_X4_21 kk_160 (kl_160 hq) (by decide) rfl kr_160_5 ?_
    refine T_iload_n 1 (dk dtk_X4_isRace 11 rfl) rfl rfl ?_
    obtain ⟨h4, h⟩ := h
    refine T_iald 166 400 (dk dtk_X4_isRace 12 rfl) kk_166 (kl_166 hq) h4 ?_
    refine T_aload_n 0 (dk dtk_X4_isRace 13 rfl) rfl rfl ?_
    refine T_getR 160 5 166 (dk dtk_X4_isRace 14 rfl) kfl_X4_21 kk_160 (kl_160 hq) (by decide) rfl kr_160_5 ?_
    refine T_iload_n 2 (dk dtk_X4_isRace 15 rfl) rfl rfl ?_
    obtain ⟨h5, h⟩ := h
    refine T_iald 166 400 (dk dtk_X4_isRace 16 rfl) kk_166 (kl_166 hq) h5 ?_
    refine T_icmp_eq 69 (dk dtk_X4_isRace 17 rfl) (by decide) (fun c6 => ?_) (fun c6 => ?_)
    · have h := h.1 c6
      refine T_iconst (v := 0) (dk dtk_X4_isRace 39 rfl) (by decide +kernel) ?_
      exact KT_iret (dk dtk_X4_isRace 40 rfl) rfl rfl h
    · have h := h.2 c6
      refine T_aload_n 0 (dk dtk_X4_isRace 18 rfl) rfl rfl ?_
      refine T_iload_n 1 (dk dtk_X4_isRace 19 rfl) rfl rfl ?_
      refine KC_Vi [vi l1] [] rfl (dk dtk_X4_isRace 20 rfl) kcv_X4_129 rfl kk_160 rfl (kl_160 hq) (Nat.le_of_ble_eq_true rfl) (Nat.le_of_ble_eq_true rfl) (gok_i (av_c (gkr (kl_160 hq)) (av_c rfl (av_c rfl av_n))) as_n) rfl h (fun r8 x7 h => ?_)
      refine T_if_eq 69 (dk dtk_X4_isRace 21 rfl) (by decide) (fun c9 => ?_) (fun c9 => ?_)
      · have h := h.1 c9
        refine T_iconst (v := 0) (dk dtk_X4_isRace 39 rfl) (by decide +kernel) ?_
        exact KT_iret (dk dtk_X4_isRace 40 rfl) rfl rfl h
      · have h := h.2 c9
        refine T_aload_n 0 (dk dtk_X4_isRace 22 rfl) rfl rfl ?_
        refine T_getR 160 6 167 (dk dtk_X4_isRace 23 rfl) kfl_X4_24 kk_160 (kl_160 hq) (by decide) rfl kr_160_6 ?_
        refine T_iload_n 1 (dk dtk_X4_isRace 24 rfl) rfl rfl ?_
        obtain ⟨h10, h⟩ := h
        refine T_iald 167 400 (dk dtk_X4_isRace 25 rfl) kk_167 (kl_167 hq) h10 ?_
        refine T_aload_n 0 (dk dtk_X4_isRace 26 rfl) rfl rfl ?_
        refine T_getR 160 6 167 (dk dtk_X4_isRace 27 rfl) kfl_X4_24 kk_160 (kl_160 hq) (by decide) rfl kr_160_6 ?_
        refine T_iload_n 2 (dk dtk_X4_isRace 28 rfl) rfl rfl ?_
        obtain ⟨h11, h⟩ := h
        refine T_iald 167 400 (dk dtk_X4_isRace 29 rfl) kk_167 (kl_167 hq) h11 ?_
        refine KC_Si [vi (x7.1 167 (l1 : Int32).toNatClampNeg), vi (x7.1 167 (l2 : Int32).toNatClampNeg)] [] rfl (dk dtk_X4_isRace 30 rfl) kcs_X4_133 rfl (Nat.le_of_ble_eq_true rfl) (Nat.le_of_ble_eq_true rfl) (gok_i (av_c (gkr (kl_160 hq)) (av_c rfl (av_c rfl av_n))) as_n) rfl h (fun r13 x12 h => ?_)
        refine T_if_eq 69 (dk dtk_X4_isRace 31 rfl) (by decide) (fun c14 => ?_) (fun c14 => ?_)
        · have h := h.1 c14
          refine T_iconst (v := 0) (dk dtk_X4_isRace 39 rfl) (by decide +kernel) ?_
          exact KT_iret (dk dtk_X4_isRace 40 rfl) rfl rfl h
        · have h := h.2 c14
          refine T_aload_n 0 (dk dtk_X4_isRace 32 rfl) rfl rfl ?_
          refine T_iload_n 1 (dk dtk_X4_isRace 33 rfl) rfl rfl ?_
          refine T_iload_n 2 (dk dtk_X4_isRace 34 rfl) rfl rfl ?_
          refine T_sub (lv2 := []) [] rfl ?_
          refine KC_Vi [vi l1, vi l2] [] rfl (dk dtk_X4_isRace 35 rfl) kcv_X4_136 rfl kk_160 rfl (kl_160 hq) (Nat.le_of_ble_eq_true rfl) (Nat.le_of_ble_eq_true rfl) (gok_i av_n as_n) rfl h (fun r16 x15 h => ?_)
          refine T_if_ne 69 (dk dtk_X4_isRace 36 rfl) (by decide) (fun c17 => ?_) (fun c17 => ?_)
          · have h := h.1 c17
            refine T_iconst (v := 0) (dk dtk_X4_isRace 39 rfl) (by decide +kernel) ?_
            exact KT_iret (dk dtk_X4_isRace 40 rfl) rfl rfl h
          · have h := h.2 c17
            refine T_iconst (v := 1) (dk dtk_X4_isRace 37 rfl) (by decide +kernel) ?_
            refine T_goto 70 (dk dtk_X4_isRace 38 rfl) (by decide) ?_
            exact KT_iret (dk dtk_X4_isRace 40 rfl) rfl rfl h
set_option maxRecDepth 100000 in
theorem dtk_X4_sortsRace : dck cX4_sortsRace [(0, .iload_n 0, 1), (1, .ifCond .ne 11, 3), (4, .iload_n 1, 1), (5, .ifCond .ne 7, 3), (8, .iconst 1, 1), (9, .goto 4, 3), (12, .iconst 0, 1), (13, .istore_n 2, 1), (14, .iload_n 0, 1), (15, .iconst 2, 1), (16, .if_icmp .lt 12, 3), (19, .iload_n 1, 1), (20, .iconst 2, 1), (21, .if_icmp .lt 7, 3), (24, .iconst 1, 1), (25, .goto 4, 3), (28, .iconst 0, 1), (29, .istore_n 3, 1), (30, .iload_n 2, 1), (31, .ifCond .ne 11, 3), (34, .iload_n 3, 1), (35, .ifCond .ne 7, 3), (38, .iconst 1, 1), (39, .goto 4, 3), (42, .iconst 0, 1), (43, .ireturn, 1)] = true := by decide +kernel
set_option maxRecDepth 100000 in
set_option maxHeartbeats 4000000 in
theorem kg_X4_sortsRace_0 {G : kG} {q : kP} {d : Nat} {x : gd} {P : Option gv → gd → Prop} (hq : kV q) (l0 : Int32) (l1 : Int32)
    (h : ((¬ (l0 = (0 : Int32)) → KT G q d zk_X4_sortsRace 13 [(0, vi l0), (1, vi l1)] [vi 0] x P) ∧ (l0 = (0 : Int32) → ((¬ (l1 = (0 : Int32)) → KT G q d zk_X4_sortsRace 13 [(0, vi l0), (1, vi l1)] [vi 0] x P) ∧ (l1 = (0 : Int32) → KT G q d zk_X4_sortsRace 13 [(0, vi l0), (1, vi l1)] [vi 1] x P))))) :
    KT G q d zk_X4_sortsRace 0 [(0, vi l0), (1, vi l1)] [] x P := by
  refine T_iload_n 0 (dk dtk_X4_sortsRace 0 rfl) rfl rfl ?_
  refine T_if_ne 12 (dk dtk_X4_sortsRace 1 rfl) (by decide) (fun c1 => ?_) (fun c1 => ?_)
  · have h := h.1 c1
    refine T_iconst (v := 0) (dk dtk_X4_sortsRace 6 rfl) (by decide +kernel) ?_
    exact h
  · have h := h.2 c1
    refine T_iload_n 1 (dk dtk_X4_sortsRace 2 rfl) rfl rfl ?_
    refine T_if_ne 12 (dk dtk_X4_sortsRace 3 rfl) (by decide) (fun c2 => ?_) (fun c2 => ?_)
    · have h := h.1 c2
      refine T_iconst (v := 0) (dk dtk_X4_sortsRace 6 rfl) (by decide +kernel) ?_
      exact h
    · have h := h.2 c2
      refine T_iconst (v := 1) (dk dtk_X4_sortsRace 4 rfl) (by decide +kernel) ?_
      refine T_goto 13 (dk dtk_X4_sortsRace 5 rfl) (by decide) ?_
      exact h
set_option maxRecDepth 100000 in
set_option maxHeartbeats 4000000 in
theorem kg_X4_sortsRace_13 {G : kG} {q : kP} {d : Nat} {x : gd} {P : Option gv → gd → Prop} (hq : kV q) (l0 : Int32) (l1 : Int32) (s0 : Int32)
    (h : ((l0 < (2 : Int32) → KT G q d zk_X4_sortsRace 29 [(2, vi s0)] [vi 0] x P) ∧ (¬ (l0 < (2 : Int32)) → ((l1 < (2 : Int32) → KT G q d zk_X4_sortsRace 29 [(2, vi s0)] [vi 0] x P) ∧ (¬ (l1 < (2 : Int32)) → KT G q d zk_X4_sortsRace 29 [(2, vi s0)] [vi 1] x P))))) :
    KT G q d zk_X4_sortsRace 13 [(0, vi l0), (1, vi l1)] [vi s0] x P := by
  refine T_istore_n (lv2 := [(2, vi s0), (0, vi l0), (1, vi l1)]) (dk dtk_X4_sortsRace 7 rfl) rfl (by decide) rfl ?_
  refine T_iload_n 1 (dk dtk_X4_sortsRace 8 rfl) rfl rfl ?_
  refine T_iconst (v := 2) (dk dtk_X4_sortsRace 9 rfl) (by decide +kernel) ?_
  refine T_icmp_lt 28 (dk dtk_X4_sortsRace 10 rfl) (by decide) (fun c1 => ?_) (fun c1 => ?_)
  · have h := h.1 c1
    refine T_iconst (v := 0) (dk dtk_X4_sortsRace 16 rfl) (by decide +kernel) ?_
    exact T_sub [0] rfl h
  · have h := h.2 c1
    refine T_iload_n 2 (dk dtk_X4_sortsRace 11 rfl) rfl rfl ?_
    refine T_iconst (v := 2) (dk dtk_X4_sortsRace 12 rfl) (by decide +kernel) ?_
    refine T_icmp_lt 28 (dk dtk_X4_sortsRace 13 rfl) (by decide) (fun c2 => ?_) (fun c2 => ?_)
    · have h := h.1 c2
      refine T_iconst (v := 0) (dk dtk_X4_sortsRace 16 rfl) (by decide +kernel) ?_
      exact T_sub [0] rfl h
    · have h := h.2 c2
      refine T_iconst (v := 1) (dk dtk_X4_sortsRace 14 rfl) (by decide +kernel) ?_
      refine T_goto 29 (dk dtk_X4_sortsRace 15 rfl) (by decide) ?_
      exact T_sub [0] rfl h
set_option maxRecDepth 100000 in
set_option maxHeartbeats 4000000 in
theorem kg_X4_sortsRace_29 {G : kG} {q : kP} {d : Nat} {x : gd} {P : Option gv → gd → Prop} (hq : kV q) (l2 : Int32) (s0 : Int32)
    (h : ((¬ (l2 = (0 : Int32)) → P (some (vi 0)) x) ∧ (l2 = (0 : Int32) → ((¬ (s0 = (0 : Int32)) → P (some (vi 0)) x) ∧ (s0 = (0 : Int32) → P (some (vi 1)) x))))) :
    KT G q d zk_X4_sortsRace 29 [(2, vi l2)] [vi s0] x P := by
  refine T_istore_n (lv2 := [(3, vi s0), (2, vi l2)]) (dk dtk_X4_sortsRace 17 rfl) rfl (by decide) rfl ?_
  refine T_iload_n 1 (dk dtk_X4_sortsRace 18 rfl) rfl rfl ?_
  refine T_if_ne 42 (dk dtk_X4_sortsRace 19 rfl) (by decide) (fun c1 => ?_) (fun c1 => ?_)
  · have h := h.1 c1
    refine T_iconst (v := 0) (dk dtk_X4_sortsRace 24 rfl) (by decide +kernel) ?_
    exact KT_iret (dk dtk_X4_sortsRace 25 rfl) rfl rfl h
  · have h := h.2 c1
    refine T_iload_n 0 (dk dtk_X4_sortsRace 20 rfl) rfl rfl ?_
    refine T_if_ne 42 (dk dtk_X4_sortsRace 21 rfl) (by decide) (fun c2 => ?_) (fun c2 => ?_)
    · have h := h.1 c2
      refine T_iconst (v := 0) (dk dtk_X4_sortsRace 24 rfl) (by decide +kernel) ?_
      exact KT_iret (dk dtk_X4_sortsRace 25 rfl) rfl rfl h
    · have h := h.2 c2
      refine T_iconst (v := 1) (dk dtk_X4_sortsRace 22 rfl) (by decide +kernel) ?_
      refine T_goto 43 (dk dtk_X4_sortsRace 23 rfl) (by decide) ?_
      exact KT_iret (dk dtk_X4_sortsRace 25 rfl) rfl rfl h
set_option maxRecDepth 100000 in
theorem dtk_X3_take : dck cX3_take [(0, .aload_n 0, 1), (1, .iconst 0, 1), (2, .putfield 40, 3), (5, .aload_n 0, 1), (6, .iconst 0, 1), (7, .putfield 44, 3), (10, .aload_n 0, 1), (11, .getfield 32, 3), (14, .iconst (-1), 1), (15, .invokestatic 47, 3), (18, .iconst 0, 1), (19, .istore_n 2, 1), (20, .iload_n 2, 1), (21, .aload_n 1, 1), (22, .getfield 53, 3), (25, .if_icmp .ge 97, 3), (28, .aload_n 1, 1), (29, .getfield 58, 3), (32, .iload_n 2, 1), (33, .iaload, 1), (34, .istore_n 3, 1), (35, .aload_n 1, 1), (36, .getfield 61, 3), (39, .iload_n 2, 1), (40, .baload, 1), (41, .ifCond .ne 75, 3), (44, .iload_n 3, 1), (45, .bipush 13, 2), (47, .if_icmp .eq 12, 3), (50, .iload_n 3, 1), (51, .bipush 14, 2), (53, .if_icmp .eq 6, 3), (56, .goto 60, 3), (59, .iload_n 3, 1), (60, .bipush 13, 2), (62, .if_icmp .ne 28, 3), (65, .aload_n 0, 1), (66, .aload_n 1, 1), (67, .getfield 67, 3), (70, .iload_n 2, 1), (71, .iaload, 1), (72, .aload_n 1, 1), (73, .getfield 70, 3), (76, .iload_n 2, 1), (77, .iaload, 1), (78, .aload_n 1, 1), (79, .getfield 73, 3), (82, .iload_n 2, 1), (83, .iaload, 1), (84, .invokevirtual 76, 3), (87, .goto 19, 3), (90, .aload_n 0, 1), (91, .aload_n 1, 1), (92, .getfield 67, 3), (95, .iload_n 2, 1), (96, .iaload, 1), (97, .aload_n 1, 1), (98, .getfield 73, 3), (101, .iload_n 2, 1), (102, .iaload, 1), (103, .invokevirtual 80, 3), (106, .aload_n 0, 1), (107, .dup, 1), (108, .getfield 44, 3), (111, .iconst 1, 1), (112, .iadd, 1), (113, .putfield 44, 3), (116, .iinc 2 1, 3), (119, .goto (-99), 3), (122, .return_, 1)] = true := by decide +kernel
set_option maxRecDepth 100000 in
set_option maxHeartbeats 4000000 in
theorem kg_X3_take_0 {G : kG} {q : kP} {d : Nat} {x : gd} {P : Option gv → gd → Prop} (hq : kV q) (hh : q.hi = true)
    (h : (∀ x1 : gd, x1 = si x 180 6 0 → (∀ x2 : gd, x2 = si x1 180 7 0 → (∀ x3 : gd, x3 = sfl x2 189 (-1) 6 → KT G q (d + 1) zk_X3_take 20 [(0, vr 180), (1, vr 160), (2, vi 0)] [] x3 P)))) :
    KT G q (d + 1) zk_X3_take 0 [(0, vr 180), (1, vr 160)] [] x P := by
  refine T_aload_n 0 (dk dtk_X3_take 0 rfl) rfl rfl ?_
  refine T_iconst (v := 0) (dk dtk_X3_take 1 rfl) (by decide +kernel) ?_
  obtain ⟨x1, ex1⟩ : ∃ z, z = si x 180 6 0 := ⟨_, rfl⟩
  have h := h x1 ex1
  refine T_putI 180 6 (dk dtk_X3_take 2 rfl) kfl_X3_40 kk_180 (kl_180 hq hh) (by decide) rfl ⟨rfl, rfl⟩ ?_
  rw [← ex1]
  refine T_aload_n 0 (dk dtk_X3_take 3 rfl) rfl rfl ?_
  refine T_iconst (v := 0) (dk dtk_X3_take 4 rfl) (by decide +kernel) ?_
  obtain ⟨x2, ex2⟩ : ∃ z, z = si x1 180 7 0 := ⟨_, rfl⟩
  have h := h x2 ex2
  refine T_putI 180 7 (dk dtk_X3_take 5 rfl) kfl_X3_44 kk_180 (kl_180 hq hh) (by decide) rfl ⟨rfl, rfl⟩ ?_
  rw [← ex2]
  refine T_aload_n 0 (dk dtk_X3_take 6 rfl) rfl rfl ?_
  refine T_getR 180 8 189 (dk dtk_X3_take 7 rfl) kfl_X3_32 kk_180 (kl_180 hq hh) (by decide) rfl kr_180_8 ?_
  refine T_iconst (v := (-1)) (dk dtk_X3_take 8 rfl) (by decide +kernel) ?_
  refine KC_Sv (F := fun z => z = sfl x2 189 (-1) 6) [vr 189, vi (-1)] [] rfl (dk dtk_X3_take 9 rfl) kcs_X3_47 rfl (Nat.le_of_ble_eq_true rfl) (Nat.le_of_ble_eq_true rfl) (gok_i (av_c (gkr (kl_180 hq hh)) (av_c (gkr (kl_160 hq)) av_n)) as_n) rfl (tj_fill 189 6 (-1) kk_189 (kl_189 hq hh) (by decide) ⟨rfl, none, rfl, rfl, rfl⟩) (fun x3 ex3 => ?_)
  have h := h x3 ex3
  refine T_iconst (v := 0) (dk dtk_X3_take 10 rfl) (by decide +kernel) ?_
  refine T_istore_n (lv2 := [(2, vi 0), (0, vr 180), (1, vr 160)]) (dk dtk_X3_take 11 rfl) rfl (by decide) rfl ?_
  exact T_sub [1, 2, 0] rfl h
set_option maxRecDepth 100000 in
set_option maxHeartbeats 4000000 in
theorem kg_X3_take_20 {G : kG} {q : kP} {d : Nat} {x : gd} {P : Option gv → gd → Prop} (hq : kV q) (hh : q.hi = true) (l2 : Int32)
    (h : (((x.1 160 3) ≤ l2 → P none x) ∧ (¬ ((x.1 160 3) ≤ l2) → vp_in l2 400 ∧ vp_in l2 400 ∧ ((¬ ((x.1 171 (l2 : Int32).toNatClampNeg) = (0 : Int32)) → KT G q (d + 1) zk_X3_take 20 [(0, vr 180), (1, vr 160), (2, vi (l2 + 1))] [] x P) ∧ ((x.1 171 (l2 : Int32).toNatClampNeg) = (0 : Int32) → (((x.1 167 (l2 : Int32).toNatClampNeg) = (13 : Int32) → KT G q (d + 1) zk_X3_take 59 [(0, vr 180), (1, vr 160), (2, vi l2), (3, vi (x.1 167 (l2 : Int32).toNatClampNeg))] [] x P) ∧ (¬ ((x.1 167 (l2 : Int32).toNatClampNeg) = (13 : Int32)) → (((x.1 167 (l2 : Int32).toNatClampNeg) = (14 : Int32) → KT G q (d + 1) zk_X3_take 59 [(0, vr 180), (1, vr 160), (2, vi l2), (3, vi (x.1 167 (l2 : Int32).toNatClampNeg))] [] x P) ∧ (¬ ((x.1 167 (l2 : Int32).toNatClampNeg) = (14 : Int32)) → KT G q (d + 1) zk_X3_take 20 [(0, vr 180), (1, vr 160), (2, vi (l2 + 1))] [] x P))))))))) :
    KT G q (d + 1) zk_X3_take 20 [(0, vr 180), (1, vr 160), (2, vi l2)] [] x P := by
  refine T_iload_n 2 (dk dtk_X3_take 12 rfl) rfl rfl ?_
  refine T_aload_n 1 (dk dtk_X3_take 13 rfl) rfl rfl ?_
  refine T_getI 160 3 (dk dtk_X3_take 14 rfl) kfl_X3_53 kk_160 (kl_160 hq) (by decide) rfl ?_
  refine T_icmp_ge 122 (dk dtk_X3_take 15 rfl) (by decide) (fun c1 => ?_) (fun c1 => ?_)
  · have h := h.1 c1
    exact KT_vret (dk dtk_X3_take 69 rfl) rfl h
  · have h := h.2 c1
    refine T_aload_n 1 (dk dtk_X3_take 16 rfl) rfl rfl ?_
    refine T_getR 160 6 167 (dk dtk_X3_take 17 rfl) kfl_X3_58 kk_160 (kl_160 hq) (by decide) rfl kr_160_6 ?_
    refine T_iload_n 2 (dk dtk_X3_take 18 rfl) rfl rfl ?_
    obtain ⟨h2, h⟩ := h
    refine T_iald 167 400 (dk dtk_X3_take 19 rfl) kk_167 (kl_167 hq) h2 ?_
    refine T_istore_n (lv2 := [(3, vi (x.1 167 (l2 : Int32).toNatClampNeg)), (0, vr 180), (1, vr 160), (2, vi l2)]) (dk dtk_X3_take 20 rfl) rfl (by decide) rfl ?_
    refine T_aload_n 2 (dk dtk_X3_take 21 rfl) rfl rfl ?_
    refine T_getR 160 10 171 (dk dtk_X3_take 22 rfl) kfl_X3_61 kk_160 (kl_160 hq) (by decide) rfl kr_160_10 ?_
    refine T_iload_n 3 (dk dtk_X3_take 23 rfl) rfl rfl ?_
    obtain ⟨h3, h⟩ := h
    refine T_zald 171 400 (dk dtk_X3_take 24 rfl) kk_171 (kl_171 hq) h3 ?_
    refine T_if_ne 116 (dk dtk_X3_take 25 rfl) (by decide) (fun c4 => ?_) (fun c4 => ?_)
    · have h := h.1 c4
      refine T_iinc (v := l2 + 1) (lv2 := [(2, vi (l2 + 1)), (3, vi (x.1 167 (l2 : Int32).toNatClampNeg)), (0, vr 180), (1, vr 160)]) 3 (dk dtk_X3_take 67 rfl) rfl rfl (by decide) rfl ?_
      refine T_goto 20 (dk dtk_X3_take 68 rfl) (by decide) ?_
      exact T_sub [2, 3, 0] rfl h
    · have h := h.2 c4
      refine T_iload_n 0 (dk dtk_X3_take 26 rfl) rfl rfl ?_
      refine T_bipush (v := 13) (dk dtk_X3_take 27 rfl) (by decide +kernel) ?_
      refine T_icmp_eq 59 (dk dtk_X3_take 28 rfl) (by decide) (fun c5 => ?_) (fun c5 => ?_)
      · have h := h.1 c5
        exact T_sub [1, 2, 3, 0] rfl h
      · have h := h.2 c5
        refine T_iload_n 0 (dk dtk_X3_take 29 rfl) rfl rfl ?_
        refine T_bipush (v := 14) (dk dtk_X3_take 30 rfl) (by decide +kernel) ?_
        refine T_icmp_eq 59 (dk dtk_X3_take 31 rfl) (by decide) (fun c6 => ?_) (fun c6 => ?_)
        · have h := h.1 c6
          exact T_sub [1, 2, 3, 0] rfl h
        · have h := h.2 c6
          refine T_goto 116 (dk dtk_X3_take 32 rfl) (by decide) ?_
          refine T_iinc (v := l2 + 1) (lv2 := [(2, vi (l2 + 1)), (3, vi (x.1 167 (l2 : Int32).toNatClampNeg)), (0, vr 180), (1, vr 160)]) 3 (dk dtk_X3_take 67 rfl) rfl rfl (by decide) rfl ?_
          refine T_goto 20 (dk dtk_X3_take 68 rfl) (by decide) ?_
          exact T_sub [2, 3, 0] rfl h
set_option maxRecDepth 100000 in
set_option maxHeartbeats 4000000 in
theorem kg_X3_take_59 {G : kG} {q : kP} {d : Nat} {x : gd} {P : Option gv → gd → Prop} (hq : kV q) (hh : q.hi = true) (l2 : Int32) (l3 : Int32)
    (h : ((¬ (l3 = (13 : Int32)) → vp_in l2 400 ∧ vp_in l2 400 ∧ KT G q d zk_X3_endCall 0 [(0, vr 180), (1, vi (x.1 166 (l2 : Int32).toNatClampNeg)), (2, vi (x.1 170 (l2 : Int32).toNatClampNeg))] [] x (rv (fun x4 => (∀ x5 : gd, x5 = si x4 180 7 ((x4.1 180 7) + 1) → KT G q (d + 1) zk_X3_take 20 [(0, vr 180), (1, vr 160), (2, vi (l2 + 1))] [] x5 P)))) ∧ (l3 = (13 : Int32) → vp_in l2 400 ∧ vp_in l2 400 ∧ vp_in l2 400 ∧ KT G q d zk_X3_beginCall 0 [(0, vr 180), (1, vi (x.1 166 (l2 : Int32).toNatClampNeg)), (2, vi (x.1 168 (l2 : Int32).toNatClampNeg)), (3, vi (x.1 170 (l2 : Int32).toNatClampNeg))] [] x (rv (fun x9 => (∀ x10 : gd, x10 = si x9 180 7 ((x9.1 180 7) + 1) → KT G q (d + 1) zk_X3_take 20 [(0, vr 180), (1, vr 160), (2, vi (l2 + 1))] [] x10 P)))))) :
    KT G q (d + 1) zk_X3_take 59 [(0, vr 180), (1, vr 160), (2, vi l2), (3, vi l3)] [] x P := by
  refine T_iload_n 3 (dk dtk_X3_take 33 rfl) rfl rfl ?_
  refine T_bipush (v := 13) (dk dtk_X3_take 34 rfl) (by decide +kernel) ?_
  refine T_icmp_ne 90 (dk dtk_X3_take 35 rfl) (by decide) (fun c1 => ?_) (fun c1 => ?_)
  · have h := h.1 c1
    refine T_aload_n 0 (dk dtk_X3_take 51 rfl) rfl rfl ?_
    refine T_aload_n 1 (dk dtk_X3_take 52 rfl) rfl rfl ?_
    refine T_getR 160 5 166 (dk dtk_X3_take 53 rfl) kfl_X3_67 kk_160 (kl_160 hq) (by decide) rfl kr_160_5 ?_
    refine T_iload_n 2 (dk dtk_X3_take 54 rfl) rfl rfl ?_
    obtain ⟨h2, h⟩ := h
    refine T_iald 166 400 (dk dtk_X3_take 55 rfl) kk_166 (kl_166 hq) h2 ?_
    refine T_aload_n 1 (dk dtk_X3_take 56 rfl) rfl rfl ?_
    refine T_getR 160 9 170 (dk dtk_X3_take 57 rfl) kfl_X3_73 kk_160 (kl_160 hq) (by decide) rfl kr_160_9 ?_
    refine T_iload_n 2 (dk dtk_X3_take 58 rfl) rfl rfl ?_
    obtain ⟨h3, h⟩ := h
    refine T_iald 170 400 (dk dtk_X3_take 59 rfl) kk_170 (kl_170 hq) h3 ?_
    refine T_sub (lv2 := [(0, vr 180), (1, vr 160), (2, vi l2)]) [0, 1, 2] rfl ?_
    refine KC_Vv [vi (x.1 166 (l2 : Int32).toNatClampNeg), vi (x.1 170 (l2 : Int32).toNatClampNeg)] [] rfl (dk dtk_X3_take 60 rfl) kcv_X3_80 rfl kk_180 rfl (kl_180 hq hh) (Nat.le_of_ble_eq_true rfl) (Nat.le_of_ble_eq_true rfl) (gok_i (av_c (gkr (kl_180 hq hh)) (av_c (gkr (kl_160 hq)) (av_c rfl av_n))) as_n) rfl h (fun x4 h => ?_)
    refine T_aload_n 0 (dk dtk_X3_take 61 rfl) rfl rfl ?_
    refine T_dup (dk dtk_X3_take 62 rfl) rfl ?_
    refine T_getI 180 7 (dk dtk_X3_take 63 rfl) kfl_X3_44 kk_180 (kl_180 hq hh) (by decide) rfl ?_
    refine T_iconst (v := 1) (dk dtk_X3_take 64 rfl) (by decide +kernel) ?_
    refine T_iadd (dk dtk_X3_take 65 rfl) ?_
    obtain ⟨x5, ex5⟩ : ∃ z, z = si x4 180 7 ((x4.1 180 7) + 1) := ⟨_, rfl⟩
    have h := h x5 ex5
    refine T_putI 180 7 (dk dtk_X3_take 66 rfl) kfl_X3_44 kk_180 (kl_180 hq hh) (by decide) rfl ⟨rfl, rfl⟩ ?_
    rw [← ex5]
    refine T_iinc (v := l2 + 1) (lv2 := [(2, vi (l2 + 1)), (0, vr 180), (1, vr 160)]) 2 (dk dtk_X3_take 67 rfl) rfl rfl (by decide) rfl ?_
    refine T_goto 20 (dk dtk_X3_take 68 rfl) (by decide) ?_
    exact T_sub [1, 2, 0] rfl h
  · have h := h.2 c1
    refine T_aload_n 0 (dk dtk_X3_take 36 rfl) rfl rfl ?_
    refine T_aload_n 1 (dk dtk_X3_take 37 rfl) rfl rfl ?_
    refine T_getR 160 5 166 (dk dtk_X3_take 38 rfl) kfl_X3_67 kk_160 (kl_160 hq) (by decide) rfl kr_160_5 ?_
    refine T_iload_n 2 (dk dtk_X3_take 39 rfl) rfl rfl ?_
    obtain ⟨h6, h⟩ := h
    refine T_iald 166 400 (dk dtk_X3_take 40 rfl) kk_166 (kl_166 hq) h6 ?_
    refine T_aload_n 1 (dk dtk_X3_take 41 rfl) rfl rfl ?_
    refine T_getR 160 7 168 (dk dtk_X3_take 42 rfl) kfl_X3_70 kk_160 (kl_160 hq) (by decide) rfl kr_160_7 ?_
    refine T_iload_n 2 (dk dtk_X3_take 43 rfl) rfl rfl ?_
    obtain ⟨h7, h⟩ := h
    refine T_iald 168 400 (dk dtk_X3_take 44 rfl) kk_168 (kl_168 hq) h7 ?_
    refine T_aload_n 1 (dk dtk_X3_take 45 rfl) rfl rfl ?_
    refine T_getR 160 9 170 (dk dtk_X3_take 46 rfl) kfl_X3_73 kk_160 (kl_160 hq) (by decide) rfl kr_160_9 ?_
    refine T_iload_n 2 (dk dtk_X3_take 47 rfl) rfl rfl ?_
    obtain ⟨h8, h⟩ := h
    refine T_iald 170 400 (dk dtk_X3_take 48 rfl) kk_170 (kl_170 hq) h8 ?_
    refine T_sub (lv2 := [(0, vr 180), (1, vr 160), (2, vi l2)]) [0, 1, 2] rfl ?_
    refine KC_Vv [vi (x.1 166 (l2 : Int32).toNatClampNeg), vi (x.1 168 (l2 : Int32).toNatClampNeg), vi (x.1 170 (l2 : Int32).toNatClampNeg)] [] rfl (dk dtk_X3_take 49 rfl) kcv_X3_76 rfl kk_180 rfl (kl_180 hq hh) (Nat.le_of_ble_eq_true rfl) (Nat.le_of_ble_eq_true rfl) (gok_i (av_c (gkr (kl_180 hq hh)) (av_c (gkr (kl_160 hq)) (av_c rfl av_n))) as_n) rfl h (fun x9 h => ?_)
    refine T_goto 106 (dk dtk_X3_take 50 rfl) (by decide) ?_
    refine T_aload_n 0 (dk dtk_X3_take 61 rfl) rfl rfl ?_
    refine T_dup (dk dtk_X3_take 62 rfl) rfl ?_
    refine T_getI 180 7 (dk dtk_X3_take 63 rfl) kfl_X3_44 kk_180 (kl_180 hq hh) (by decide) rfl ?_
    refine T_iconst (v := 1) (dk dtk_X3_take 64 rfl) (by decide +kernel) ?_
    refine T_iadd (dk dtk_X3_take 65 rfl) ?_
    obtain ⟨x10, ex10⟩ : ∃ z, z = si x9 180 7 ((x9.1 180 7) + 1) := ⟨_, rfl⟩
    have h := h x10 ex10
    refine T_putI 180 7 (dk dtk_X3_take 66 rfl) kfl_X3_44 kk_180 (kl_180 hq hh) (by decide) rfl ⟨rfl, rfl⟩ ?_
    rw [← ex10]
    refine T_iinc (v := l2 + 1) (lv2 := [(2, vi (l2 + 1)), (0, vr 180), (1, vr 160)]) 2 (dk dtk_X3_take 67 rfl) rfl rfl (by decide) rfl ?_
    refine T_goto 20 (dk dtk_X3_take 68 rfl) (by decide) ?_
    exact T_sub [1, 2, 0] rfl h
end
section
set_option maxRecDepth 100000 in
theorem dtk_X3_beginCall : dck cX3_beginCall [(0, .aload_n 0, 1), (1, .getfield 40, 3), (4, .bipush 12, 2), (6, .if_icmp .lt 4, 3), (9, .return_, 1), (10, .aload_n 0, 1), (11, .getfield 11, 3), (14, .aload_n 0, 1), (15, .getfield 40, 3), (18, .iload_n 2, 1), (19, .iastore, 1), (20, .aload_n 0, 1), (21, .getfield 15, 3), (24, .aload_n 0, 1), (25, .getfield 40, 3), (28, .iload_n 3, 1), (29, .iastore, 1), (30, .aload_n 0, 1), (31, .getfield 21, 3), (34, .aload_n 0, 1), (35, .getfield 40, 3), (38, .aload_n 0, 1), (39, .getfield 44, 3), (42, .iastore, 1), (43, .aload_n 0, 1), (44, .getfield 24, 3), (47, .aload_n 0, 1), (48, .getfield 40, 3), (51, .ldc 84, 2), (53, .iastore, 1), (54, .aload_n 0, 1), (55, .getfield 27, 3), (58, .aload_n 0, 1), (59, .getfield 40, 3), (62, .iconst 0, 1), (63, .iastore, 1), (64, .iconst 0, 1), (65, .istore 4, 2), (67, .iload 4, 2), (69, .aload_n 0, 1), (70, .getfield 40, 3), (73, .if_icmp .ge 39, 3), (76, .aload_n 0, 1), (77, .getfield 24, 3), (80, .iload 4, 2), (82, .iaload, 1), (83, .aload_n 0, 1), (84, .getfield 44, 3), (87, .if_icmp .ge 19, 3), (90, .aload_n 0, 1), (91, .getfield 27, 3), (94, .aload_n 0, 1), (95, .getfield 40, 3), (98, .dup2, 1), (99, .iaload, 1), (100, .iconst 1, 1), (101, .iload 4, 2), (103, .ishl, 1), (104, .ior, 1), (105, .iastore, 1), (106, .iinc 4 1, 3), (109, .goto (-42), 3), (112, .aload_n 0, 1), (113, .getfield 32, 3), (116, .iload_n 1, 1), (117, .aload_n 0, 1), (118, .getfield 40, 3), (121, .iastore, 1), (122, .aload_n 0, 1), (123, .dup, 1), (124, .getfield 40, 3), (127, .iconst 1, 1), (128, .iadd, 1), (129, .putfield 40, 3), (132, .return_, 1)] = true := by decide +kernel
set_option maxRecDepth 100000 in
set_option maxHeartbeats 4000000 in
theorem kg_X3_beginCall_0 {G : kG} {q : kP} {d : Nat} {x : gd} {P : Option gv → gd → Prop} (hq : kV q) (hh : q.hi = true) (l1 : Int32) (l2 : Int32) (l3 : Int32)
    (h : (((x.1 180 6) < (12 : Int32) → vp_in (x.1 180 6) 12 ∧ (∀ x3 : gd, x3 = si x 181 (x.1 180 6 : Int32).toNatClampNeg l2 → vp_in (x3.1 180 6) 12 ∧ (∀ x5 : gd, x5 = si x3 182 (x3.1 180 6 : Int32).toNatClampNeg l3 → vp_in (x5.1 180 6) 12 ∧ (∀ x7 : gd, x7 = si x5 184 (x5.1 180 6 : Int32).toNatClampNeg (x5.1 180 7) → vp_in (x7.1 180 6) 12 ∧ (∀ x9 : gd, x9 = si x7 185 (x7.1 180 6 : Int32).toNatClampNeg 1000000 → vp_in (x9.1 180 6) 12 ∧ (∀ x11 : gd, x11 = si x9 186 (x9.1 180 6 : Int32).toNatClampNeg 0 → KT G q d zk_X3_beginCall 67 [(0, vr 180), (1, vi l1), (4, vi 0)] [] x11 P)))))) ∧ (¬ ((x.1 180 6) < (12 : Int32)) → P none x))) :
    KT G q d zk_X3_beginCall 0 [(0, vr 180), (1, vi l1), (2, vi l2), (3, vi l3)] [] x P := by
  refine T_aload_n 0 (dk dtk_X3_beginCall 0 rfl) rfl rfl ?_
  refine T_getI 180 6 (dk dtk_X3_beginCall 1 rfl) kfl_X3_40 kk_180 (kl_180 hq hh) (by decide) rfl ?_
  refine T_bipush (v := 12) (dk dtk_X3_beginCall 2 rfl) (by decide +kernel) ?_
  refine T_icmp_lt 10 (dk dtk_X3_beginCall 3 rfl) (by decide) (fun c1 => ?_) (fun c1 => ?_)
  · have h := h.1 c1
    refine T_aload_n 0 (dk dtk_X3_beginCall 5 rfl) rfl rfl ?_
    refine T_getR 180 0 181 (dk dtk_X3_beginCall 6 rfl) kfl_X3_11 kk_180 (kl_180 hq hh) (by decide) rfl kr_180_0 ?_
    refine T_aload_n 0 (dk dtk_X3_beginCall 7 rfl) rfl rfl ?_
    refine T_getI 180 6 (dk dtk_X3_beginCall 8 rfl) kfl_X3_40 kk_180 (kl_180 hq hh) (by decide) rfl ?_
    refine T_iload_n 2 (dk dtk_X3_beginCall 9 rfl) rfl rfl ?_
    obtain ⟨h2, h⟩ := h
    obtain ⟨x3, ex3⟩ : ∃ z, z = si x 181 (x.1 180 6 : Int32).toNatClampNeg l2 := ⟨_, rfl⟩
    have h := h x3 ex3
    refine T_iast 181 12 (dk dtk_X3_beginCall 10 rfl) kk_181 (kl_181 hq hh) h2 ?_
    rw [← ex3]
    refine T_aload_n 0 (dk dtk_X3_beginCall 11 rfl) rfl rfl ?_
    refine T_getR 180 1 182 (dk dtk_X3_beginCall 12 rfl) kfl_X3_15 kk_180 (kl_180 hq hh) (by decide) rfl kr_180_1 ?_
    refine T_aload_n 0 (dk dtk_X3_beginCall 13 rfl) rfl rfl ?_
    refine T_getI 180 6 (dk dtk_X3_beginCall 14 rfl) kfl_X3_40 kk_180 (kl_180 hq hh) (by decide) rfl ?_
    refine T_iload_n 3 (dk dtk_X3_beginCall 15 rfl) rfl rfl ?_
    obtain ⟨h4, h⟩ := h
    obtain ⟨x5, ex5⟩ : ∃ z, z = si x3 182 (x3.1 180 6 : Int32).toNatClampNeg l3 := ⟨_, rfl⟩
    have h := h x5 ex5
    refine T_iast 182 12 (dk dtk_X3_beginCall 16 rfl) kk_182 (kl_182 hq hh) h4 ?_
    rw [← ex5]
    refine T_aload_n 0 (dk dtk_X3_beginCall 17 rfl) rfl rfl ?_
    refine T_getR 180 3 184 (dk dtk_X3_beginCall 18 rfl) kfl_X3_21 kk_180 (kl_180 hq hh) (by decide) rfl kr_180_3 ?_
    refine T_aload_n 0 (dk dtk_X3_beginCall 19 rfl) rfl rfl ?_
    refine T_getI 180 6 (dk dtk_X3_beginCall 20 rfl) kfl_X3_40 kk_180 (kl_180 hq hh) (by decide) rfl ?_
    refine T_aload_n 0 (dk dtk_X3_beginCall 21 rfl) rfl rfl ?_
    refine T_getI 180 7 (dk dtk_X3_beginCall 22 rfl) kfl_X3_44 kk_180 (kl_180 hq hh) (by decide) rfl ?_
    obtain ⟨h6, h⟩ := h
    obtain ⟨x7, ex7⟩ : ∃ z, z = si x5 184 (x5.1 180 6 : Int32).toNatClampNeg (x5.1 180 7) := ⟨_, rfl⟩
    have h := h x7 ex7
    refine T_iast 184 12 (dk dtk_X3_beginCall 23 rfl) kk_184 (kl_184 hq hh) h6 ?_
    rw [← ex7]
    refine T_aload_n 0 (dk dtk_X3_beginCall 24 rfl) rfl rfl ?_
    refine T_getR 180 4 185 (dk dtk_X3_beginCall 25 rfl) kfl_X3_24 kk_180 (kl_180 hq hh) (by decide) rfl kr_180_4 ?_
    refine T_aload_n 0 (dk dtk_X3_beginCall 26 rfl) rfl rfl ?_
    refine T_getI 180 6 (dk dtk_X3_beginCall 27 rfl) kfl_X3_40 kk_180 (kl_180 hq hh) (by decide) rfl ?_
    refine T_ldc (v := 1000000) (dk dtk_X3_beginCall 28 rfl) kkc_X3_84 ?_
    obtain ⟨h8, h⟩ := h
    obtain ⟨x9, ex9⟩ : ∃ z, z = si x7 185 (x7.1 180 6 : Int32).toNatClampNeg 1000000 := ⟨_, rfl⟩
    have h := h x9 ex9
    refine T_iast 185 12 (dk dtk_X3_beginCall 29 rfl) kk_185 (kl_185 hq hh) h8 ?_
    rw [← ex9]
    refine T_aload_n 0 (dk dtk_X3_beginCall 30 rfl) rfl rfl ?_
    refine T_getR 180 5 186 (dk dtk_X3_beginCall 31 rfl) kfl_X3_27 kk_180 (kl_180 hq hh) (by decide) rfl kr_180_5 ?_
    refine T_aload_n 0 (dk dtk_X3_beginCall 32 rfl) rfl rfl ?_
    refine T_getI 180 6 (dk dtk_X3_beginCall 33 rfl) kfl_X3_40 kk_180 (kl_180 hq hh) (by decide) rfl ?_
    refine T_iconst (v := 0) (dk dtk_X3_beginCall 34 rfl) (by decide +kernel) ?_
    obtain ⟨h10, h⟩ := h
    obtain ⟨x11, ex11⟩ : ∃ z, z = si x9 186 (x9.1 180 6 : Int32).toNatClampNeg 0 := ⟨_, rfl⟩
    have h := h x11 ex11
    refine T_iast 186 12 (dk dtk_X3_beginCall 35 rfl) kk_186 (kl_186 hq hh) h10 ?_
    rw [← ex11]
    refine T_iconst (v := 0) (dk dtk_X3_beginCall 36 rfl) (by decide +kernel) ?_
    refine T_istore (lv2 := [(4, vi 0), (0, vr 180), (1, vi l1), (2, vi l2), (3, vi l3)]) (dk dtk_X3_beginCall 37 rfl) (by decide) rfl ?_
    exact T_sub [1, 2, 0] rfl h
  · have h := h.2 c1
    exact KT_vret (dk dtk_X3_beginCall 4 rfl) rfl h
set_option maxRecDepth 100000 in
set_option maxHeartbeats 4000000 in
theorem kg_X3_beginCall_67 {G : kG} {q : kP} {d : Nat} {x : gd} {P : Option gv → gd → Prop} (hq : kV q) (hh : q.hi = true) (l1 : Int32) (l4 : Int32)
    (h : (((x.1 180 6) ≤ l4 → vp_in l1 6 ∧ (∀ x3 : gd, x3 = si x 189 (l1 : Int32).toNatClampNeg (x.1 180 6) → (∀ x4 : gd, x4 = si x3 180 6 ((x3.1 180 6) + 1) → P none x4))) ∧ (¬ ((x.1 180 6) ≤ l4) → vp_in l4 12 ∧ (((x.1 180 7) ≤ (x.1 185 (l4 : Int32).toNatClampNeg) → KT G q d zk_X3_beginCall 67 [(0, vr 180), (1, vi l1), (4, vi (l4 + 1))] [] x P) ∧ (¬ ((x.1 180 7) ≤ (x.1 185 (l4 : Int32).toNatClampNeg)) → vp_in (x.1 180 6) 12 ∧ vp_in (x.1 180 6) 12 ∧ (∀ x9 : gd, x9 = si x 186 (x.1 180 6 : Int32).toNatClampNeg ((x.1 186 (x.1 180 6 : Int32).toNatClampNeg) ||| (1 <<< (l4 &&& 31 : Int32))) → KT G q d zk_X3_beginCall 67 [(0, vr 180), (1, vi l1), (4, vi (l4 + 1))] [] x9 P)))))) :
    KT G q d zk_X3_beginCall 67 [(0, vr 180), (1, vi l1), (4, vi l4)] [] x P := by
  refine T_iload 2 (dk dtk_X3_beginCall 38 rfl) rfl ?_
  refine T_aload_n 0 (dk dtk_X3_beginCall 39 rfl) rfl rfl ?_
  refine T_getI 180 6 (dk dtk_X3_beginCall 40 rfl) kfl_X3_40 kk_180 (kl_180 hq hh) (by decide) rfl ?_
  refine T_icmp_ge 112 (dk dtk_X3_beginCall 41 rfl) (by decide) (fun c1 => ?_) (fun c1 => ?_)
  · have h := h.1 c1
    refine T_aload_n 0 (dk dtk_X3_beginCall 62 rfl) rfl rfl ?_
    refine T_getR 180 8 189 (dk dtk_X3_beginCall 63 rfl) kfl_X3_32 kk_180 (kl_180 hq hh) (by decide) rfl kr_180_8 ?_
    refine T_iload_n 1 (dk dtk_X3_beginCall 64 rfl) rfl rfl ?_
    refine T_aload_n 0 (dk dtk_X3_beginCall 65 rfl) rfl rfl ?_
    refine T_getI 180 6 (dk dtk_X3_beginCall 66 rfl) kfl_X3_40 kk_180 (kl_180 hq hh) (by decide) rfl ?_
    obtain ⟨h2, h⟩ := h
    obtain ⟨x3, ex3⟩ : ∃ z, z = si x 189 (l1 : Int32).toNatClampNeg (x.1 180 6) := ⟨_, rfl⟩
    have h := h x3 ex3
    refine T_iast 189 6 (dk dtk_X3_beginCall 67 rfl) kk_189 (kl_189 hq hh) h2 ?_
    rw [← ex3]
    refine T_aload_n 0 (dk dtk_X3_beginCall 68 rfl) rfl rfl ?_
    refine T_dup (dk dtk_X3_beginCall 69 rfl) rfl ?_
    refine T_getI 180 6 (dk dtk_X3_beginCall 70 rfl) kfl_X3_40 kk_180 (kl_180 hq hh) (by decide) rfl ?_
    refine T_iconst (v := 1) (dk dtk_X3_beginCall 71 rfl) (by decide +kernel) ?_
    refine T_iadd (dk dtk_X3_beginCall 72 rfl) ?_
    obtain ⟨x4, ex4⟩ : ∃ z, z = si x3 180 6 ((x3.1 180 6) + 1) := ⟨_, rfl⟩
    have h := h x4 ex4
    refine T_putI 180 6 (dk dtk_X3_beginCall 73 rfl) kfl_X3_40 kk_180 (kl_180 hq hh) (by decide) rfl ⟨rfl, rfl⟩ ?_
    rw [← ex4]
    exact KT_vret (dk dtk_X3_beginCall 74 rfl) rfl h
  · have h := h.2 c1
    refine T_aload_n 0 (dk dtk_X3_beginCall 42 rfl) rfl rfl ?_
    refine T_getR 180 4 185 (dk dtk_X3_beginCall 43 rfl) kfl_X3_24 kk_180 (kl_180 hq hh) (by decide) rfl kr_180_4 ?_
    refine T_iload 2 (dk dtk_X3_beginCall 44 rfl) rfl ?_
    obtain ⟨h5, h⟩ := h
    refine T_iald 185 12 (dk dtk_X3_beginCall 45 rfl) kk_185 (kl_185 hq hh) h5 ?_
    refine T_aload_n 0 (dk dtk_X3_beginCall 46 rfl) rfl rfl ?_
    refine T_getI 180 7 (dk dtk_X3_beginCall 47 rfl) kfl_X3_44 kk_180 (kl_180 hq hh) (by decide) rfl ?_
    refine T_icmp_ge 106 (dk dtk_X3_beginCall 48 rfl) (by decide) (fun c6 => ?_) (fun c6 => ?_)
    · have h := h.1 c6
      refine T_iinc (v := l4 + 1) (lv2 := [(4, vi (l4 + 1)), (0, vr 180), (1, vi l1)]) 2 (dk dtk_X3_beginCall 60 rfl) rfl rfl (by decide) rfl ?_
      refine T_goto 67 (dk dtk_X3_beginCall 61 rfl) (by decide) ?_
      exact T_sub [1, 2, 0] rfl h
    · have h := h.2 c6
      refine T_aload_n 0 (dk dtk_X3_beginCall 49 rfl) rfl rfl ?_
      refine T_getR 180 5 186 (dk dtk_X3_beginCall 50 rfl) kfl_X3_27 kk_180 (kl_180 hq hh) (by decide) rfl kr_180_5 ?_
      refine T_aload_n 0 (dk dtk_X3_beginCall 51 rfl) rfl rfl ?_
      refine T_getI 180 6 (dk dtk_X3_beginCall 52 rfl) kfl_X3_40 kk_180 (kl_180 hq hh) (by decide) rfl ?_
      refine T_dup2 (dk dtk_X3_beginCall 53 rfl) rfl rfl ?_
      obtain ⟨h7, h⟩ := h
      refine T_iald 186 12 (dk dtk_X3_beginCall 54 rfl) kk_186 (kl_186 hq hh) h7 ?_
      refine T_iconst (v := 1) (dk dtk_X3_beginCall 55 rfl) (by decide +kernel) ?_
      refine T_iload 2 (dk dtk_X3_beginCall 56 rfl) rfl ?_
      refine T_ishl (dk dtk_X3_beginCall 57 rfl) ?_
      refine T_ior (dk dtk_X3_beginCall 58 rfl) ?_
      obtain ⟨h8, h⟩ := h
      obtain ⟨x9, ex9⟩ : ∃ z, z = si x 186 (x.1 180 6 : Int32).toNatClampNeg ((x.1 186 (x.1 180 6 : Int32).toNatClampNeg) ||| (1 <<< (l4 &&& 31 : Int32))) := ⟨_, rfl⟩
      have h := h x9 ex9
      refine T_iast 186 12 (dk dtk_X3_beginCall 59 rfl) kk_186 (kl_186 hq hh) h8 ?_
      rw [← ex9]
      refine T_iinc (v := l4 + 1) (lv2 := [(4, vi (l4 + 1)), (0, vr 180), (1, vi l1)]) 2 (dk dtk_X3_beginCall 60 rfl) rfl rfl (by decide) rfl ?_
      refine T_goto 67 (dk dtk_X3_beginCall 61 rfl) (by decide) ?_
      exact T_sub [1, 2, 0] rfl h
set_option maxRecDepth 100000 in
theorem dtk_X3_endCall : dck cX3_endCall [(0, .aload_n 0, 1), (1, .getfield 32, 3), (4, .iload_n 1, 1), (5, .iaload, 1), (6, .iconst (-1), 1), (7, .if_icmp .eq 37, 3), (10, .aload_n 0, 1), (11, .getfield 18, 3), (14, .aload_n 0, 1), (15, .getfield 32, 3), (18, .iload_n 1, 1), (19, .iaload, 1), (20, .iload_n 2, 1), (21, .iastore, 1), (22, .aload_n 0, 1), (23, .getfield 24, 3), (26, .aload_n 0, 1), (27, .getfield 32, 3), (30, .iload_n 1, 1), (31, .iaload, 1), (32, .aload_n 0, 1), (33, .getfield 44, 3), (36, .iastore, 1), (37, .aload_n 0, 1), (38, .getfield 32, 3), (41, .iload_n 1, 1), (42, .iconst (-1), 1), (43, .iastore, 1), (44, .return_, 1)] = true := by decide +kernel
set_option maxRecDepth 100000 in
set_option maxHeartbeats 4000000 in
theorem kg_X3_endCall_0 {G : kG} {q : kP} {d : Nat} {x : gd} {P : Option gv → gd → Prop} (hq : kV q) (hh : q.hi = true) (l1 : Int32) (l2 : Int32)
    (h : vp_in l1 6 ∧ (((x.1 189 (l1 : Int32).toNatClampNeg) = (-1 : Int32) → P none x) ∧ (¬ ((x.1 189 (l1 : Int32).toNatClampNeg) = (-1 : Int32)) → vp_in l1 6 ∧ vp_in (x.1 189 (l1 : Int32).toNatClampNeg) 12 ∧ (∀ x5 : gd, x5 = si x 183 (x.1 189 (l1 : Int32).toNatClampNeg : Int32).toNatClampNeg l2 → vp_in l1 6 ∧ vp_in (x5.1 189 (l1 : Int32).toNatClampNeg) 12 ∧ (∀ x8 : gd, x8 = si x5 185 (x5.1 189 (l1 : Int32).toNatClampNeg : Int32).toNatClampNeg (x5.1 180 7) → vp_in l1 6 ∧ (∀ x10 : gd, x10 = si x8 189 (l1 : Int32).toNatClampNeg (-1) → P none x10)))))) :
    KT G q d zk_X3_endCall 0 [(0, vr 180), (1, vi l1), (2, vi l2)] [] x P := by
  refine T_aload_n 0 (dk dtk_X3_endCall 0 rfl) rfl rfl ?_
  refine T_getR 180 8 189 (dk dtk_X3_endCall 1 rfl) kfl_X3_32 kk_180 (kl_180 hq hh) (by decide) rfl kr_180_8 ?_
  refine T_iload_n 1 (dk dtk_X3_endCall 2 rfl) rfl rfl ?_
  obtain ⟨h1, h⟩ := h
  refine T_iald 189 6 (dk dtk_X3_endCall 3 rfl) kk_189 (kl_189 hq hh) h1 ?_
  refine T_iconst (v := (-1)) (dk dtk_X3_endCall 4 rfl) (by decide +kernel) ?_
  refine T_icmp_eq 44 (dk dtk_X3_endCall 5 rfl) (by decide) (fun c2 => ?_) (fun c2 => ?_)
  · have h := h.1 c2
    exact KT_vret (dk dtk_X3_endCall 28 rfl) rfl h
  · have h := h.2 c2
    refine T_aload_n 0 (dk dtk_X3_endCall 6 rfl) rfl rfl ?_
    refine T_getR 180 2 183 (dk dtk_X3_endCall 7 rfl) kfl_X3_18 kk_180 (kl_180 hq hh) (by decide) rfl kr_180_2 ?_
    refine T_aload_n 0 (dk dtk_X3_endCall 8 rfl) rfl rfl ?_
    refine T_getR 180 8 189 (dk dtk_X3_endCall 9 rfl) kfl_X3_32 kk_180 (kl_180 hq hh) (by decide) rfl kr_180_8 ?_
    refine T_iload_n 1 (dk dtk_X3_endCall 10 rfl) rfl rfl ?_
    obtain ⟨h3, h⟩ := h
    refine T_iald 189 6 (dk dtk_X3_endCall 11 rfl) kk_189 (kl_189 hq hh) h3 ?_
    refine T_iload_n 2 (dk dtk_X3_endCall 12 rfl) rfl rfl ?_
    obtain ⟨h4, h⟩ := h
    obtain ⟨x5, ex5⟩ : ∃ z, z = si x 183 (x.1 189 (l1 : Int32).toNatClampNeg : Int32).toNatClampNeg l2 := ⟨_, rfl⟩
    have h := h x5 ex5
    refine T_iast 183 12 (dk dtk_X3_endCall 13 rfl) kk_183 (kl_183 hq hh) h4 ?_
    rw [← ex5]
    refine T_aload_n 0 (dk dtk_X3_endCall 14 rfl) rfl rfl ?_
    refine T_getR 180 4 185 (dk dtk_X3_endCall 15 rfl) kfl_X3_24 kk_180 (kl_180 hq hh) (by decide) rfl kr_180_4 ?_
    refine T_aload_n 0 (dk dtk_X3_endCall 16 rfl) rfl rfl ?_
    refine T_getR 180 8 189 (dk dtk_X3_endCall 17 rfl) kfl_X3_32 kk_180 (kl_180 hq hh) (by decide) rfl kr_180_8 ?_
    refine T_iload_n 1 (dk dtk_X3_endCall 18 rfl) rfl rfl ?_
    obtain ⟨h6, h⟩ := h
    refine T_iald 189 6 (dk dtk_X3_endCall 19 rfl) kk_189 (kl_189 hq hh) h6 ?_
    refine T_aload_n 0 (dk dtk_X3_endCall 20 rfl) rfl rfl ?_
    refine T_getI 180 7 (dk dtk_X3_endCall 21 rfl) kfl_X3_44 kk_180 (kl_180 hq hh) (by decide) rfl ?_
    obtain ⟨h7, h⟩ := h
    obtain ⟨x8, ex8⟩ : ∃ z, z = si x5 185 (x5.1 189 (l1 : Int32).toNatClampNeg : Int32).toNatClampNeg (x5.1 180 7) := ⟨_, rfl⟩
    have h := h x8 ex8
    refine T_iast 185 12 (dk dtk_X3_endCall 22 rfl) kk_185 (kl_185 hq hh) h7 ?_
    rw [← ex8]
    refine T_aload_n 0 (dk dtk_X3_endCall 23 rfl) rfl rfl ?_
    refine T_getR 180 8 189 (dk dtk_X3_endCall 24 rfl) kfl_X3_32 kk_180 (kl_180 hq hh) (by decide) rfl kr_180_8 ?_
    refine T_iload_n 1 (dk dtk_X3_endCall 25 rfl) rfl rfl ?_
    refine T_iconst (v := (-1)) (dk dtk_X3_endCall 26 rfl) (by decide +kernel) ?_
    obtain ⟨h9, h⟩ := h
    obtain ⟨x10, ex10⟩ : ∃ z, z = si x8 189 (l1 : Int32).toNatClampNeg (-1) := ⟨_, rfl⟩
    have h := h x10 ex10
    refine T_iast 189 6 (dk dtk_X3_endCall 27 rfl) kk_189 (kl_189 hq hh) h9 ?_
    rw [← ex10]
    exact KT_vret (dk dtk_X3_endCall 28 rfl) rfl h
set_option maxRecDepth 100000 in
theorem dtk_X3_fewestThatFail : dck cX3_fewestThatFail [(0, .aload_n 0, 1), (1, .iload_n 1, 1), (2, .putfield 85, 3), (5, .aload_n 0, 1), (6, .aload_n 0, 1), (7, .getfield 44, 3), (10, .invokevirtual 88, 3), (13, .ifCond .eq 5, 3), (16, .iconst (-1), 1), (17, .ireturn, 1), (18, .iconst 0, 1), (19, .istore_n 2, 1), (20, .aload_n 0, 1), (21, .getfield 44, 3), (24, .istore_n 3, 1), (25, .iconst 0, 1), (26, .istore 4, 2), (28, .iload 4, 2), (30, .ldc 84, 2), (32, .if_icmp .ge 41, 3), (35, .iload_n 3, 1), (36, .iload_n 2, 1), (37, .isub, 1), (38, .iconst 1, 1), (39, .if_icmp .le 34, 3), (42, .iload_n 2, 1), (43, .iload_n 3, 1), (44, .iadd, 1), (45, .iconst 2, 1), (46, .idiv, 1), (47, .istore 5, 2), (49, .aload_n 0, 1), (50, .iload 5, 2), (52, .invokevirtual 88, 3), (55, .ifCond .eq 9, 3), (58, .iload 5, 2), (60, .istore_n 2, 1), (61, .goto 6, 3), (64, .iload 5, 2), (66, .istore_n 3, 1), (67, .iinc 4 1, 3), (70, .goto (-42), 3), (73, .iload_n 3, 1), (74, .ireturn, 1)] = true := by decide +kernel
set_option maxRecDepth 100000 in
set_option maxHeartbeats 4000000 in
theorem kg_X3_fewestThatFail_0 {G : kG} {q : kP} {d : Nat} {x : gd} {P : Option gv → gd → Prop} (hq : kV q) (hh : q.hi = true) (l1 : Int32)
    (h : (∀ x1 : gd, x1 = si x 180 10 l1 → KT G q d zk_X3_isLinear 0 [(0, vr 180), (1, vi (x1.1 180 7))] [] x1 (ri (fun r3 x2 => ((r3 = (0 : Int32) → KT G q (d + 1) zk_X3_fewestThatFail 28 [(0, vr 180), (2, vi 0), (3, vi (x2.1 180 7)), (4, vi 0)] [] x2 P) ∧ (¬ (r3 = (0 : Int32)) → P (some (vi (-1))) x2)))))) :
    KT G q (d + 1) zk_X3_fewestThatFail 0 [(0, vr 180), (1, vi l1)] [] x P := by
  refine T_aload_n 0 (dk dtk_X3_fewestThatFail 0 rfl) rfl rfl ?_
  refine T_iload_n 1 (dk dtk_X3_fewestThatFail 1 rfl) rfl rfl ?_
  obtain ⟨x1, ex1⟩ : ∃ z, z = si x 180 10 l1 := ⟨_, rfl⟩
  have h := h x1 ex1
  refine T_putI 180 10 (dk dtk_X3_fewestThatFail 2 rfl) kfl_X3_85 kk_180 (kl_180 hq hh) (by decide) rfl ⟨rfl, rfl⟩ ?_
  rw [← ex1]
  refine T_aload_n 0 (dk dtk_X3_fewestThatFail 3 rfl) rfl rfl ?_
  refine T_aload_n 0 (dk dtk_X3_fewestThatFail 4 rfl) rfl rfl ?_
  refine T_getI 180 7 (dk dtk_X3_fewestThatFail 5 rfl) kfl_X3_44 kk_180 (kl_180 hq hh) (by decide) rfl ?_
  refine T_sub (lv2 := [(0, vr 180)]) [0] rfl ?_
  refine KC_Vi [vi (x1.1 180 7)] [] rfl (dk dtk_X3_fewestThatFail 6 rfl) kcv_X3_88 rfl kk_180 rfl (kl_180 hq hh) (Nat.le_of_ble_eq_true rfl) (Nat.le_of_ble_eq_true rfl) (gok_i (av_c (gkr (kl_180 hq hh)) av_n) as_n) rfl h (fun r3 x2 h => ?_)
  refine T_if_eq 18 (dk dtk_X3_fewestThatFail 7 rfl) (by decide) (fun c4 => ?_) (fun c4 => ?_)
  · have h := h.1 c4
    refine T_iconst (v := 0) (dk dtk_X3_fewestThatFail 10 rfl) (by decide +kernel) ?_
    refine T_istore_n (lv2 := [(2, vi 0), (0, vr 180)]) (dk dtk_X3_fewestThatFail 11 rfl) rfl (by decide) rfl ?_
    refine T_aload_n 1 (dk dtk_X3_fewestThatFail 12 rfl) rfl rfl ?_
    refine T_getI 180 7 (dk dtk_X3_fewestThatFail 13 rfl) kfl_X3_44 kk_180 (kl_180 hq hh) (by decide) rfl ?_
    refine T_istore_n (lv2 := [(3, vi (x2.1 180 7)), (2, vi 0), (0, vr 180)]) (dk dtk_X3_fewestThatFail 14 rfl) rfl (by decide) rfl ?_
    refine T_iconst (v := 0) (dk dtk_X3_fewestThatFail 15 rfl) (by decide +kernel) ?_
    refine T_istore (lv2 := [(4, vi 0), (3, vi (x2.1 180 7)), (2, vi 0), (0, vr 180)]) (dk dtk_X3_fewestThatFail 16 rfl) (by decide) rfl ?_
    exact T_sub [3, 2, 1, 0] rfl h
  · have h := h.2 c4
    refine T_iconst (v := (-1)) (dk dtk_X3_fewestThatFail 8 rfl) (by decide +kernel) ?_
    exact KT_iret (dk dtk_X3_fewestThatFail 9 rfl) rfl rfl h
set_option maxRecDepth 100000 in
set_option maxHeartbeats 4000000 in
theorem kg_X3_fewestThatFail_28 {G : kG} {q : kP} {d : Nat} {x : gd} {P : Option gv → gd → Prop} (hq : kV q) (hh : q.hi = true) (l2 : Int32) (l3 : Int32) (l4 : Int32)
    (h : (((1000000 : Int32) ≤ l4 → P (some (vi l3)) x) ∧ (¬ ((1000000 : Int32) ≤ l4) → (((l3 - l2) ≤ (1 : Int32) → P (some (vi l3)) x) ∧ (¬ ((l3 - l2) ≤ (1 : Int32)) → ¬ (2 : Int32) = 0 ∧ KT G q d zk_X3_isLinear 0 [(0, vr 180), (1, vi ((l2 + l3) / 2))] [] x (ri (fun r5 x4 => ((r5 = (0 : Int32) → KT G q (d + 1) zk_X3_fewestThatFail 28 [(0, vr 180), (2, vi l2), (3, vi ((l2 + l3) / 2)), (4, vi (l4 + 1))] [] x4 P) ∧ (¬ (r5 = (0 : Int32)) → KT G q (d + 1) zk_X3_fewestThatFail 28 [(0, vr 180), (2, vi ((l2 + l3) / 2)), (3, vi l3), (4, vi (l4 + 1))] [] x4 P))))))))) :
    KT G q (d + 1) zk_X3_fewestThatFail 28 [(0, vr 180), (2, vi l2), (3, vi l3), (4, vi l4)] [] x P := by
  refine T_iload 3 (dk dtk_X3_fewestThatFail 17 rfl) rfl ?_
  refine T_ldc (v := 1000000) (dk dtk_X3_fewestThatFail 18 rfl) kkc_X3_84 ?_
  refine T_icmp_ge 73 (dk dtk_X3_fewestThatFail 19 rfl) (by decide) (fun c1 => ?_) (fun c1 => ?_)
  · have h := h.1 c1
    refine T_iload_n 2 (dk dtk_X3_fewestThatFail 42 rfl) rfl rfl ?_
    exact KT_iret (dk dtk_X3_fewestThatFail 43 rfl) rfl rfl h
  · have h := h.2 c1
    refine T_iload_n 2 (dk dtk_X3_fewestThatFail 20 rfl) rfl rfl ?_
    refine T_iload_n 1 (dk dtk_X3_fewestThatFail 21 rfl) rfl rfl ?_
    refine T_isub (dk dtk_X3_fewestThatFail 22 rfl) ?_
    refine T_iconst (v := 1) (dk dtk_X3_fewestThatFail 23 rfl) (by decide +kernel) ?_
    refine T_icmp_le 73 (dk dtk_X3_fewestThatFail 24 rfl) (by decide) (fun c2 => ?_) (fun c2 => ?_)
    · have h := h.1 c2
      refine T_iload_n 2 (dk dtk_X3_fewestThatFail 42 rfl) rfl rfl ?_
      exact KT_iret (dk dtk_X3_fewestThatFail 43 rfl) rfl rfl h
    · have h := h.2 c2
      refine T_iload_n 1 (dk dtk_X3_fewestThatFail 25 rfl) rfl rfl ?_
      refine T_iload_n 2 (dk dtk_X3_fewestThatFail 26 rfl) rfl rfl ?_
      refine T_iadd (dk dtk_X3_fewestThatFail 27 rfl) ?_
      refine T_iconst (v := 2) (dk dtk_X3_fewestThatFail 28 rfl) (by decide +kernel) ?_
      obtain ⟨h3, h⟩ := h
      refine T_idiv (dk dtk_X3_fewestThatFail 29 rfl) h3 ?_
      refine T_istore (lv2 := [(5, vi ((l2 + l3) / 2)), (0, vr 180), (2, vi l2), (3, vi l3), (4, vi l4)]) (dk dtk_X3_fewestThatFail 30 rfl) (by decide) rfl ?_
      refine T_aload_n 1 (dk dtk_X3_fewestThatFail 31 rfl) rfl rfl ?_
      refine T_iload 0 (dk dtk_X3_fewestThatFail 32 rfl) rfl ?_
      refine KC_Vi [vi ((l2 + l3) / 2)] [] rfl (dk dtk_X3_fewestThatFail 33 rfl) kcv_X3_88 rfl kk_180 rfl (kl_180 hq hh) (Nat.le_of_ble_eq_true rfl) (Nat.le_of_ble_eq_true rfl) (gok_i (av_c rfl (av_c (gkr (kl_180 hq hh)) (av_c rfl (av_c rfl (av_c rfl av_n))))) as_n) rfl h (fun r5 x4 h => ?_)
      refine T_if_eq 64 (dk dtk_X3_fewestThatFail 34 rfl) (by decide) (fun c6 => ?_) (fun c6 => ?_)
      · have h := h.1 c6
        refine T_iload 0 (dk dtk_X3_fewestThatFail 38 rfl) rfl ?_
        refine T_istore_n (lv2 := [(3, vi ((l2 + l3) / 2)), (5, vi ((l2 + l3) / 2)), (0, vr 180), (2, vi l2), (4, vi l4)]) (dk dtk_X3_fewestThatFail 39 rfl) rfl (by decide) rfl ?_
        refine T_iinc (v := l4 + 1) (lv2 := [(4, vi (l4 + 1)), (3, vi ((l2 + l3) / 2)), (5, vi ((l2 + l3) / 2)), (0, vr 180), (2, vi l2)]) 4 (dk dtk_X3_fewestThatFail 40 rfl) rfl rfl (by decide) rfl ?_
        refine T_goto 28 (dk dtk_X3_fewestThatFail 41 rfl) (by decide) ?_
        exact T_sub [3, 4, 1, 0] rfl h
      · have h := h.2 c6
        refine T_iload 0 (dk dtk_X3_fewestThatFail 35 rfl) rfl ?_
        refine T_istore_n (lv2 := [(2, vi ((l2 + l3) / 2)), (5, vi ((l2 + l3) / 2)), (0, vr 180), (3, vi l3), (4, vi l4)]) (dk dtk_X3_fewestThatFail 36 rfl) rfl (by decide) rfl ?_
        refine T_goto 67 (dk dtk_X3_fewestThatFail 37 rfl) (by decide) ?_
        refine T_iinc (v := l4 + 1) (lv2 := [(4, vi (l4 + 1)), (2, vi ((l2 + l3) / 2)), (5, vi ((l2 + l3) / 2)), (0, vr 180), (3, vi l3)]) 4 (dk dtk_X3_fewestThatFail 40 rfl) rfl rfl (by decide) rfl ?_
        refine T_goto 28 (dk dtk_X3_fewestThatFail 41 rfl) (by decide) ?_
        exact T_sub [3, 1, 4, 0] rfl h
set_option maxRecDepth 100000 in
theorem dtk_X3_isLinear : dck cX3_isLinear [(0, .aload_n 0, 1), (1, .iconst 0, 1), (2, .putfield 92, 3), (5, .aload_n 0, 1), (6, .iconst 0, 1), (7, .putfield 95, 3), (10, .iconst 0, 1), (11, .istore_n 2, 1), (12, .iload_n 2, 1), (13, .aload_n 0, 1), (14, .getfield 40, 3), (17, .if_icmp .ge 53, 3), (20, .aload_n 0, 1), (21, .getfield 21, 3), (24, .iload_n 2, 1), (25, .iaload, 1), (26, .iload_n 1, 1), (27, .if_icmp .ge 15, 3), (30, .aload_n 0, 1), (31, .dup, 1), (32, .getfield 92, 3), (35, .iconst 1, 1), (36, .iload_n 2, 1), (37, .ishl, 1), (38, .ior, 1), (39, .putfield 92, 3), (42, .aload_n 0, 1), (43, .getfield 24, 3), (46, .iload_n 2, 1), (47, .iaload, 1), (48, .iload_n 1, 1), (49, .if_icmp .ge 15, 3), (52, .aload_n 0, 1), (53, .dup, 1), (54, .getfield 95, 3), (57, .iconst 1, 1), (58, .iload_n 2, 1), (59, .ishl, 1), (60, .ior, 1), (61, .putfield 95, 3), (64, .iinc 2 1, 3), (67, .goto (-55), 3), (70, .aload_n 0, 1), (71, .getfield 37, 3), (74, .iconst 0, 1), (75, .aaload, 1), (76, .iconst 0, 1), (77, .invokestatic 47, 3), (80, .aload_n 0, 1), (81, .iconst 0, 1), (82, .iconst 0, 1), (83, .invokevirtual 98, 3), (86, .ireturn, 1)] = true := by decide +kernel
set_option maxRecDepth 100000 in
set_option maxHeartbeats 4000000 in
theorem kg_X3_isLinear_0 {G : kG} {q : kP} {d : Nat} {x : gd} {P : Option gv → gd → Prop} (hq : kV q) (hh : q.hi = true) (l1 : Int32)
    (h : (∀ x1 : gd, x1 = si x 180 11 0 → (∀ x2 : gd, x2 = si x1 180 12 0 → KT G q (d + 1) zk_X3_isLinear 12 [(0, vr 180), (1, vi l1), (2, vi 0)] [] x2 P))) :
    KT G q (d + 1) zk_X3_isLinear 0 [(0, vr 180), (1, vi l1)] [] x P := by
  refine T_aload_n 0 (dk dtk_X3_isLinear 0 rfl) rfl rfl ?_
  refine T_iconst (v := 0) (dk dtk_X3_isLinear 1 rfl) (by decide +kernel) ?_
  obtain ⟨x1, ex1⟩ : ∃ z, z = si x 180 11 0 := ⟨_, rfl⟩
  have h := h x1 ex1
  refine T_putI 180 11 (dk dtk_X3_isLinear 2 rfl) kfl_X3_92 kk_180 (kl_180 hq hh) (by decide) rfl ⟨rfl, rfl⟩ ?_
  rw [← ex1]
  refine T_aload_n 0 (dk dtk_X3_isLinear 3 rfl) rfl rfl ?_
  refine T_iconst (v := 0) (dk dtk_X3_isLinear 4 rfl) (by decide +kernel) ?_
  obtain ⟨x2, ex2⟩ : ∃ z, z = si x1 180 12 0 := ⟨_, rfl⟩
  have h := h x2 ex2
  refine T_putI 180 12 (dk dtk_X3_isLinear 5 rfl) kfl_X3_95 kk_180 (kl_180 hq hh) (by decide) rfl ⟨rfl, rfl⟩ ?_
  rw [← ex2]
  refine T_iconst (v := 0) (dk dtk_X3_isLinear 6 rfl) (by decide +kernel) ?_
  refine T_istore_n (lv2 := [(2, vi 0), (0, vr 180), (1, vi l1)]) (dk dtk_X3_isLinear 7 rfl) rfl (by decide) rfl ?_
  exact T_sub [1, 2, 0] rfl h
set_option maxRecDepth 100000 in
set_option maxHeartbeats 4000000 in
theorem kg_X3_isLinear_12 {G : kG} {q : kP} {d : Nat} {x : gd} {P : Option gv → gd → Prop} (hq : kV q) (hh : q.hi = true) (l1 : Int32) (l2 : Int32)
    (h : (((x.1 180 6) ≤ l2 → vp_in 0 13 ∧ (∀ u3, u3 = (kf q).1 190 (0 : Int32).toNatClampNeg → ∃ c4, u3 = some c4 ∧ kK c4 = .inr (.int, 14) ∧ c4 ∈ (kf q).2.1 ∧ (∀ x7 : gd, x7 = sfl x c4 0 14 → KT G q d zk_X3_canGoOn 0 [(0, vr 180), (1, vi 0), (2, vi 0)] [] x7 (ri (fun r9 x8 => gbool r9 ∧ P (some (vi r9)) x8))))) ∧ (¬ ((x.1 180 6) ≤ l2) → vp_in l2 12 ∧ ((l1 ≤ (x.1 184 (l2 : Int32).toNatClampNeg) → KT G q (d + 1) zk_X3_isLinear 42 [(0, vr 180), (1, vi l1), (2, vi l2)] [] x P) ∧ (¬ (l1 ≤ (x.1 184 (l2 : Int32).toNatClampNeg)) → (∀ x12 : gd, x12 = si x 180 11 ((x.1 180 11) ||| (1 <<< (l2 &&& 31 : Int32))) → KT G q (d + 1) zk_X3_isLinear 42 [(0, vr 180), (1, vi l1), (2, vi l2)] [] x12 P)))))) :
    KT G q (d + 1) zk_X3_isLinear 12 [(0, vr 180), (1, vi l1), (2, vi l2)] [] x P := by
  refine T_iload_n 2 (dk dtk_X3_isLinear 8 rfl) rfl rfl ?_
  refine T_aload_n 0 (dk dtk_X3_isLinear 9 rfl) rfl rfl ?_
  refine T_getI 180 6 (dk dtk_X3_isLinear 10 rfl) kfl_X3_40 kk_180 (kl_180 hq hh) (by decide) rfl ?_
  refine T_icmp_ge 70 (dk dtk_X3_isLinear 11 rfl) (by decide) (fun c1 => ?_) (fun c1 => ?_)
  · have h := h.1 c1
    refine T_aload_n 0 (dk dtk_X3_isLinear 42 rfl) rfl rfl ?_
    refine T_getR 180 9 190 (dk dtk_X3_isLinear 43 rfl) kfl_X3_37 kk_180 (kl_180 hq hh) (by decide) rfl kr_180_9 ?_
    refine T_iconst (v := 0) (dk dtk_X3_isLinear 44 rfl) (by decide +kernel) ?_
    obtain ⟨h2, h⟩ := h
    obtain ⟨u3, eu3⟩ : ∃ z, z = (kf q).1 190 (0 : Int32).toNatClampNeg := ⟨_, rfl⟩
    have h := h u3 eu3
    refine T_aaldI 190 13 (dk dtk_X3_isLinear 45 rfl) kk_190 (kl_190 hq hh) h2 ?_
    rw [← eu3]
    refine T_iconst (v := 0) (dk dtk_X3_isLinear 46 rfl) (by decide +kernel) ?_
    obtain ⟨c4, rfl, g5, g6, h⟩ := h
    refine T_sub (lv2 := [(0, vr 180)]) [0] rfl ?_
    refine KC_Sv (F := fun z => z = sfl x c4 0 14) [vr c4, vi 0] [] rfl (dk dtk_X3_isLinear 47 rfl) kcs_X3_47 rfl (Nat.le_of_ble_eq_true rfl) (Nat.le_of_ble_eq_true rfl) (gok_i (av_c (gkr (kl_180 hq hh)) av_n) as_n) rfl (tj_fill c4 14 0 g5 g6 (by decide) ⟨rfl, none, rfl, rfl, rfl⟩) (fun x7 ex7 => ?_)
    have h := h x7 ex7
    refine T_aload_n 0 (dk dtk_X3_isLinear 48 rfl) rfl rfl ?_
    refine T_iconst (v := 0) (dk dtk_X3_isLinear 49 rfl) (by decide +kernel) ?_
    refine T_iconst (v := 0) (dk dtk_X3_isLinear 50 rfl) (by decide +kernel) ?_
    refine T_sub (lv2 := []) [] rfl ?_
    refine KC_Vi [vi 0, vi 0] [] rfl (dk dtk_X3_isLinear 51 rfl) kcv_X3_98 rfl kk_180 rfl (kl_180 hq hh) (Nat.le_of_ble_eq_true rfl) (Nat.le_of_ble_eq_true rfl) (gok_i av_n as_n) rfl h (fun r9 x8 h => ?_)
    exact KT_iret (dk dtk_X3_isLinear 52 rfl) rfl h.1.1 h.2
  · have h := h.2 c1
    refine T_aload_n 0 (dk dtk_X3_isLinear 12 rfl) rfl rfl ?_
    refine T_getR 180 3 184 (dk dtk_X3_isLinear 13 rfl) kfl_X3_21 kk_180 (kl_180 hq hh) (by decide) rfl kr_180_3 ?_
    refine T_iload_n 2 (dk dtk_X3_isLinear 14 rfl) rfl rfl ?_
    obtain ⟨h10, h⟩ := h
    refine T_iald 184 12 (dk dtk_X3_isLinear 15 rfl) kk_184 (kl_184 hq hh) h10 ?_
    refine T_iload_n 1 (dk dtk_X3_isLinear 16 rfl) rfl rfl ?_
    refine T_icmp_ge 42 (dk dtk_X3_isLinear 17 rfl) (by decide) (fun c11 => ?_) (fun c11 => ?_)
    · have h := h.1 c11
      exact h
    · have h := h.2 c11
      refine T_aload_n 0 (dk dtk_X3_isLinear 18 rfl) rfl rfl ?_
      refine T_dup (dk dtk_X3_isLinear 19 rfl) rfl ?_
      refine T_getI 180 11 (dk dtk_X3_isLinear 20 rfl) kfl_X3_92 kk_180 (kl_180 hq hh) (by decide) rfl ?_
      refine T_iconst (v := 1) (dk dtk_X3_isLinear 21 rfl) (by decide +kernel) ?_
      refine T_iload_n 2 (dk dtk_X3_isLinear 22 rfl) rfl rfl ?_
      refine T_ishl (dk dtk_X3_isLinear 23 rfl) ?_
      refine T_ior (dk dtk_X3_isLinear 24 rfl) ?_
      obtain ⟨x12, ex12⟩ : ∃ z, z = si x 180 11 ((x.1 180 11) ||| (1 <<< (l2 &&& 31 : Int32))) := ⟨_, rfl⟩
      have h := h x12 ex12
      refine T_putI 180 11 (dk dtk_X3_isLinear 25 rfl) kfl_X3_92 kk_180 (kl_180 hq hh) (by decide) rfl ⟨rfl, rfl⟩ ?_
      rw [← ex12]
      exact h
set_option maxRecDepth 100000 in
set_option maxHeartbeats 4000000 in
theorem kg_X3_isLinear_42 {G : kG} {q : kP} {d : Nat} {x : gd} {P : Option gv → gd → Prop} (hq : kV q) (hh : q.hi = true) (l1 : Int32) (l2 : Int32)
    (h : vp_in l2 12 ∧ ((l1 ≤ (x.1 185 (l2 : Int32).toNatClampNeg) → KT G q (d + 1) zk_X3_isLinear 12 [(0, vr 180), (1, vi l1), (2, vi (l2 + 1))] [] x P) ∧ (¬ (l1 ≤ (x.1 185 (l2 : Int32).toNatClampNeg)) → (∀ x3 : gd, x3 = si x 180 12 ((x.1 180 12) ||| (1 <<< (l2 &&& 31 : Int32))) → KT G q (d + 1) zk_X3_isLinear 12 [(0, vr 180), (1, vi l1), (2, vi (l2 + 1))] [] x3 P)))) :
    KT G q (d + 1) zk_X3_isLinear 42 [(0, vr 180), (1, vi l1), (2, vi l2)] [] x P := by
  refine T_aload_n 0 (dk dtk_X3_isLinear 26 rfl) rfl rfl ?_
  refine T_getR 180 4 185 (dk dtk_X3_isLinear 27 rfl) kfl_X3_24 kk_180 (kl_180 hq hh) (by decide) rfl kr_180_4 ?_
  refine T_iload_n 2 (dk dtk_X3_isLinear 28 rfl) rfl rfl ?_
  obtain ⟨h1, h⟩ := h
  refine T_iald 185 12 (dk dtk_X3_isLinear 29 rfl) kk_185 (kl_185 hq hh) h1 ?_
  refine T_iload_n 1 (dk dtk_X3_isLinear 30 rfl) rfl rfl ?_
  refine T_icmp_ge 64 (dk dtk_X3_isLinear 31 rfl) (by decide) (fun c2 => ?_) (fun c2 => ?_)
  · have h := h.1 c2
    refine T_iinc (v := l2 + 1) (lv2 := [(2, vi (l2 + 1)), (0, vr 180), (1, vi l1)]) 2 (dk dtk_X3_isLinear 40 rfl) rfl rfl (by decide) rfl ?_
    refine T_goto 12 (dk dtk_X3_isLinear 41 rfl) (by decide) ?_
    exact T_sub [1, 2, 0] rfl h
  · have h := h.2 c2
    refine T_aload_n 0 (dk dtk_X3_isLinear 32 rfl) rfl rfl ?_
    refine T_dup (dk dtk_X3_isLinear 33 rfl) rfl ?_
    refine T_getI 180 12 (dk dtk_X3_isLinear 34 rfl) kfl_X3_95 kk_180 (kl_180 hq hh) (by decide) rfl ?_
    refine T_iconst (v := 1) (dk dtk_X3_isLinear 35 rfl) (by decide +kernel) ?_
    refine T_iload_n 2 (dk dtk_X3_isLinear 36 rfl) rfl rfl ?_
    refine T_ishl (dk dtk_X3_isLinear 37 rfl) ?_
    refine T_ior (dk dtk_X3_isLinear 38 rfl) ?_
    obtain ⟨x3, ex3⟩ : ∃ z, z = si x 180 12 ((x.1 180 12) ||| (1 <<< (l2 &&& 31 : Int32))) := ⟨_, rfl⟩
    have h := h x3 ex3
    refine T_putI 180 12 (dk dtk_X3_isLinear 39 rfl) kfl_X3_95 kk_180 (kl_180 hq hh) (by decide) rfl ⟨rfl, rfl⟩ ?_
    rw [← ex3]
    refine T_iinc (v := l2 + 1) (lv2 := [(2, vi (l2 + 1)), (0, vr 180), (1, vi l1)]) 2 (dk dtk_X3_isLinear 40 rfl) rfl rfl (by decide) rfl ?_
    refine T_goto 12 (dk dtk_X3_isLinear 41 rfl) (by decide) ?_
    exact T_sub [1, 2, 0] rfl h
set_option maxRecDepth 100000 in
theorem dtk_X3_canGoOn : dck cX3_canGoOn [(0, .aload_n 0, 1), (1, .getfield 95, 3), (4, .iload_n 2, 1), (5, .iconst (-1), 1), (6, .ixor, 1), (7, .iand, 1), (8, .ifCond .ne 5, 3), (11, .iconst 1, 1), (12, .ireturn, 1), (13, .iload_n 1, 1), (14, .bipush 12, 2), (16, .if_icmp .lt 5, 3), (19, .iconst 0, 1), (20, .ireturn, 1), (21, .aload_n 0, 1), (22, .getfield 92, 3), (25, .iload_n 2, 1), (26, .iconst (-1), 1), (27, .ixor, 1), (28, .iand, 1), (29, .istore_n 3, 1), (30, .iconst 0, 1), (31, .istore 4, 2), (33, .iload 4, 2), (35, .aload_n 0, 1), (36, .getfield 40, 3), (39, .if_icmp .ge 138, 3), (42, .iconst 1, 1), (43, .iload 4, 2), (45, .ishl, 1), (46, .istore 5, 2), (48, .iload_n 3, 1), (49, .iload 5, 2), (51, .iand, 1), (52, .ifCond .eq 119, 3), (55, .aload_n 0, 1), (56, .getfield 27, 3), (59, .iload 4, 2), (61, .iaload, 1), (62, .iload_n 2, 1), (63, .iconst (-1), 1), (64, .ixor, 1), (65, .iand, 1), (66, .ifCond .eq 6, 3), (69, .goto 102, 3), (72, .aload_n 0, 1), (73, .getfield 37, 3), (76, .iload_n 1, 1), (77, .aaload, 1), (78, .iconst 0, 1), (79, .aload_n 0, 1), (80, .getfield 37, 3), (83, .iload_n 1, 1), (84, .iconst 1, 1), (85, .iadd, 1), (86, .aaload, 1), (87, .iconst 0, 1), (88, .bipush 14, 2), (90, .invokestatic 102, 3), (93, .aload_n 0, 1), (94, .aload_n 0, 1), (95, .getfield 37, 3), (98, .iload_n 1, 1), (99, .iconst 1, 1), (100, .iadd, 1), (101, .aaload, 1), (102, .aload_n 0, 1), (103, .getfield 11, 3), (106, .iload 4, 2), (108, .iaload, 1), (109, .aload_n 0, 1), (110, .getfield 15, 3), (113, .iload 4, 2), (115, .iaload, 1), (116, .invokevirtual 108, 3), (119, .istore 6, 2), (121, .aload_n 0, 1), (122, .getfield 95, 3), (125, .iload 5, 2), (127, .iand, 1), (128, .ifCond .eq 15, 3), (131, .iload 6, 2), (133, .aload_n 0, 1), (134, .getfield 18, 3), (137, .iload 4, 2), (139, .iaload, 1), (140, .if_icmp .ne 7, 3), (143, .iconst 1, 1), (144, .goto 4, 3), (147, .iconst 0, 1), (148, .istore 7, 2), (150, .iload 7, 2), (152, .ifCond .eq 19, 3), (155, .aload_n 0, 1), (156, .iload_n 1, 1), (157, .iconst 1, 1), (158, .iadd, 1), (159, .iload_n 2, 1), (160, .iload 5, 2), (162, .ior, 1), (163, .invokevirtual 98, 3), (166, .ifCond .eq 5, 3), (169, .iconst 1, 1), (170, .ireturn, 1), (171, .iinc 4 1, 3), (174, .goto (-141), 3), (177, .iconst 0, 1), (178, .ireturn, 1)] = true := by decide +kernel
set_option maxRecDepth 100000 in
set_option maxHeartbeats 4000000 in
theorem kg_X3_canGoOn_0 {G : kG} {q : kP} {d : Nat} {x : gd} {P : Option gv → gd → Prop} (hq : kV q) (hh : q.hi = true) (l1 : Int32) (l2 : Int32)
    (h : ((¬ (((x.1 180 12) &&& (l2 ^^^ (-1))) = (0 : Int32)) → ((l1 < (12 : Int32) → KT G q (d + 2) zk_X3_canGoOn 33 [(0, vr 180), (1, vi l1), (2, vi l2), (3, vi ((x.1 180 11) &&& (l2 ^^^ (-1)))), (4, vi 0)] [] x P) ∧ (¬ (l1 < (12 : Int32)) → P (some (vi 0)) x))) ∧ (((x.1 180 12) &&& (l2 ^^^ (-1))) = (0 : Int32) → P (some (vi 1)) x))) :
    KT G q (d + 2) zk_X3_canGoOn 0 [(0, vr 180), (1, vi l1), (2, vi l2)] [] x P := by
  refine T_aload_n 0 (dk dtk_X3_canGoOn 0 rfl) rfl rfl ?_
  refine T_getI 180 12 (dk dtk_X3_canGoOn 1 rfl) kfl_X3_95 kk_180 (kl_180 hq hh) (by decide) rfl ?_
  refine T_iload_n 2 (dk dtk_X3_canGoOn 2 rfl) rfl rfl ?_
  refine T_iconst (v := (-1)) (dk dtk_X3_canGoOn 3 rfl) (by decide +kernel) ?_
  refine T_ixor (dk dtk_X3_canGoOn 4 rfl) ?_
  refine T_iand (dk dtk_X3_canGoOn 5 rfl) ?_
  refine T_if_ne 13 (dk dtk_X3_canGoOn 6 rfl) (by decide) (fun c1 => ?_) (fun c1 => ?_)
  · have h := h.1 c1
    refine T_iload_n 1 (dk dtk_X3_canGoOn 9 rfl) rfl rfl ?_
    refine T_bipush (v := 12) (dk dtk_X3_canGoOn 10 rfl) (by decide +kernel) ?_
    refine T_icmp_lt 21 (dk dtk_X3_canGoOn 11 rfl) (by decide) (fun c2 => ?_) (fun c2 => ?_)
    · have h := h.1 c2
      refine T_aload_n 0 (dk dtk_X3_canGoOn 14 rfl) rfl rfl ?_
      refine T_getI 180 11 (dk dtk_X3_canGoOn 15 rfl) kfl_X3_92 kk_180 (kl_180 hq hh) (by decide) rfl ?_
      refine T_iload_n 2 (dk dtk_X3_canGoOn 16 rfl) rfl rfl ?_
      refine T_iconst (v := (-1)) (dk dtk_X3_canGoOn 17 rfl) (by decide +kernel) ?_
      refine T_ixor (dk dtk_X3_canGoOn 18 rfl) ?_
      refine T_iand (dk dtk_X3_canGoOn 19 rfl) ?_
      refine T_istore_n (lv2 := [(3, vi ((x.1 180 11) &&& (l2 ^^^ (-1)))), (0, vr 180), (1, vi l1), (2, vi l2)]) (dk dtk_X3_canGoOn 20 rfl) rfl (by decide) rfl ?_
      refine T_iconst (v := 0) (dk dtk_X3_canGoOn 21 rfl) (by decide +kernel) ?_
      refine T_istore (lv2 := [(4, vi 0), (3, vi ((x.1 180 11) &&& (l2 ^^^ (-1)))), (0, vr 180), (1, vi l1), (2, vi l2)]) (dk dtk_X3_canGoOn 22 rfl) (by decide) rfl ?_
      exact T_sub [2, 3, 4, 1, 0] rfl h
    · have h := h.2 c2
      refine T_iconst (v := 0) (dk dtk_X3_canGoOn 12 rfl) (by decide +kernel) ?_
      exact KT_iret (dk dtk_X3_canGoOn 13 rfl) rfl rfl h
  · have h := h.2 c1
    refine T_iconst (v := 1) (dk dtk_X3_canGoOn 7 rfl) (by decide +kernel) ?_
    exact KT_iret (dk dtk_X3_canGoOn 8 rfl) rfl rfl h
set_option maxRecDepth 100000 in
set_option maxHeartbeats 4000000 in
theorem kg_X3_canGoOn_33 {G : kG} {q : kP} {d : Nat} {x : gd} {P : Option gv → gd → Prop} (hq : kV q) (hh : q.hi = true) (l1 : Int32) (l2 : Int32) (l3 : Int32) (l4 : Int32)
    (h : (((x.1 180 6) ≤ l4 → P (some (vi 0)) x) ∧ (¬ ((x.1 180 6) ≤ l4) → (((l3 &&& (1 <<< (l4 &&& 31 : Int32))) = (0 : Int32) → KT G q (d + 2) zk_X3_canGoOn 33 [(0, vr 180), (1, vi l1), (2, vi l2), (3, vi l3), (4, vi (l4 + 1))] [] x P) ∧ (¬ ((l3 &&& (1 <<< (l4 &&& 31 : Int32))) = (0 : Int32)) → vp_in l4 12 ∧ ((((x.1 186 (l4 : Int32).toNatClampNeg) &&& (l2 ^^^ (-1))) = (0 : Int32) → vp_in l1 13 ∧ (∀ u6, u6 = (kf q).1 190 (l1 : Int32).toNatClampNeg → vp_in (l1 + 1) 13 ∧ (∀ u8, u8 = (kf q).1 190 (l1 + 1 : Int32).toNatClampNeg → ∃ c9, u6 = some c9 ∧ kK c9 = .inr (.int, 14) ∧ c9 ∈ (kf q).2.1 ∧ ∃ c12, u8 = some c12 ∧ kK c12 = .inr (.int, 14) ∧ c12 ∈ (kf q).2.1 ∧ ¬ (0 : Int32) < 0 ∧ ¬ (0 : Int32) < 0 ∧ ¬ (14 : Int32) < 0 ∧ (0 : Int32).toNatClampNeg + (14 : Int32).toNatClampNeg ≤ 14 ∧ (0 : Int32).toNatClampNeg + (14 : Int32).toNatClampNeg ≤ 14 ∧ (∀ x20 : gd, x20 = scp x c9 c12 (0 : Int32).toNatClampNeg (0 : Int32).toNatClampNeg (14 : Int32).toNatClampNeg → vp_in (l1 + 1) 13 ∧ (∀ u22, u22 = (kf q).1 190 (l1 + 1 : Int32).toNatClampNeg → vp_in l4 12 ∧ vp_in l4 12 ∧ ∃ c25, u22 = some c25 ∧ kK c25 = .inr (.int, 14) ∧ c25 ∈ (kf q).2.1 ∧ KT G q (d + 1) zk_X3_serve 0 [(0, vr 180), (1, vr c25), (2, vi (x20.1 181 (l4 : Int32).toNatClampNeg)), (3, vi (x20.1 182 (l4 : Int32).toNatClampNeg))] [] x20 (ri (fun r29 x28 => ((((x28.1 180 12) &&& (1 <<< (l4 &&& 31 : Int32))) = (0 : Int32) → KT G q (d + 2) zk_X3_canGoOn 148 [(0, vr 180), (1, vi l1), (2, vi l2), (3, vi l3), (4, vi l4), (5, vi (1 <<< (l4 &&& 31 : Int32)))] [vi 1] x28 P) ∧ (¬ (((x28.1 180 12) &&& (1 <<< (l4 &&& 31 : Int32))) = (0 : Int32)) → vp_in l4 12 ∧ ((¬ (r29 = (x28.1 183 (l4 : Int32).toNatClampNeg)) → KT G q (d + 2) zk_X3_canGoOn 148 [(0, vr 180), (1, vi l1), (2, vi l2), (3, vi l3), (4, vi l4), (5, vi (1 <<< (l4 &&& 31 : Int32)))] [vi 0] x28 P) ∧ (r29 = (x28.1 183 (l4 : Int32).toNatClampNeg) → KT G q (d + 2) zk_X3_canGoOn 148 [(0, vr 180), (1, vi l1), (2, vi l2), (3, vi l3), (4, vi l4), (5, vi (1 <<< (l4 &&& 31 : Int32)))] [vi 1] x28 P))))))))))) ∧ (¬ (((x.1 186 (l4 : Int32).toNatClampNeg) &&& (l2 ^^^ (-1))) = (0 : Int32)) → KT G q (d + 2) zk_X3_canGoOn 33 [(0, vr 180), (1, vi l1), (2, vi l2), (3, vi l3), (4, vi (l4 + 1))] [] x P))))))) :
    KT G q (d + 2) zk_X3_canGoOn 33 [(0, vr 180), (1, vi l1), (2, vi l2), (3, vi l3), (4, vi l4)] [] x P := by
  refine T_iload 4 (dk dtk_X3_canGoOn 23 rfl) rfl ?_
  refine T_aload_n 0 (dk dtk_X3_canGoOn 24 rfl) rfl rfl ?_
  refine T_getI 180 6 (dk dtk_X3_canGoOn 25 rfl) kfl_X3_40 kk_180 (kl_180 hq hh) (by decide) rfl ?_
  refine T_icmp_ge 177 (dk dtk_X3_canGoOn 26 rfl) (by decide) (fun c1 => ?_) (fun c1 => ?_)
  · have h := h.1 c1
    refine T_iconst (v := 0) (dk dtk_X3_canGoOn 106 rfl) (by decide +kernel) ?_
    exact KT_iret (dk dtk_X3_canGoOn 107 rfl) rfl rfl h
  · have h := h.2 c1
    refine T_iconst (v := 1) (dk dtk_X3_canGoOn 27 rfl) (by decide +kernel) ?_
    refine T_iload 4 (dk dtk_X3_canGoOn 28 rfl) rfl ?_
    refine T_ishl (dk dtk_X3_canGoOn 29 rfl) ?_
    refine T_istore (lv2 := [(5, vi (1 <<< (l4 &&& 31 : Int32))), (0, vr 180), (1, vi l1), (2, vi l2), (3, vi l3), (4, vi l4)]) (dk dtk_X3_canGoOn 30 rfl) (by decide) rfl ?_
    refine T_iload_n 4 (dk dtk_X3_canGoOn 31 rfl) rfl rfl ?_
    refine T_iload 0 (dk dtk_X3_canGoOn 32 rfl) rfl ?_
    refine T_iand (dk dtk_X3_canGoOn 33 rfl) ?_
    refine T_if_eq 171 (dk dtk_X3_canGoOn 34 rfl) (by decide) (fun c2 => ?_) (fun c2 => ?_)
    · have h := h.1 c2
      refine T_iinc (v := l4 + 1) (lv2 := [(4, vi (l4 + 1)), (5, vi (1 <<< (l4 &&& 31 : Int32))), (0, vr 180), (1, vi l1), (2, vi l2), (3, vi l3)]) 5 (dk dtk_X3_canGoOn 104 rfl) rfl rfl (by decide) rfl ?_
      refine T_goto 33 (dk dtk_X3_canGoOn 105 rfl) (by decide) ?_
      exact T_sub [2, 3, 4, 5, 0] rfl h
    · have h := h.2 c2
      refine T_aload_n 1 (dk dtk_X3_canGoOn 35 rfl) rfl rfl ?_
      refine T_getR 180 5 186 (dk dtk_X3_canGoOn 36 rfl) kfl_X3_27 kk_180 (kl_180 hq hh) (by decide) rfl kr_180_5 ?_
      refine T_iload 5 (dk dtk_X3_canGoOn 37 rfl) rfl ?_
      obtain ⟨h3, h⟩ := h
      refine T_iald 186 12 (dk dtk_X3_canGoOn 38 rfl) kk_186 (kl_186 hq hh) h3 ?_
      refine T_iload_n 3 (dk dtk_X3_canGoOn 39 rfl) rfl rfl ?_
      refine T_iconst (v := (-1)) (dk dtk_X3_canGoOn 40 rfl) (by decide +kernel) ?_
      refine T_ixor (dk dtk_X3_canGoOn 41 rfl) ?_
      refine T_iand (dk dtk_X3_canGoOn 42 rfl) ?_
      refine T_if_eq 72 (dk dtk_X3_canGoOn 43 rfl) (by decide) (fun c4 => ?_) (fun c4 => ?_)
      · have h := h.1 c4
        refine T_aload_n 1 (dk dtk_X3_canGoOn 45 rfl) rfl rfl ?_
        refine T_getR 180 9 190 (dk dtk_X3_canGoOn 46 rfl) kfl_X3_37 kk_180 (kl_180 hq hh) (by decide) rfl kr_180_9 ?_
        refine T_iload_n 2 (dk dtk_X3_canGoOn 47 rfl) rfl rfl ?_
        obtain ⟨h5, h⟩ := h
        obtain ⟨u6, eu6⟩ : ∃ z, z = (kf q).1 190 (l1 : Int32).toNatClampNeg := ⟨_, rfl⟩
        have h := h u6 eu6
        refine T_aaldI 190 13 (dk dtk_X3_canGoOn 48 rfl) kk_190 (kl_190 hq hh) h5 ?_
        rw [← eu6]
        refine T_iconst (v := 0) (dk dtk_X3_canGoOn 49 rfl) (by decide +kernel) ?_
        refine T_aload_n 1 (dk dtk_X3_canGoOn 50 rfl) rfl rfl ?_
        refine T_getR 180 9 190 (dk dtk_X3_canGoOn 51 rfl) kfl_X3_37 kk_180 (kl_180 hq hh) (by decide) rfl kr_180_9 ?_
        refine T_iload_n 2 (dk dtk_X3_canGoOn 52 rfl) rfl rfl ?_
        refine T_iconst (v := 1) (dk dtk_X3_canGoOn 53 rfl) (by decide +kernel) ?_
        refine T_iadd (dk dtk_X3_canGoOn 54 rfl) ?_
        obtain ⟨h7, h⟩ := h
        obtain ⟨u8, eu8⟩ : ∃ z, z = (kf q).1 190 (l1 + 1 : Int32).toNatClampNeg := ⟨_, rfl⟩
        have h := h u8 eu8
        refine T_aaldI 190 13 (dk dtk_X3_canGoOn 55 rfl) kk_190 (kl_190 hq hh) h7 ?_
        rw [← eu8]
        refine T_iconst (v := 0) (dk dtk_X3_canGoOn 56 rfl) (by decide +kernel) ?_
        refine T_bipush (v := 14) (dk dtk_X3_canGoOn 57 rfl) (by decide +kernel) ?_
        obtain ⟨c9, rfl, g10, g11, h⟩ := h
        obtain ⟨c12, rfl, g13, g14, h⟩ := h
        obtain ⟨h15, h16, h17, h18, h19, h⟩ := h
        obtain ⟨x20, ex20⟩ : ∃ z, z = scp x c9 c12 (0 : Int32).toNatClampNeg (0 : Int32).toNatClampNeg (14 : Int32).toNatClampNeg := ⟨_, rfl⟩
        have h := h x20 ex20
        refine T_copy c9 c12 14 14 (dk dtk_X3_canGoOn 58 rfl) kcy_X3_102 g10 g11 g13 g14 (by omega) (Nat.le_of_ble_eq_true rfl) h15 h16 h17 h18 h19 ?_
        rw [← ex20]
        refine T_aload_n 1 (dk dtk_X3_canGoOn 59 rfl) rfl rfl ?_
        refine T_aload_n 1 (dk dtk_X3_canGoOn 60 rfl) rfl rfl ?_
        refine T_getR 180 9 190 (dk dtk_X3_canGoOn 61 rfl) kfl_X3_37 kk_180 (kl_180 hq hh) (by decide) rfl kr_180_9 ?_
        refine T_iload_n 2 (dk dtk_X3_canGoOn 62 rfl) rfl rfl ?_
        refine T_iconst (v := 1) (dk dtk_X3_canGoOn 63 rfl) (by decide +kernel) ?_
        refine T_iadd (dk dtk_X3_canGoOn 64 rfl) ?_
        obtain ⟨h21, h⟩ := h
        obtain ⟨u22, eu22⟩ : ∃ z, z = (kf q).1 190 (l1 + 1 : Int32).toNatClampNeg := ⟨_, rfl⟩
        have h := h u22 eu22
        refine T_aaldI 190 13 (dk dtk_X3_canGoOn 65 rfl) kk_190 (kl_190 hq hh) h21 ?_
        rw [← eu22]
        refine T_aload_n 1 (dk dtk_X3_canGoOn 66 rfl) rfl rfl ?_
        refine T_getR 180 0 181 (dk dtk_X3_canGoOn 67 rfl) kfl_X3_11 kk_180 (kl_180 hq hh) (by decide) rfl kr_180_0 ?_
        refine T_iload 5 (dk dtk_X3_canGoOn 68 rfl) rfl ?_
        obtain ⟨h23, h⟩ := h
        refine T_iald 181 12 (dk dtk_X3_canGoOn 69 rfl) kk_181 (kl_181 hq hh) h23 ?_
        refine T_aload_n 1 (dk dtk_X3_canGoOn 70 rfl) rfl rfl ?_
        refine T_getR 180 1 182 (dk dtk_X3_canGoOn 71 rfl) kfl_X3_15 kk_180 (kl_180 hq hh) (by decide) rfl kr_180_1 ?_
        refine T_iload 5 (dk dtk_X3_canGoOn 72 rfl) rfl ?_
        obtain ⟨h24, h⟩ := h
        refine T_iald 182 12 (dk dtk_X3_canGoOn 73 rfl) kk_182 (kl_182 hq hh) h24 ?_
        obtain ⟨c25, rfl, g26, g27, h⟩ := h
        refine KC_Vi [vr c25, vi (x20.1 181 (l4 : Int32).toNatClampNeg), vi (x20.1 182 (l4 : Int32).toNatClampNeg)] [] rfl (dk dtk_X3_canGoOn 74 rfl) kcv_X3_108 rfl kk_180 rfl (kl_180 hq hh) (Nat.le_of_ble_eq_true rfl) (Nat.le_of_ble_eq_true rfl) (gok_i (av_c rfl (av_c (gkr (kl_180 hq hh)) (av_c rfl (av_c rfl (av_c rfl (av_c rfl av_n)))))) as_n) rfl h (fun r29 x28 h => ?_)
        refine T_istore (lv2 := [(6, vi r29), (5, vi (1 <<< (l4 &&& 31 : Int32))), (0, vr 180), (1, vi l1), (2, vi l2), (3, vi l3), (4, vi l4)]) (dk dtk_X3_canGoOn 75 rfl) (by decide) rfl ?_
        refine T_aload_n 2 (dk dtk_X3_canGoOn 76 rfl) rfl rfl ?_
        refine T_getI 180 12 (dk dtk_X3_canGoOn 77 rfl) kfl_X3_95 kk_180 (kl_180 hq hh) (by decide) rfl ?_
        refine T_iload 1 (dk dtk_X3_canGoOn 78 rfl) rfl ?_
        refine T_iand (dk dtk_X3_canGoOn 79 rfl) ?_
        refine T_if_eq 143 (dk dtk_X3_canGoOn 80 rfl) (by decide) (fun c30 => ?_) (fun c30 => ?_)
        · have h := h.1 c30
          refine T_iconst (v := 1) (dk dtk_X3_canGoOn 87 rfl) (by decide +kernel) ?_
          refine T_goto 148 (dk dtk_X3_canGoOn 88 rfl) (by decide) ?_
          exact T_sub [2, 3, 4, 5, 6, 1] rfl h
        · have h := h.2 c30
          refine T_iload 0 (dk dtk_X3_canGoOn 81 rfl) rfl ?_
          refine T_aload_n 2 (dk dtk_X3_canGoOn 82 rfl) rfl rfl ?_
          refine T_getR 180 2 183 (dk dtk_X3_canGoOn 83 rfl) kfl_X3_18 kk_180 (kl_180 hq hh) (by decide) rfl kr_180_2 ?_
          refine T_iload 6 (dk dtk_X3_canGoOn 84 rfl) rfl ?_
          obtain ⟨h31, h⟩ := h
          refine T_iald 183 12 (dk dtk_X3_canGoOn 85 rfl) kk_183 (kl_183 hq hh) h31 ?_
          refine T_icmp_ne 147 (dk dtk_X3_canGoOn 86 rfl) (by decide) (fun c32 => ?_) (fun c32 => ?_)
          · have h := h.1 c32
            refine T_iconst (v := 0) (dk dtk_X3_canGoOn 89 rfl) (by decide +kernel) ?_
            exact T_sub [2, 3, 4, 5, 6, 1] rfl h
          · have h := h.2 c32
            refine T_iconst (v := 1) (dk dtk_X3_canGoOn 87 rfl) (by decide +kernel) ?_
            refine T_goto 148 (dk dtk_X3_canGoOn 88 rfl) (by decide) ?_
            exact T_sub [2, 3, 4, 5, 6, 1] rfl h
      · have h := h.2 c4
        refine T_goto 171 (dk dtk_X3_canGoOn 44 rfl) (by decide) ?_
        refine T_iinc (v := l4 + 1) (lv2 := [(4, vi (l4 + 1)), (5, vi (1 <<< (l4 &&& 31 : Int32))), (0, vr 180), (1, vi l1), (2, vi l2), (3, vi l3)]) 5 (dk dtk_X3_canGoOn 104 rfl) rfl rfl (by decide) rfl ?_
        refine T_goto 33 (dk dtk_X3_canGoOn 105 rfl) (by decide) ?_
        exact T_sub [2, 3, 4, 5, 0] rfl h
set_option maxRecDepth 100000 in
set_option maxHeartbeats 4000000 in
theorem kg_X3_canGoOn_148 {G : kG} {q : kP} {d : Nat} {x : gd} {P : Option gv → gd → Prop} (hq : kV q) (hh : q.hi = true) (l1 : Int32) (l2 : Int32) (l3 : Int32) (l4 : Int32) (l5 : Int32) (s0 : Int32)
    (h : ((s0 = (0 : Int32) → KT G q (d + 2) zk_X3_canGoOn 33 [(0, vr 180), (1, vi l1), (2, vi l2), (3, vi l3), (4, vi (l4 + 1))] [] x P) ∧ (¬ (s0 = (0 : Int32)) → KT G q (d + 1) zk_X3_canGoOn 0 [(0, vr 180), (1, vi (l1 + 1)), (2, vi (l2 ||| l5))] [] x (ri (fun r3 x2 => ((r3 = (0 : Int32) → KT G q (d + 2) zk_X3_canGoOn 33 [(0, vr 180), (1, vi l1), (2, vi l2), (3, vi l3), (4, vi (l4 + 1))] [] x2 P) ∧ (¬ (r3 = (0 : Int32)) → P (some (vi 1)) x2))))))) :
    KT G q (d + 2) zk_X3_canGoOn 148 [(0, vr 180), (1, vi l1), (2, vi l2), (3, vi l3), (4, vi l4), (5, vi l5)] [vi s0] x P := by
  refine T_istore (lv2 := [(7, vi s0), (0, vr 180), (1, vi l1), (2, vi l2), (3, vi l3), (4, vi l4), (5, vi l5)]) (dk dtk_X3_canGoOn 90 rfl) (by decide) rfl ?_
  refine T_iload 0 (dk dtk_X3_canGoOn 91 rfl) rfl ?_
  refine T_if_eq 171 (dk dtk_X3_canGoOn 92 rfl) (by decide) (fun c1 => ?_) (fun c1 => ?_)
  · have h := h.1 c1
    refine T_iinc (v := l4 + 1) (lv2 := [(4, vi (l4 + 1)), (7, vi s0), (0, vr 180), (1, vi l1), (2, vi l2), (3, vi l3), (5, vi l5)]) 5 (dk dtk_X3_canGoOn 104 rfl) rfl rfl (by decide) rfl ?_
    refine T_goto 33 (dk dtk_X3_canGoOn 105 rfl) (by decide) ?_
    exact T_sub [2, 3, 4, 5, 0] rfl h
  · have h := h.2 c1
    refine T_aload_n 1 (dk dtk_X3_canGoOn 93 rfl) rfl rfl ?_
    refine T_iload_n 2 (dk dtk_X3_canGoOn 94 rfl) rfl rfl ?_
    refine T_iconst (v := 1) (dk dtk_X3_canGoOn 95 rfl) (by decide +kernel) ?_
    refine T_iadd (dk dtk_X3_canGoOn 96 rfl) ?_
    refine T_iload_n 3 (dk dtk_X3_canGoOn 97 rfl) rfl rfl ?_
    refine T_iload 6 (dk dtk_X3_canGoOn 98 rfl) rfl ?_
    refine T_ior (dk dtk_X3_canGoOn 99 rfl) ?_
    refine T_sub (lv2 := [(0, vr 180), (1, vi l1), (2, vi l2), (3, vi l3), (4, vi l4)]) [1, 2, 3, 4, 5] rfl ?_
    refine KC_Vi [vi (l1 + 1), vi (l2 ||| l5)] [] rfl (dk dtk_X3_canGoOn 100 rfl) kcv_X3_98 rfl kk_180 rfl (kl_180 hq hh) (Nat.le_of_ble_eq_true rfl) (Nat.le_of_ble_eq_true rfl) (gok_i (av_c (gkr (kl_180 hq hh)) (av_c rfl (av_c rfl (av_c rfl (av_c rfl av_n))))) as_n) rfl h (fun r3 x2 h => ?_)
    refine T_if_eq 171 (dk dtk_X3_canGoOn 101 rfl) (by decide) (fun c4 => ?_) (fun c4 => ?_)
    · have h := h.1 c4
      refine T_iinc (v := l4 + 1) (lv2 := [(4, vi (l4 + 1)), (0, vr 180), (1, vi l1), (2, vi l2), (3, vi l3)]) 4 (dk dtk_X3_canGoOn 104 rfl) rfl rfl (by decide) rfl ?_
      refine T_goto 33 (dk dtk_X3_canGoOn 105 rfl) (by decide) ?_
      exact T_sub [1, 2, 3, 4, 0] rfl h
    · have h := h.2 c4
      refine T_iconst (v := 1) (dk dtk_X3_canGoOn 102 rfl) (by decide +kernel) ?_
      exact KT_iret (dk dtk_X3_canGoOn 103 rfl) rfl rfl h
set_option maxRecDepth 100000 in
theorem dtk_X3_serve : dck cX3_serve [(0, .aload_n 0, 1), (1, .getfield 85, 3), (4, .ifCond .ne 10, 3), (7, .aload_n 1, 1), (8, .iload_n 2, 1), (9, .iload_n 3, 1), (10, .invokestatic 112, 3), (13, .ireturn, 1), (14, .aload_n 0, 1), (15, .getfield 85, 3), (18, .iconst 3, 1), (19, .if_icmp .ne 12, 3), (22, .aload_n 1, 1), (23, .iload_n 2, 1), (24, .iload_n 3, 1), (25, .invokestatic 115, 3), (28, .goto 10, 3), (31, .aload_n 0, 1), (32, .aload_n 1, 1), (33, .iload_n 2, 1), (34, .iload_n 3, 1), (35, .invokevirtual 118, 3), (38, .ireturn, 1)] = true := by decide +kernel
set_option maxRecDepth 100000 in
set_option maxHeartbeats 4000000 in
theorem kg_X3_serve_0 {G : kG} {q : kP} {d : Nat} {x : gd} {P : Option gv → gd → Prop} (hq : kV q) (hh : q.hi = true) {a1 n1 : Nat} (ka1 : kK a1 = .inr (.int, n1)) (ma1 : a1 ∈ (kf q).2.1) (l2 : Int32) (l3 : Int32)
    (h : ((¬ ((x.1 180 10) = (0 : Int32)) → ((¬ ((x.1 180 10) = (3 : Int32)) → KT G q d zk_X3_serveRow 0 [(0, vr 180), (1, vr a1), (2, vi l2), (3, vi l3)] [] x (ri (fun r4 x3 => P (some (vi r4)) x3))) ∧ ((x.1 180 10) = (3 : Int32) → KT G q d zk_X3_serveSet 0 [(0, vr a1), (1, vi l2), (2, vi l3)] [] x (ri (fun r6 x5 => P (some (vi r6)) x5))))) ∧ ((x.1 180 10) = (0 : Int32) → KT G q d zk_X3_serveCell 0 [(0, vr a1), (1, vi l2), (2, vi l3)] [] x (ri (fun r8 x7 => P (some (vi r8)) x7))))) :
    KT G q (d + 1) zk_X3_serve 0 [(0, vr 180), (1, vr a1), (2, vi l2), (3, vi l3)] [] x P := by
  refine T_aload_n 0 (dk dtk_X3_serve 0 rfl) rfl rfl ?_
  refine T_getI 180 10 (dk dtk_X3_serve 1 rfl) kfl_X3_85 kk_180 (kl_180 hq hh) (by decide) rfl ?_
  refine T_if_ne 14 (dk dtk_X3_serve 2 rfl) (by decide) (fun c1 => ?_) (fun c1 => ?_)
  · have h := h.1 c1
    refine T_aload_n 0 (dk dtk_X3_serve 8 rfl) rfl rfl ?_
    refine T_getI 180 10 (dk dtk_X3_serve 9 rfl) kfl_X3_85 kk_180 (kl_180 hq hh) (by decide) rfl ?_
    refine T_iconst (v := 3) (dk dtk_X3_serve 10 rfl) (by decide +kernel) ?_
    refine T_icmp_ne 31 (dk dtk_X3_serve 11 rfl) (by decide) (fun c2 => ?_) (fun c2 => ?_)
    · have h := h.1 c2
      refine T_aload_n 0 (dk dtk_X3_serve 17 rfl) rfl rfl ?_
      refine T_aload_n 1 (dk dtk_X3_serve 18 rfl) rfl rfl ?_
      refine T_iload_n 2 (dk dtk_X3_serve 19 rfl) rfl rfl ?_
      refine T_iload_n 3 (dk dtk_X3_serve 20 rfl) rfl rfl ?_
      refine T_sub (lv2 := []) [] rfl ?_
      refine KC_Vi [vr a1, vi l2, vi l3] [] rfl (dk dtk_X3_serve 21 rfl) kcv_X3_118 rfl kk_180 rfl (kl_180 hq hh) (Nat.le_of_ble_eq_true rfl) (Nat.le_of_ble_eq_true rfl) (gok_i av_n as_n) rfl h (fun r4 x3 h => ?_)
      exact KT_iret (dk dtk_X3_serve 22 rfl) rfl rfl h
    · have h := h.2 c2
      refine T_aload_n 1 (dk dtk_X3_serve 12 rfl) rfl rfl ?_
      refine T_iload_n 2 (dk dtk_X3_serve 13 rfl) rfl rfl ?_
      refine T_iload_n 3 (dk dtk_X3_serve 14 rfl) rfl rfl ?_
      refine T_sub (lv2 := []) [] rfl ?_
      refine KC_Si [vr a1, vi l2, vi l3] [] rfl (dk dtk_X3_serve 15 rfl) kcs_X3_115 rfl (Nat.le_of_ble_eq_true rfl) (Nat.le_of_ble_eq_true rfl) (gok_i av_n as_n) rfl h (fun r6 x5 h => ?_)
      refine T_goto 38 (dk dtk_X3_serve 16 rfl) (by decide) ?_
      exact KT_iret (dk dtk_X3_serve 22 rfl) rfl rfl h
  · have h := h.2 c1
    refine T_aload_n 1 (dk dtk_X3_serve 3 rfl) rfl rfl ?_
    refine T_iload_n 2 (dk dtk_X3_serve 4 rfl) rfl rfl ?_
    refine T_iload_n 3 (dk dtk_X3_serve 5 rfl) rfl rfl ?_
    refine T_sub (lv2 := []) [] rfl ?_
    refine KC_Si [vr a1, vi l2, vi l3] [] rfl (dk dtk_X3_serve 6 rfl) kcs_X3_112 rfl (Nat.le_of_ble_eq_true rfl) (Nat.le_of_ble_eq_true rfl) (gok_i av_n as_n) rfl h (fun r8 x7 h => ?_)
    exact KT_iret (dk dtk_X3_serve 7 rfl) rfl rfl h
set_option maxRecDepth 100000 in
theorem dtk_X3_serveCell : dck cX3_serveCell [(0, .aload_n 0, 1), (1, .iconst 0, 1), (2, .iaload, 1), (3, .istore_n 3, 1), (4, .iload_n 1, 1), (5, .iconst 1, 1), (6, .if_icmp .eq 18, 3), (9, .aload_n 0, 1), (10, .iconst 0, 1), (11, .iload_n 1, 1), (12, .iconst 2, 1), (13, .if_icmp .ne 9, 3), (16, .iload_n 3, 1), (17, .iload_n 2, 1), (18, .iadd, 1), (19, .goto 4, 3), (22, .iload_n 2, 1), (23, .iastore, 1), (24, .iload_n 1, 1), (25, .ifCond .ne 7, 3), (28, .iconst 0, 1), (29, .goto 4, 3), (32, .iload_n 3, 1), (33, .ireturn, 1)] = true := by decide +kernel
set_option maxRecDepth 100000 in
set_option maxHeartbeats 4000000 in
theorem kg_X3_serveCell_0 {G : kG} {q : kP} {d : Nat} {x : gd} {P : Option gv → gd → Prop} (hq : kV q) (hh : q.hi = true) {a0 n0 : Nat} (ka0 : kK a0 = .inr (.int, n0)) (ma0 : a0 ∈ (kf q).2.1) (l1 : Int32) (l2 : Int32)
    (h : vp_in 0 n0 ∧ ((l1 = (1 : Int32) → KT G q d zk_X3_serveCell 24 [(1, vi l1), (3, vi (x.1 a0 (0 : Int32).toNatClampNeg))] [] x P) ∧ (¬ (l1 = (1 : Int32)) → ((¬ (l1 = (2 : Int32)) → vp_in 0 n0 ∧ (∀ x5 : gd, x5 = si x a0 (0 : Int32).toNatClampNeg l2 → KT G q d zk_X3_serveCell 24 [(1, vi l1), (3, vi (x.1 a0 (0 : Int32).toNatClampNeg))] [] x5 P)) ∧ (l1 = (2 : Int32) → vp_in 0 n0 ∧ (∀ x7 : gd, x7 = si x a0 (0 : Int32).toNatClampNeg ((x.1 a0 (0 : Int32).toNatClampNeg) + l2) → KT G q d zk_X3_serveCell 24 [(1, vi l1), (3, vi (x.1 a0 (0 : Int32).toNatClampNeg))] [] x7 P)))))) :
    KT G q d zk_X3_serveCell 0 [(0, vr a0), (1, vi l1), (2, vi l2)] [] x P := by
  refine T_aload_n 0 (dk dtk_X3_serveCell 0 rfl) rfl rfl ?_
  refine T_iconst (v := 0) (dk dtk_X3_serveCell 1 rfl) (by decide +kernel) ?_
  obtain ⟨h1, h⟩ := h
  refine T_iald a0 n0 (dk dtk_X3_serveCell 2 rfl) ka0 ma0 h1 ?_
  refine T_istore_n (lv2 := [(3, vi (x.1 a0 (0 : Int32).toNatClampNeg)), (0, vr a0), (1, vi l1), (2, vi l2)]) (dk dtk_X3_serveCell 3 rfl) rfl (by decide) rfl ?_
  refine T_iload_n 2 (dk dtk_X3_serveCell 4 rfl) rfl rfl ?_
  refine T_iconst (v := 1) (dk dtk_X3_serveCell 5 rfl) (by decide +kernel) ?_
  refine T_icmp_eq 24 (dk dtk_X3_serveCell 6 rfl) (by decide) (fun c2 => ?_) (fun c2 => ?_)
  · have h := h.1 c2
    exact T_sub [2, 0] rfl h
  · have h := h.2 c2
    refine T_aload_n 1 (dk dtk_X3_serveCell 7 rfl) rfl rfl ?_
    refine T_iconst (v := 0) (dk dtk_X3_serveCell 8 rfl) (by decide +kernel) ?_
    refine T_iload_n 2 (dk dtk_X3_serveCell 9 rfl) rfl rfl ?_
    refine T_iconst (v := 2) (dk dtk_X3_serveCell 10 rfl) (by decide +kernel) ?_
    refine T_icmp_ne 22 (dk dtk_X3_serveCell 11 rfl) (by decide) (fun c3 => ?_) (fun c3 => ?_)
    · have h := h.1 c3
      refine T_iload_n 3 (dk dtk_X3_serveCell 16 rfl) rfl rfl ?_
      obtain ⟨h4, h⟩ := h
      obtain ⟨x5, ex5⟩ : ∃ z, z = si x a0 (0 : Int32).toNatClampNeg l2 := ⟨_, rfl⟩
      have h := h x5 ex5
      refine T_iast a0 n0 (dk dtk_X3_serveCell 17 rfl) ka0 ma0 h4 ?_
      rw [← ex5]
      exact T_sub [2, 0] rfl h
    · have h := h.2 c3
      refine T_iload_n 0 (dk dtk_X3_serveCell 12 rfl) rfl rfl ?_
      refine T_iload_n 3 (dk dtk_X3_serveCell 13 rfl) rfl rfl ?_
      refine T_iadd (dk dtk_X3_serveCell 14 rfl) ?_
      refine T_goto 23 (dk dtk_X3_serveCell 15 rfl) (by decide) ?_
      obtain ⟨h6, h⟩ := h
      obtain ⟨x7, ex7⟩ : ∃ z, z = si x a0 (0 : Int32).toNatClampNeg ((x.1 a0 (0 : Int32).toNatClampNeg) + l2) := ⟨_, rfl⟩
      have h := h x7 ex7
      refine T_iast a0 n0 (dk dtk_X3_serveCell 17 rfl) ka0 ma0 h6 ?_
      rw [← ex7]
      exact T_sub [2, 0] rfl h
set_option maxRecDepth 100000 in
set_option maxHeartbeats 4000000 in
theorem kg_X3_serveCell_24 {G : kG} {q : kP} {d : Nat} {x : gd} {P : Option gv → gd → Prop} (hq : kV q) (hh : q.hi = true) {a0 n0 : Nat} (ka0 : kK a0 = .inr (.int, n0)) (ma0 : a0 ∈ (kf q).2.1) (l1 : Int32) (l3 : Int32)
    (h : ((¬ (l1 = (0 : Int32)) → P (some (vi l3)) x) ∧ (l1 = (0 : Int32) → P (some (vi 0)) x))) :
    KT G q d zk_X3_serveCell 24 [(1, vi l1), (3, vi l3)] [] x P := by
  refine T_iload_n 0 (dk dtk_X3_serveCell 18 rfl) rfl rfl ?_
  refine T_if_ne 32 (dk dtk_X3_serveCell 19 rfl) (by decide) (fun c1 => ?_) (fun c1 => ?_)
  · have h := h.1 c1
    refine T_iload_n 1 (dk dtk_X3_serveCell 22 rfl) rfl rfl ?_
    exact KT_iret (dk dtk_X3_serveCell 23 rfl) rfl rfl h
  · have h := h.2 c1
    refine T_iconst (v := 0) (dk dtk_X3_serveCell 20 rfl) (by decide +kernel) ?_
    refine T_goto 33 (dk dtk_X3_serveCell 21 rfl) (by decide) ?_
    exact KT_iret (dk dtk_X3_serveCell 23 rfl) rfl rfl h
set_option maxRecDepth 100000 in
theorem dtk_X3_serveRow : dck cX3_serveRow [(0, .aload_n 1, 1), (1, .iconst 0, 1), (2, .iaload, 1), (3, .istore 4, 2), (5, .iload_n 2, 1), (6, .tableswitch 64 0 2 #[26, 33, 61], 26), (32, .aload_n 1, 1), (33, .iload_n 3, 1), (34, .invokestatic 121, 3), (37, .iconst 0, 1), (38, .ireturn, 1), (39, .iload 4, 2), (41, .ifCond .ne 7, 3), (44, .iconst (-1), 1), (45, .goto 21, 3), (48, .aload_n 1, 1), (49, .aload_n 0, 1), (50, .getfield 85, 3), (53, .iconst 1, 1), (54, .if_icmp .ne 8, 3), (57, .iload 4, 2), (59, .goto 4, 3), (62, .iconst 1, 1), (63, .invokestatic 124, 3), (66, .ireturn, 1), (67, .iload 4, 2), (69, .ireturn, 1), (70, .aload_n 1, 1), (71, .iconst 0, 1), (72, .iconst 0, 1), (73, .iastore, 1), (74, .iload 4, 2), (76, .ireturn, 1)] = true := by decide +kernel
set_option maxRecDepth 100000 in
set_option maxHeartbeats 4000000 in
theorem kg_X3_serveRow_0 {G : kG} {q : kP} {d : Nat} {x : gd} {P : Option gv → gd → Prop} (hq : kV q) (hh : q.hi = true) {a1 n1 : Nat} (ka1 : kK a1 = .inr (.int, n1)) (ma1 : a1 ∈ (kf q).2.1) (l2 : Int32) (l3 : Int32)
    (h : vp_in 0 n1 ∧ (((l2 = 0) → KT G q d zk_X3_append 0 [(0, vr a1), (1, vi l3)] [] x (rv (fun x3 => P (some (vi 0)) x3))) ∧ ((l2 = 1) → ((¬ ((x.1 a1 (0 : Int32).toNatClampNeg) = (0 : Int32)) → ((¬ ((x.1 180 10) = (1 : Int32)) → KT G q (d + 1) zk_X3_serveRow 63 [] [vi 1, vr a1] x P) ∧ ((x.1 180 10) = (1 : Int32) → KT G q (d + 1) zk_X3_serveRow 63 [] [vi (x.1 a1 (0 : Int32).toNatClampNeg), vr a1] x P))) ∧ ((x.1 a1 (0 : Int32).toNatClampNeg) = (0 : Int32) → P (some (vi (-1))) x))) ∧ ((l2 = 2) → P (some (vi (x.1 a1 (0 : Int32).toNatClampNeg))) x) ∧ ((∀ k ∈ [(0 : Int32), (1 : Int32), (2 : Int32)], ¬ l2 = k) → vp_in 0 n1 ∧ (∀ x10 : gd, x10 = si x a1 (0 : Int32).toNatClampNeg 0 → P (some (vi (x.1 a1 (0 : Int32).toNatClampNeg))) x10)))) :
    KT G q (d + 1) zk_X3_serveRow 0 [(0, vr 180), (1, vr a1), (2, vi l2), (3, vi l3)] [] x P := by
  refine T_aload_n 1 (dk dtk_X3_serveRow 0 rfl) rfl rfl ?_
  refine T_iconst (v := 0) (dk dtk_X3_serveRow 1 rfl) (by decide +kernel) ?_
  obtain ⟨h1, h⟩ := h
  refine T_iald a1 n1 (dk dtk_X3_serveRow 2 rfl) ka1 ma1 h1 ?_
  refine T_istore (lv2 := [(4, vi (x.1 a1 (0 : Int32).toNatClampNeg)), (0, vr 180), (1, vr a1), (2, vi l2), (3, vi l3)]) (dk dtk_X3_serveRow 3 rfl) (by decide) rfl ?_
  refine T_iload_n 3 (dk dtk_X3_serveRow 4 rfl) rfl rfl ?_
  by_cases c2 : l2 = 0
  · have h := h.1 c2
    refine T_table 26 32 (dk dtk_X3_serveRow 5 rfl) (by decide) (by rw [c2]; decide +kernel) (by decide) ?_
    refine T_aload_n 2 (dk dtk_X3_serveRow 6 rfl) rfl rfl ?_
    refine T_iload_n 4 (dk dtk_X3_serveRow 7 rfl) rfl rfl ?_
    refine T_sub (lv2 := []) [] rfl ?_
    refine KC_Sv [vr a1, vi l3] [] rfl (dk dtk_X3_serveRow 8 rfl) kcs_X3_121 rfl (Nat.le_of_ble_eq_true rfl) (Nat.le_of_ble_eq_true rfl) (gok_i av_n as_n) rfl h (fun x3 h => ?_)
    refine T_iconst (v := 0) (dk dtk_X3_serveRow 9 rfl) (by decide +kernel) ?_
    exact KT_iret (dk dtk_X3_serveRow 10 rfl) rfl rfl h
  · have h := h.2
    by_cases c4 : l2 = 1
    · have h := h.1 c4
      refine T_table 33 39 (dk dtk_X3_serveRow 5 rfl) (by decide) (by rw [c4]; decide +kernel) (by decide) ?_
      refine T_iload 0 (dk dtk_X3_serveRow 11 rfl) rfl ?_
      refine T_if_ne 48 (dk dtk_X3_serveRow 12 rfl) (by decide) (fun c5 => ?_) (fun c5 => ?_)
      · have h := h.1 c5
        refine T_aload_n 2 (dk dtk_X3_serveRow 15 rfl) rfl rfl ?_
        refine T_aload_n 1 (dk dtk_X3_serveRow 16 rfl) rfl rfl ?_
        refine T_getI 180 10 (dk dtk_X3_serveRow 17 rfl) kfl_X3_85 kk_180 (kl_180 hq hh) (by decide) rfl ?_
        refine T_iconst (v := 1) (dk dtk_X3_serveRow 18 rfl) (by decide +kernel) ?_
        refine T_icmp_ne 62 (dk dtk_X3_serveRow 19 rfl) (by decide) (fun c6 => ?_) (fun c6 => ?_)
        · have h := h.1 c6
          refine T_iconst (v := 1) (dk dtk_X3_serveRow 22 rfl) (by decide +kernel) ?_
          exact T_sub [] rfl h
        · have h := h.2 c6
          refine T_iload 0 (dk dtk_X3_serveRow 20 rfl) rfl ?_
          refine T_goto 63 (dk dtk_X3_serveRow 21 rfl) (by decide) ?_
          exact T_sub [] rfl h
      · have h := h.2 c5
        refine T_iconst (v := (-1)) (dk dtk_X3_serveRow 13 rfl) (by decide +kernel) ?_
        refine T_goto 66 (dk dtk_X3_serveRow 14 rfl) (by decide) ?_
        exact KT_iret (dk dtk_X3_serveRow 24 rfl) rfl rfl h
    · have h := h.2
      by_cases c7 : l2 = 2
      · have h := h.1 c7
        refine T_table 61 67 (dk dtk_X3_serveRow 5 rfl) (by decide) (by rw [c7]; decide +kernel) (by decide) ?_
        refine T_iload 0 (dk dtk_X3_serveRow 25 rfl) rfl ?_
        exact KT_iret (dk dtk_X3_serveRow 26 rfl) rfl rfl h
      · have h := h.2
        have n8 : ∀ k ∈ [(0 : Int32), (1 : Int32), (2 : Int32)], ¬ l2 = k := (gno c2 (gno c4 (gno c7 gno0)))
        have h := h n8
        refine T_table 64 70 (dk dtk_X3_serveRow 5 rfl) (by decide) (gtab_d [(0 : Int32), (1 : Int32), (2 : Int32)] (by decide +kernel) n8) (by decide) ?_
        refine T_aload_n 2 (dk dtk_X3_serveRow 27 rfl) rfl rfl ?_
        refine T_iconst (v := 0) (dk dtk_X3_serveRow 28 rfl) (by decide +kernel) ?_
        refine T_iconst (v := 0) (dk dtk_X3_serveRow 29 rfl) (by decide +kernel) ?_
        obtain ⟨h9, h⟩ := h
        obtain ⟨x10, ex10⟩ : ∃ z, z = si x a1 (0 : Int32).toNatClampNeg 0 := ⟨_, rfl⟩
        have h := h x10 ex10
        refine T_iast a1 n1 (dk dtk_X3_serveRow 30 rfl) ka1 ma1 h9 ?_
        rw [← ex10]
        refine T_iload 0 (dk dtk_X3_serveRow 31 rfl) rfl ?_
        exact KT_iret (dk dtk_X3_serveRow 32 rfl) rfl rfl h
set_option maxRecDepth 100000 in
set_option maxHeartbeats 4000000 in
theorem kg_X3_serveRow_63 {G : kG} {q : kP} {d : Nat} {x : gd} {P : Option gv → gd → Prop} (hq : kV q) (hh : q.hi = true) {a1 n1 : Nat} (ka1 : kK a1 = .inr (.int, n1)) (ma1 : a1 ∈ (kf q).2.1) (s0 : Int32)
    (h : KT G q d zk_X3_removeAt 0 [(0, vr a1), (1, vi s0)] [] x (ri (fun r2 x1 => P (some (vi r2)) x1))) :
    KT G q (d + 1) zk_X3_serveRow 63 [] [vi s0, vr a1] x P := by
  refine KC_Si [vr a1, vi s0] [] rfl (dk dtk_X3_serveRow 23 rfl) kcs_X3_124 rfl (Nat.le_of_ble_eq_true rfl) (Nat.le_of_ble_eq_true rfl) (gok_i av_n as_n) rfl h (fun r2 x1 h => ?_)
  exact KT_iret (dk dtk_X3_serveRow 24 rfl) rfl rfl h
end
section
set_option maxRecDepth 100000 in
theorem dtk_X3_serveSet : dck cX3_serveSet [(0, .aload_n 0, 1), (1, .iload_n 2, 1), (2, .invokestatic 128, 3), (5, .istore_n 3, 1), (6, .iload_n 1, 1), (7, .tableswitch 79 0 2 #[25, 46, 68], 25), (32, .iload_n 3, 1), (33, .iconst (-1), 1), (34, .if_icmp .ne 8, 3), (37, .aload_n 0, 1), (38, .iload_n 2, 1), (39, .invokestatic 121, 3), (42, .iload_n 3, 1), (43, .iconst (-1), 1), (44, .if_icmp .ne 7, 3), (47, .iconst 1, 1), (48, .goto 4, 3), (51, .iconst 0, 1), (52, .ireturn, 1), (53, .iload_n 3, 1), (54, .iconst (-1), 1), (55, .if_icmp .eq 9, 3), (58, .aload_n 0, 1), (59, .iload_n 3, 1), (60, .invokestatic 124, 3), (63, .pop, 1), (64, .iload_n 3, 1), (65, .iconst (-1), 1), (66, .if_icmp .ne 7, 3), (69, .iconst 0, 1), (70, .goto 4, 3), (73, .iconst 1, 1), (74, .ireturn, 1), (75, .iload_n 3, 1), (76, .iconst (-1), 1), (77, .if_icmp .ne 7, 3), (80, .iconst 0, 1), (81, .goto 4, 3), (84, .iconst 1, 1), (85, .ireturn, 1), (86, .aload_n 0, 1), (87, .iconst 0, 1), (88, .iaload, 1), (89, .ireturn, 1)] = true := by decide +kernel
set_option maxRecDepth 100000 in
set_option maxHeartbeats 4000000 in
theorem kg_X3_serveSet_0 {G : kG} {q : kP} {d : Nat} {x : gd} {P : Option gv → gd → Prop} (hq : kV q) (hh : q.hi = true) {a0 n0 : Nat} (ka0 : kK a0 = .inr (.int, n0)) (ma0 : a0 ∈ (kf q).2.1) (l1 : Int32) (l2 : Int32)
    (h : KT G q d zk_X3_find 0 [(0, vr a0), (1, vi l2)] [] x (ri (fun r2 x1 => (((l1 = 0) → ((¬ (r2 = (-1 : Int32)) → KT G q (d + 1) zk_X3_serveSet 42 [(3, vi r2)] [] x1 P) ∧ (r2 = (-1 : Int32) → KT G q d zk_X3_append 0 [(0, vr a0), (1, vi l2)] [] x1 (rv (fun x5 => KT G q (d + 1) zk_X3_serveSet 42 [(3, vi r2)] [] x5 P))))) ∧ ((l1 = 1) → ((r2 = (-1 : Int32) → KT G q (d + 1) zk_X3_serveSet 64 [(3, vi r2)] [] x1 P) ∧ (¬ (r2 = (-1 : Int32)) → KT G q d zk_X3_removeAt 0 [(0, vr a0), (1, vi r2)] [] x1 (ri (fun r9 x8 => KT G q (d + 1) zk_X3_serveSet 64 [(3, vi r2)] [] x8 P))))) ∧ ((l1 = 2) → ((¬ (r2 = (-1 : Int32)) → P (some (vi 1)) x1) ∧ (r2 = (-1 : Int32) → P (some (vi 0)) x1))) ∧ ((∀ k ∈ [(0 : Int32), (1 : Int32), (2 : Int32)], ¬ l1 = k) → vp_in 0 n0 ∧ P (some (vi (x1.1 a0 (0 : Int32).toNatClampNeg))) x1))))) :
    KT G q (d + 1) zk_X3_serveSet 0 [(0, vr a0), (1, vi l1), (2, vi l2)] [] x P := by
  refine T_aload_n 0 (dk dtk_X3_serveSet 0 rfl) rfl rfl ?_
  refine T_iload_n 2 (dk dtk_X3_serveSet 1 rfl) rfl rfl ?_
  refine KC_Si [vr a0, vi l2] [] rfl (dk dtk_X3_serveSet 2 rfl) kcs_X3_128 rfl (Nat.le_of_ble_eq_true rfl) (Nat.le_of_ble_eq_true rfl) (gok_i (av_c (gkr ma0) (av_c rfl (av_c rfl av_n))) as_n) rfl h (fun r2 x1 h => ?_)
  refine T_istore_n (lv2 := [(3, vi r2), (0, vr a0), (1, vi l1), (2, vi l2)]) (dk dtk_X3_serveSet 3 rfl) rfl (by decide) rfl ?_
  refine T_iload_n 2 (dk dtk_X3_serveSet 4 rfl) rfl rfl ?_
  by_cases c3 : l1 = 0
  · have h := h.1 c3
    refine T_table 25 32 (dk dtk_X3_serveSet 5 rfl) (by decide) (by rw [c3]; decide +kernel) (by decide) ?_
    refine T_iload_n 0 (dk dtk_X3_serveSet 6 rfl) rfl rfl ?_
    refine T_iconst (v := (-1)) (dk dtk_X3_serveSet 7 rfl) (by decide +kernel) ?_
    refine T_icmp_ne 42 (dk dtk_X3_serveSet 8 rfl) (by decide) (fun c4 => ?_) (fun c4 => ?_)
    · have h := h.1 c4
      exact T_sub [0] rfl h
    · have h := h.2 c4
      refine T_aload_n 1 (dk dtk_X3_serveSet 9 rfl) rfl rfl ?_
      refine T_iload_n 3 (dk dtk_X3_serveSet 10 rfl) rfl rfl ?_
      refine T_sub (lv2 := [(3, vi r2)]) [0] rfl ?_
      refine KC_Sv [vr a0, vi l2] [] rfl (dk dtk_X3_serveSet 11 rfl) kcs_X3_121 rfl (Nat.le_of_ble_eq_true rfl) (Nat.le_of_ble_eq_true rfl) (gok_i (av_c rfl av_n) as_n) rfl h (fun x5 h => ?_)
      exact h
  · have h := h.2
    by_cases c6 : l1 = 1
    · have h := h.1 c6
      refine T_table 46 53 (dk dtk_X3_serveSet 5 rfl) (by decide) (by rw [c6]; decide +kernel) (by decide) ?_
      refine T_iload_n 0 (dk dtk_X3_serveSet 19 rfl) rfl rfl ?_
      refine T_iconst (v := (-1)) (dk dtk_X3_serveSet 20 rfl) (by decide +kernel) ?_
      refine T_icmp_eq 64 (dk dtk_X3_serveSet 21 rfl) (by decide) (fun c7 => ?_) (fun c7 => ?_)
      · have h := h.1 c7
        exact T_sub [0] rfl h
      · have h := h.2 c7
        refine T_aload_n 1 (dk dtk_X3_serveSet 22 rfl) rfl rfl ?_
        refine T_iload_n 0 (dk dtk_X3_serveSet 23 rfl) rfl rfl ?_
        refine T_sub (lv2 := [(3, vi r2)]) [0] rfl ?_
        refine KC_Si [vr a0, vi r2] [] rfl (dk dtk_X3_serveSet 24 rfl) kcs_X3_124 rfl (Nat.le_of_ble_eq_true rfl) (Nat.le_of_ble_eq_true rfl) (gok_i (av_c rfl av_n) as_n) rfl h (fun r9 x8 h => ?_)
        refine T_pop (dk dtk_X3_serveSet 25 rfl) rfl ?_
        exact h
    · have h := h.2
      by_cases c10 : l1 = 2
      · have h := h.1 c10
        refine T_table 68 75 (dk dtk_X3_serveSet 5 rfl) (by decide) (by rw [c10]; decide +kernel) (by decide) ?_
        refine T_iload_n 0 (dk dtk_X3_serveSet 33 rfl) rfl rfl ?_
        refine T_iconst (v := (-1)) (dk dtk_X3_serveSet 34 rfl) (by decide +kernel) ?_
        refine T_icmp_ne 84 (dk dtk_X3_serveSet 35 rfl) (by decide) (fun c11 => ?_) (fun c11 => ?_)
        · have h := h.1 c11
          refine T_iconst (v := 1) (dk dtk_X3_serveSet 38 rfl) (by decide +kernel) ?_
          exact KT_iret (dk dtk_X3_serveSet 39 rfl) rfl rfl h
        · have h := h.2 c11
          refine T_iconst (v := 0) (dk dtk_X3_serveSet 36 rfl) (by decide +kernel) ?_
          refine T_goto 85 (dk dtk_X3_serveSet 37 rfl) (by decide) ?_
          exact KT_iret (dk dtk_X3_serveSet 39 rfl) rfl rfl h
      · have h := h.2
        have n12 : ∀ k ∈ [(0 : Int32), (1 : Int32), (2 : Int32)], ¬ l1 = k := (gno c3 (gno c6 (gno c10 gno0)))
        have h := h n12
        refine T_table 79 86 (dk dtk_X3_serveSet 5 rfl) (by decide) (gtab_d [(0 : Int32), (1 : Int32), (2 : Int32)] (by decide +kernel) n12) (by decide) ?_
        refine T_aload_n 1 (dk dtk_X3_serveSet 40 rfl) rfl rfl ?_
        refine T_iconst (v := 0) (dk dtk_X3_serveSet 41 rfl) (by decide +kernel) ?_
        obtain ⟨h13, h⟩ := h
        refine T_iald a0 n0 (dk dtk_X3_serveSet 42 rfl) ka0 ma0 h13 ?_
        exact KT_iret (dk dtk_X3_serveSet 43 rfl) rfl rfl h
set_option maxRecDepth 100000 in
set_option maxHeartbeats 4000000 in
theorem kg_X3_serveSet_42 {G : kG} {q : kP} {d : Nat} {x : gd} {P : Option gv → gd → Prop} (hq : kV q) (hh : q.hi = true) {a0 n0 : Nat} (ka0 : kK a0 = .inr (.int, n0)) (ma0 : a0 ∈ (kf q).2.1) (l3 : Int32)
    (h : ((¬ (l3 = (-1 : Int32)) → P (some (vi 0)) x) ∧ (l3 = (-1 : Int32) → P (some (vi 1)) x))) :
    KT G q (d + 1) zk_X3_serveSet 42 [(3, vi l3)] [] x P := by
  refine T_iload_n 0 (dk dtk_X3_serveSet 12 rfl) rfl rfl ?_
  refine T_iconst (v := (-1)) (dk dtk_X3_serveSet 13 rfl) (by decide +kernel) ?_
  refine T_icmp_ne 51 (dk dtk_X3_serveSet 14 rfl) (by decide) (fun c1 => ?_) (fun c1 => ?_)
  · have h := h.1 c1
    refine T_iconst (v := 0) (dk dtk_X3_serveSet 17 rfl) (by decide +kernel) ?_
    exact KT_iret (dk dtk_X3_serveSet 18 rfl) rfl rfl h
  · have h := h.2 c1
    refine T_iconst (v := 1) (dk dtk_X3_serveSet 15 rfl) (by decide +kernel) ?_
    refine T_goto 52 (dk dtk_X3_serveSet 16 rfl) (by decide) ?_
    exact KT_iret (dk dtk_X3_serveSet 18 rfl) rfl rfl h
set_option maxRecDepth 100000 in
set_option maxHeartbeats 4000000 in
theorem kg_X3_serveSet_64 {G : kG} {q : kP} {d : Nat} {x : gd} {P : Option gv → gd → Prop} (hq : kV q) (hh : q.hi = true) {a0 n0 : Nat} (ka0 : kK a0 = .inr (.int, n0)) (ma0 : a0 ∈ (kf q).2.1) (l3 : Int32)
    (h : ((¬ (l3 = (-1 : Int32)) → P (some (vi 1)) x) ∧ (l3 = (-1 : Int32) → P (some (vi 0)) x))) :
    KT G q (d + 1) zk_X3_serveSet 64 [(3, vi l3)] [] x P := by
  refine T_iload_n 0 (dk dtk_X3_serveSet 26 rfl) rfl rfl ?_
  refine T_iconst (v := (-1)) (dk dtk_X3_serveSet 27 rfl) (by decide +kernel) ?_
  refine T_icmp_ne 73 (dk dtk_X3_serveSet 28 rfl) (by decide) (fun c1 => ?_) (fun c1 => ?_)
  · have h := h.1 c1
    refine T_iconst (v := 1) (dk dtk_X3_serveSet 31 rfl) (by decide +kernel) ?_
    exact KT_iret (dk dtk_X3_serveSet 32 rfl) rfl rfl h
  · have h := h.2 c1
    refine T_iconst (v := 0) (dk dtk_X3_serveSet 29 rfl) (by decide +kernel) ?_
    refine T_goto 74 (dk dtk_X3_serveSet 30 rfl) (by decide) ?_
    exact KT_iret (dk dtk_X3_serveSet 32 rfl) rfl rfl h
set_option maxRecDepth 100000 in
theorem dtk_X3_append : dck cX3_append [(0, .aload_n 0, 1), (1, .iconst 0, 1), (2, .iaload, 1), (3, .bipush 12, 2), (5, .if_icmp .ge 16, 3), (8, .aload_n 0, 1), (9, .iconst 0, 1), (10, .dup2, 1), (11, .iaload, 1), (12, .iconst 1, 1), (13, .iadd, 1), (14, .iastore, 1), (15, .aload_n 0, 1), (16, .aload_n 0, 1), (17, .iconst 0, 1), (18, .iaload, 1), (19, .iload_n 1, 1), (20, .iastore, 1), (21, .return_, 1)] = true := by decide +kernel
set_option maxRecDepth 100000 in
set_option maxHeartbeats 4000000 in
theorem kg_X3_append_0 {G : kG} {q : kP} {d : Nat} {x : gd} {P : Option gv → gd → Prop} (hq : kV q) (hh : q.hi = true) {a0 n0 : Nat} (ka0 : kK a0 = .inr (.int, n0)) (ma0 : a0 ∈ (kf q).2.1) (l1 : Int32)
    (h : vp_in 0 n0 ∧ (((12 : Int32) ≤ (x.1 a0 (0 : Int32).toNatClampNeg) → P none x) ∧ (¬ ((12 : Int32) ≤ (x.1 a0 (0 : Int32).toNatClampNeg)) → vp_in 0 n0 ∧ vp_in 0 n0 ∧ (∀ x5 : gd, x5 = si x a0 (0 : Int32).toNatClampNeg ((x.1 a0 (0 : Int32).toNatClampNeg) + 1) → vp_in 0 n0 ∧ vp_in (x5.1 a0 (0 : Int32).toNatClampNeg) n0 ∧ (∀ x8 : gd, x8 = si x5 a0 (x5.1 a0 (0 : Int32).toNatClampNeg : Int32).toNatClampNeg l1 → P none x8))))) :
    KT G q d zk_X3_append 0 [(0, vr a0), (1, vi l1)] [] x P := by
  refine T_aload_n 0 (dk dtk_X3_append 0 rfl) rfl rfl ?_
  refine T_iconst (v := 0) (dk dtk_X3_append 1 rfl) (by decide +kernel) ?_
  obtain ⟨h1, h⟩ := h
  refine T_iald a0 n0 (dk dtk_X3_append 2 rfl) ka0 ma0 h1 ?_
  refine T_bipush (v := 12) (dk dtk_X3_append 3 rfl) (by decide +kernel) ?_
  refine T_icmp_ge 21 (dk dtk_X3_append 4 rfl) (by decide) (fun c2 => ?_) (fun c2 => ?_)
  · have h := h.1 c2
    exact KT_vret (dk dtk_X3_append 18 rfl) rfl h
  · have h := h.2 c2
    refine T_aload_n 0 (dk dtk_X3_append 5 rfl) rfl rfl ?_
    refine T_iconst (v := 0) (dk dtk_X3_append 6 rfl) (by decide +kernel) ?_
    refine T_dup2 (dk dtk_X3_append 7 rfl) rfl rfl ?_
    obtain ⟨h3, h⟩ := h
    refine T_iald a0 n0 (dk dtk_X3_append 8 rfl) ka0 ma0 h3 ?_
    refine T_iconst (v := 1) (dk dtk_X3_append 9 rfl) (by decide +kernel) ?_
    refine T_iadd (dk dtk_X3_append 10 rfl) ?_
    obtain ⟨h4, h⟩ := h
    obtain ⟨x5, ex5⟩ : ∃ z, z = si x a0 (0 : Int32).toNatClampNeg ((x.1 a0 (0 : Int32).toNatClampNeg) + 1) := ⟨_, rfl⟩
    have h := h x5 ex5
    refine T_iast a0 n0 (dk dtk_X3_append 11 rfl) ka0 ma0 h4 ?_
    rw [← ex5]
    refine T_aload_n 0 (dk dtk_X3_append 12 rfl) rfl rfl ?_
    refine T_aload_n 0 (dk dtk_X3_append 13 rfl) rfl rfl ?_
    refine T_iconst (v := 0) (dk dtk_X3_append 14 rfl) (by decide +kernel) ?_
    obtain ⟨h6, h⟩ := h
    refine T_iald a0 n0 (dk dtk_X3_append 15 rfl) ka0 ma0 h6 ?_
    refine T_iload_n 1 (dk dtk_X3_append 16 rfl) rfl rfl ?_
    obtain ⟨h7, h⟩ := h
    obtain ⟨x8, ex8⟩ : ∃ z, z = si x5 a0 (x5.1 a0 (0 : Int32).toNatClampNeg : Int32).toNatClampNeg l1 := ⟨_, rfl⟩
    have h := h x8 ex8
    refine T_iast a0 n0 (dk dtk_X3_append 17 rfl) ka0 ma0 h7 ?_
    rw [← ex8]
    exact KT_vret (dk dtk_X3_append 18 rfl) rfl h
set_option maxRecDepth 100000 in
theorem dtk_X3_find : dck cX3_find [(0, .iconst 1, 1), (1, .istore_n 2, 1), (2, .iload_n 2, 1), (3, .aload_n 0, 1), (4, .iconst 0, 1), (5, .iaload, 1), (6, .if_icmp .gt 18, 3), (9, .aload_n 0, 1), (10, .iload_n 2, 1), (11, .iaload, 1), (12, .iload_n 1, 1), (13, .if_icmp .ne 5, 3), (16, .iload_n 2, 1), (17, .ireturn, 1), (18, .iinc 2 1, 3), (21, .goto (-19), 3), (24, .iconst (-1), 1), (25, .ireturn, 1)] = true := by decide +kernel
set_option maxRecDepth 100000 in
set_option maxHeartbeats 4000000 in
theorem kg_X3_find_0 {G : kG} {q : kP} {d : Nat} {x : gd} {P : Option gv → gd → Prop} (hq : kV q) (hh : q.hi = true) {a0 n0 : Nat} (ka0 : kK a0 = .inr (.int, n0)) (ma0 : a0 ∈ (kf q).2.1) (l1 : Int32)
    (h : KT G q d zk_X3_find 2 [(0, vr a0), (1, vi l1), (2, vi 1)] [] x P) :
    KT G q d zk_X3_find 0 [(0, vr a0), (1, vi l1)] [] x P := by
  refine T_iconst (v := 1) (dk dtk_X3_find 0 rfl) (by decide +kernel) ?_
  refine T_istore_n (lv2 := [(2, vi 1), (0, vr a0), (1, vi l1)]) (dk dtk_X3_find 1 rfl) rfl (by decide) rfl ?_
  exact T_sub [1, 2, 0] rfl h
set_option maxRecDepth 100000 in
set_option maxHeartbeats 4000000 in
theorem kg_X3_find_2 {G : kG} {q : kP} {d : Nat} {x : gd} {P : Option gv → gd → Prop} (hq : kV q) (hh : q.hi = true) {a0 n0 : Nat} (ka0 : kK a0 = .inr (.int, n0)) (ma0 : a0 ∈ (kf q).2.1) (l1 : Int32) (l2 : Int32)
    (h : vp_in 0 n0 ∧ (((x.1 a0 (0 : Int32).toNatClampNeg) < l2 → P (some (vi (-1))) x) ∧ (¬ ((x.1 a0 (0 : Int32).toNatClampNeg) < l2) → vp_in l2 n0 ∧ ((¬ ((x.1 a0 (l2 : Int32).toNatClampNeg) = l1) → KT G q d zk_X3_find 2 [(0, vr a0), (1, vi l1), (2, vi (l2 + 1))] [] x P) ∧ ((x.1 a0 (l2 : Int32).toNatClampNeg) = l1 → P (some (vi l2)) x))))) :
    KT G q d zk_X3_find 2 [(0, vr a0), (1, vi l1), (2, vi l2)] [] x P := by
  refine T_iload_n 2 (dk dtk_X3_find 2 rfl) rfl rfl ?_
  refine T_aload_n 0 (dk dtk_X3_find 3 rfl) rfl rfl ?_
  refine T_iconst (v := 0) (dk dtk_X3_find 4 rfl) (by decide +kernel) ?_
  obtain ⟨h1, h⟩ := h
  refine T_iald a0 n0 (dk dtk_X3_find 5 rfl) ka0 ma0 h1 ?_
  refine T_icmp_gt 24 (dk dtk_X3_find 6 rfl) (by decide) (fun c2 => ?_) (fun c2 => ?_)
  · have h := h.1 c2
    refine T_iconst (v := (-1)) (dk dtk_X3_find 16 rfl) (by decide +kernel) ?_
    exact KT_iret (dk dtk_X3_find 17 rfl) rfl rfl h
  · have h := h.2 c2
    refine T_aload_n 0 (dk dtk_X3_find 7 rfl) rfl rfl ?_
    refine T_iload_n 2 (dk dtk_X3_find 8 rfl) rfl rfl ?_
    obtain ⟨h3, h⟩ := h
    refine T_iald a0 n0 (dk dtk_X3_find 9 rfl) ka0 ma0 h3 ?_
    refine T_iload_n 1 (dk dtk_X3_find 10 rfl) rfl rfl ?_
    refine T_icmp_ne 18 (dk dtk_X3_find 11 rfl) (by decide) (fun c4 => ?_) (fun c4 => ?_)
    · have h := h.1 c4
      refine T_iinc (v := l2 + 1) (lv2 := [(2, vi (l2 + 1)), (0, vr a0), (1, vi l1)]) 2 (dk dtk_X3_find 14 rfl) rfl rfl (by decide) rfl ?_
      refine T_goto 2 (dk dtk_X3_find 15 rfl) (by decide) ?_
      exact T_sub [1, 2, 0] rfl h
    · have h := h.2 c4
      refine T_iload_n 2 (dk dtk_X3_find 12 rfl) rfl rfl ?_
      exact KT_iret (dk dtk_X3_find 13 rfl) rfl rfl h
set_option maxRecDepth 100000 in
theorem dtk_X3_removeAt : dck cX3_removeAt [(0, .aload_n 0, 1), (1, .iload_n 1, 1), (2, .iaload, 1), (3, .istore_n 2, 1), (4, .iload_n 1, 1), (5, .istore_n 3, 1), (6, .iload_n 3, 1), (7, .aload_n 0, 1), (8, .iconst 0, 1), (9, .iaload, 1), (10, .if_icmp .ge 17, 3), (13, .aload_n 0, 1), (14, .iload_n 3, 1), (15, .aload_n 0, 1), (16, .iload_n 3, 1), (17, .iconst 1, 1), (18, .iadd, 1), (19, .iaload, 1), (20, .iastore, 1), (21, .iinc 3 1, 3), (24, .goto (-18), 3), (27, .aload_n 0, 1), (28, .iconst 0, 1), (29, .dup2, 1), (30, .iaload, 1), (31, .iconst 1, 1), (32, .isub, 1), (33, .iastore, 1), (34, .iload_n 2, 1), (35, .ireturn, 1)] = true := by decide +kernel
set_option maxRecDepth 100000 in
set_option maxHeartbeats 4000000 in
theorem kg_X3_removeAt_0 {G : kG} {q : kP} {d : Nat} {x : gd} {P : Option gv → gd → Prop} (hq : kV q) (hh : q.hi = true) {a0 n0 : Nat} (ka0 : kK a0 = .inr (.int, n0)) (ma0 : a0 ∈ (kf q).2.1) (l1 : Int32)
    (h : vp_in l1 n0 ∧ KT G q d zk_X3_removeAt 6 [(0, vr a0), (2, vi (x.1 a0 (l1 : Int32).toNatClampNeg)), (3, vi l1)] [] x P) :
    KT G q d zk_X3_removeAt 0 [(0, vr a0), (1, vi l1)] [] x P := by
  refine T_aload_n 0 (dk dtk_X3_removeAt 0 rfl) rfl rfl ?_
  refine T_iload_n 1 (dk dtk_X3_removeAt 1 rfl) rfl rfl ?_
  obtain ⟨h1, h⟩ := h
  refine T_iald a0 n0 (dk dtk_X3_removeAt 2 rfl) ka0 ma0 h1 ?_
  refine T_istore_n (lv2 := [(2, vi (x.1 a0 (l1 : Int32).toNatClampNeg)), (0, vr a0), (1, vi l1)]) (dk dtk_X3_removeAt 3 rfl) rfl (by decide) rfl ?_
  refine T_iload_n 2 (dk dtk_X3_removeAt 4 rfl) rfl rfl ?_
  refine T_istore_n (lv2 := [(3, vi l1), (2, vi (x.1 a0 (l1 : Int32).toNatClampNeg)), (0, vr a0), (1, vi l1)]) (dk dtk_X3_removeAt 5 rfl) rfl (by decide) rfl ?_
  exact T_sub [2, 1, 0] rfl h
set_option maxRecDepth 100000 in
set_option maxHeartbeats 4000000 in
theorem kg_X3_removeAt_6 {G : kG} {q : kP} {d : Nat} {x : gd} {P : Option gv → gd → Prop} (hq : kV q) (hh : q.hi = true) {a0 n0 : Nat} (ka0 : kK a0 = .inr (.int, n0)) (ma0 : a0 ∈ (kf q).2.1) (l2 : Int32) (l3 : Int32)
    (h : vp_in 0 n0 ∧ (((x.1 a0 (0 : Int32).toNatClampNeg) ≤ l3 → vp_in 0 n0 ∧ vp_in 0 n0 ∧ (∀ x5 : gd, x5 = si x a0 (0 : Int32).toNatClampNeg ((x.1 a0 (0 : Int32).toNatClampNeg) - 1) → P (some (vi l2)) x5)) ∧ (¬ ((x.1 a0 (0 : Int32).toNatClampNeg) ≤ l3) → vp_in (l3 + 1) n0 ∧ vp_in l3 n0 ∧ (∀ x8 : gd, x8 = si x a0 (l3 : Int32).toNatClampNeg (x.1 a0 (l3 + 1 : Int32).toNatClampNeg) → KT G q d zk_X3_removeAt 6 [(0, vr a0), (2, vi l2), (3, vi (l3 + 1))] [] x8 P)))) :
    KT G q d zk_X3_removeAt 6 [(0, vr a0), (2, vi l2), (3, vi l3)] [] x P := by
  refine T_iload_n 2 (dk dtk_X3_removeAt 6 rfl) rfl rfl ?_
  refine T_aload_n 0 (dk dtk_X3_removeAt 7 rfl) rfl rfl ?_
  refine T_iconst (v := 0) (dk dtk_X3_removeAt 8 rfl) (by decide +kernel) ?_
  obtain ⟨h1, h⟩ := h
  refine T_iald a0 n0 (dk dtk_X3_removeAt 9 rfl) ka0 ma0 h1 ?_
  refine T_icmp_ge 27 (dk dtk_X3_removeAt 10 rfl) (by decide) (fun c2 => ?_) (fun c2 => ?_)
  · have h := h.1 c2
    refine T_aload_n 0 (dk dtk_X3_removeAt 21 rfl) rfl rfl ?_
    refine T_iconst (v := 0) (dk dtk_X3_removeAt 22 rfl) (by decide +kernel) ?_
    refine T_dup2 (dk dtk_X3_removeAt 23 rfl) rfl rfl ?_
    obtain ⟨h3, h⟩ := h
    refine T_iald a0 n0 (dk dtk_X3_removeAt 24 rfl) ka0 ma0 h3 ?_
    refine T_iconst (v := 1) (dk dtk_X3_removeAt 25 rfl) (by decide +kernel) ?_
    refine T_isub (dk dtk_X3_removeAt 26 rfl) ?_
    obtain ⟨h4, h⟩ := h
    obtain ⟨x5, ex5⟩ : ∃ z, z = si x a0 (0 : Int32).toNatClampNeg ((x.1 a0 (0 : Int32).toNatClampNeg) - 1) := ⟨_, rfl⟩
    have h := h x5 ex5
    refine T_iast a0 n0 (dk dtk_X3_removeAt 27 rfl) ka0 ma0 h4 ?_
    rw [← ex5]
    refine T_iload_n 1 (dk dtk_X3_removeAt 28 rfl) rfl rfl ?_
    exact KT_iret (dk dtk_X3_removeAt 29 rfl) rfl rfl h
  · have h := h.2 c2
    refine T_aload_n 0 (dk dtk_X3_removeAt 11 rfl) rfl rfl ?_
    refine T_iload_n 2 (dk dtk_X3_removeAt 12 rfl) rfl rfl ?_
    refine T_aload_n 0 (dk dtk_X3_removeAt 13 rfl) rfl rfl ?_
    refine T_iload_n 2 (dk dtk_X3_removeAt 14 rfl) rfl rfl ?_
    refine T_iconst (v := 1) (dk dtk_X3_removeAt 15 rfl) (by decide +kernel) ?_
    refine T_iadd (dk dtk_X3_removeAt 16 rfl) ?_
    obtain ⟨h6, h⟩ := h
    refine T_iald a0 n0 (dk dtk_X3_removeAt 17 rfl) ka0 ma0 h6 ?_
    obtain ⟨h7, h⟩ := h
    obtain ⟨x8, ex8⟩ : ∃ z, z = si x a0 (l3 : Int32).toNatClampNeg (x.1 a0 (l3 + 1 : Int32).toNatClampNeg) := ⟨_, rfl⟩
    have h := h x8 ex8
    refine T_iast a0 n0 (dk dtk_X3_removeAt 18 rfl) ka0 ma0 h7 ?_
    rw [← ex8]
    refine T_iinc (v := l3 + 1) (lv2 := [(3, vi (l3 + 1)), (0, vr a0), (2, vi l2)]) 2 (dk dtk_X3_removeAt 19 rfl) rfl rfl (by decide) rfl ?_
    refine T_goto 6 (dk dtk_X3_removeAt 20 rfl) (by decide) ?_
    exact T_sub [1, 2, 0] rfl h
set_option maxRecDepth 100000 in
theorem dtk_X10_clear : dck cX10_clear [(0, .aload_n 0, 1), (1, .iconst 0, 1), (2, .putfield 40, 3), (5, .aload_n 0, 1), (6, .iconst 0, 1), (7, .putfield 44, 3), (10, .aload_n 0, 1), (11, .iconst 0, 1), (12, .putfield 48, 3), (15, .aload_n 0, 1), (16, .iconst 0, 1), (17, .putfield 51, 3), (20, .aload_n 0, 1), (21, .iconst 0, 1), (22, .putfield 54, 3), (25, .aload_n 0, 1), (26, .iconst 0, 1), (27, .putfield 57, 3), (30, .aload_n 0, 1), (31, .getfield 11, 3), (34, .iconst (-1), 1), (35, .invokestatic 60, 3), (38, .aload_n 0, 1), (39, .getfield 17, 3), (42, .iload_n 1, 1), (43, .invokestatic 60, 3), (46, .aload_n 0, 1), (47, .getfield 20, 3), (50, .iconst 0, 1), (51, .invokestatic 60, 3), (54, .return_, 1)] = true := by decide +kernel
set_option maxRecDepth 100000 in
set_option maxHeartbeats 4000000 in
theorem kg_X10_clear_0 {G : kG} {q : kP} {d : Nat} {x : gd} {P : Option gv → gd → Prop} (hq : kV q) {o : Nat} (ho : kiT q o) (l1 : Int32)
    (h : (∀ x1 : gd, x1 = si x o 0 0 → (∀ x2 : gd, x2 = si x1 o 1 0 → (∀ x3 : gd, x3 = si x2 o 2 0 → (∀ x4 : gd, x4 = si x3 o 3 0 → (∀ x5 : gd, x5 = si x4 o 4 0 → (∀ x6 : gd, x6 = si x5 o 5 0 → (∀ x7 : gd, x7 = sfl x6 (o + 7) (-1) 11 → (∀ x8 : gd, x8 = sfl x7 (o + 8) l1 24 → (∀ x9 : gd, x9 = sfl x8 (o + 9) 0 6 → P none x9)))))))))) :
    KT G q (d + 1) zk_X10_clear 0 [(0, vr o), (1, vi l1)] [] x P := by
  refine T_aload_n 0 (dk dtk_X10_clear 0 rfl) rfl rfl ?_
  refine T_iconst (v := 0) (dk dtk_X10_clear 1 rfl) (by decide +kernel) ?_
  obtain ⟨x1, ex1⟩ : ∃ z, z = si x o 0 0 := ⟨_, rfl⟩
  have h := h x1 ex1
  refine T_putI o 0 (dk dtk_X10_clear 2 rfl) kfl_X10_40 (kk_T0 ho) (kl_T0 hq ho) (by decide) rfl ⟨rfl, rfl⟩ ?_
  rw [← ex1]
  refine T_aload_n 0 (dk dtk_X10_clear 3 rfl) rfl rfl ?_
  refine T_iconst (v := 0) (dk dtk_X10_clear 4 rfl) (by decide +kernel) ?_
  obtain ⟨x2, ex2⟩ : ∃ z, z = si x1 o 1 0 := ⟨_, rfl⟩
  have h := h x2 ex2
  refine T_putI o 1 (dk dtk_X10_clear 5 rfl) kfl_X10_44 (kk_T0 ho) (kl_T0 hq ho) (by decide) rfl ⟨rfl, rfl⟩ ?_
  rw [← ex2]
  refine T_aload_n 0 (dk dtk_X10_clear 6 rfl) rfl rfl ?_
  refine T_iconst (v := 0) (dk dtk_X10_clear 7 rfl) (by decide +kernel) ?_
  obtain ⟨x3, ex3⟩ : ∃ z, z = si x2 o 2 0 := ⟨_, rfl⟩
  have h := h x3 ex3
  refine T_putI o 2 (dk dtk_X10_clear 8 rfl) kfl_X10_48 (kk_T0 ho) (kl_T0 hq ho) (by decide) rfl ⟨rfl, rfl⟩ ?_
  rw [← ex3]
  refine T_aload_n 0 (dk dtk_X10_clear 9 rfl) rfl rfl ?_
  refine T_iconst (v := 0) (dk dtk_X10_clear 10 rfl) (by decide +kernel) ?_
  obtain ⟨x4, ex4⟩ : ∃ z, z = si x3 o 3 0 := ⟨_, rfl⟩
  have h := h x4 ex4
  refine T_putI o 3 (dk dtk_X10_clear 11 rfl) kfl_X10_51 (kk_T0 ho) (kl_T0 hq ho) (by decide) rfl ⟨rfl, rfl⟩ ?_
  rw [← ex4]
  refine T_aload_n 0 (dk dtk_X10_clear 12 rfl) rfl rfl ?_
  refine T_iconst (v := 0) (dk dtk_X10_clear 13 rfl) (by decide +kernel) ?_
  obtain ⟨x5, ex5⟩ : ∃ z, z = si x4 o 4 0 := ⟨_, rfl⟩
  have h := h x5 ex5
  refine T_putI o 4 (dk dtk_X10_clear 14 rfl) kfl_X10_54 (kk_T0 ho) (kl_T0 hq ho) (by decide) rfl ⟨rfl, rfl⟩ ?_
  rw [← ex5]
  refine T_aload_n 0 (dk dtk_X10_clear 15 rfl) rfl rfl ?_
  refine T_iconst (v := 0) (dk dtk_X10_clear 16 rfl) (by decide +kernel) ?_
  obtain ⟨x6, ex6⟩ : ∃ z, z = si x5 o 5 0 := ⟨_, rfl⟩
  have h := h x6 ex6
  refine T_putI o 5 (dk dtk_X10_clear 17 rfl) kfl_X10_57 (kk_T0 ho) (kl_T0 hq ho) (by decide) rfl ⟨rfl, rfl⟩ ?_
  rw [← ex6]
  refine T_aload_n 0 (dk dtk_X10_clear 18 rfl) rfl rfl ?_
  refine T_getR o 6 (o + 7) (dk dtk_X10_clear 19 rfl) kfl_X10_11 (kk_T0 ho) (kl_T0 hq ho) (by decide) rfl (kr_T_6 ho) ?_
  refine T_iconst (v := (-1)) (dk dtk_X10_clear 20 rfl) (by decide +kernel) ?_
  refine KC_Sv (F := fun z => z = sfl x6 (o + 7) (-1) 11) [vr (o + 7), vi (-1)] [] rfl (dk dtk_X10_clear 21 rfl) kcs_X10_60 rfl (Nat.le_of_ble_eq_true rfl) (Nat.le_of_ble_eq_true rfl) (gok_i (av_c (gkr (kl_T0 hq ho)) (av_c rfl av_n)) as_n) rfl (tj_fill (o + 7) 11 (-1) (kk_T7 ho) (kl_T7 hq ho) (by decide) ⟨rfl, none, rfl, rfl, rfl⟩) (fun x7 ex7 => ?_)
  have h := h x7 ex7
  refine T_aload_n 0 (dk dtk_X10_clear 22 rfl) rfl rfl ?_
  refine T_getR o 7 (o + 8) (dk dtk_X10_clear 23 rfl) kfl_X10_17 (kk_T0 ho) (kl_T0 hq ho) (by decide) rfl (kr_T_7 ho) ?_
  refine T_iload_n 1 (dk dtk_X10_clear 24 rfl) rfl rfl ?_
  refine T_sub (lv2 := [(0, vr o)]) [0] rfl ?_
  refine KC_Sv (F := fun z => z = sfl x7 (o + 8) l1 24) [vr (o + 8), vi l1] [] rfl (dk dtk_X10_clear 25 rfl) kcs_X10_60 rfl (Nat.le_of_ble_eq_true rfl) (Nat.le_of_ble_eq_true rfl) (gok_i (av_c (gkr (kl_T0 hq ho)) av_n) as_n) rfl (tj_fill (o + 8) 24 l1 (kk_T8 ho) (kl_T8 hq ho) (by decide) ⟨rfl, none, rfl, rfl, rfl⟩) (fun x8 ex8 => ?_)
  have h := h x8 ex8
  refine T_aload_n 0 (dk dtk_X10_clear 26 rfl) rfl rfl ?_
  refine T_getR o 8 (o + 9) (dk dtk_X10_clear 27 rfl) kfl_X10_20 (kk_T0 ho) (kl_T0 hq ho) (by decide) rfl (kr_T_8 ho) ?_
  refine T_iconst (v := 0) (dk dtk_X10_clear 28 rfl) (by decide +kernel) ?_
  refine T_sub (lv2 := []) [] rfl ?_
  refine KC_Sv (F := fun z => z = sfl x8 (o + 9) 0 6) [vr (o + 9), vi 0] [] rfl (dk dtk_X10_clear 29 rfl) kcs_X10_60 rfl (Nat.le_of_ble_eq_true rfl) (Nat.le_of_ble_eq_true rfl) (gok_i av_n as_n) rfl (tj_fill (o + 9) 6 0 (kk_T9 ho) (kl_T9 hq ho) (by decide) ⟨rfl, none, rfl, rfl, rfl⟩) (fun x9 ex9 => ?_)
  have h := h x9 ex9
  exact KT_vret (dk dtk_X10_clear 30 rfl) rfl h
set_option maxRecDepth 100000 in
theorem dtk_X10_addState : dck cX10_addState [(0, .aload_n 0, 1), (1, .getfield 40, 3), (4, .sipush 3000, 3), (7, .if_icmp .ge 59, 3), (10, .aload_n 0, 1), (11, .getfield 23, 3), (14, .aload_n 0, 1), (15, .getfield 40, 3), (18, .iload_n 1, 1), (19, .iastore, 1), (20, .aload_n 0, 1), (21, .getfield 26, 3), (24, .aload_n 0, 1), (25, .getfield 40, 3), (28, .iload_n 2, 1), (29, .iastore, 1), (30, .aload_n 0, 1), (31, .getfield 29, 3), (34, .aload_n 0, 1), (35, .getfield 40, 3), (38, .iload_n 1, 1), (39, .iconst (-1), 1), (40, .if_icmp .ne 7, 3), (43, .iconst 0, 1), (44, .goto 11, 3), (47, .aload_n 0, 1), (48, .getfield 29, 3), (51, .iload_n 1, 1), (52, .iaload, 1), (53, .iconst 1, 1), (54, .iadd, 1), (55, .iastore, 1), (56, .aload_n 0, 1), (57, .dup, 1), (58, .getfield 40, 3), (61, .iconst 1, 1), (62, .iadd, 1), (63, .putfield 40, 3), (66, .return_, 1)] = true := by decide +kernel
set_option maxRecDepth 100000 in
set_option maxHeartbeats 4000000 in
theorem kg_X10_addState_0 {G : kG} {q : kP} {d : Nat} {x : gd} {P : Option gv → gd → Prop} (hq : kV q) {o : Nat} (ho : kiT q o) (l1 : Int32) (l2 : Int32)
    (h : (((3000 : Int32) ≤ (x.1 o 0) → P none x) ∧ (¬ ((3000 : Int32) ≤ (x.1 o 0)) → vp_in (x.1 o 0) 3000 ∧ (∀ x3 : gd, x3 = si x (o + 10) (x.1 o 0 : Int32).toNatClampNeg l1 → vp_in (x3.1 o 0) 3000 ∧ (∀ x5 : gd, x5 = si x3 (o + 11) (x3.1 o 0 : Int32).toNatClampNeg l2 → ((¬ (l1 = (-1 : Int32)) → vp_in l1 3000 ∧ vp_in (x5.1 o 0) 3000 ∧ (∀ x9 : gd, x9 = si x5 (o + 12) (x5.1 o 0 : Int32).toNatClampNeg ((x5.1 (o + 12) (l1 : Int32).toNatClampNeg) + 1) → (∀ x10 : gd, x10 = si x9 o 0 ((x9.1 o 0) + 1) → P none x10))) ∧ (l1 = (-1 : Int32) → vp_in (x5.1 o 0) 3000 ∧ (∀ x12 : gd, x12 = si x5 (o + 12) (x5.1 o 0 : Int32).toNatClampNeg 0 → (∀ x13 : gd, x13 = si x12 o 0 ((x12.1 o 0) + 1) → P none x13))))))))) :
    KT G q d zk_X10_addState 0 [(0, vr o), (1, vi l1), (2, vi l2)] [] x P := by
  refine T_aload_n 0 (dk dtk_X10_addState 0 rfl) rfl rfl ?_
  refine T_getI o 0 (dk dtk_X10_addState 1 rfl) kfl_X10_40 (kk_T0 ho) (kl_T0 hq ho) (by decide) rfl ?_
  refine T_sipush (v := 3000) (dk dtk_X10_addState 2 rfl) (by decide +kernel) ?_
  refine T_icmp_ge 66 (dk dtk_X10_addState 3 rfl) (by decide) (fun c1 => ?_) (fun c1 => ?_)
  · have h := h.1 c1
    exact KT_vret (dk dtk_X10_addState 38 rfl) rfl h
  · have h := h.2 c1
    refine T_aload_n 0 (dk dtk_X10_addState 4 rfl) rfl rfl ?_
    refine T_getR o 9 (o + 10) (dk dtk_X10_addState 5 rfl) kfl_X10_23 (kk_T0 ho) (kl_T0 hq ho) (by decide) rfl (kr_T_9 ho) ?_
    refine T_aload_n 0 (dk dtk_X10_addState 6 rfl) rfl rfl ?_
    refine T_getI o 0 (dk dtk_X10_addState 7 rfl) kfl_X10_40 (kk_T0 ho) (kl_T0 hq ho) (by decide) rfl ?_
    refine T_iload_n 1 (dk dtk_X10_addState 8 rfl) rfl rfl ?_
    obtain ⟨h2, h⟩ := h
    obtain ⟨x3, ex3⟩ : ∃ z, z = si x (o + 10) (x.1 o 0 : Int32).toNatClampNeg l1 := ⟨_, rfl⟩
    have h := h x3 ex3
    refine T_iast (o + 10) 3000 (dk dtk_X10_addState 9 rfl) (kk_T10 ho) (kl_T10 hq ho) h2 ?_
    rw [← ex3]
    refine T_aload_n 0 (dk dtk_X10_addState 10 rfl) rfl rfl ?_
    refine T_getR o 10 (o + 11) (dk dtk_X10_addState 11 rfl) kfl_X10_26 (kk_T0 ho) (kl_T0 hq ho) (by decide) rfl (kr_T_10 ho) ?_
    refine T_aload_n 0 (dk dtk_X10_addState 12 rfl) rfl rfl ?_
    refine T_getI o 0 (dk dtk_X10_addState 13 rfl) kfl_X10_40 (kk_T0 ho) (kl_T0 hq ho) (by decide) rfl ?_
    refine T_iload_n 2 (dk dtk_X10_addState 14 rfl) rfl rfl ?_
    obtain ⟨h4, h⟩ := h
    obtain ⟨x5, ex5⟩ : ∃ z, z = si x3 (o + 11) (x3.1 o 0 : Int32).toNatClampNeg l2 := ⟨_, rfl⟩
    have h := h x5 ex5
    refine T_iast (o + 11) 3000 (dk dtk_X10_addState 15 rfl) (kk_T11 ho) (kl_T11 hq ho) h4 ?_
    rw [← ex5]
    refine T_aload_n 0 (dk dtk_X10_addState 16 rfl) rfl rfl ?_
    refine T_getR o 11 (o + 12) (dk dtk_X10_addState 17 rfl) kfl_X10_29 (kk_T0 ho) (kl_T0 hq ho) (by decide) rfl (kr_T_11 ho) ?_
    refine T_aload_n 0 (dk dtk_X10_addState 18 rfl) rfl rfl ?_
    refine T_getI o 0 (dk dtk_X10_addState 19 rfl) kfl_X10_40 (kk_T0 ho) (kl_T0 hq ho) (by decide) rfl ?_
    refine T_iload_n 1 (dk dtk_X10_addState 20 rfl) rfl rfl ?_
    refine T_iconst (v := (-1)) (dk dtk_X10_addState 21 rfl) (by decide +kernel) ?_
    refine T_icmp_ne 47 (dk dtk_X10_addState 22 rfl) (by decide) (fun c6 => ?_) (fun c6 => ?_)
    · have h := h.1 c6
      refine T_aload_n 0 (dk dtk_X10_addState 25 rfl) rfl rfl ?_
      refine T_getR o 11 (o + 12) (dk dtk_X10_addState 26 rfl) kfl_X10_29 (kk_T0 ho) (kl_T0 hq ho) (by decide) rfl (kr_T_11 ho) ?_
      refine T_iload_n 1 (dk dtk_X10_addState 27 rfl) rfl rfl ?_
      obtain ⟨h7, h⟩ := h
      refine T_iald (o + 12) 3000 (dk dtk_X10_addState 28 rfl) (kk_T12 ho) (kl_T12 hq ho) h7 ?_
      refine T_iconst (v := 1) (dk dtk_X10_addState 29 rfl) (by decide +kernel) ?_
      refine T_iadd (dk dtk_X10_addState 30 rfl) ?_
      obtain ⟨h8, h⟩ := h
      obtain ⟨x9, ex9⟩ : ∃ z, z = si x5 (o + 12) (x5.1 o 0 : Int32).toNatClampNeg ((x5.1 (o + 12) (l1 : Int32).toNatClampNeg) + 1) := ⟨_, rfl⟩
      have h := h x9 ex9
      refine T_iast (o + 12) 3000 (dk dtk_X10_addState 31 rfl) (kk_T12 ho) (kl_T12 hq ho) h8 ?_
      rw [← ex9]
      refine T_aload_n 0 (dk dtk_X10_addState 32 rfl) rfl rfl ?_
      refine T_dup (dk dtk_X10_addState 33 rfl) rfl ?_
      refine T_getI o 0 (dk dtk_X10_addState 34 rfl) kfl_X10_40 (kk_T0 ho) (kl_T0 hq ho) (by decide) rfl ?_
      refine T_iconst (v := 1) (dk dtk_X10_addState 35 rfl) (by decide +kernel) ?_
      refine T_iadd (dk dtk_X10_addState 36 rfl) ?_
      obtain ⟨x10, ex10⟩ : ∃ z, z = si x9 o 0 ((x9.1 o 0) + 1) := ⟨_, rfl⟩
      have h := h x10 ex10
      refine T_putI o 0 (dk dtk_X10_addState 37 rfl) kfl_X10_40 (kk_T0 ho) (kl_T0 hq ho) (by decide) rfl ⟨rfl, rfl⟩ ?_
      rw [← ex10]
      exact KT_vret (dk dtk_X10_addState 38 rfl) rfl h
    · have h := h.2 c6
      refine T_iconst (v := 0) (dk dtk_X10_addState 23 rfl) (by decide +kernel) ?_
      refine T_goto 55 (dk dtk_X10_addState 24 rfl) (by decide) ?_
      obtain ⟨h11, h⟩ := h
      obtain ⟨x12, ex12⟩ : ∃ z, z = si x5 (o + 12) (x5.1 o 0 : Int32).toNatClampNeg 0 := ⟨_, rfl⟩
      have h := h x12 ex12
      refine T_iast (o + 12) 3000 (dk dtk_X10_addState 31 rfl) (kk_T12 ho) (kl_T12 hq ho) h11 ?_
      rw [← ex12]
      refine T_aload_n 0 (dk dtk_X10_addState 32 rfl) rfl rfl ?_
      refine T_dup (dk dtk_X10_addState 33 rfl) rfl ?_
      refine T_getI o 0 (dk dtk_X10_addState 34 rfl) kfl_X10_40 (kk_T0 ho) (kl_T0 hq ho) (by decide) rfl ?_
      refine T_iconst (v := 1) (dk dtk_X10_addState 35 rfl) (by decide +kernel) ?_
      refine T_iadd (dk dtk_X10_addState 36 rfl) ?_
      obtain ⟨x13, ex13⟩ : ∃ z, z = si x12 o 0 ((x12.1 o 0) + 1) := ⟨_, rfl⟩
      have h := h x13 ex13
      refine T_putI o 0 (dk dtk_X10_addState 37 rfl) kfl_X10_40 (kk_T0 ho) (kl_T0 hq ho) (by decide) rfl ⟨rfl, rfl⟩ ?_
      rw [← ex13]
      exact KT_vret (dk dtk_X10_addState 38 rfl) rfl h
set_option maxRecDepth 100000 in
theorem dtk_X10_find : dck cX10_find [(0, .aload_n 0, 1), (1, .getfield 11, 3), (4, .iload_n 1, 1), (5, .iaload, 1), (6, .iconst (-1), 1), (7, .if_icmp .ne 10, 3), (10, .aload_n 0, 1), (11, .getfield 11, 3), (14, .iload_n 1, 1), (15, .iload_n 2, 1), (16, .iastore, 1), (17, .return_, 1)] = true := by decide +kernel
set_option maxRecDepth 100000 in
set_option maxHeartbeats 4000000 in
theorem kg_X10_find_0 {G : kG} {q : kP} {d : Nat} {x : gd} {P : Option gv → gd → Prop} (hq : kV q) {o : Nat} (ho : kiT q o) (l1 : Int32) (l2 : Int32)
    (h : vp_in l1 11 ∧ ((¬ ((x.1 (o + 7) (l1 : Int32).toNatClampNeg) = (-1 : Int32)) → P none x) ∧ ((x.1 (o + 7) (l1 : Int32).toNatClampNeg) = (-1 : Int32) → vp_in l1 11 ∧ (∀ x4 : gd, x4 = si x (o + 7) (l1 : Int32).toNatClampNeg l2 → P none x4)))) :
    KT G q d zk_X10_find 0 [(0, vr o), (1, vi l1), (2, vi l2)] [] x P := by
  refine T_aload_n 0 (dk dtk_X10_find 0 rfl) rfl rfl ?_
  refine T_getR o 6 (o + 7) (dk dtk_X10_find 1 rfl) kfl_X10_11 (kk_T0 ho) (kl_T0 hq ho) (by decide) rfl (kr_T_6 ho) ?_
  refine T_iload_n 1 (dk dtk_X10_find 2 rfl) rfl rfl ?_
  obtain ⟨h1, h⟩ := h
  refine T_iald (o + 7) 11 (dk dtk_X10_find 3 rfl) (kk_T7 ho) (kl_T7 hq ho) h1 ?_
  refine T_iconst (v := (-1)) (dk dtk_X10_find 4 rfl) (by decide +kernel) ?_
  refine T_icmp_ne 17 (dk dtk_X10_find 5 rfl) (by decide) (fun c2 => ?_) (fun c2 => ?_)
  · have h := h.1 c2
    exact KT_vret (dk dtk_X10_find 11 rfl) rfl h
  · have h := h.2 c2
    refine T_aload_n 0 (dk dtk_X10_find 6 rfl) rfl rfl ?_
    refine T_getR o 6 (o + 7) (dk dtk_X10_find 7 rfl) kfl_X10_11 (kk_T0 ho) (kl_T0 hq ho) (by decide) rfl (kr_T_6 ho) ?_
    refine T_iload_n 1 (dk dtk_X10_find 8 rfl) rfl rfl ?_
    refine T_iload_n 2 (dk dtk_X10_find 9 rfl) rfl rfl ?_
    obtain ⟨h3, h⟩ := h
    obtain ⟨x4, ex4⟩ : ∃ z, z = si x (o + 7) (l1 : Int32).toNatClampNeg l2 := ⟨_, rfl⟩
    have h := h x4 ex4
    refine T_iast (o + 7) 11 (dk dtk_X10_find 10 rfl) (kk_T7 ho) (kl_T7 hq ho) h3 ?_
    rw [← ex4]
    exact KT_vret (dk dtk_X10_find 11 rfl) rfl h
set_option maxRecDepth 100000 in
theorem dtk_X10_pathTo : dck cX10_pathTo [(0, .iload_n 1, 1), (1, .istore_n 3, 1), (2, .aload_n 0, 1), (3, .getfield 29, 3), (6, .iload_n 1, 1), (7, .iaload, 1), (8, .iconst 1, 1), (9, .isub, 1), (10, .istore 4, 2), (12, .iload 4, 2), (14, .ifCond .lt 33, 3), (17, .iload 4, 2), (19, .aload_n 2, 1), (20, .arraylength, 1), (21, .if_icmp .ge 26, 3), (24, .aload_n 2, 1), (25, .iload 4, 2), (27, .aload_n 0, 1), (28, .getfield 26, 3), (31, .iload_n 3, 1), (32, .iaload, 1), (33, .iastore, 1), (34, .aload_n 0, 1), (35, .getfield 23, 3), (38, .iload_n 3, 1), (39, .iaload, 1), (40, .istore_n 3, 1), (41, .iinc 4 (-1), 3), (44, .goto (-32), 3), (47, .return_, 1)] = true := by decide +kernel
set_option maxRecDepth 100000 in
set_option maxHeartbeats 4000000 in
theorem kg_X10_pathTo_0 {G : kG} {q : kP} {d : Nat} {x : gd} {P : Option gv → gd → Prop} (hq : kV q) {o : Nat} (ho : kiT q o) {a2 n2 : Nat} (ka2 : kK a2 = .inr (.int, n2)) (ma2 : a2 ∈ (kf q).2.1) (l1 : Int32)
    (h : vp_in l1 3000 ∧ KT G q d zk_X10_pathTo 12 [(0, vr o), (2, vr a2), (3, vi l1), (4, vi ((x.1 (o + 12) (l1 : Int32).toNatClampNeg) - 1))] [] x P) :
    KT G q d zk_X10_pathTo 0 [(0, vr o), (1, vi l1), (2, vr a2)] [] x P := by
  refine T_iload_n 1 (dk dtk_X10_pathTo 0 rfl) rfl rfl ?_
  refine T_istore_n (lv2 := [(3, vi l1), (0, vr o), (1, vi l1), (2, vr a2)]) (dk dtk_X10_pathTo 1 rfl) rfl (by decide) rfl ?_
  refine T_aload_n 1 (dk dtk_X10_pathTo 2 rfl) rfl rfl ?_
  refine T_getR o 11 (o + 12) (dk dtk_X10_pathTo 3 rfl) kfl_X10_29 (kk_T0 ho) (kl_T0 hq ho) (by decide) rfl (kr_T_11 ho) ?_
  refine T_iload_n 2 (dk dtk_X10_pathTo 4 rfl) rfl rfl ?_
  obtain ⟨h1, h⟩ := h
  refine T_iald (o + 12) 3000 (dk dtk_X10_pathTo 5 rfl) (kk_T12 ho) (kl_T12 hq ho) h1 ?_
  refine T_iconst (v := 1) (dk dtk_X10_pathTo 6 rfl) (by decide +kernel) ?_
  refine T_isub (dk dtk_X10_pathTo 7 rfl) ?_
  refine T_istore (lv2 := [(4, vi ((x.1 (o + 12) (l1 : Int32).toNatClampNeg) - 1)), (3, vi l1), (0, vr o), (1, vi l1), (2, vr a2)]) (dk dtk_X10_pathTo 8 rfl) (by decide) rfl ?_
  exact T_sub [2, 4, 1, 0] rfl h
set_option maxRecDepth 100000 in
set_option maxHeartbeats 4000000 in
theorem kg_X10_pathTo_12 {G : kG} {q : kP} {d : Nat} {x : gd} {P : Option gv → gd → Prop} (hq : kV q) {o : Nat} (ho : kiT q o) {a2 n2 : Nat} (ka2 : kK a2 = .inr (.int, n2)) (ma2 : a2 ∈ (kf q).2.1) (l3 : Int32) (l4 : Int32)
    (h : ((l4 < (0 : Int32) → P none x) ∧ (¬ (l4 < (0 : Int32)) → (((Int32.ofNat n2) ≤ l4 → P none x) ∧ (¬ ((Int32.ofNat n2) ≤ l4) → vp_in l3 3000 ∧ vp_in l4 n2 ∧ (∀ x5 : gd, x5 = si x a2 (l4 : Int32).toNatClampNeg (x.1 (o + 11) (l3 : Int32).toNatClampNeg) → vp_in l3 3000 ∧ KT G q d zk_X10_pathTo 12 [(0, vr o), (2, vr a2), (3, vi (x5.1 (o + 10) (l3 : Int32).toNatClampNeg)), (4, vi (l4 + (-1)))] [] x5 P)))))) :
    KT G q d zk_X10_pathTo 12 [(0, vr o), (2, vr a2), (3, vi l3), (4, vi l4)] [] x P := by
  refine T_iload 3 (dk dtk_X10_pathTo 9 rfl) rfl ?_
  refine T_if_lt 47 (dk dtk_X10_pathTo 10 rfl) (by decide) (fun c1 => ?_) (fun c1 => ?_)
  · have h := h.1 c1
    exact KT_vret (dk dtk_X10_pathTo 29 rfl) rfl h
  · have h := h.2 c1
    refine T_iload 3 (dk dtk_X10_pathTo 11 rfl) rfl ?_
    refine T_aload_n 1 (dk dtk_X10_pathTo 12 rfl) rfl rfl ?_
    refine T_alen a2 n2 0 (v := Int32.ofNat n2) (dk dtk_X10_pathTo 13 rfl) ka2 ma2 rfl rfl ?_
    refine T_icmp_ge 47 (dk dtk_X10_pathTo 14 rfl) (by decide) (fun c2 => ?_) (fun c2 => ?_)
    · have h := h.1 c2
      exact KT_vret (dk dtk_X10_pathTo 29 rfl) rfl h
    · have h := h.2 c2
      refine T_aload_n 1 (dk dtk_X10_pathTo 15 rfl) rfl rfl ?_
      refine T_iload 3 (dk dtk_X10_pathTo 16 rfl) rfl ?_
      refine T_aload_n 0 (dk dtk_X10_pathTo 17 rfl) rfl rfl ?_
      refine T_getR o 10 (o + 11) (dk dtk_X10_pathTo 18 rfl) kfl_X10_26 (kk_T0 ho) (kl_T0 hq ho) (by decide) rfl (kr_T_10 ho) ?_
      refine T_iload_n 2 (dk dtk_X10_pathTo 19 rfl) rfl rfl ?_
      obtain ⟨h3, h⟩ := h
      refine T_iald (o + 11) 3000 (dk dtk_X10_pathTo 20 rfl) (kk_T11 ho) (kl_T11 hq ho) h3 ?_
      obtain ⟨h4, h⟩ := h
      obtain ⟨x5, ex5⟩ : ∃ z, z = si x a2 (l4 : Int32).toNatClampNeg (x.1 (o + 11) (l3 : Int32).toNatClampNeg) := ⟨_, rfl⟩
      have h := h x5 ex5
      refine T_iast a2 n2 (dk dtk_X10_pathTo 21 rfl) ka2 ma2 h4 ?_
      rw [← ex5]
      refine T_aload_n 0 (dk dtk_X10_pathTo 22 rfl) rfl rfl ?_
      refine T_getR o 9 (o + 10) (dk dtk_X10_pathTo 23 rfl) kfl_X10_23 (kk_T0 ho) (kl_T0 hq ho) (by decide) rfl (kr_T_9 ho) ?_
      refine T_iload_n 2 (dk dtk_X10_pathTo 24 rfl) rfl rfl ?_
      obtain ⟨h6, h⟩ := h
      refine T_iald (o + 10) 3000 (dk dtk_X10_pathTo 25 rfl) (kk_T10 ho) (kl_T10 hq ho) h6 ?_
      refine T_istore_n (lv2 := [(3, vi (x5.1 (o + 10) (l3 : Int32).toNatClampNeg)), (0, vr o), (2, vr a2), (4, vi l4)]) (dk dtk_X10_pathTo 26 rfl) rfl (by decide) rfl ?_
      refine T_iinc (v := l4 + (-1)) (lv2 := [(4, vi (l4 + (-1))), (3, vi (x5.1 (o + 10) (l3 : Int32).toNatClampNeg)), (0, vr o), (2, vr a2)]) 3 (dk dtk_X10_pathTo 27 rfl) rfl rfl (by decide) rfl ?_
      refine T_goto 12 (dk dtk_X10_pathTo 28 rfl) (by decide) ?_
      exact T_sub [2, 3, 1, 0] rfl h
set_option maxRecDepth 100000 in
theorem dtk_X10_addTake : dck cX10_addTake [(0, .iconst 0, 1), (1, .istore_n 3, 1), (2, .iload_n 3, 1), (3, .bipush 6, 2), (5, .if_icmp .ge 35, 3), (8, .iload_n 3, 1), (9, .iload_n 2, 1), (10, .if_icmp .eq 24, 3), (13, .iload_n 1, 1), (14, .iload_n 3, 1), (15, .ishr, 1), (16, .iconst 1, 1), (17, .iand, 1), (18, .iconst 1, 1), (19, .if_icmp .ne 15, 3), (22, .aload_n 0, 1), (23, .getfield 20, 3), (26, .iload_n 3, 1), (27, .dup2, 1), (28, .iaload, 1), (29, .iconst 1, 1), (30, .iload_n 2, 1), (31, .ishl, 1), (32, .ior, 1), (33, .iastore, 1), (34, .iinc 3 1, 3), (37, .goto (-35), 3), (40, .return_, 1)] = true := by decide +kernel
set_option maxRecDepth 100000 in
set_option maxHeartbeats 4000000 in
theorem kg_X10_addTake_0 {G : kG} {q : kP} {d : Nat} {x : gd} {P : Option gv → gd → Prop} (hq : kV q) {o : Nat} (ho : kiT q o) (l1 : Int32) (l2 : Int32)
    (h : KT G q d zk_X10_addTake 2 [(0, vr o), (1, vi l1), (2, vi l2), (3, vi 0)] [] x P) :
    KT G q d zk_X10_addTake 0 [(0, vr o), (1, vi l1), (2, vi l2)] [] x P := by
  refine T_iconst (v := 0) (dk dtk_X10_addTake 0 rfl) (by decide +kernel) ?_
  refine T_istore_n (lv2 := [(3, vi 0), (0, vr o), (1, vi l1), (2, vi l2)]) (dk dtk_X10_addTake 1 rfl) rfl (by decide) rfl ?_
  exact T_sub [1, 2, 3, 0] rfl h
set_option maxRecDepth 100000 in
set_option maxHeartbeats 4000000 in
theorem kg_X10_addTake_2 {G : kG} {q : kP} {d : Nat} {x : gd} {P : Option gv → gd → Prop} (hq : kV q) {o : Nat} (ho : kiT q o) (l1 : Int32) (l2 : Int32) (l3 : Int32)
    (h : (((6 : Int32) ≤ l3 → P none x) ∧ (¬ ((6 : Int32) ≤ l3) → ((l3 = l2 → KT G q d zk_X10_addTake 2 [(0, vr o), (1, vi l1), (2, vi l2), (3, vi (l3 + 1))] [] x P) ∧ (¬ (l3 = l2) → ((¬ (((l1 >>> (l3 &&& 31 : Int32)) &&& 1) = (1 : Int32)) → KT G q d zk_X10_addTake 2 [(0, vr o), (1, vi l1), (2, vi l2), (3, vi (l3 + 1))] [] x P) ∧ (((l1 >>> (l3 &&& 31 : Int32)) &&& 1) = (1 : Int32) → vp_in l3 6 ∧ vp_in l3 6 ∧ (∀ x6 : gd, x6 = si x (o + 9) (l3 : Int32).toNatClampNeg ((x.1 (o + 9) (l3 : Int32).toNatClampNeg) ||| (1 <<< (l2 &&& 31 : Int32))) → KT G q d zk_X10_addTake 2 [(0, vr o), (1, vi l1), (2, vi l2), (3, vi (l3 + 1))] [] x6 P)))))))) :
    KT G q d zk_X10_addTake 2 [(0, vr o), (1, vi l1), (2, vi l2), (3, vi l3)] [] x P := by
  refine T_iload_n 3 (dk dtk_X10_addTake 2 rfl) rfl rfl ?_
  refine T_bipush (v := 6) (dk dtk_X10_addTake 3 rfl) (by decide +kernel) ?_
  refine T_icmp_ge 40 (dk dtk_X10_addTake 4 rfl) (by decide) (fun c1 => ?_) (fun c1 => ?_)
  · have h := h.1 c1
    exact KT_vret (dk dtk_X10_addTake 27 rfl) rfl h
  · have h := h.2 c1
    refine T_iload_n 3 (dk dtk_X10_addTake 5 rfl) rfl rfl ?_
    refine T_iload_n 2 (dk dtk_X10_addTake 6 rfl) rfl rfl ?_
    refine T_icmp_eq 34 (dk dtk_X10_addTake 7 rfl) (by decide) (fun c2 => ?_) (fun c2 => ?_)
    · have h := h.1 c2
      refine T_iinc (v := l3 + 1) (lv2 := [(3, vi (l3 + 1)), (0, vr o), (1, vi l1), (2, vi l2)]) 3 (dk dtk_X10_addTake 25 rfl) rfl rfl (by decide) rfl ?_
      refine T_goto 2 (dk dtk_X10_addTake 26 rfl) (by decide) ?_
      exact T_sub [1, 2, 3, 0] rfl h
    · have h := h.2 c2
      refine T_iload_n 1 (dk dtk_X10_addTake 8 rfl) rfl rfl ?_
      refine T_iload_n 3 (dk dtk_X10_addTake 9 rfl) rfl rfl ?_
      refine T_ishr (dk dtk_X10_addTake 10 rfl) ?_
      refine T_iconst (v := 1) (dk dtk_X10_addTake 11 rfl) (by decide +kernel) ?_
      refine T_iand (dk dtk_X10_addTake 12 rfl) ?_
      refine T_iconst (v := 1) (dk dtk_X10_addTake 13 rfl) (by decide +kernel) ?_
      refine T_icmp_ne 34 (dk dtk_X10_addTake 14 rfl) (by decide) (fun c3 => ?_) (fun c3 => ?_)
      · have h := h.1 c3
        refine T_iinc (v := l3 + 1) (lv2 := [(3, vi (l3 + 1)), (0, vr o), (1, vi l1), (2, vi l2)]) 3 (dk dtk_X10_addTake 25 rfl) rfl rfl (by decide) rfl ?_
        refine T_goto 2 (dk dtk_X10_addTake 26 rfl) (by decide) ?_
        exact T_sub [1, 2, 3, 0] rfl h
      · have h := h.2 c3
        refine T_aload_n 0 (dk dtk_X10_addTake 15 rfl) rfl rfl ?_
        refine T_getR o 8 (o + 9) (dk dtk_X10_addTake 16 rfl) kfl_X10_20 (kk_T0 ho) (kl_T0 hq ho) (by decide) rfl (kr_T_8 ho) ?_
        refine T_iload_n 3 (dk dtk_X10_addTake 17 rfl) rfl rfl ?_
        refine T_dup2 (dk dtk_X10_addTake 18 rfl) rfl rfl ?_
        obtain ⟨h4, h⟩ := h
        refine T_iald (o + 9) 6 (dk dtk_X10_addTake 19 rfl) (kk_T9 ho) (kl_T9 hq ho) h4 ?_
        refine T_iconst (v := 1) (dk dtk_X10_addTake 20 rfl) (by decide +kernel) ?_
        refine T_iload_n 2 (dk dtk_X10_addTake 21 rfl) rfl rfl ?_
        refine T_ishl (dk dtk_X10_addTake 22 rfl) ?_
        refine T_ior (dk dtk_X10_addTake 23 rfl) ?_
        obtain ⟨h5, h⟩ := h
        obtain ⟨x6, ex6⟩ : ∃ z, z = si x (o + 9) (l3 : Int32).toNatClampNeg ((x.1 (o + 9) (l3 : Int32).toNatClampNeg) ||| (1 <<< (l2 &&& 31 : Int32))) := ⟨_, rfl⟩
        have h := h x6 ex6
        refine T_iast (o + 9) 6 (dk dtk_X10_addTake 24 rfl) (kk_T9 ho) (kl_T9 hq ho) h5 ?_
        rw [← ex6]
        refine T_iinc (v := l3 + 1) (lv2 := [(3, vi (l3 + 1)), (0, vr o), (1, vi l1), (2, vi l2)]) 3 (dk dtk_X10_addTake 25 rfl) rfl rfl (by decide) rfl ?_
        refine T_goto 2 (dk dtk_X10_addTake 26 rfl) (by decide) ?_
        exact T_sub [1, 2, 3, 0] rfl h
set_option maxRecDepth 100000 in
theorem dtk_X10_shortestRing : dck cX10_shortestRing [(0, .iconst 0, 1), (1, .istore_n 1, 1), (2, .iconst 0, 1), (3, .istore_n 2, 1), (4, .iload_n 2, 1), (5, .bipush 6, 2), (7, .if_icmp .ge 30, 3), (10, .aload_n 0, 1), (11, .iload_n 2, 1), (12, .invokevirtual 66, 3), (15, .istore_n 3, 1), (16, .iload_n 3, 1), (17, .ifCond .eq 14, 3), (20, .iload_n 1, 1), (21, .ifCond .eq 8, 3), (24, .iload_n 3, 1), (25, .iload_n 1, 1), (26, .if_icmp .ge 5, 3), (29, .iload_n 3, 1), (30, .istore_n 1, 1), (31, .iinc 2 1, 3), (34, .goto (-30), 3), (37, .iload_n 1, 1), (38, .ireturn, 1)] = true := by decide +kernel
set_option maxRecDepth 100000 in
set_option maxHeartbeats 4000000 in
theorem kg_X10_shortestRing_0 {G : kG} {q : kP} {d : Nat} {x : gd} {P : Option gv → gd → Prop} (hq : kV q) {o : Nat} (ho : kiT q o)
    (h : KT G q (d + 1) zk_X10_shortestRing 4 [(0, vr o), (1, vi 0), (2, vi 0)] [] x P) :
    KT G q (d + 1) zk_X10_shortestRing 0 [(0, vr o)] [] x P := by
  refine T_iconst (v := 0) (dk dtk_X10_shortestRing 0 rfl) (by decide +kernel) ?_
  refine T_istore_n (lv2 := [(1, vi 0), (0, vr o)]) (dk dtk_X10_shortestRing 1 rfl) rfl (by decide) rfl ?_
  refine T_iconst (v := 0) (dk dtk_X10_shortestRing 2 rfl) (by decide +kernel) ?_
  refine T_istore_n (lv2 := [(2, vi 0), (1, vi 0), (0, vr o)]) (dk dtk_X10_shortestRing 3 rfl) rfl (by decide) rfl ?_
  exact T_sub [2, 1, 0] rfl h
set_option maxRecDepth 100000 in
set_option maxHeartbeats 4000000 in
theorem kg_X10_shortestRing_4 {G : kG} {q : kP} {d : Nat} {x : gd} {P : Option gv → gd → Prop} (hq : kV q) {o : Nat} (ho : kiT q o) (l1 : Int32) (l2 : Int32)
    (h : (((6 : Int32) ≤ l2 → P (some (vi l1)) x) ∧ (¬ ((6 : Int32) ≤ l2) → KT G q d zk_X10_ringFrom 0 [(0, vr o), (1, vi l2)] [] x (ri (fun r3 x2 => ((r3 = (0 : Int32) → KT G q (d + 1) zk_X10_shortestRing 4 [(0, vr o), (1, vi l1), (2, vi (l2 + 1))] [] x2 P) ∧ (¬ (r3 = (0 : Int32)) → ((l1 = (0 : Int32) → KT G q (d + 1) zk_X10_shortestRing 4 [(0, vr o), (1, vi r3), (2, vi (l2 + 1))] [] x2 P) ∧ (¬ (l1 = (0 : Int32)) → ((l1 ≤ r3 → KT G q (d + 1) zk_X10_shortestRing 4 [(0, vr o), (1, vi l1), (2, vi (l2 + 1))] [] x2 P) ∧ (¬ (l1 ≤ r3) → KT G q (d + 1) zk_X10_shortestRing 4 [(0, vr o), (1, vi r3), (2, vi (l2 + 1))] [] x2 P))))))))))) :
    KT G q (d + 1) zk_X10_shortestRing 4 [(0, vr o), (1, vi l1), (2, vi l2)] [] x P := by
  refine T_iload_n 2 (dk dtk_X10_shortestRing 4 rfl) rfl rfl ?_
  refine T_bipush (v := 6) (dk dtk_X10_shortestRing 5 rfl) (by decide +kernel) ?_
  refine T_icmp_ge 37 (dk dtk_X10_shortestRing 6 rfl) (by decide) (fun c1 => ?_) (fun c1 => ?_)
  · have h := h.1 c1
    refine T_iload_n 1 (dk dtk_X10_shortestRing 22 rfl) rfl rfl ?_
    exact KT_iret (dk dtk_X10_shortestRing 23 rfl) rfl rfl h
  · have h := h.2 c1
    refine T_aload_n 0 (dk dtk_X10_shortestRing 7 rfl) rfl rfl ?_
    refine T_iload_n 2 (dk dtk_X10_shortestRing 8 rfl) rfl rfl ?_
    refine KC_Vi [vi l2] [] rfl (dk dtk_X10_shortestRing 9 rfl) kcv_X10_66 rfl (kk_T0 ho) rfl (kl_T0 hq ho) (Nat.le_of_ble_eq_true rfl) (Nat.le_of_ble_eq_true rfl) (gok_i (av_c (gkr (kl_T0 hq ho)) (av_c rfl (av_c rfl av_n))) as_n) rfl h (fun r3 x2 h => ?_)
    refine T_istore_n (lv2 := [(3, vi r3), (0, vr o), (1, vi l1), (2, vi l2)]) (dk dtk_X10_shortestRing 10 rfl) rfl (by decide) rfl ?_
    refine T_iload_n 0 (dk dtk_X10_shortestRing 11 rfl) rfl rfl ?_
    refine T_if_eq 31 (dk dtk_X10_shortestRing 12 rfl) (by decide) (fun c4 => ?_) (fun c4 => ?_)
    · have h := h.1 c4
      refine T_iinc (v := l2 + 1) (lv2 := [(2, vi (l2 + 1)), (3, vi r3), (0, vr o), (1, vi l1)]) 3 (dk dtk_X10_shortestRing 20 rfl) rfl rfl (by decide) rfl ?_
      refine T_goto 4 (dk dtk_X10_shortestRing 21 rfl) (by decide) ?_
      exact T_sub [2, 3, 0] rfl h
    · have h := h.2 c4
      refine T_iload_n 2 (dk dtk_X10_shortestRing 13 rfl) rfl rfl ?_
      refine T_if_eq 29 (dk dtk_X10_shortestRing 14 rfl) (by decide) (fun c5 => ?_) (fun c5 => ?_)
      · have h := h.1 c5
        refine T_iload_n 0 (dk dtk_X10_shortestRing 18 rfl) rfl rfl ?_
        refine T_istore_n (lv2 := [(1, vi r3), (3, vi r3), (0, vr o), (2, vi l2)]) (dk dtk_X10_shortestRing 19 rfl) rfl (by decide) rfl ?_
        refine T_iinc (v := l2 + 1) (lv2 := [(2, vi (l2 + 1)), (1, vi r3), (3, vi r3), (0, vr o)]) 3 (dk dtk_X10_shortestRing 20 rfl) rfl rfl (by decide) rfl ?_
        refine T_goto 4 (dk dtk_X10_shortestRing 21 rfl) (by decide) ?_
        exact T_sub [3, 1, 0] rfl h
      · have h := h.2 c5
        refine T_iload_n 0 (dk dtk_X10_shortestRing 15 rfl) rfl rfl ?_
        refine T_iload_n 2 (dk dtk_X10_shortestRing 16 rfl) rfl rfl ?_
        refine T_icmp_ge 31 (dk dtk_X10_shortestRing 17 rfl) (by decide) (fun c6 => ?_) (fun c6 => ?_)
        · have h := h.1 c6
          refine T_iinc (v := l2 + 1) (lv2 := [(2, vi (l2 + 1)), (3, vi r3), (0, vr o), (1, vi l1)]) 3 (dk dtk_X10_shortestRing 20 rfl) rfl rfl (by decide) rfl ?_
          refine T_goto 4 (dk dtk_X10_shortestRing 21 rfl) (by decide) ?_
          exact T_sub [2, 3, 0] rfl h
        · have h := h.2 c6
          refine T_iload_n 0 (dk dtk_X10_shortestRing 18 rfl) rfl rfl ?_
          refine T_istore_n (lv2 := [(1, vi r3), (3, vi r3), (0, vr o), (2, vi l2)]) (dk dtk_X10_shortestRing 19 rfl) rfl (by decide) rfl ?_
          refine T_iinc (v := l2 + 1) (lv2 := [(2, vi (l2 + 1)), (1, vi r3), (3, vi r3), (0, vr o)]) 3 (dk dtk_X10_shortestRing 20 rfl) rfl rfl (by decide) rfl ?_
          refine T_goto 4 (dk dtk_X10_shortestRing 21 rfl) (by decide) ?_
          exact T_sub [3, 1, 0] rfl h
set_option maxRecDepth 100000 in
theorem dtk_X10_ringFrom : dck cX10_ringFrom [(0, .iconst 1, 1), (1, .iload_n 1, 1), (2, .ishl, 1), (3, .istore_n 2, 1), (4, .iconst 1, 1), (5, .istore_n 3, 1), (6, .iload_n 3, 1), (7, .bipush 6, 2), (9, .if_icmp .gt 65, 3), (12, .iconst 0, 1), (13, .istore 4, 2), (15, .iconst 0, 1), (16, .istore 5, 2), (18, .iload 5, 2), (20, .bipush 6, 2), (22, .if_icmp .ge 31, 3), (25, .iload_n 2, 1), (26, .iload 5, 2), (28, .ishr, 1), (29, .iconst 1, 1), (30, .iand, 1), (31, .iconst 1, 1), (32, .if_icmp .ne 15, 3), (35, .iload 4, 2), (37, .aload_n 0, 1), (38, .getfield 20, 3), (41, .iload 5, 2), (43, .iaload, 1), (44, .ior, 1), (45, .istore 4, 2), (47, .iinc 5 1, 3), (50, .goto (-32), 3), (53, .iload 4, 2), (55, .iload_n 1, 1), (56, .ishr, 1), (57, .iconst 1, 1), (58, .iand, 1), (59, .iconst 1, 1), (60, .if_icmp .ne 5, 3), (63, .iload_n 3, 1), (64, .ireturn, 1), (65, .iload 4, 2), (67, .istore_n 2, 1), (68, .iinc 3 1, 3), (71, .goto (-65), 3), (74, .iconst 0, 1), (75, .ireturn, 1)] = true := by decide +kernel
set_option maxRecDepth 100000 in
set_option maxHeartbeats 4000000 in
theorem kg_X10_ringFrom_0 {G : kG} {q : kP} {d : Nat} {x : gd} {P : Option gv → gd → Prop} (hq : kV q) {o : Nat} (ho : kiT q o) (l1 : Int32)
    (h : KT G q d zk_X10_ringFrom 6 [(0, vr o), (1, vi l1), (2, vi (1 <<< (l1 &&& 31 : Int32))), (3, vi 1)] [] x P) :
    KT G q d zk_X10_ringFrom 0 [(0, vr o), (1, vi l1)] [] x P := by
  refine T_iconst (v := 1) (dk dtk_X10_ringFrom 0 rfl) (by decide +kernel) ?_
  refine T_iload_n 1 (dk dtk_X10_ringFrom 1 rfl) rfl rfl ?_
  refine T_ishl (dk dtk_X10_ringFrom 2 rfl) ?_
  refine T_istore_n (lv2 := [(2, vi (1 <<< (l1 &&& 31 : Int32))), (0, vr o), (1, vi l1)]) (dk dtk_X10_ringFrom 3 rfl) rfl (by decide) rfl ?_
  refine T_iconst (v := 1) (dk dtk_X10_ringFrom 4 rfl) (by decide +kernel) ?_
  refine T_istore_n (lv2 := [(3, vi 1), (2, vi (1 <<< (l1 &&& 31 : Int32))), (0, vr o), (1, vi l1)]) (dk dtk_X10_ringFrom 5 rfl) rfl (by decide) rfl ?_
  exact T_sub [2, 3, 1, 0] rfl h
set_option maxRecDepth 100000 in
set_option maxHeartbeats 4000000 in
theorem kg_X10_ringFrom_6 {G : kG} {q : kP} {d : Nat} {x : gd} {P : Option gv → gd → Prop} (hq : kV q) {o : Nat} (ho : kiT q o) (l1 : Int32) (l2 : Int32) (l3 : Int32)
    (h : (((6 : Int32) < l3 → P (some (vi 0)) x) ∧ (¬ ((6 : Int32) < l3) → KT G q d zk_X10_ringFrom 18 [(0, vr o), (1, vi l1), (2, vi l2), (3, vi l3), (4, vi 0), (5, vi 0)] [] x P))) :
    KT G q d zk_X10_ringFrom 6 [(0, vr o), (1, vi l1), (2, vi l2), (3, vi l3)] [] x P := by
  refine T_iload_n 3 (dk dtk_X10_ringFrom 6 rfl) rfl rfl ?_
  refine T_bipush (v := 6) (dk dtk_X10_ringFrom 7 rfl) (by decide +kernel) ?_
  refine T_icmp_gt 74 (dk dtk_X10_ringFrom 8 rfl) (by decide) (fun c1 => ?_) (fun c1 => ?_)
  · have h := h.1 c1
    refine T_iconst (v := 0) (dk dtk_X10_ringFrom 45 rfl) (by decide +kernel) ?_
    exact KT_iret (dk dtk_X10_ringFrom 46 rfl) rfl rfl h
  · have h := h.2 c1
    refine T_iconst (v := 0) (dk dtk_X10_ringFrom 9 rfl) (by decide +kernel) ?_
    refine T_istore (lv2 := [(4, vi 0), (0, vr o), (1, vi l1), (2, vi l2), (3, vi l3)]) (dk dtk_X10_ringFrom 10 rfl) (by decide) rfl ?_
    refine T_iconst (v := 0) (dk dtk_X10_ringFrom 11 rfl) (by decide +kernel) ?_
    refine T_istore (lv2 := [(5, vi 0), (4, vi 0), (0, vr o), (1, vi l1), (2, vi l2), (3, vi l3)]) (dk dtk_X10_ringFrom 12 rfl) (by decide) rfl ?_
    exact T_sub [2, 3, 4, 5, 1, 0] rfl h
set_option maxRecDepth 100000 in
set_option maxHeartbeats 4000000 in
theorem kg_X10_ringFrom_18 {G : kG} {q : kP} {d : Nat} {x : gd} {P : Option gv → gd → Prop} (hq : kV q) {o : Nat} (ho : kiT q o) (l1 : Int32) (l2 : Int32) (l3 : Int32) (l4 : Int32) (l5 : Int32)
    (h : (((6 : Int32) ≤ l5 → ((¬ (((l4 >>> (l1 &&& 31 : Int32)) &&& 1) = (1 : Int32)) → KT G q d zk_X10_ringFrom 6 [(0, vr o), (1, vi l1), (2, vi l4), (3, vi (l3 + 1))] [] x P) ∧ (((l4 >>> (l1 &&& 31 : Int32)) &&& 1) = (1 : Int32) → P (some (vi l3)) x))) ∧ (¬ ((6 : Int32) ≤ l5) → ((¬ (((l2 >>> (l5 &&& 31 : Int32)) &&& 1) = (1 : Int32)) → KT G q d zk_X10_ringFrom 18 [(0, vr o), (1, vi l1), (2, vi l2), (3, vi l3), (4, vi l4), (5, vi (l5 + 1))] [] x P) ∧ (((l2 >>> (l5 &&& 31 : Int32)) &&& 1) = (1 : Int32) → vp_in l5 6 ∧ KT G q d zk_X10_ringFrom 18 [(0, vr o), (1, vi l1), (2, vi l2), (3, vi l3), (4, vi (l4 ||| (x.1 (o + 9) (l5 : Int32).toNatClampNeg))), (5, vi (l5 + 1))] [] x P))))) :
    KT G q d zk_X10_ringFrom 18 [(0, vr o), (1, vi l1), (2, vi l2), (3, vi l3), (4, vi l4), (5, vi l5)] [] x P := by
  refine T_iload 5 (dk dtk_X10_ringFrom 13 rfl) rfl ?_
  refine T_bipush (v := 6) (dk dtk_X10_ringFrom 14 rfl) (by decide +kernel) ?_
  refine T_icmp_ge 53 (dk dtk_X10_ringFrom 15 rfl) (by decide) (fun c1 => ?_) (fun c1 => ?_)
  · have h := h.1 c1
    refine T_iload 4 (dk dtk_X10_ringFrom 32 rfl) rfl ?_
    refine T_iload_n 1 (dk dtk_X10_ringFrom 33 rfl) rfl rfl ?_
    refine T_ishr (dk dtk_X10_ringFrom 34 rfl) ?_
    refine T_iconst (v := 1) (dk dtk_X10_ringFrom 35 rfl) (by decide +kernel) ?_
    refine T_iand (dk dtk_X10_ringFrom 36 rfl) ?_
    refine T_iconst (v := 1) (dk dtk_X10_ringFrom 37 rfl) (by decide +kernel) ?_
    refine T_icmp_ne 65 (dk dtk_X10_ringFrom 38 rfl) (by decide) (fun c2 => ?_) (fun c2 => ?_)
    · have h := h.1 c2
      refine T_iload 4 (dk dtk_X10_ringFrom 41 rfl) rfl ?_
      refine T_istore_n (lv2 := [(2, vi l4), (0, vr o), (1, vi l1), (3, vi l3), (4, vi l4), (5, vi l5)]) (dk dtk_X10_ringFrom 42 rfl) rfl (by decide) rfl ?_
      refine T_iinc (v := l3 + 1) (lv2 := [(3, vi (l3 + 1)), (2, vi l4), (0, vr o), (1, vi l1), (4, vi l4), (5, vi l5)]) 3 (dk dtk_X10_ringFrom 43 rfl) rfl rfl (by decide) rfl ?_
      refine T_goto 6 (dk dtk_X10_ringFrom 44 rfl) (by decide) ?_
      exact T_sub [2, 3, 1, 0] rfl h
    · have h := h.2 c2
      refine T_iload_n 3 (dk dtk_X10_ringFrom 39 rfl) rfl rfl ?_
      exact KT_iret (dk dtk_X10_ringFrom 40 rfl) rfl rfl h
  · have h := h.2 c1
    refine T_iload_n 2 (dk dtk_X10_ringFrom 16 rfl) rfl rfl ?_
    refine T_iload 5 (dk dtk_X10_ringFrom 17 rfl) rfl ?_
    refine T_ishr (dk dtk_X10_ringFrom 18 rfl) ?_
    refine T_iconst (v := 1) (dk dtk_X10_ringFrom 19 rfl) (by decide +kernel) ?_
    refine T_iand (dk dtk_X10_ringFrom 20 rfl) ?_
    refine T_iconst (v := 1) (dk dtk_X10_ringFrom 21 rfl) (by decide +kernel) ?_
    refine T_icmp_ne 47 (dk dtk_X10_ringFrom 22 rfl) (by decide) (fun c3 => ?_) (fun c3 => ?_)
    · have h := h.1 c3
      refine T_iinc (v := l5 + 1) (lv2 := [(5, vi (l5 + 1)), (0, vr o), (1, vi l1), (2, vi l2), (3, vi l3), (4, vi l4)]) 5 (dk dtk_X10_ringFrom 30 rfl) rfl rfl (by decide) rfl ?_
      refine T_goto 18 (dk dtk_X10_ringFrom 31 rfl) (by decide) ?_
      exact T_sub [1, 2, 3, 4, 5, 0] rfl h
    · have h := h.2 c3
      refine T_iload 4 (dk dtk_X10_ringFrom 23 rfl) rfl ?_
      refine T_aload_n 0 (dk dtk_X10_ringFrom 24 rfl) rfl rfl ?_
      refine T_getR o 8 (o + 9) (dk dtk_X10_ringFrom 25 rfl) kfl_X10_20 (kk_T0 ho) (kl_T0 hq ho) (by decide) rfl (kr_T_8 ho) ?_
      refine T_iload 5 (dk dtk_X10_ringFrom 26 rfl) rfl ?_
      obtain ⟨h4, h⟩ := h
      refine T_iald (o + 9) 6 (dk dtk_X10_ringFrom 27 rfl) (kk_T9 ho) (kl_T9 hq ho) h4 ?_
      refine T_ior (dk dtk_X10_ringFrom 28 rfl) ?_
      refine T_istore (lv2 := [(4, vi (l4 ||| (x.1 (o + 9) (l5 : Int32).toNatClampNeg))), (0, vr o), (1, vi l1), (2, vi l2), (3, vi l3), (5, vi l5)]) (dk dtk_X10_ringFrom 29 rfl) (by decide) rfl ?_
      refine T_iinc (v := l5 + 1) (lv2 := [(5, vi (l5 + 1)), (4, vi (l4 ||| (x.1 (o + 9) (l5 : Int32).toNatClampNeg))), (0, vr o), (1, vi l1), (2, vi l2), (3, vi l3)]) 5 (dk dtk_X10_ringFrom 30 rfl) rfl rfl (by decide) rfl ?_
      refine T_goto 18 (dk dtk_X10_ringFrom 31 rfl) (by decide) ?_
      exact T_sub [2, 3, 4, 5, 1, 0] rfl h
set_option maxRecDepth 100000 in
theorem dtk_X10_valueOf : dck cX10_valueOf [(0, .aload_n 0, 1), (1, .getfield 33, 3), (4, .aload_n 0, 1), (5, .getfield 37, 3), (8, .iload_n 1, 1), (9, .iaload, 1), (10, .aaload, 1), (11, .iload_n 2, 1), (12, .iaload, 1), (13, .ireturn, 1)] = true := by decide +kernel
set_option maxRecDepth 100000 in
set_option maxHeartbeats 4000000 in
theorem kg_X10_valueOf_0 {G : kG} {q : kP} {d : Nat} {x : gd} {P : Option gv → gd → Prop} (hq : kV q) {o : Nat} (ho : kiT q o) (l1 : Int32) (l2 : Int32)
    (h : vp_in l1 3000 ∧ vp_in (x.1 (o + 14) (l1 : Int32).toNatClampNeg) 3000 ∧ (∀ u3, u3 = (kf q).1 (o + 13) (x.1 (o + 14) (l1 : Int32).toNatClampNeg : Int32).toNatClampNeg → ∃ c4, u3 = some c4 ∧ kK c4 = .inr (.int, 24) ∧ c4 ∈ (kf q).2.1 ∧ vp_in l2 24 ∧ P (some (vi (x.1 c4 (l2 : Int32).toNatClampNeg))) x)) :
    KT G q d zk_X10_valueOf 0 [(0, vr o), (1, vi l1), (2, vi l2)] [] x P := by
  refine T_aload_n 0 (dk dtk_X10_valueOf 0 rfl) rfl rfl ?_
  refine T_getR o 12 (o + 13) (dk dtk_X10_valueOf 1 rfl) kfl_X10_33 (kk_T0 ho) (kl_T0 hq ho) (by decide) rfl (kr_T_12 ho) ?_
  refine T_aload_n 0 (dk dtk_X10_valueOf 2 rfl) rfl rfl ?_
  refine T_getR o 13 (o + 14) (dk dtk_X10_valueOf 3 rfl) kfl_X10_37 (kk_T0 ho) (kl_T0 hq ho) (by decide) rfl (kr_T_13 ho) ?_
  refine T_iload_n 1 (dk dtk_X10_valueOf 4 rfl) rfl rfl ?_
  obtain ⟨h1, h⟩ := h
  refine T_iald (o + 14) 3000 (dk dtk_X10_valueOf 5 rfl) (kk_T14 ho) (kl_T14 hq ho) h1 ?_
  obtain ⟨h2, h⟩ := h
  obtain ⟨u3, eu3⟩ : ∃ z, z = (kf q).1 (o + 13) (x.1 (o + 14) (l1 : Int32).toNatClampNeg : Int32).toNatClampNeg := ⟨_, rfl⟩
  have h := h u3 eu3
  refine T_aaldI (o + 13) 3000 (dk dtk_X10_valueOf 6 rfl) (kk_T13 ho) (kl_T13 hq ho) h2 ?_
  rw [← eu3]
  refine T_iload_n 2 (dk dtk_X10_valueOf 7 rfl) rfl rfl ?_
  obtain ⟨c4, rfl, g5, g6, h⟩ := h
  obtain ⟨h7, h⟩ := h
  refine T_iald c4 24 (dk dtk_X10_valueOf 8 rfl) g5 g6 h7 ?_
  exact KT_iret (dk dtk_X10_valueOf 9 rfl) rfl rfl h
set_option maxRecDepth 100000 in
theorem dtk_X10_addOutcome : dck cX10_addOutcome [(0, .iconst 0, 1), (1, .istore_n 3, 1), (2, .aload_n 0, 1), (3, .getfield 51, 3), (6, .istore 4, 2), (8, .iconst 0, 1), (9, .istore 5, 2), (11, .iload 5, 2), (13, .sipush 3000, 3), (16, .if_icmp .ge 65, 3), (19, .iload_n 3, 1), (20, .iload 4, 2), (22, .if_icmp .ge 59, 3), (25, .iload_n 3, 1), (26, .iload 4, 2), (28, .iadd, 1), (29, .iconst 2, 1), (30, .idiv, 1), (31, .istore 6, 2), (33, .aload_n 0, 1), (34, .getfield 33, 3), (37, .aload_n 0, 1), (38, .getfield 37, 3), (41, .iload 6, 2), (43, .iaload, 1), (44, .aaload, 1), (45, .aload_n 1, 1), (46, .iload_n 2, 1), (47, .invokestatic 70, 3), (50, .istore 7, 2), (52, .iload 7, 2), (54, .ifCond .ne 4, 3), (57, .return_, 1), (58, .iload 7, 2), (60, .ifCond .ge 11, 3), (63, .iload 6, 2), (65, .iconst 1, 1), (66, .iadd, 1), (67, .istore_n 3, 1), (68, .goto 7, 3), (71, .iload 6, 2), (73, .istore 4, 2), (75, .iinc 5 1, 3), (78, .goto (-67), 3), (81, .aload_n 0, 1), (82, .iload_n 3, 1), (83, .aload_n 1, 1), (84, .iload_n 2, 1), (85, .invokevirtual 74, 3), (88, .return_, 1)] = true := by decide +kernel
set_option maxRecDepth 100000 in
theorem dtk_X10_insertOutcome : dck cX10_insertOutcome [(0, .aload_n 0, 1), (1, .getfield 51, 3), (4, .sipush 3000, 3), (7, .if_icmp .lt 4, 3), (10, .return_, 1), (11, .aload_n 0, 1), (12, .getfield 33, 3), (15, .aload_n 0, 1), (16, .getfield 51, 3), (19, .aaload, 1), (20, .ifnonnull 16, 3), (23, .aload_n 0, 1), (24, .getfield 33, 3), (27, .aload_n 0, 1), (28, .getfield 51, 3), (31, .bipush 24, 2), (33, .newarray .int, 2), (35, .aastore, 1), (36, .aload_n 2, 1), (37, .iconst 0, 1), (38, .aload_n 0, 1), (39, .getfield 33, 3), (42, .aload_n 0, 1), (43, .getfield 51, 3), (46, .aaload, 1), (47, .iconst 0, 1), (48, .iload_n 3, 1), (49, .invokestatic 78, 3), (52, .aload_n 0, 1), (53, .getfield 37, 3), (56, .iload_n 1, 1), (57, .aload_n 0, 1), (58, .getfield 37, 3), (61, .iload_n 1, 1), (62, .iconst 1, 1), (63, .iadd, 1), (64, .aload_n 0, 1), (65, .getfield 51, 3), (68, .iload_n 1, 1), (69, .isub, 1), (70, .invokestatic 78, 3), (73, .aload_n 0, 1), (74, .getfield 37, 3), (77, .iload_n 1, 1), (78, .aload_n 0, 1), (79, .getfield 51, 3), (82, .iastore, 1), (83, .aload_n 0, 1), (84, .dup, 1), (85, .getfield 51, 3), (88, .iconst 1, 1), (89, .iadd, 1), (90, .putfield 51, 3), (93, .return_, 1)] = true := by decide +kernel
set_option maxRecDepth 100000 in
theorem dtk_X10_order : dck cX10_order [(0, .iconst 0, 1), (1, .istore_n 3, 1), (2, .iload_n 3, 1), (3, .iload_n 2, 1), (4, .if_icmp .ge 33, 3), (7, .aload_n 0, 1), (8, .iload_n 3, 1), (9, .iaload, 1), (10, .aload_n 1, 1), (11, .iload_n 3, 1), (12, .iaload, 1), (13, .if_icmp .eq 18, 3), (16, .aload_n 0, 1), (17, .iload_n 3, 1), (18, .iaload, 1), (19, .aload_n 1, 1), (20, .iload_n 3, 1), (21, .iaload, 1), (22, .if_icmp .ge 7, 3), (25, .iconst (-1), 1), (26, .goto 4, 3), (29, .iconst 1, 1), (30, .ireturn, 1), (31, .iinc 3 1, 3), (34, .goto (-32), 3), (37, .iconst 0, 1), (38, .ireturn, 1)] = true := by decide +kernel
set_option maxRecDepth 100000 in
set_option maxHeartbeats 4000000 in
theorem kg_X10_order_0 {G : kG} {q : kP} {d : Nat} {x : gd} {P : Option gv → gd → Prop} (hq : kV q) {o : Nat} (ho : kiT q o) {a0 n0 : Nat} (ka0 : kK a0 = .inr (.int, n0)) (ma0 : a0 ∈ (kf q).2.1) {a1 n1 : Nat} (ka1 : kK a1 = .inr (.int, n1)) (ma1 : a1 ∈ (kf q).2.1) (l2 : Int32)
    (h : KT G q d zk_X10_order 2 [(0, vr a0), (1, vr a1), (2, vi l2), (3, vi 0)] [] x P) :
    KT G q d zk_X10_order 0 [(0, vr a0), (1, vr a1), (2, vi l2)] [] x P := by
  refine T_iconst (v := 0) (dk dtk_X10_order 0 rfl) (by decide +kernel) ?_
  refine T_istore_n (lv2 := [(3, vi 0), (0, vr a0), (1, vr a1), (2, vi l2)]) (dk dtk_X10_order 1 rfl) rfl (by decide) rfl ?_
  exact T_sub [1, 2, 3, 0] rfl h
set_option maxRecDepth 100000 in
set_option maxHeartbeats 4000000 in
theorem kg_X10_order_2 {G : kG} {q : kP} {d : Nat} {x : gd} {P : Option gv → gd → Prop} (hq : kV q) {o : Nat} (ho : kiT q o) {a0 n0 : Nat} (ka0 : kK a0 = .inr (.int, n0)) (ma0 : a0 ∈ (kf q).2.1) {a1 n1 : Nat} (ka1 : kK a1 = .inr (.int, n1)) (ma1 : a1 ∈ (kf q).2.1) (l2 : Int32) (l3 : Int32)
    (h : ((l2 ≤ l3 → P (some (vi 0)) x) ∧ (¬ (l2 ≤ l3) → vp_in l3 n0 ∧ vp_in l3 n1 ∧ (((x.1 a0 (l3 : Int32).toNatClampNeg) = (x.1 a1 (l3 : Int32).toNatClampNeg) → KT G q d zk_X10_order 2 [(0, vr a0), (1, vr a1), (2, vi l2), (3, vi (l3 + 1))] [] x P) ∧ (¬ ((x.1 a0 (l3 : Int32).toNatClampNeg) = (x.1 a1 (l3 : Int32).toNatClampNeg)) → vp_in l3 n0 ∧ vp_in l3 n1 ∧ (((x.1 a1 (l3 : Int32).toNatClampNeg) ≤ (x.1 a0 (l3 : Int32).toNatClampNeg) → P (some (vi 1)) x) ∧ (¬ ((x.1 a1 (l3 : Int32).toNatClampNeg) ≤ (x.1 a0 (l3 : Int32).toNatClampNeg)) → P (some (vi (-1))) x))))))) :
    KT G q d zk_X10_order 2 [(0, vr a0), (1, vr a1), (2, vi l2), (3, vi l3)] [] x P := by
  refine T_iload_n 3 (dk dtk_X10_order 2 rfl) rfl rfl ?_
  refine T_iload_n 2 (dk dtk_X10_order 3 rfl) rfl rfl ?_
  refine T_icmp_ge 37 (dk dtk_X10_order 4 rfl) (by decide) (fun c1 => ?_) (fun c1 => ?_)
  · have h := h.1 c1
    refine T_iconst (v := 0) (dk dtk_X10_order 25 rfl) (by decide +kernel) ?_
    exact KT_iret (dk dtk_X10_order 26 rfl) rfl rfl h
  · have h := h.2 c1
    refine T_aload_n 0 (dk dtk_X10_order 5 rfl) rfl rfl ?_
    refine T_iload_n 3 (dk dtk_X10_order 6 rfl) rfl rfl ?_
    obtain ⟨h2, h⟩ := h
    refine T_iald a0 n0 (dk dtk_X10_order 7 rfl) ka0 ma0 h2 ?_
    refine T_aload_n 1 (dk dtk_X10_order 8 rfl) rfl rfl ?_
    refine T_iload_n 3 (dk dtk_X10_order 9 rfl) rfl rfl ?_
    obtain ⟨h3, h⟩ := h
    refine T_iald a1 n1 (dk dtk_X10_order 10 rfl) ka1 ma1 h3 ?_
    refine T_icmp_eq 31 (dk dtk_X10_order 11 rfl) (by decide) (fun c4 => ?_) (fun c4 => ?_)
    · have h := h.1 c4
      refine T_iinc (v := l3 + 1) (lv2 := [(3, vi (l3 + 1)), (0, vr a0), (1, vr a1), (2, vi l2)]) 3 (dk dtk_X10_order 23 rfl) rfl rfl (by decide) rfl ?_
      refine T_goto 2 (dk dtk_X10_order 24 rfl) (by decide) ?_
      exact T_sub [1, 2, 3, 0] rfl h
    · have h := h.2 c4
      refine T_aload_n 0 (dk dtk_X10_order 12 rfl) rfl rfl ?_
      refine T_iload_n 3 (dk dtk_X10_order 13 rfl) rfl rfl ?_
      obtain ⟨h5, h⟩ := h
      refine T_iald a0 n0 (dk dtk_X10_order 14 rfl) ka0 ma0 h5 ?_
      refine T_aload_n 1 (dk dtk_X10_order 15 rfl) rfl rfl ?_
      refine T_iload_n 3 (dk dtk_X10_order 16 rfl) rfl rfl ?_
      obtain ⟨h6, h⟩ := h
      refine T_iald a1 n1 (dk dtk_X10_order 17 rfl) ka1 ma1 h6 ?_
      refine T_icmp_ge 29 (dk dtk_X10_order 18 rfl) (by decide) (fun c7 => ?_) (fun c7 => ?_)
      · have h := h.1 c7
        refine T_iconst (v := 1) (dk dtk_X10_order 21 rfl) (by decide +kernel) ?_
        exact KT_iret (dk dtk_X10_order 22 rfl) rfl rfl h
      · have h := h.2 c7
        refine T_iconst (v := (-1)) (dk dtk_X10_order 19 rfl) (by decide +kernel) ?_
        refine T_goto 30 (dk dtk_X10_order 20 rfl) (by decide) ?_
        exact KT_iret (dk dtk_X10_order 22 rfl) rfl rfl h
end
