set_option maxRecDepth 100000 in
theorem dtk_X3_serveSet : dck cX3_serveSet [(0, .aload_n 0, 1), (1, .iload_n 2, 1), (2, .invokestatic 128, 3), (5, .istore_n 3, 1), (6, .iload_n 1, 1), (7, .tableswitch 79 0 2 #[25, 46, 68], 25), (32, .iload_n 3, 1), (33, .iconst (-1), 1), (34, .if_icmp .ne 8, 3), (37, .aload_n 0, 1), (38, .iload_n 2, 1), (39, .invokestatic 121, 3), (42, .iload_n 3, 1), (43, .iconst (-1), 1), (44, .if_icmp .ne 7, 3), (47, .iconst 1, 1), (48, .goto 4, 3), (51, .iconst 0, 1), (52, .ireturn, 1), (53, .iload_n 3, 1), (54, .iconst (-1), 1), (55, .if_icmp .eq 9, 3), (58, .aload_n 0, 1), (59, .iload_n 3, 1), (60, .invokestatic 124, 3), (63, .pop, 1), (64, .iload_n 3, 1), (65, .iconst (-1), 1), (66, .if_icmp .ne 7, 3), (69, .iconst 0, 1), (70, .goto 4, 3), (73, .iconst 1, 1), (74, .ireturn, 1), (75, .iload_n 3, 1), (76, .iconst (-1), 1), (77, .if_icmp .ne 7, 3), (80, .iconst 0, 1), (81, .goto 4, 3), (84, .iconst 1, 1), (85, .ireturn, 1), (86, .aload_n 0, 1), (87, .iconst 0, 1), (88, .iaload, 1), (89, .ireturn, 1)] = true := by decide +kernel
set_option maxRecDepth 100000 in
set_option maxHeartbeats 4000000 in
theorem kg_X3_serveSet_0 {G : kG} {q : kP} {d : Nat} {x : gd} {P : Option gv → gd → Prop} (hq : kV q) (hh : q.hi = true) {a0 n0 : Nat} (ka0 : kK a0 = .inr (.int, n0)) (ma0 : a0 ∈ (kf q).2.1) (l1 : Int32) (l2 : Int32)
    (h : KT G q d zk_X3_find 0 [(0, vr a0), (1, vi l2)] [] x (ri (fun r2 x1 => (((l1 = 0) → ((¬ (r2 = (-1 : Int32)) → KT G q (d + 1) zk_X3_serveSet 42 [(3, vi r2)] [] x1 P) ∧ (r2 = (-1 : Int32) → KT G q d zk_X3_append 0 [(0, vr a0), (1, vi l2)] [] x1 (rv (fun x5 => KT G q (d + 1) zk_X3_serveSet 42 [(3, vi r2)] [] x5 P))))) ∧ ((l1 = 1) → ((r2 = (-1 : Int32) → KT G q (d + 1) zk_X3_serveSet 64 [(3, vi r2)] [] x1 P) ∧ (¬ (r2 = (-1 : Int32)) → KT G q d zk_X3_removeAt 0 [(0, vr a0), (1, vi r2)] [] x1 (ri (fun r9 x8 => KT G q (d + 1) zk_X3_serveSet 64 [(3, vi r2)] [] x8 P))))) ∧ ((l1 = 2) → ((¬ (r2 = (-1 : Int32)) → P (some (vi 1)) x1) ∧ (r2 = (-1 : Int32) → P (some (vi 0)) x1))) ∧ ((∀ k ∈ [(0 : Int32), (1 : Int32), (2 : Int32)], ¬ l1 = k) → vp_in 0 n0 ∧ P (some (vi (x1.1 a0 (0 : Int32).toNatClampNeg))) x1))))) :
    KT G q (d + 1) zk_X3_serveSet 0 [(0, vr a0), (1, vi l1), (2, vi l2)] [] x P := by
  refine T_aload_n 0 (dk dtk_X3_serveSet 0 rfl) rfl rfl ?_
  refine T_iload_n 2 (dk dtk_X3_serveSet 1 rfl) rfl rfl ?_
  refine KC_Si [vr a0, vi l2] [] rfl (dk dtk_X3_serveSet 2 rfl) kcs_X3_128 rfl (Nat.le_of_ble_eq_true rfl) (Nat.le_of_ble_eq_true rfl) (gok_i (av_c (gkr ma0) (av_c rfl (av_c rfl av_n))) as_n) rfl h (fun r2 x1 h => ?_)
  refine T_istore_n (lv2 := [(3, vi r2), (0, vr a0), (1, vi l1), (2, vi l2)]) (dk dtk_X3_serveSet 3 rfl) rfl (by decide) rfl ?_
  refine T_iload_n 2 (dk dtk_X3_serveSet 4 rfl) rfl rfl ?_
  by_cases c3 : l1 = 0
  · have h := h.1 c3
    refine T_table 25 32 (dk dtk_X3_serveSet 5 rfl) (by decide) (by rw [c3]; decide +kernel) (by decide) ?_
    refine T_iload_n 0 (dk dtk_X3_serveSet 6 rfl) rfl rfl ?_
    refine T_iconst (v := (-1)) (dk dtk_X3_serveSet 7 rfl) (by decide +kernel) ?_
    refine T_icmp_ne 42 (dk dtk_X3_serveSet 8 rfl) (by decide) (fun c4 => ?_) (fun c4 => ?_)
    · have h := h.1 c4
      exact T_sub [0] rfl h
    · have h := h.2 c4
      refine T_aload_n 1 (dk dtk_X3_serveSet 9 rfl) rfl rfl ?_
      refine T_iload_n 3 (dk dtk_X3_serveSet 10 rfl) rfl rfl ?_
      refine T_sub (lv2 := [(3, vi r2)]) [0] rfl ?_
      refine KC_Sv [vr a0, vi l2] [] rfl (dk dtk_X3_serveSet 11 rfl) kcs_X3_121 rfl (Nat.le_of_ble_eq_true rfl) (Nat.le_of_ble_eq_true rfl) (gok_i (av_c rfl av_n) as_n) rfl h (fun x5 h => ?_)
      exact h
  · have h := h.2
    by_cases c6 : l1 = 1
    · have h := h.1 c6
      refine T_table 46 53 (dk dtk_X3_serveSet 5 rfl) (by decide) (by rw [c6]; decide +kernel) (by decide) ?_
      refine T_iload_n 0 (dk dtk_X3_serveSet 19 rfl) rfl rfl ?_
      refine T_iconst (v := (-1)) (dk dtk_X3_serveSet 20 rfl) (by decide +kernel) ?_
      refine T_icmp_eq 64 (dk dtk_X3_serveSet 21 rfl) (by decide) (fun c7 => ?_) (fun c7 => ?_)
      · have h := h.1 c7
        exact T_sub [0] rfl h
      · have h := h.2 c7
        refine T_aload_n 1 (dk dtk_X3_serveSet 22 rfl) rfl rfl ?_
        refine T_iload_n 0 (dk dtk_X3_serveSet 23 rfl) rfl rfl ?_
        refine T_sub (lv2 := [(3, vi r2)]) [0] rfl ?_
        refine KC_Si [vr a0, vi r2] [] rfl (dk dtk_X3_serveSet 24 rfl) kcs_X3_124 rfl (Nat.le_of_ble_eq_true rfl) (Nat.le_of_ble_eq_true rfl) (gok_i (av_c rfl av_n) as_n) rfl h (fun r9 x8 h => ?_)
        refine T_pop (dk dtk_X3_serveSet 25 rfl) rfl ?_
        exact h
    · have h := h.2
      by_cases c10 : l1 = 2
      · have h := h.1 c10
        refine T_table 68 75 (dk dtk_X3_serveSet 5 rfl) (by decide) (by rw [c10]; decide +kernel) (by decide) ?_
        refine T_iload_n 0 (dk dtk_X3_serveSet 33 rfl) rfl rfl ?_
        refine T_iconst (v := (-1)) (dk dtk_X3_serveSet 34 rfl) (by decide +kernel) ?_
        refine T_icmp_ne 84 (dk dtk_X3_serveSet 35 rfl) (by decide) (fun c11 => ?_) (fun c11 => ?_)
        · have h := h.1 c11
          refine T_iconst (v := 1) (dk dtk_X3_serveSet 38 rfl) (by decide +kernel) ?_
          exact KT_iret (dk dtk_X3_serveSet 39 rfl) rfl rfl h
        · have h := h.2 c11
          refine T_iconst (v := 0) (dk dtk_X3_serveSet 36 rfl) (by decide +kernel) ?_
          refine T_goto 85 (dk dtk_X3_serveSet 37 rfl) (by decide) ?_
          exact KT_iret (dk dtk_X3_serveSet 39 rfl) rfl rfl h
      · have h := h.2
        have n12 : ∀ k ∈ [(0 : Int32), (1 : Int32), (2 : Int32)], ¬ l1 = k := (gno c3 (gno c6 (gno c10 gno0)))
        have h := h n12
        refine T_table 79 86 (dk dtk_X3_serveSet 5 rfl) (by decide) (gtab_d [(0 : Int32), (1 : Int32), (2 : Int32)] (by decide +kernel) n12) (by decide) ?_
        refine T_aload_n 1 (dk dtk_X3_serveSet 40 rfl) rfl rfl ?_
        refine T_iconst (v := 0) (dk dtk_X3_serveSet 41 rfl) (by decide +kernel) ?_
        obtain ⟨h13, h⟩ := h
        refine T_iald a0 n0 (dk dtk_X3_serveSet 42 rfl) ka0 ma0 h13 ?_
        exact KT_iret (dk dtk_X3_serveSet 43 rfl) rfl rfl h
set_option maxRecDepth 100000 in
set_option maxHeartbeats 4000000 in
theorem kg_X3_serveSet_42 {G : kG} {q : kP} {d : Nat} {x : gd} {P : Option gv → gd → Prop} (hq : kV q) (hh : q.hi = true) {a0 n0 : Nat} (ka0 : kK a0 = .inr (.int, n0)) (ma0 : a0 ∈ (kf q).2.1) (l3 : Int32)
    (h : ((¬ (l3 = (-1 : Int32)) → P (some (vi 0)) x) ∧ (l3 = (-1 : Int32) → P (some (vi 1)) x))) :
    KT G q (d + 1) zk_X3_serveSet 42 [(3, vi l3)] [] x P := by
  refine T_iload_n 0 (dk dtk_X3_serveSet 12 rfl) rfl rfl ?_
  refine T_iconst (v := (-1)) (dk dtk_X3_serveSet 13 rfl) (by decide +kernel) ?_
  refine T_icmp_ne 51 (dk dtk_X3_serveSet 14 rfl) (by decide) (fun c1 => ?_) (fun c1 => ?_)
  · have h := h.1 c1
    refine T_iconst (v := 0) (dk dtk_X3_serveSet 17 rfl) (by decide +kernel) ?_
    exact KT_iret (dk dtk_X3_serveSet 18 rfl) rfl rfl h
  · have h := h.2 c1
    refine T_iconst (v := 1) (dk dtk_X3_serveSet 15 rfl) (by decide +kernel) ?_
    refine T_goto 52 (dk dtk_X3_serveSet 16 rfl) (by decide) ?_
    exact KT_iret (dk dtk_X3_serveSet 18 rfl) rfl rfl h
set_option maxRecDepth 100000 in
set_option maxHeartbeats 4000000 in
theorem kg_X3_serveSet_64 {G : kG} {q : kP} {d : Nat} {x : gd} {P : Option gv → gd → Prop} (hq : kV q) (hh : q.hi = true) {a0 n0 : Nat} (ka0 : kK a0 = .inr (.int, n0)) (ma0 : a0 ∈ (kf q).2.1) (l3 : Int32)
    (h : ((¬ (l3 = (-1 : Int32)) → P (some (vi 1)) x) ∧ (l3 = (-1 : Int32) → P (some (vi 0)) x))) :
    KT G q (d + 1) zk_X3_serveSet 64 [(3, vi l3)] [] x P := by
  refine T_iload_n 0 (dk dtk_X3_serveSet 26 rfl) rfl rfl ?_
  refine T_iconst (v := (-1)) (dk dtk_X3_serveSet 27 rfl) (by decide +kernel) ?_
  refine T_icmp_ne 73 (dk dtk_X3_serveSet 28 rfl) (by decide) (fun c1 => ?_) (fun c1 => ?_)
  · have h := h.1 c1
    refine T_iconst (v := 1) (dk dtk_X3_serveSet 31 rfl) (by decide +kernel) ?_
    exact KT_iret (dk dtk_X3_serveSet 32 rfl) rfl rfl h
  · have h := h.2 c1
    refine T_iconst (v := 0) (dk dtk_X3_serveSet 29 rfl) (by decide +kernel) ?_
    refine T_goto 74 (dk dtk_X3_serveSet 30 rfl) (by decide) ?_
    exact KT_iret (dk dtk_X3_serveSet 32 rfl) rfl rfl h
set_option maxRecDepth 100000 in
theorem dtk_X3_append : dck cX3_append [(0, .aload_n 0, 1), (1, .iconst 0, 1), (2, .iaload, 1), (3, .bipush 12, 2), (5, .if_icmp .ge 16, 3), (8, .aload_n 0, 1), (9, .iconst 0, 1), (10, .dup2, 1), (11, .iaload, 1), (12, .iconst 1, 1), (13, .iadd, 1), (14, .iastore, 1), (15, .aload_n 0, 1), (16, .aload_n 0, 1), (17, .iconst 0, 1), (18, .iaload, 1), (19, .iload_n 1, 1), (20, .iastore, 1), (21, .return_, 1)] = true := by decide +kernel
set_option maxRecDepth 100000 in
set_option maxHeartbeats 4000000 in
theorem kg_X3_append_0 {G : kG} {q : kP} {d : Nat} {x : gd} {P : Option gv → gd → Prop} (hq : kV q) (hh : q.hi = true) {a0 n0 : Nat} (ka0 : kK a0 = .inr (.int, n0)) (ma0 : a0 ∈ (kf q).2.1) (l1 : Int32)
    (h : vp_in 0 n0 ∧ (((12 : Int32) ≤ (x.1 a0 (0 : Int32).toNatClampNeg) → P none x) ∧ (¬ ((12 : Int32) ≤ (x.1 a0 (0 : Int32).toNatClampNeg)) → vp_in 0 n0 ∧ vp_in 0 n0 ∧ (∀ x5 : gd, x5 = si x a0 (0 : Int32).toNatClampNeg ((x.1 a0 (0 : Int32).toNatClampNeg) + 1) → vp_in 0 n0 ∧ vp_in (x5.1 a0 (0 : Int32).toNatClampNeg) n0 ∧ (∀ x8 : gd, x8 = si x5 a0 (x5.1 a0 (0 : Int32).toNatClampNeg : Int32).toNatClampNeg l1 → P none x8))))) :
    KT G q d zk_X3_append 0 [(0, vr a0), (1, vi l1)] [] x P := by
  refine T_aload_n 0 (dk dtk_X3_append 0 rfl) rfl rfl ?_
  refine T_iconst (v := 0) (dk dtk_X3_append 1 rfl) (by decide +kernel) ?_
  obtain ⟨h1, h⟩ := h
  refine T_iald a0 n0 (dk dtk_X3_append 2 rfl) ka0 ma0 h1 ?_
  refine T_bipush (v := 12) (dk dtk_X3_append 3 rfl) (by decide +kernel) ?_
  refine T_icmp_ge 21 (dk dtk_X3_append 4 rfl) (by decide) (fun c2 => ?_) (fun c2 => ?_)
  · have h := h.1 c2
    exact KT_vret (dk dtk_X3_append 18 rfl) rfl h
  · have h := h.2 c2
    refine T_aload_n 0 (dk dtk_X3_append 5 rfl) rfl rfl ?_
    refine T_iconst (v := 0) (dk dtk_X3_append 6 rfl) (by decide +kernel) ?_
    refine T_dup2 (dk dtk_X3_append 7 rfl) rfl rfl ?_
    obtain ⟨h3, h⟩ := h
    refine T_iald a0 n0 (dk dtk_X3_append 8 rfl) ka0 ma0 h3 ?_
    refine T_iconst (v := 1) (dk dtk_X3_append 9 rfl) (by decide +kernel) ?_
    refine T_iadd (dk dtk_X3_append 10 rfl) ?_
    obtain ⟨h4, h⟩ := h
    obtain ⟨x5, ex5⟩ : ∃ z, z = si x a0 (0 : Int32).toNatClampNeg ((x.1 a0 (0 : Int32).toNatClampNeg) + 1) := ⟨_, rfl⟩
    have h := h x5 ex5
    refine T_iast a0 n0 (dk dtk_X3_append 11 rfl) ka0 ma0 h4 ?_
    rw [← ex5]
    refine T_aload_n 0 (dk dtk_X3_append 12 rfl) rfl rfl ?_
    refine T_aload_n 0 (dk dtk_X3_append 13 rfl) rfl rfl ?_
    refine T_iconst (v := 0) (dk dtk_X3_append 14 rfl) (by decide +kernel) ?_
    obtain ⟨h6, h⟩ := h
    refine T_iald a0 n0 (dk dtk_X3_append 15 rfl) ka0 ma0 h6 ?_
    refine T_iload_n 1 (dk dtk_X3_append 16 rfl) rfl rfl ?_
    obtain ⟨h7, h⟩ := h
    obtain ⟨x8, ex8⟩ : ∃ z, z = si x5 a0 (x5.1 a0 (0 : Int32).toNatClampNeg : Int32).toNatClampNeg l1 := ⟨_, rfl⟩
    have h := h x8 ex8
    refine T_iast a0 n0 (dk dtk_X3_append 17 rfl) ka0 ma0 h7 ?_
    rw [← ex8]
    exact KT_vret (dk dtk_X3_append 18 rfl) rfl h
set_option maxRecDepth 100000 in
theorem dtk_X3_find : dck cX3_find [(0, .iconst 1, 1), (1, .istore_n 2, 1), (2, .iload_n 2, 1), (3, .aload_n 0, 1), (4, .iconst 0, 1), (5, .iaload, 1), (6, .if_icmp .gt 18, 3), (9, .aload_n 0, 1), (10, .iload_n 2, 1), (11, .iaload, 1), (12, .iload_n 1, 1), (13, .if_icmp .ne 5, 3), (16, .iload_n 2, 1), (17, .ireturn, 1), (18, .iinc 2 1, 3), (21, .goto (-19), 3), (24, .iconst (-1), 1), (25, .ireturn, 1)] = true := by decide +kernel
set_option maxRecDepth 100000 in
set_option maxHeartbeats 4000000 in
theorem kg_X3_find_0 {G : kG} {q : kP} {d : Nat} {x : gd} {P : Option gv → gd → Prop} (hq : kV q) (hh : q.hi = true) {a0 n0 : Nat} (ka0 : kK a0 = .inr (.int, n0)) (ma0 : a0 ∈ (kf q).2.1) (l1 : Int32)
    (h : KT G q d zk_X3_find 2 [(0, vr a0), (1, vi l1), (2, vi 1)] [] x P) :
    KT G q d zk_X3_find 0 [(0, vr a0), (1, vi l1)] [] x P := by
  refine T_iconst (v := 1) (dk dtk_X3_find 0 rfl) (by decide +kernel) ?_
  refine T_istore_n (lv2 := [(2, vi 1), (0, vr a0), (1, vi l1)]) (dk dtk_X3_find 1 rfl) rfl (by decide) rfl ?_
  exact T_sub [1, 2, 0] rfl h
set_option maxRecDepth 100000 in
set_option maxHeartbeats 4000000 in
theorem kg_X3_find_2 {G : kG} {q : kP} {d : Nat} {x : gd} {P : Option gv → gd → Prop} (hq : kV q) (hh : q.hi = true) {a0 n0 : Nat} (ka0 : kK a0 = .inr (.int, n0)) (ma0 : a0 ∈ (kf q).2.1) (l1 : Int32) (l2 : Int32)
    (h : vp_in 0 n0 ∧ (((x.1 a0 (0 : Int32).toNatClampNeg) < l2 → P (some (vi (-1))) x) ∧ (¬ ((x.1 a0 (0 : Int32).toNatClampNeg) < l2) → vp_in l2 n0 ∧ ((¬ ((x.1 a0 (l2 : Int32).toNatClampNeg) = l1) → KT G q d zk_X3_find 2 [(0, vr a0), (1, vi l1), (2, vi (l2 + 1))] [] x P) ∧ ((x.1 a0 (l2 : Int32).toNatClampNeg) = l1 → P (some (vi l2)) x))))) :
    KT G q d zk_X3_find 2 [(0, vr a0), (1, vi l1), (2, vi l2)] [] x P := by
  refine T_iload_n 2 (dk dtk_X3_find 2 rfl) rfl rfl ?_
  refine T_aload_n 0 (dk dtk_X3_find 3 rfl) rfl rfl ?_
  refine T_iconst (v := 0) (dk dtk_X3_find 4 rfl) (by decide +kernel) ?_
  obtain ⟨h1, h⟩ := h
  refine T_iald a0 n0 (dk dtk_X3_find 5 rfl) ka0 ma0 h1 ?_
  refine T_icmp_gt 24 (dk dtk_X3_find 6 rfl) (by decide) (fun c2 => ?_) (fun c2 => ?_)
  · have h := h.1 c2
    refine T_iconst (v := (-1)) (dk dtk_X3_find 16 rfl) (by decide +kernel) ?_
    exact KT_iret (dk dtk_X3_find 17 rfl) rfl rfl h
  · have h := h.2 c2
    refine T_aload_n 0 (dk dtk_X3_find 7 rfl) rfl rfl ?_
    refine T_iload_n 2 (dk dtk_X3_find 8 rfl) rfl rfl ?_
    obtain ⟨h3, h⟩ := h
    refine T_iald a0 n0 (dk dtk_X3_find 9 rfl) ka0 ma0 h3 ?_
    refine T_iload_n 1 (dk dtk_X3_find 10 rfl) rfl rfl ?_
    refine T_icmp_ne 18 (dk dtk_X3_find 11 rfl) (by decide) (fun c4 => ?_) (fun c4 => ?_)
    · have h := h.1 c4
      refine T_iinc (v := l2 + 1) (lv2 := [(2, vi (l2 + 1)), (0, vr a0), (1, vi l1)]) 2 (dk dtk_X3_find 14 rfl) rfl rfl (by decide) rfl ?_
      refine T_goto 2 (dk dtk_X3_find 15 rfl) (by decide) ?_
      exact T_sub [1, 2, 0] rfl h
    · have h := h.2 c4
      refine T_iload_n 2 (dk dtk_X3_find 12 rfl) rfl rfl ?_
      exact KT_iret (dk dtk_X3_find 13 rfl) rfl rfl h
set_option maxRecDepth 100000 in
theorem dtk_X3_removeAt : dck cX3_removeAt [(0, .aload_n 0, 1), (1, .iload_n 1, 1), (2, .iaload, 1), (3, .istore_n 2, 1), (4, .iload_n 1, 1), (5, .istore_n 3, 1), (6, .iload_n 3, 1), (7, .aload_n 0, 1), (8, .iconst 0, 1), (9, .iaload, 1), (10, .if_icmp .ge 17, 3), (13, .aload_n 0, 1), (14, .iload_n 3, 1), (15, .aload_n 0, 1), (16, .iload_n 3, 1), (17, .iconst 1, 1), (18, .iadd, 1), (19, .iaload, 1), (20, .iastore, 1), (21, .iinc 3 1, 3), (24, .goto (-18), 3), (27, .aload_n 0, 1), (28, .iconst 0, 1), (29, .dup2, 1), (30, .iaload, 1), (31, .iconst 1, 1), (32, .isub, 1), (33, .iastore, 1), (34, .iload_n 2, 1), (35, .ireturn, 1)] = true := by decide +kernel
set_option maxRecDepth 100000 in
set_option maxHeartbeats 4000000 in
theorem kg_X3_removeAt_0 {G : kG} {q : kP} {d : Nat} {x : gd} {P : Option gv → gd → Prop} (hq : kV q) (hh : q.hi = true) {a0 n0 : Nat} (ka0 : kK a0 = .inr (.int, n0)) (ma0 : a0 ∈ (kf q).2.1) (l1 : Int32)
    (h : vp_in l1 n0 ∧ KT G q d zk_X3_removeAt 6 [(0, vr a0), (2, vi (x.1 a0 (l1 : Int32).toNatClampNeg)), (3, vi l1)] [] x P) :
    KT G q d zk_X3_removeAt 0 [(0, vr a0), (1, vi l1)] [] x P := by
  refine T_aload_n 0 (dk dtk_X3_removeAt 0 rfl) rfl rfl ?_
  refine T_iload_n 1 (dk dtk_X3_removeAt 1 rfl) rfl rfl ?_
  obtain ⟨h1, h⟩ := h
  refine T_iald a0 n0 (dk dtk_X3_removeAt 2 rfl) ka0 ma0 h1 ?_
  refine T_istore_n (lv2 := [(2, vi (x.1 a0 (l1 : Int32).toNatClampNeg)), (0, vr a0), (1, vi l1)]) (dk dtk_X3_removeAt 3 rfl) rfl (by decide) rfl ?_
  refine T_iload_n 2 (dk dtk_X3_removeAt 4 rfl) rfl rfl ?_
  refine T_istore_n (lv2 := [(3, vi l1), (2, vi (x.1 a0 (l1 : Int32).toNatClampNeg)), (0, vr a0), (1, vi l1)]) (dk dtk_X3_removeAt 5 rfl) rfl (by decide) rfl ?_
  exact T_sub [2, 1, 0] rfl h
set_option maxRecDepth 100000 in
set_option maxHeartbeats 4000000 in
theorem kg_X3_removeAt_6 {G : kG} {q : kP} {d : Nat} {x : gd} {P : Option gv → gd → Prop} (hq : kV q) (hh : q.hi = true) {a0 n0 : Nat} (ka0 : kK a0 = .inr (.int, n0)) (ma0 : a0 ∈ (kf q).2.1) (l2 : Int32) (l3 : Int32)
    (h : vp_in 0 n0 ∧ (((x.1 a0 (0 : Int32).toNatClampNeg) ≤ l3 → vp_in 0 n0 ∧ vp_in 0 n0 ∧ (∀ x5 : gd, x5 = si x a0 (0 : Int32).toNatClampNeg ((x.1 a0 (0 : Int32).toNatClampNeg) - 1) → P (some (vi l2)) x5)) ∧ (¬ ((x.1 a0 (0 : Int32).toNatClampNeg) ≤ l3) → vp_in (l3 + 1) n0 ∧ vp_in l3 n0 ∧ (∀ x8 : gd, x8 = si x a0 (l3 : Int32).toNatClampNeg (x.1 a0 (l3 + 1 : Int32).toNatClampNeg) → KT G q d zk_X3_removeAt 6 [(0, vr a0), (2, vi l2), (3, vi (l3 + 1))] [] x8 P)))) :
    KT G q d zk_X3_removeAt 6 [(0, vr a0), (2, vi l2), (3, vi l3)] [] x P := by
  refine T_iload_n 2 (dk dtk_X3_removeAt 6 rfl) rfl rfl ?_
  refine T_aload_n 0 (dk dtk_X3_removeAt 7 rfl) rfl rfl ?_
  refine T_iconst (v := 0) (dk dtk_X3_removeAt 8 rfl) (by decide +kernel) ?_
  obtain ⟨h1, h⟩ := h
  refine T_iald a0 n0 (dk dtk_X3_removeAt 9 rfl) ka0 ma0 h1 ?_
  refine T_icmp_ge 27 (dk dtk_X3_removeAt 10 rfl) (by decide) (fun c2 => ?_) (fun c2 => ?_)
  · have h := h.1 c2
    refine T_aload_n 0 (dk dtk_X3_removeAt 21 rfl) rfl rfl ?_
    refine T_iconst (v := 0) (dk dtk_X3_removeAt 22 rfl) (by decide +kernel) ?_
    refine T_dup2 (dk dtk_X3_removeAt 23 rfl) rfl rfl ?_
    obtain ⟨h3, h⟩ := h
    refine T_iald a0 n0 (dk dtk_X3_removeAt 24 rfl) ka0 ma0 h3 ?_
    refine T_iconst (v := 1) (dk dtk_X3_removeAt 25 rfl) (by decide +kernel) ?_
    refine T_isub (dk dtk_X3_removeAt 26 rfl) ?_
    obtain ⟨h4, h⟩ := h
    obtain ⟨x5, ex5⟩ : ∃ z, z = si x a0 (0 : Int32).toNatClampNeg ((x.1 a0 (0 : Int32).toNatClampNeg) - 1) := ⟨_, rfl⟩
    have h := h x5 ex5
    refine T_iast a0 n0 (dk dtk_X3_removeAt 27 rfl) ka0 ma0 h4 ?_
    rw [← ex5]
    refine T_iload_n 1 (dk dtk_X3_removeAt 28 rfl) rfl rfl ?_
    exact KT_iret (dk dtk_X3_removeAt 29 rfl) rfl rfl h
  · have h := h.2 c2
    refine T_aload_n 0 (dk dtk_X3_removeAt 11 rfl) rfl rfl ?_
    refine T_iload_n 2 (dk dtk_X3_removeAt 12 rfl) rfl rfl ?_
    refine T_aload_n 0 (dk dtk_X3_removeAt 13 rfl) rfl rfl ?_
    refine T_iload_n 2 (dk dtk_X3_removeAt 14 rfl) rfl rfl ?_
    refine T_iconst (v := 1) (dk dtk_X3_removeAt 15 rfl) (by decide +kernel) ?_
    refine T_iadd (dk dtk_X3_removeAt 16 rfl) ?_
    obtain ⟨h6, h⟩ := h
    refine T_iald a0 n0 (dk dtk_X3_removeAt 17 rfl) ka0 ma0 h6 ?_
    obtain ⟨h7, h⟩ := h
    obtain ⟨x8, ex8⟩ : ∃ z, z = si x a0 (l3 : Int32).toNatClampNeg (x.1 a0 (l3 + 1 : Int32).toNatClampNeg) := ⟨_, rfl⟩
    have h := h x8 ex8
    refine T_iast a0 n0 (dk dtk_X3_removeAt 18 rfl) ka0 ma0 h7 ?_
    rw [← ex8]
    refine T_iinc (v := l3 + 1) (lv2 := [(3, vi (l3 + 1)), (0, vr a0), (2, vi l2)]) 2 (dk dtk_X3_removeAt 19 rfl) rfl rfl (by decide) rfl ?_
    refine T_goto 6 (dk dtk_X3_removeAt 20 rfl) (by decide) ?_
    exact T_sub [1, 2, 0] rfl h
set_option maxRecDepth 100000 in
theorem dtk_X10_clear : dck cX10_clear [(0, .aload_n 0, 1), (1, .iconst 0, 1), (2, .putfield 40, 3), (5, .aload_n 0, 1), (6, .iconst 0, 1), (7, .putfield 44, 3), (10, .aload_n 0, 1), (11, .iconst 0, 1), (12, .putfield 48, 3), (15, .aload_n 0, 1), (16, .iconst 0, 1), (17, .putfield 51, 3), (20, .aload_n 0, 1), (21, .iconst 0, 1), (22, .putfield 54, 3), (25, .aload_n 0, 1), (26, .iconst 0, 1), (27, .putfield 57, 3), (30, .aload_n 0, 1), (31, .getfield 11, 3), (34, .iconst (-1), 1), (35, .invokestatic 60, 3), (38, .aload_n 0, 1), (39, .getfield 17, 3), (42, .iload_n 1, 1), (43, .invokestatic 60, 3), (46, .aload_n 0, 1), (47, .getfield 20, 3), (50, .iconst 0, 1), (51, .invokestatic 60, 3), (54, .return_, 1)] = true := by decide +kernel
set_option maxRecDepth 100000 in
set_option maxHeartbeats 4000000 in
theorem kg_X10_clear_0 {G : kG} {q : kP} {d : Nat} {x : gd} {P : Option gv → gd → Prop} (hq : kV q) {o : Nat} (ho : kiT q o) (l1 : Int32)
    (h : (∀ x1 : gd, x1 = si x o 0 0 → (∀ x2 : gd, x2 = si x1 o 1 0 → (∀ x3 : gd, x3 = si x2 o 2 0 → (∀ x4 : gd, x4 = si x3 o 3 0 → (∀ x5 : gd, x5 = si x4 o 4 0 → (∀ x6 : gd, x6 = si x5 o 5 0 → (∀ x7 : gd, x7 = sfl x6 (o + 7) (-1) 11 → (∀ x8 : gd, x8 = sfl x7 (o + 8) l1 24 → (∀ x9 : gd, x9 = sfl x8 (o + 9) 0 6 → P none x9)))))))))) :
    KT G q (d + 1) zk_X10_clear 0 [(0, vr o), (1, vi l1)] [] x P := by
  refine T_aload_n 0 (dk dtk_X10_clear 0 rfl) rfl rfl ?_
  refine T_iconst (v := 0) (dk dtk_X10_clear 1 rfl) (by decide +kernel) ?_
  obtain ⟨x1, ex1⟩ : ∃ z, z = si x o 0 0 := ⟨_, rfl⟩
  have h := h x1 ex1
  refine T_putI o 0 (dk dtk_X10_clear 2 rfl) kfl_X10_40 (kk_T0 ho) (kl_T0 hq ho) (by decide) rfl ⟨rfl, rfl⟩ ?_
  rw [← ex1]
  refine T_aload_n 0 (dk dtk_X10_clear 3 rfl) rfl rfl ?_
  refine T_iconst (v := 0) (dk dtk_X10_clear 4 rfl) (by decide +kernel) ?_
  obtain ⟨x2, ex2⟩ : ∃ z, z = si x1 o 1 0 := ⟨_, rfl⟩
  have h := h x2 ex2
  refine T_putI o 1 (dk dtk_X10_clear 5 rfl) kfl_X10_44 (kk_T0 ho) (kl_T0 hq ho) (by decide) rfl ⟨rfl, rfl⟩ ?_
  rw [← ex2]
  refine T_aload_n 0 (dk dtk_X10_clear 6 rfl) rfl rfl ?_
  refine T_iconst (v := 0) (dk dtk_X10_clear 7 rfl) (by decide +kernel) ?_
  obtain ⟨x3, ex3⟩ : ∃ z, z = si x2 o 2 0 := ⟨_, rfl⟩
  have h := h x3 ex3
  refine T_putI o 2 (dk dtk_X10_clear 8 rfl) kfl_X10_48 (kk_T0 ho) (kl_T0 hq ho) (by decide) rfl ⟨rfl, rfl⟩ ?_
  rw [← ex3]
  refine T_aload_n 0 (dk dtk_X10_clear 9 rfl) rfl rfl ?_
  refine T_iconst (v := 0) (dk dtk_X10_clear 10 rfl) (by decide +kernel) ?_
  obtain ⟨x4, ex4⟩ : ∃ z, z = si x3 o 3 0 := ⟨_, rfl⟩
  have h := h x4 ex4
  refine T_putI o 3 (dk dtk_X10_clear 11 rfl) kfl_X10_51 (kk_T0 ho) (kl_T0 hq ho) (by decide) rfl ⟨rfl, rfl⟩ ?_
  rw [← ex4]
  refine T_aload_n 0 (dk dtk_X10_clear 12 rfl) rfl rfl ?_
  refine T_iconst (v := 0) (dk dtk_X10_clear 13 rfl) (by decide +kernel) ?_
  obtain ⟨x5, ex5⟩ : ∃ z, z = si x4 o 4 0 := ⟨_, rfl⟩
  have h := h x5 ex5
  refine T_putI o 4 (dk dtk_X10_clear 14 rfl) kfl_X10_54 (kk_T0 ho) (kl_T0 hq ho) (by decide) rfl ⟨rfl, rfl⟩ ?_
  rw [← ex5]
  refine T_aload_n 0 (dk dtk_X10_clear 15 rfl) rfl rfl ?_
  refine T_iconst (v := 0) (dk dtk_X10_clear 16 rfl) (by decide +kernel) ?_
  obtain ⟨x6, ex6⟩ : ∃ z, z = si x5 o 5 0 := ⟨_, rfl⟩
  have h := h x6 ex6
  refine T_putI o 5 (dk dtk_X10_clear 17 rfl) kfl_X10_57 (kk_T0 ho) (kl_T0 hq ho) (by decide) rfl ⟨rfl, rfl⟩ ?_
  rw [← ex6]
  refine T_aload_n 0 (dk dtk_X10_clear 18 rfl) rfl rfl ?_
  refine T_getR o 6 (o + 7) (dk dtk_X10_clear 19 rfl) kfl_X10_11 (kk_T0 ho) (kl_T0 hq ho) (by decide) rfl (kr_T_6 ho) ?_
  refine T_iconst (v := (-1)) (dk dtk_X10_clear 20 rfl) (by decide +kernel) ?_
  refine KC_Sv (F := fun z => z = sfl x6 (o + 7) (-1) 11) [vr (o + 7), vi (-1)] [] rfl (dk dtk_X10_clear 21 rfl) kcs_X10_60 rfl (Nat.le_of_ble_eq_true rfl) (Nat.le_of_ble_eq_true rfl) (gok_i (av_c (gkr (kl_T0 hq ho)) (av_c rfl av_n)) as_n) rfl (tj_fill (o + 7) 11 (-1) (kk_T7 ho) (kl_T7 hq ho) (by decide) ⟨rfl, none, rfl, rfl, rfl⟩) (fun x7 ex7 => ?_)
  have h := h x7 ex7
  refine T_aload_n 0 (dk dtk_X10_clear 22 rfl) rfl rfl ?_
  refine T_getR o 7 (o + 8) (dk dtk_X10_clear 23 rfl) kfl_X10_17 (kk_T0 ho) (kl_T0 hq ho) (by decide) rfl (kr_T_7 ho) ?_
  refine T_iload_n 1 (dk dtk_X10_clear 24 rfl) rfl rfl ?_
  refine T_sub (lv2 := [(0, vr o)]) [0] rfl ?_
  refine KC_Sv (F := fun z => z = sfl x7 (o + 8) l1 24) [vr (o + 8), vi l1] [] rfl (dk dtk_X10_clear 25 rfl) kcs_X10_60 rfl (Nat.le_of_ble_eq_true rfl) (Nat.le_of_ble_eq_true rfl) (gok_i (av_c (gkr (kl_T0 hq ho)) av_n) as_n) rfl (tj_fill (o + 8) 24 l1 (kk_T8 ho) (kl_T8 hq ho) (by decide) ⟨rfl, none, rfl, rfl, rfl⟩) (fun x8 ex8 => ?_)
  have h := h x8 ex8
  refine T_aload_n 0 (dk dtk_X10_clear 26 rfl) rfl rfl ?_
  refine T_getR o 8 (o + 9) (dk dtk_X10_clear 27 rfl) kfl_X10_20 (kk_T0 ho) (kl_T0 hq ho) (by decide) rfl (kr_T_8 ho) ?_
  refine T_iconst (v := 0) (dk dtk_X10_clear 28 rfl) (by decide +kernel) ?_
  refine T_sub (lv2 := []) [] rfl ?_
  refine KC_Sv (F := fun z => z = sfl x8 (o + 9) 0 6) [vr (o + 9), vi 0] [] rfl (dk dtk_X10_clear 29 rfl) kcs_X10_60 rfl (Nat.le_of_ble_eq_true rfl) (Nat.le_of_ble_eq_true rfl) (gok_i av_n as_n) rfl (tj_fill (o + 9) 6 0 (kk_T9 ho) (kl_T9 hq ho) (by decide) ⟨rfl, none, rfl, rfl, rfl⟩) (fun x9 ex9 => ?_)
  have h := h x9 ex9
  exact KT_vret (dk dtk_X10_clear 30 rfl) rfl h
set_option maxRecDepth 100000 in
theorem dtk_X10_addState : dck cX10_addState [(0, .aload_n 0, 1), (1, .getfield 40, 3), (4, .sipush 3000, 3), (7, .if_icmp .ge 59, 3), (10, .aload_n 0, 1), (11, .getfield 23, 3), (14, .aload_n 0, 1), (15, .getfield 40, 3), (18, .iload_n 1, 1), (19, .iastore, 1), (20, .aload_n 0, 1), (21, .getfield 26, 3), (24, .aload_n 0, 1), (25, .getfield 40, 3), (28, .iload_n 2, 1), (29, .iastore, 1), (30, .aload_n 0, 1), (31, .getfield 29, 3), (34, .aload_n 0, 1), (35, .getfield 40, 3), (38, .iload_n 1, 1), (39, .iconst (-1), 1), (40, .if_icmp .ne 7, 3), (43, .iconst 0, 1), (44, .goto 11, 3), (47, .aload_n 0, 1), (48, .getfield 29, 3), (51, .iload_n 1, 1), (52, .iaload, 1), (53, .iconst 1, 1), (54, .iadd, 1), (55, .iastore, 1), (56, .aload_n 0, 1), (57, .dup, 1), (58, .getfield 40, 3), (61, .iconst 1, 1), (62, .iadd, 1), (63, .putfield 40, 3), (66, .return_, 1)] = true := by decide +kernel
set_option maxRecDepth 100000 in
set_option maxHeartbeats 4000000 in
theorem kg_X10_addState_0 {G : kG} {q : kP} {d : Nat} {x : gd} {P : Option gv → gd → Prop} (hq : kV q) {o : Nat} (ho : kiT q o) (l1 : Int32) (l2 : Int32)
    (h : (((3000 : Int32) ≤ (x.1 o 0) → P none x) ∧ (¬ ((3000 : Int32) ≤ (x.1 o 0)) → vp_in (x.1 o 0) 3000 ∧ (∀ x3 : gd, x3 = si x (o + 10) (x.1 o 0 : Int32).toNatClampNeg l1 → vp_in (x3.1 o 0) 3000 ∧ (∀ x5 : gd, x5 = si x3 (o + 11) (x3.1 o 0 : Int32).toNatClampNeg l2 → ((¬ (l1 = (-1 : Int32)) → vp_in l1 3000 ∧ vp_in (x5.1 o 0) 3000 ∧ (∀ x9 : gd, x9 = si x5 (o + 12) (x5.1 o 0 : Int32).toNatClampNeg ((x5.1 (o + 12) (l1 : Int32).toNatClampNeg) + 1) → (∀ x10 : gd, x10 = si x9 o 0 ((x9.1 o 0) + 1) → P none x10))) ∧ (l1 = (-1 : Int32) → vp_in (x5.1 o 0) 3000 ∧ (∀ x12 : gd, x12 = si x5 (o + 12) (x5.1 o 0 : Int32).toNatClampNeg 0 → (∀ x13 : gd, x13 = si x12 o 0 ((x12.1 o 0) + 1) → P none x13))))))))) :
    KT G q d zk_X10_addState 0 [(0, vr o), (1, vi l1), (2, vi l2)] [] x P := by
  refine T_aload_n 0 (dk dtk_X10_addState 0 rfl) rfl rfl ?_
  refine T_getI o 0 (dk dtk_X10_addState 1 rfl) kfl_X10_40 (kk_T0 ho) (kl_T0 hq ho) (by decide) rfl ?_
  refine T_sipush (v := 3000) (dk dtk_X10_addState 2 rfl) (by decide +kernel) ?_
  refine T_icmp_ge 66 (dk dtk_X10_addState 3 rfl) (by decide) (fun c1 => ?_) (fun c1 => ?_)
  · have h := h.1 c1
    exact KT_vret (dk dtk_X10_addState 38 rfl) rfl h
  · have h := h.2 c1
    refine T_aload_n 0 (dk dtk_X10_addState 4 rfl) rfl rfl ?_
    refine T_getR o 9 (o + 10) (dk dtk_X10_addState 5 rfl) kfl_X10_23 (kk_T0 ho) (kl_T0 hq ho) (by decide) rfl (kr_T_9 ho) ?_
    refine T_aload_n 0 (dk dtk_X10_addState 6 rfl) rfl rfl ?_
    refine T_getI o 0 (dk dtk_X10_addState 7 rfl) kfl_X10_40 (kk_T0 ho) (kl_T0 hq ho) (by decide) rfl ?_
    refine T_iload_n 1 (dk dtk_X10_addState 8 rfl) rfl rfl ?_
    obtain ⟨h2, h⟩ := h
    obtain ⟨x3, ex3⟩ : ∃ z, z = si x (o + 10) (x.1 o 0 : Int32).toNatClampNeg l1 := ⟨_, rfl⟩
    have h := h x3 ex3
    refine T_iast (o + 10) 3000 (dk dtk_X10_addState 9 rfl) (kk_T10 ho) (kl_T10 hq ho) h2 ?_
    rw [← ex3]
    refine T_aload_n 0 (dk dtk_X10_addState 10 rfl) rfl rfl ?_
    refine T_getR o 10 (o + 11) (dk dtk_X10_addState 11 rfl) kfl_X10_26 (kk_T0 ho) (kl_T0 hq ho) (by decide) rfl (kr_T_10 ho) ?_
    refine T_aload_n 0 (dk dtk_X10_addState 12 rfl) rfl rfl ?_
    refine T_getI o 0 (dk dtk_X10_addState 13 rfl) kfl_X10_40 (kk_T0 ho) (kl_T0 hq ho) (by decide) rfl ?_
    refine T_iload_n 2 (dk dtk_X10_addState 14 rfl) rfl rfl ?_
    obtain ⟨h4, h⟩ := h
    obtain ⟨x5, ex5⟩ : ∃ z, z = si x3 (o + 11) (x3.1 o 0 : Int32).toNatClampNeg l2 := ⟨_, rfl⟩
    have h := h x5 ex5
    refine T_iast (o + 11) 3000 (dk dtk_X10_addState 15 rfl) (kk_T11 ho) (kl_T11 hq ho) h4 ?_
    rw [← ex5]
    refine T_aload_n 0 (dk dtk_X10_addState 16 rfl) rfl rfl ?_
    refine T_getR o 11 (o + 12) (dk dtk_X10_addState 17 rfl) kfl_X10_29 (kk_T0 ho) (kl_T0 hq ho) (by decide) rfl (kr_T_11 ho) ?_
    refine T_aload_n 0 (dk dtk_X10_addState 18 rfl) rfl rfl ?_
    refine T_getI o 0 (dk dtk_X10_addState 19 rfl) kfl_X10_40 (kk_T0 ho) (kl_T0 hq ho) (by decide) rfl ?_
    refine T_iload_n 1 (dk dtk_X10_addState 20 rfl) rfl rfl ?_
    refine T_iconst (v := (-1)) (dk dtk_X10_addState 21 rfl) (by decide +kernel) ?_
    refine T_icmp_ne 47 (dk dtk_X10_addState 22 rfl) (by decide) (fun c6 => ?_) (fun c6 => ?_)
    · have h := h.1 c6
      refine T_aload_n 0 (dk dtk_X10_addState 25 rfl) rfl rfl ?_
      refine T_getR o 11 (o + 12) (dk dtk_X10_addState 26 rfl) kfl_X10_29 (kk_T0 ho) (kl_T0 hq ho) (by decide) rfl (kr_T_11 ho) ?_
      refine T_iload_n 1 (dk dtk_X10_addState 27 rfl) rfl rfl ?_
      obtain ⟨h7, h⟩ := h
      refine T_iald (o + 12) 3000 (dk dtk_X10_addState 28 rfl) (kk_T12 ho) (kl_T12 hq ho) h7 ?_
      refine T_iconst (v := 1) (dk dtk_X10_addState 29 rfl) (by decide +kernel) ?_
      refine T_iadd (dk dtk_X10_addState 30 rfl) ?_
      obtain ⟨h8, h⟩ := h
      obtain ⟨x9, ex9⟩ : ∃ z, z = si x5 (o + 12) (x5.1 o 0 : Int32).toNatClampNeg ((x5.1 (o + 12) (l1 : Int32).toNatClampNeg) + 1) := ⟨_, rfl⟩
      have h := h x9 ex9
      refine T_iast (o + 12) 3000 (dk dtk_X10_addState 31 rfl) (kk_T12 ho) (kl_T12 hq ho) h8 ?_
      rw [← ex9]
      refine T_aload_n 0 (dk dtk_X10_addState 32 rfl) rfl rfl ?_
      refine T_dup (dk dtk_X10_addState 33 rfl) rfl ?_
      refine T_getI o 0 (dk dtk_X10_addState 34 rfl) kfl_X10_40 (kk_T0 ho) (kl_T0 hq ho) (by decide) rfl ?_
      refine T_iconst (v := 1) (dk dtk_X10_addState 35 rfl) (by decide +kernel) ?_
      refine T_iadd (dk dtk_X10_addState 36 rfl) ?_
      obtain ⟨x10, ex10⟩ : ∃ z, z = si x9 o 0 ((x9.1 o 0) + 1) := ⟨_, rfl⟩
      have h := h x10 ex10
      refine T_putI o 0 (dk dtk_X10_addState 37 rfl) kfl_X10_40 (kk_T0 ho) (kl_T0 hq ho) (by decide) rfl ⟨rfl, rfl⟩ ?_
      rw [← ex10]
      exact KT_vret (dk dtk_X10_addState 38 rfl) rfl h
    · have h := h.2 c6
      refine T_iconst (v := 0) (dk dtk_X10_addState 23 rfl) (by decide +kernel) ?_
      refine T_goto 55 (dk dtk_X10_addState 24 rfl) (by decide) ?_
      obtain ⟨h11, h⟩ := h
      obtain ⟨x12, ex12⟩ : ∃ z, z = si x5 (o + 12) (x5.1 o 0 : Int32).toNatClampNeg 0 := ⟨_, rfl⟩
      have h := h x12 ex12
      refine T_iast (o + 12) 3000 (dk dtk_X10_addState 31 rfl) (kk_T12 ho) (kl_T12 hq ho) h11 ?_
      rw [← ex12]
      refine T_aload_n 0 (dk dtk_X10_addState 32 rfl) rfl rfl ?_
      refine T_dup (dk dtk_X10_addState 33 rfl) rfl ?_
      refine T_getI o 0 (dk dtk_X10_addState 34 rfl) kfl_X10_40 (kk_T0 ho) (kl_T0 hq ho) (by decide) rfl ?_
      refine T_iconst (v := 1) (dk dtk_X10_addState 35 rfl) (by decide +kernel) ?_
      refine T_iadd (dk dtk_X10_addState 36 rfl) ?_
      obtain ⟨x13, ex13⟩ : ∃ z, z = si x12 o 0 ((x12.1 o 0) + 1) := ⟨_, rfl⟩
      have h := h x13 ex13
      refine T_putI o 0 (dk dtk_X10_addState 37 rfl) kfl_X10_40 (kk_T0 ho) (kl_T0 hq ho) (by decide) rfl ⟨rfl, rfl⟩ ?_
      rw [← ex13]
      exact KT_vret (dk dtk_X10_addState 38 rfl) rfl h
set_option maxRecDepth 100000 in
theorem dtk_X10_find : dck cX10_find [(0, .aload_n 0, 1), (1, .getfield 11, 3), (4, .iload_n 1, 1), (5, .iaload, 1), (6, .iconst (-1), 1), (7, .if_icmp .ne 10, 3), (10, .aload_n 0, 1), (11, .getfield 11, 3), (14, .iload_n 1, 1), (15, .iload_n 2, 1), (16, .iastore, 1), (17, .return_, 1)] = true := by decide +kernel
set_option maxRecDepth 100000 in
set_option maxHeartbeats 4000000 in
theorem kg_X10_find_0 {G : kG} {q : kP} {d : Nat} {x : gd} {P : Option gv → gd → Prop} (hq : kV q) {o : Nat} (ho : kiT q o) (l1 : Int32) (l2 : Int32)
    (h : vp_in l1 11 ∧ ((¬ ((x.1 (o + 7) (l1 : Int32).toNatClampNeg) = (-1 : Int32)) → P none x) ∧ ((x.1 (o + 7) (l1 : Int32).toNatClampNeg) = (-1 : Int32) → vp_in l1 11 ∧ (∀ x4 : gd, x4 = si x (o + 7) (l1 : Int32).toNatClampNeg l2 → P none x4)))) :
    KT G q d zk_X10_find 0 [(0, vr o), (1, vi l1), (2, vi l2)] [] x P := by
  refine T_aload_n 0 (dk dtk_X10_find 0 rfl) rfl rfl ?_
  refine T_getR o 6 (o + 7) (dk dtk_X10_find 1 rfl) kfl_X10_11 (kk_T0 ho) (kl_T0 hq ho) (by decide) rfl (kr_T_6 ho) ?_
  refine T_iload_n 1 (dk dtk_X10_find 2 rfl) rfl rfl ?_
  obtain ⟨h1, h⟩ := h
  refine T_iald (o + 7) 11 (dk dtk_X10_find 3 rfl) (kk_T7 ho) (kl_T7 hq ho) h1 ?_
  refine T_iconst (v := (-1)) (dk dtk_X10_find 4 rfl) (by decide +kernel) ?_
  refine T_icmp_ne 17 (dk dtk_X10_find 5 rfl) (by decide) (fun c2 => ?_) (fun c2 => ?_)
  · have h := h.1 c2
    exact KT_vret (dk dtk_X10_find 11 rfl) rfl h
  · have h := h.2 c2
    refine T_aload_n 0 (dk dtk_X10_find 6 rfl) rfl rfl ?_
    refine T_getR o 6 (o + 7) (dk dtk_X10_find 7 rfl) kfl_X10_11 (kk_T0 ho) (kl_T0 hq ho) (by decide) rfl (kr_T_6 ho) ?_
    refine T_iload_n 1 (dk dtk_X10_find 8 rfl) rfl rfl ?_
    refine T_iload_n 2 (dk dtk_X10_find 9 rfl) rfl rfl ?_
    obtain ⟨h3, h⟩ := h
    obtain ⟨x4, ex4⟩ : ∃ z, z = si x (o + 7) (l1 : Int32).toNatClampNeg l2 := ⟨_, rfl⟩
    have h := h x4 ex4
    refine T_iast (o + 7) 11 (dk dtk_X10_find 10 rfl) (kk_T7 ho) (kl_T7 hq ho) h3 ?_
    rw [← ex4]
    exact KT_vret (dk dtk_X10_find 11 rfl) rfl h
set_option maxRecDepth 100000 in
theorem dtk_X10_pathTo : dck cX10_pathTo [(0, .iload_n 1, 1), (1, .istore_n 3, 1), (2, .aload_n 0, 1), (3, .getfield 29, 3), (6, .iload_n 1, 1), (7, .iaload, 1), (8, .iconst 1, 1), (9, .isub, 1), (10, .istore 4, 2), (12, .iload 4, 2), (14, .ifCond .lt 33, 3), (17, .iload 4, 2), (19, .aload_n 2, 1), (20, .arraylength, 1), (21, .if_icmp .ge 26, 3), (24, .aload_n 2, 1), (25, .iload 4, 2), (27, .aload_n 0, 1), (28, .getfield 26, 3), (31, .iload_n 3, 1), (32, .iaload, 1), (33, .iastore, 1), (34, .aload_n 0, 1), (35, .getfield 23, 3), (38, .iload_n 3, 1), (39, .iaload, 1), (40, .istore_n 3, 1), (41, .iinc 4 (-1), 3), (44, .goto (-32), 3), (47, .return_, 1)] = true := by decide +kernel
set_option maxRecDepth 100000 in
set_option maxHeartbeats 4000000 in
theorem kg_X10_pathTo_0 {G : kG} {q : kP} {d : Nat} {x : gd} {P : Option gv → gd → Prop} (hq : kV q) {o : Nat} (ho : kiT q o) {a2 n2 : Nat} (ka2 : kK a2 = .inr (.int, n2)) (ma2 : a2 ∈ (kf q).2.1) (l1 : Int32)
    (h : vp_in l1 3000 ∧ KT G q d zk_X10_pathTo 12 [(0, vr o), (2, vr a2), (3, vi l1), (4, vi ((x.1 (o + 12) (l1 : Int32).toNatClampNeg) - 1))] [] x P) :
    KT G q d zk_X10_pathTo 0 [(0, vr o), (1, vi l1), (2, vr a2)] [] x P := by
  refine T_iload_n 1 (dk dtk_X10_pathTo 0 rfl) rfl rfl ?_
  refine T_istore_n (lv2 := [(3, vi l1), (0, vr o), (1, vi l1), (2, vr a2)]) (dk dtk_X10_pathTo 1 rfl) rfl (by decide) rfl ?_
  refine T_aload_n 1 (dk dtk_X10_pathTo 2 rfl) rfl rfl ?_
  refine T_getR o 11 (o + 12) (dk dtk_X10_pathTo 3 rfl) kfl_X10_29 (kk_T0 ho) (kl_T0 hq ho) (by decide) rfl (kr_T_11 ho) ?_
  refine T_iload_n 2 (dk dtk_X10_pathTo 4 rfl) rfl rfl ?_
  obtain ⟨h1, h⟩ := h
  refine T_iald (o + 12) 3000 (dk dtk_X10_pathTo 5 rfl) (kk_T12 ho) (kl_T12 hq ho) h1 ?_
  refine T_iconst (v := 1) (dk dtk_X10_pathTo 6 rfl) (by decide +kernel) ?_
  refine T_isub (dk dtk_X10_pathTo 7 rfl) ?_
  refine T_istore (lv2 := [(4, vi ((x.1 (o + 12) (l1 : Int32).toNatClampNeg) - 1)), (3, vi l1), (0, vr o), (1, vi l1), (2, vr a2)]) (dk dtk_X10_pathTo 8 rfl) (by decide) rfl ?_
  exact T_sub [2, 4, 1, 0] rfl h
set_option maxRecDepth 100000 in
set_option maxHeartbeats 4000000 in
theorem kg_X10_pathTo_12 {G : kG} {q : kP} {d : Nat} {x : gd} {P : Option gv → gd → Prop} (hq : kV q) {o : Nat} (ho : kiT q o) {a2 n2 : Nat} (ka2 : kK a2 = .inr (.int, n2)) (ma2 : a2 ∈ (kf q).2.1) (l3 : Int32) (l4 : Int32)
    (h : ((l4 < (0 : Int32) → P none x) ∧ (¬ (l4 < (0 : Int32)) → (((Int32.ofNat n2) ≤ l4 → P none x) ∧ (¬ ((Int32.ofNat n2) ≤ l4) → vp_in l3 3000 ∧ vp_in l4 n2 ∧ (∀ x5 : gd, x5 = si x a2 (l4 : Int32).toNatClampNeg (x.1 (o + 11) (l3 : Int32).toNatClampNeg) → vp_in l3 3000 ∧ KT G q d zk_X10_pathTo 12 [(0, vr o), (2, vr a2), (3, vi (x5.1 (o + 10) (l3 : Int32).toNatClampNeg)), (4, vi (l4 + (-1)))] [] x5 P)))))) :
    KT G q d zk_X10_pathTo 12 [(0, vr o), (2, vr a2), (3, vi l3), (4, vi l4)] [] x P := by
  refine T_iload 3 (dk dtk_X10_pathTo 9 rfl) rfl ?_
  refine T_if_lt 47 (dk dtk_X10_pathTo 10 rfl) (by decide) (fun c1 => ?_) (fun c1 => ?_)
  · have h := h.1 c1
    exact KT_vret (dk dtk_X10_pathTo 29 rfl) rfl h
  · have h := h.2 c1
    refine T_iload 3 (dk dtk_X10_pathTo 11 rfl) rfl ?_
    refine T_aload_n 1 (dk dtk_X10_pathTo 12 rfl) rfl rfl ?_
    refine T_alen a2 n2 0 (v := Int32.ofNat n2) (dk dtk_X10_pathTo 13 rfl) ka2 ma2 rfl rfl ?_
    refine T_icmp_ge 47 (dk dtk_X10_pathTo 14 rfl) (by decide) (fun c2 => ?_) (fun c2 => ?_)
    · have h := h.1 c2
      exact KT_vret (dk dtk_X10_pathTo 29 rfl) rfl h
    · have h := h.2 c2
      refine T_aload_n 1 (dk dtk_X10_pathTo 15 rfl) rfl rfl ?_
      refine T_iload 3 (dk dtk_X10_pathTo 16 rfl) rfl ?_
      refine T_aload_n 0 (dk dtk_X10_pathTo 17 rfl) rfl rfl ?_
      refine T_getR o 10 (o + 11) (dk dtk_X10_pathTo 18 rfl) kfl_X10_26 (kk_T0 ho) (kl_T0 hq ho) (by decide) rfl (kr_T_10 ho) ?_
      refine T_iload_n 2 (dk dtk_X10_pathTo 19 rfl) rfl rfl ?_
      obtain ⟨h3, h⟩ := h
      refine T_iald (o + 11) 3000 (dk dtk_X10_pathTo 20 rfl) (kk_T11 ho) (kl_T11 hq ho) h3 ?_
      obtain ⟨h4, h⟩ := h
      obtain ⟨x5, ex5⟩ : ∃ z, z = si x a2 (l4 : Int32).toNatClampNeg (x.1 (o + 11) (l3 : Int32).toNatClampNeg) := ⟨_, rfl⟩
      have h := h x5 ex5
      refine T_iast a2 n2 (dk dtk_X10_pathTo 21 rfl) ka2 ma2 h4 ?_
      rw [← ex5]
      refine T_aload_n 0 (dk dtk_X10_pathTo 22 rfl) rfl rfl ?_
      refine T_getR o 9 (o + 10) (dk dtk_X10_pathTo 23 rfl) kfl_X10_23 (kk_T0 ho) (kl_T0 hq ho) (by decide) rfl (kr_T_9 ho) ?_
      refine T_iload_n 2 (dk dtk_X10_pathTo 24 rfl) rfl rfl ?_
      obtain ⟨h6, h⟩ := h
      refine T_iald (o + 10) 3000 (dk dtk_X10_pathTo 25 rfl) (kk_T10 ho) (kl_T10 hq ho) h6 ?_
      refine T_istore_n (lv2 := [(3, vi (x5.1 (o + 10) (l3 : Int32).toNatClampNeg)), (0, vr o), (2, vr a2), (4, vi l4)]) (dk dtk_X10_pathTo 26 rfl) rfl (by decide) rfl ?_
      refine T_iinc (v := l4 + (-1)) (lv2 := [(4, vi (l4 + (-1))), (3, vi (x5.1 (o + 10) (l3 : Int32).toNatClampNeg)), (0, vr o), (2, vr a2)]) 3 (dk dtk_X10_pathTo 27 rfl) rfl rfl (by decide) rfl ?_
      refine T_goto 12 (dk dtk_X10_pathTo 28 rfl) (by decide) ?_
      exact T_sub [2, 3, 1, 0] rfl h
set_option maxRecDepth 100000 in
theorem dtk_X10_addTake : dck cX10_addTake [(0, .iconst 0, 1), (1, .istore_n 3, 1), (2, .iload_n 3, 1), (3, .bipush 6, 2), (5, .if_icmp .ge 35, 3), (8, .iload_n 3, 1), (9, .iload_n 2, 1), (10, .if_icmp .eq 24, 3), (13, .iload_n 1, 1), (14, .iload_n 3, 1), (15, .ishr, 1), (16, .iconst 1, 1), (17, .iand, 1), (18, .iconst 1, 1), (19, .if_icmp .ne 15, 3), (22, .aload_n 0, 1), (23, .getfield 20, 3), (26, .iload_n 3, 1), (27, .dup2, 1), (28, .iaload, 1), (29, .iconst 1, 1), (30, .iload_n 2, 1), (31, .ishl, 1), (32, .ior, 1), (33, .iastore, 1), (34, .iinc 3 1, 3), (37, .goto (-35), 3), (40, .return_, 1)] = true := by decide +kernel
set_option maxRecDepth 100000 in
set_option maxHeartbeats 4000000 in
theorem kg_X10_addTake_0 {G : kG} {q : kP} {d : Nat} {x : gd} {P : Option gv → gd → Prop} (hq : kV q) {o : Nat} (ho : kiT q o) (l1 : Int32) (l2 : Int32)
    (h : KT G q d zk_X10_addTake 2 [(0, vr o), (1, vi l1), (2, vi l2), (3, vi 0)] [] x P) :
    KT G q d zk_X10_addTake 0 [(0, vr o), (1, vi l1), (2, vi l2)] [] x P := by
  refine T_iconst (v := 0) (dk dtk_X10_addTake 0 rfl) (by decide +kernel) ?_
  refine T_istore_n (lv2 := [(3, vi 0), (0, vr o), (1, vi l1), (2, vi l2)]) (dk dtk_X10_addTake 1 rfl) rfl (by decide) rfl ?_
  exact T_sub [1, 2, 3, 0] rfl h
set_option maxRecDepth 100000 in
set_option maxHeartbeats 4000000 in
theorem kg_X10_addTake_2 {G : kG} {q : kP} {d : Nat} {x : gd} {P : Option gv → gd → Prop} (hq : kV q) {o : Nat} (ho : kiT q o) (l1 : Int32) (l2 : Int32) (l3 : Int32)
    (h : (((6 : Int32) ≤ l3 → P none x) ∧ (¬ ((6 : Int32) ≤ l3) → ((l3 = l2 → KT G q d zk_X10_addTake 2 [(0, vr o), (1, vi l1), (2, vi l2), (3, vi (l3 + 1))] [] x P) ∧ (¬ (l3 = l2) → ((¬ (((l1 >>> (l3 &&& 31 : Int32)) &&& 1) = (1 : Int32)) → KT G q d zk_X10_addTake 2 [(0, vr o), (1, vi l1), (2, vi l2), (3, vi (l3 + 1))] [] x P) ∧ (((l1 >>> (l3 &&& 31 : Int32)) &&& 1) = (1 : Int32) → vp_in l3 6 ∧ vp_in l3 6 ∧ (∀ x6 : gd, x6 = si x (o + 9) (l3 : Int32).toNatClampNeg ((x.1 (o + 9) (l3 : Int32).toNatClampNeg) ||| (1 <<< (l2 &&& 31 : Int32))) → KT G q d zk_X10_addTake 2 [(0, vr o), (1, vi l1), (2, vi l2), (3, vi (l3 + 1))] [] x6 P)))))))) :
    KT G q d zk_X10_addTake 2 [(0, vr o), (1, vi l1), (2, vi l2), (3, vi l3)] [] x P := by
  refine T_iload_n 3 (dk dtk_X10_addTake 2 rfl) rfl rfl ?_
  refine T_bipush (v := 6) (dk dtk_X10_addTake 3 rfl) (by decide +kernel) ?_
  refine T_icmp_ge 40 (dk dtk_X10_addTake 4 rfl) (by decide) (fun c1 => ?_) (fun c1 => ?_)
  · have h := h.1 c1
    exact KT_vret (dk dtk_X10_addTake 27 rfl) rfl h
  · have h := h.2 c1
    refine T_iload_n 3 (dk dtk_X10_addTake 5 rfl) rfl rfl ?_
    refine T_iload_n 2 (dk dtk_X10_addTake 6 rfl) rfl rfl ?_
    refine T_icmp_eq 34 (dk dtk_X10_addTake 7 rfl) (by decide) (fun c2 => ?_) (fun c2 => ?_)
    · have h := h.1 c2
      refine T_iinc (v := l3 + 1) (lv2 := [(3, vi (l3 + 1)), (0, vr o), (1, vi l1), (2, vi l2)]) 3 (dk dtk_X10_addTake 25 rfl) rfl rfl (by decide) rfl ?_
      refine T_goto 2 (dk dtk_X10_addTake 26 rfl) (by decide) ?_
      exact T_sub [1, 2, 3, 0] rfl h
    · have h := h.2 c2
      refine T_iload_n 1 (dk dtk_X10_addTake 8 rfl) rfl rfl ?_
      refine T_iload_n 3 (dk dtk_X10_addTake 9 rfl) rfl rfl ?_
      refine T_ishr (dk dtk_X10_addTake 10 rfl) ?_
      refine T_iconst (v := 1) (dk dtk_X10_addTake 11 rfl) (by decide +kernel) ?_
      refine T_iand (dk dtk_X10_addTake 12 rfl) ?_
      refine T_iconst (v := 1) (dk dtk_X10_addTake 13 rfl) (by decide +kernel) ?_
      refine T_icmp_ne 34 (dk dtk_X10_addTake 14 rfl) (by decide) (fun c3 => ?_) (fun c3 => ?_)
      · have h := h.1 c3
        refine T_iinc (v := l3 + 1) (lv2 := [(3, vi (l3 + 1)), (0, vr o), (1, vi l1), (2, vi l2)]) 3 (dk dtk_X10_addTake 25 rfl) rfl rfl (by decide) rfl ?_
        refine T_goto 2 (dk dtk_X10_addTake 26 rfl) (by decide) ?_
        exact T_sub [1, 2, 3, 0] rfl h
      · have h := h.2 c3
        refine T_aload_n 0 (dk dtk_X10_addTake 15 rfl) rfl rfl ?_
        refine T_getR o 8 (o + 9) (dk dtk_X10_addTake 16 rfl) kfl_X10_20 (kk_T0 ho) (kl_T0 hq ho) (by decide) rfl (kr_T_8 ho) ?_
        refine T_iload_n 3 (dk dtk_X10_addTake 17 rfl) rfl rfl ?_
        refine T_dup2 (dk dtk_X10_addTake 18 rfl) rfl rfl ?_
        obtain ⟨h4, h⟩ := h
        refine T_iald (o + 9) 6 (dk dtk_X10_addTake 19 rfl) (kk_T9 ho) (kl_T9 hq ho) h4 ?_
        refine T_iconst (v := 1) (dk dtk_X10_addTake 20 rfl) (by decide +kernel) ?_
        refine T_iload_n 2 (dk dtk_X10_addTake 21 rfl) rfl rfl ?_
        refine T_ishl (dk dtk_X10_addTake 22 rfl) ?_
        refine T_ior (dk dtk_X10_addTake 23 rfl) ?_
        obtain ⟨h5, h⟩ := h
        obtain ⟨x6, ex6⟩ : ∃ z, z = si x (o + 9) (l3 : Int32).toNatClampNeg ((x.1 (o + 9) (l3 : Int32).toNatClampNeg) ||| (1 <<< (l2 &&& 31 : Int32))) := ⟨_, rfl⟩
        have h := h x6 ex6
        refine T_iast (o + 9) 6 (dk dtk_X10_addTake 24 rfl) (kk_T9 ho) (kl_T9 hq ho) h5 ?_
        rw [← ex6]
        refine T_iinc (v := l3 + 1) (lv2 := [(3, vi (l3 + 1)), (0, vr o), (1, vi l1), (2, vi l2)]) 3 (dk dtk_X10_addTake 25 rfl) rfl rfl (by decide) rfl ?_
        refine T_goto 2 (dk dtk_X10_addTake 26 rfl) (by decide) ?_
        exact T_sub [1, 2, 3, 0] rfl h
set_option maxRecDepth 100000 in
theorem dtk_X10_shortestRing : dck cX10_shortestRing [(0, .iconst 0, 1), (1, .istore_n 1, 1), (2, .iconst 0, 1), (3, .istore_n 2, 1), (4, .iload_n 2, 1), (5, .bipush 6, 2), (7, .if_icmp .ge 30, 3), (10, .aload_n 0, 1), (11, .iload_n 2, 1), (12, .invokevirtual 66, 3), (15, .istore_n 3, 1), (16, .iload_n 3, 1), (17, .ifCond .eq 14, 3), (20, .iload_n 1, 1), (21, .ifCond .eq 8, 3), (24, .iload_n 3, 1), (25, .iload_n 1, 1), (26, .if_icmp .ge 5, 3), (29, .iload_n 3, 1), (30, .istore_n 1, 1), (31, .iinc 2 1, 3), (34, .goto (-30), 3), (37, .iload_n 1, 1), (38, .ireturn, 1)] = true := by decide +kernel
set_option maxRecDepth 100000 in
set_option maxHeartbeats 4000000 in
theorem kg_X10_shortestRing_0 {G : kG} {q : kP} {d : Nat} {x : gd} {P : Option gv → gd → Prop} (hq : kV q) {o : Nat} (ho : kiT q o)
    (h : KT G q (d + 1) zk_X10_shortestRing 4 [(0, vr o), (1, vi 0), (2, vi 0)] [] x P) :
    KT G q (d + 1) zk_X10_shortestRing 0 [(0, vr o)] [] x P := by
  refine T_iconst (v := 0) (dk dtk_X10_shortestRing 0 rfl) (by decide +kernel) ?_
  refine T_istore_n (lv2 := [(1, vi 0), (0, vr o)]) (dk dtk_X10_shortestRing 1 rfl) rfl (by decide) rfl ?_
  refine T_iconst (v := 0) (dk dtk_X10_shortestRing 2 rfl) (by decide +kernel) ?_
  refine T_istore_n (lv2 := [(2, vi 0), (1, vi 0), (0, vr o)]) (dk dtk_X10_shortestRing 3 rfl) rfl (by decide) rfl ?_
  exact T_sub [2, 1, 0] rfl h
set_option maxRecDepth 100000 in
set_option maxHeartbeats 4000000 in
theorem kg_X10_shortestRing_4 {G : kG} {q : kP} {d : Nat} {x : gd} {P : Option gv → gd → Prop} (hq : kV q) {o : Nat} (ho : kiT q o) (l1 : Int32) (l2 : Int32)
    (h : (((6 : Int32) ≤ l2 → P (some (vi l1)) x) ∧ (¬ ((6 : Int32) ≤ l2) → KT G q d zk_X10_ringFrom 0 [(0, vr o), (1, vi l2)] [] x (ri (fun r3 x2 => ((r3 = (0 : Int32) → KT G q (d + 1) zk_X10_shortestRing 4 [(0, vr o), (1, vi l1), (2, vi (l2 + 1))] [] x2 P) ∧ (¬ (r3 = (0 : Int32)) → ((l1 = (0 : Int32) → KT G q (d + 1) zk_X10_shortestRing 4 [(0, vr o), (1, vi r3), (2, vi (l2 + 1))] [] x2 P) ∧ (¬ (l1 = (0 : Int32)) → ((l1 ≤ r3 → KT G q (d + 1) zk_X10_shortestRing 4 [(0, vr o), (1, vi l1), (2, vi (l2 + 1))] [] x2 P) ∧ (¬ (l1 ≤ r3) → KT G q (d + 1) zk_X10_shortestRing 4 [(0, vr o), (1, vi r3), (2, vi (l2 + 1))] [] x2 P))))))))))) :
    KT G q (d + 1) zk_X10_shortestRing 4 [(0, vr o), (1, vi l1), (2, vi l2)] [] x P := by
  refine T_iload_n 2 (dk dtk_X10_shortestRing 4 rfl) rfl rfl ?_
  refine T_bipush (v := 6) (dk dtk_X10_shortestRing 5 rfl) (by decide +kernel) ?_
  refine T_icmp_ge 37 (dk dtk_X10_shortestRing 6 rfl) (by decide) (fun c1 => ?_) (fun c1 => ?_)
  · have h := h.1 c1
    refine T_iload_n 1 (dk dtk_X10_shortestRing 22 rfl) rfl rfl ?_
    exact KT_iret (dk dtk_X10_shortestRing 23 rfl) rfl rfl h
  · have h := h.2 c1
    refine T_aload_n 0 (dk dtk_X10_shortestRing 7 rfl) rfl rfl ?_
    refine T_iload_n 2 (dk dtk_X10_shortestRing 8 rfl) rfl rfl ?_
    refine KC_Vi [vi l2] [] rfl (dk dtk_X10_shortestRing 9 rfl) kcv_X10_66 rfl (kk_T0 ho) rfl (kl_T0 hq ho) (Nat.le_of_ble_eq_true rfl) (Nat.le_of_ble_eq_true rfl) (gok_i (av_c (gkr (kl_T0 hq ho)) (av_c rfl (av_c rfl av_n))) as_n) rfl h (fun r3 x2 h => ?_)
    refine T_istore_n (lv2 := [(3, vi r3), (0, vr o), (1, vi l1), (2, vi l2)]) (dk dtk_X10_shortestRing 10 rfl) rfl (by decide) rfl ?_
    refine T_iload_n 0 (dk dtk_X10_shortestRing 11 rfl) rfl rfl ?_
    refine T_if_eq 31 (dk dtk_X10_shortestRing 12 rfl) (by decide) (fun c4 => ?_) (fun c4 => ?_)
    · have h := h.1 c4
      refine T_iinc (v := l2 + 1) (lv2 := [(2, vi (l2 + 1)), (3, vi r3), (0, vr o), (1, vi l1)]) 3 (dk dtk_X10_shortestRing 20 rfl) rfl rfl (by decide) rfl ?_
      refine T_goto 4 (dk dtk_X10_shortestRing 21 rfl) (by decide) ?_
      exact T_sub [2, 3, 0] rfl h
    · have h := h.2 c4
      refine T_iload_n 2 (dk dtk_X10_shortestRing 13 rfl) rfl rfl ?_
      refine T_if_eq 29 (dk dtk_X10_shortestRing 14 rfl) (by decide) (fun c5 => ?_) (fun c5 => ?_)
      · have h := h.1 c5
        refine T_iload_n 0 (dk dtk_X10_shortestRing 18 rfl) rfl rfl ?_
        refine T_istore_n (lv2 := [(1, vi r3), (3, vi r3), (0, vr o), (2, vi l2)]) (dk dtk_X10_shortestRing 19 rfl) rfl (by decide) rfl ?_
        refine T_iinc (v := l2 + 1) (lv2 := [(2, vi (l2 + 1)), (1, vi r3), (3, vi r3), (0, vr o)]) 3 (dk dtk_X10_shortestRing 20 rfl) rfl rfl (by decide) rfl ?_
        refine T_goto 4 (dk dtk_X10_shortestRing 21 rfl) (by decide) ?_
        exact T_sub [3, 1, 0] rfl h
      · have h := h.2 c5
        refine T_iload_n 0 (dk dtk_X10_shortestRing 15 rfl) rfl rfl ?_
        refine T_iload_n 2 (dk dtk_X10_shortestRing 16 rfl) rfl rfl ?_
        refine T_icmp_ge 31 (dk dtk_X10_shortestRing 17 rfl) (by decide) (fun c6 => ?_) (fun c6 => ?_)
        · have h := h.1 c6
          refine T_iinc (v := l2 + 1) (lv2 := [(2, vi (l2 + 1)), (3, vi r3), (0, vr o), (1, vi l1)]) 3 (dk dtk_X10_shortestRing 20 rfl) rfl rfl (by decide) rfl ?_
          refine T_goto 4 (dk dtk_X10_shortestRing 21 rfl) (by decide) ?_
          exact T_sub [2, 3, 0] rfl h
        · have h := h.2 c6
          refine T_iload_n 0 (dk dtk_X10_shortestRing 18 rfl) rfl rfl ?_
          refine T_istore_n (lv2 := [(1, vi r3), (3, vi r3), (0, vr o), (2, vi l2)]) (dk dtk_X10_shortestRing 19 rfl) rfl (by decide) rfl ?_
          refine T_iinc (v := l2 + 1) (lv2 := [(2, vi (l2 + 1)), (1, vi r3), (3, vi r3), (0, vr o)]) 3 (dk dtk_X10_shortestRing 20 rfl) rfl rfl (by decide) rfl ?_
          refine T_goto 4 (dk dtk_X10_shortestRing 21 rfl) (by decide) ?_
          exact T_sub [3, 1, 0] rfl h
set_option maxRecDepth 100000 in
theorem dtk_X10_ringFrom : dck cX10_ringFrom [(0, .iconst 1, 1), (1, .iload_n 1, 1), (2, .ishl, 1), (3, .istore_n 2, 1), (4, .iconst 1, 1), (5, .istore_n 3, 1), (6, .iload_n 3, 1), (7, .bipush 6, 2), (9, .if_icmp .gt 65, 3), (12, .iconst 0, 1), (13, .istore 4, 2), (15, .iconst 0, 1), (16, .istore 5, 2), (18, .iload 5, 2), (20, .bipush 6, 2), (22, .if_icmp .ge 31, 3), (25, .iload_n 2, 1), (26, .iload 5, 2), (28, .ishr, 1), (29, .iconst 1, 1), (30, .iand, 1), (31, .iconst 1, 1), (32, .if_icmp .ne 15, 3), (35, .iload 4, 2), (37, .aload_n 0, 1), (38, .getfield 20, 3), (41, .iload 5, 2), (43, .iaload, 1), (44, .ior, 1), (45, .istore 4, 2), (47, .iinc 5 1, 3), (50, .goto (-32), 3), (53, .iload 4, 2), (55, .iload_n 1, 1), (56, .ishr, 1), (57, .iconst 1, 1), (58, .iand, 1), (59, .iconst 1, 1), (60, .if_icmp .ne 5, 3), (63, .iload_n 3, 1), (64, .ireturn, 1), (65, .iload 4, 2), (67, .istore_n 2, 1), (68, .iinc 3 1, 3), (71, .goto (-65), 3), (74, .iconst 0, 1), (75, .ireturn, 1)] = true := by decide +kernel
set_option maxRecDepth 100000 in
set_option maxHeartbeats 4000000 in
theorem kg_X10_ringFrom_0 {G : kG} {q : kP} {d : Nat} {x : gd} {P : Option gv → gd → Prop} (hq : kV q) {o : Nat} (ho : kiT q o) (l1 : Int32)
    (h : KT G q d zk_X10_ringFrom 6 [(0, vr o), (1, vi l1), (2, vi (1 <<< (l1 &&& 31 : Int32))), (3, vi 1)] [] x P) :
    KT G q d zk_X10_ringFrom 0 [(0, vr o), (1, vi l1)] [] x P := by
  refine T_iconst (v := 1) (dk dtk_X10_ringFrom 0 rfl) (by decide +kernel) ?_
  refine T_iload_n 1 (dk dtk_X10_ringFrom 1 rfl) rfl rfl ?_
  refine T_ishl (dk dtk_X10_ringFrom 2 rfl) ?_
  refine T_istore_n (lv2 := [(2, vi (1 <<< (l1 &&& 31 : Int32))), (0, vr o), (1, vi l1)]) (dk dtk_X10_ringFrom 3 rfl) rfl (by decide) rfl ?_
  refine T_iconst (v := 1) (dk dtk_X10_ringFrom 4 rfl) (by decide +kernel) ?_
  refine T_istore_n (lv2 := [(3, vi 1), (2, vi (1 <<< (l1 &&& 31 : Int32))), (0, vr o), (1, vi l1)]) (dk dtk_X10_ringFrom 5 rfl) rfl (by decide) rfl ?_
  exact T_sub [2, 3, 1, 0] rfl h
set_option maxRecDepth 100000 in
set_option maxHeartbeats 4000000 in
theorem kg_X10_ringFrom_6 {G : kG} {q : kP} {d : Nat} {x : gd} {P : Option gv → gd → Prop} (hq : kV q) {o : Nat} (ho : kiT q o) (l1 : Int32) (l2 : Int32) (l3 : Int32)
    (h : (((6 : Int32) < l3 → P (some (vi 0)) x) ∧ (¬ ((6 : Int32) < l3) → KT G q d zk_X10_ringFrom 18 [(0, vr o), (1, vi l1), (2, vi l2), (3, vi l3), (4, vi 0), (5, vi 0)] [] x P))) :
    KT G q d zk_X10_ringFrom 6 [(0, vr o), (1, vi l1), (2, vi l2), (3, vi l3)] [] x P := by
  refine T_iload_n 3 (dk dtk_X10_ringFrom 6 rfl) rfl rfl ?_
  refine T_bipush (v := 6) (dk dtk_X10_ringFrom 7 rfl) (by decide +kernel) ?_
  refine T_icmp_gt 74 (dk dtk_X10_ringFrom 8 rfl) (by decide) (fun c1 => ?_) (fun c1 => ?_)
  · have h := h.1 c1
    refine T_iconst (v := 0) (dk dtk_X10_ringFrom 45 rfl) (by decide +kernel) ?_
    exact KT_iret (dk dtk_X10_ringFrom 46 rfl) rfl rfl h
  · have h := h.2 c1
    refine T_iconst (v := 0) (dk dtk_X10_ringFrom 9 rfl) (by decide +kernel) ?_
    refine T_istore (lv2 := [(4, vi 0), (0, vr o), (1, vi l1), (2, vi l2), (3, vi l3)]) (dk dtk_X10_ringFrom 10 rfl) (by decide) rfl ?_
    refine T_iconst (v := 0) (dk dtk_X10_ringFrom 11 rfl) (by decide +kernel) ?_
    refine T_istore (lv2 := [(5, vi 0), (4, vi 0), (0, vr o), (1, vi l1), (2, vi l2), (3, vi l3)]) (dk dtk_X10_ringFrom 12 rfl) (by decide) rfl ?_
    exact T_sub [2, 3, 4, 5, 1, 0] rfl h
set_option maxRecDepth 100000 in
set_option maxHeartbeats 4000000 in
theorem kg_X10_ringFrom_18 {G : kG} {q : kP} {d : Nat} {x : gd} {P : Option gv → gd → Prop} (hq : kV q) {o : Nat} (ho : kiT q o) (l1 : Int32) (l2 : Int32) (l3 : Int32) (l4 : Int32) (l5 : Int32)
    (h : (((6 : Int32) ≤ l5 → ((¬ (((l4 >>> (l1 &&& 31 : Int32)) &&& 1) = (1 : Int32)) → KT G q d zk_X10_ringFrom 6 [(0, vr o), (1, vi l1), (2, vi l4), (3, vi (l3 + 1))] [] x P) ∧ (((l4 >>> (l1 &&& 31 : Int32)) &&& 1) = (1 : Int32) → P (some (vi l3)) x))) ∧ (¬ ((6 : Int32) ≤ l5) → ((¬ (((l2 >>> (l5 &&& 31 : Int32)) &&& 1) = (1 : Int32)) → KT G q d zk_X10_ringFrom 18 [(0, vr o), (1, vi l1), (2, vi l2), (3, vi l3), (4, vi l4), (5, vi (l5 + 1))] [] x P) ∧ (((l2 >>> (l5 &&& 31 : Int32)) &&& 1) = (1 : Int32) → vp_in l5 6 ∧ KT G q d zk_X10_ringFrom 18 [(0, vr o), (1, vi l1), (2, vi l2), (3, vi l3), (4, vi (l4 ||| (x.1 (o + 9) (l5 : Int32).toNatClampNeg))), (5, vi (l5 + 1))] [] x P))))) :
    KT G q d zk_X10_ringFrom 18 [(0, vr o), (1, vi l1), (2, vi l2), (3, vi l3), (4, vi l4), (5, vi l5)] [] x P := by
  refine T_iload 5 (dk dtk_X10_ringFrom 13 rfl) rfl ?_
  refine T_bipush (v := 6) (dk dtk_X10_ringFrom 14 rfl) (by decide +kernel) ?_
  refine T_icmp_ge 53 (dk dtk_X10_ringFrom 15 rfl) (by decide) (fun c1 => ?_) (fun c1 => ?_)
  · have h := h.1 c1
    refine T_iload 4 (dk dtk_X10_ringFrom 32 rfl) rfl ?_
    refine T_iload_n 1 (dk dtk_X10_ringFrom 33 rfl) rfl rfl ?_
    refine T_ishr (dk dtk_X10_ringFrom 34 rfl) ?_
    refine T_iconst (v := 1) (dk dtk_X10_ringFrom 35 rfl) (by decide +kernel) ?_
    refine T_iand (dk dtk_X10_ringFrom 36 rfl) ?_
    refine T_iconst (v := 1) (dk dtk_X10_ringFrom 37 rfl) (by decide +kernel) ?_
    refine T_icmp_ne 65 (dk dtk_X10_ringFrom 38 rfl) (by decide) (fun c2 => ?_) (fun c2 => ?_)
    · have h := h.1 c2
      refine T_iload 4 (dk dtk_X10_ringFrom 41 rfl) rfl ?_
      refine T_istore_n (lv2 := [(2, vi l4), (0, vr o), (1, vi l1), (3, vi l3), (4, vi l4), (5, vi l5)]) (dk dtk_X10_ringFrom 42 rfl) rfl (by decide) rfl ?_
      refine T_iinc (v := l3 + 1) (lv2 := [(3, vi (l3 + 1)), (2, vi l4), (0, vr o), (1, vi l1), (4, vi l4), (5, vi l5)]) 3 (dk dtk_X10_ringFrom 43 rfl) rfl rfl (by decide) rfl ?_
      refine T_goto 6 (dk dtk_X10_ringFrom 44 rfl) (by decide) ?_
      exact T_sub [2, 3, 1, 0] rfl h
    · have h := h.2 c2
      refine T_iload_n 3 (dk dtk_X10_ringFrom 39 rfl) rfl rfl ?_
      exact KT_iret (dk dtk_X10_ringFrom 40 rfl) rfl rfl h
  · have h := h.2 c1
    refine T_iload_n 2 (dk dtk_X10_ringFrom 16 rfl) rfl rfl ?_
    refine T_iload 5 (dk dtk_X10_ringFrom 17 rfl) rfl ?_
    refine T_ishr (dk dtk_X10_ringFrom 18 rfl) ?_
    refine T_iconst (v := 1) (dk dtk_X10_ringFrom 19 rfl) (by decide +kernel) ?_
    refine T_iand (dk dtk_X10_ringFrom 20 rfl) ?_
    refine T_iconst (v := 1) (dk dtk_X10_ringFrom 21 rfl) (by decide +kernel) ?_
    refine T_icmp_ne 47 (dk dtk_X10_ringFrom 22 rfl) (by decide) (fun c3 => ?_) (fun c3 => ?_)
    · have h := h.1 c3
      refine T_iinc (v := l5 + 1) (lv2 := [(5, vi (l5 + 1)), (0, vr o), (1, vi l1), (2, vi l2), (3, vi l3), (4, vi l4)]) 5 (dk dtk_X10_ringFrom 30 rfl) rfl rfl (by decide) rfl ?_
      refine T_goto 18 (dk dtk_X10_ringFrom 31 rfl) (by decide) ?_
      exact T_sub [1, 2, 3, 4, 5, 0] rfl h
    · have h := h.2 c3
      refine T_iload 4 (dk dtk_X10_ringFrom 23 rfl) rfl ?_
      refine T_aload_n 0 (dk dtk_X10_ringFrom 24 rfl) rfl rfl ?_
      refine T_getR o 8 (o + 9) (dk dtk_X10_ringFrom 25 rfl) kfl_X10_20 (kk_T0 ho) (kl_T0 hq ho) (by decide) rfl (kr_T_8 ho) ?_
      refine T_iload 5 (dk dtk_X10_ringFrom 26 rfl) rfl ?_
      obtain ⟨h4, h⟩ := h
      refine T_iald (o + 9) 6 (dk dtk_X10_ringFrom 27 rfl) (kk_T9 ho) (kl_T9 hq ho) h4 ?_
      refine T_ior (dk dtk_X10_ringFrom 28 rfl) ?_
      refine T_istore (lv2 := [(4, vi (l4 ||| (x.1 (o + 9) (l5 : Int32).toNatClampNeg))), (0, vr o), (1, vi l1), (2, vi l2), (3, vi l3), (5, vi l5)]) (dk dtk_X10_ringFrom 29 rfl) (by decide) rfl ?_
      refine T_iinc (v := l5 + 1) (lv2 := [(5, vi (l5 + 1)), (4, vi (l4 ||| (x.1 (o + 9) (l5 : Int32).toNatClampNeg))), (0, vr o), (1, vi l1), (2, vi l2), (3, vi l3)]) 5 (dk dtk_X10_ringFrom 30 rfl) rfl rfl (by decide) rfl ?_
      refine T_goto 18 (dk dtk_X10_ringFrom 31 rfl) (by decide) ?_
      exact T_sub [2, 3, 4, 5, 1, 0] rfl h
set_option maxRecDepth 100000 in
theorem dtk_X10_valueOf : dck cX10_valueOf [(0, .aload_n 0, 1), (1, .getfield 33, 3), (4, .aload_n 0, 1), (5, .getfield 37, 3), (8, .iload_n 1, 1), (9, .iaload, 1), (10, .aaload, 1), (11, .iload_n 2, 1), (12, .iaload, 1), (13, .ireturn, 1)] = true := by decide +kernel
set_option maxRecDepth 100000 in
set_option maxHeartbeats 4000000 in
theorem kg_X10_valueOf_0 {G : kG} {q : kP} {d : Nat} {x : gd} {P : Option gv → gd → Prop} (hq : kV q) {o : Nat} (ho : kiT q o) (l1 : Int32) (l2 : Int32)
    (h : vp_in l1 3000 ∧ vp_in (x.1 (o + 14) (l1 : Int32).toNatClampNeg) 3000 ∧ (∀ u3, u3 = (kf q).1 (o + 13) (x.1 (o + 14) (l1 : Int32).toNatClampNeg : Int32).toNatClampNeg → ∃ c4, u3 = some c4 ∧ kK c4 = .inr (.int, 24) ∧ c4 ∈ (kf q).2.1 ∧ vp_in l2 24 ∧ P (some (vi (x.1 c4 (l2 : Int32).toNatClampNeg))) x)) :
    KT G q d zk_X10_valueOf 0 [(0, vr o), (1, vi l1), (2, vi l2)] [] x P := by
  refine T_aload_n 0 (dk dtk_X10_valueOf 0 rfl) rfl rfl ?_
  refine T_getR o 12 (o + 13) (dk dtk_X10_valueOf 1 rfl) kfl_X10_33 (kk_T0 ho) (kl_T0 hq ho) (by decide) rfl (kr_T_12 ho) ?_
  refine T_aload_n 0 (dk dtk_X10_valueOf 2 rfl) rfl rfl ?_
  refine T_getR o 13 (o + 14) (dk dtk_X10_valueOf 3 rfl) kfl_X10_37 (kk_T0 ho) (kl_T0 hq ho) (by decide) rfl (kr_T_13 ho) ?_
  refine T_iload_n 1 (dk dtk_X10_valueOf 4 rfl) rfl rfl ?_
  obtain ⟨h1, h⟩ := h
  refine T_iald (o + 14) 3000 (dk dtk_X10_valueOf 5 rfl) (kk_T14 ho) (kl_T14 hq ho) h1 ?_
  obtain ⟨h2, h⟩ := h
  obtain ⟨u3, eu3⟩ : ∃ z, z = (kf q).1 (o + 13) (x.1 (o + 14) (l1 : Int32).toNatClampNeg : Int32).toNatClampNeg := ⟨_, rfl⟩
  have h := h u3 eu3
  refine T_aaldI (o + 13) 3000 (dk dtk_X10_valueOf 6 rfl) (kk_T13 ho) (kl_T13 hq ho) h2 ?_
  rw [← eu3]
  refine T_iload_n 2 (dk dtk_X10_valueOf 7 rfl) rfl rfl ?_
  obtain ⟨c4, rfl, g5, g6, h⟩ := h
  obtain ⟨h7, h⟩ := h
  refine T_iald c4 24 (dk dtk_X10_valueOf 8 rfl) g5 g6 h7 ?_
  exact KT_iret (dk dtk_X10_valueOf 9 rfl) rfl rfl h
set_option maxRecDepth 100000 in
theorem dtk_X10_addOutcome : dck cX10_addOutcome [(0, .iconst 0, 1), (1, .istore_n 3, 1), (2, .aload_n 0, 1), (3, .getfield 51, 3), (6, .istore 4, 2), (8, .iconst 0, 1), (9, .istore 5, 2), (11, .iload 5, 2), (13, .sipush 3000, 3), (16, .if_icmp .ge 65, 3), (19, .iload_n 3, 1), (20, .iload 4, 2), (22, .if_icmp .ge 59, 3), (25, .iload_n 3, 1), (26, .iload 4, 2), (28, .iadd, 1), (29, .iconst 2, 1), (30, .idiv, 1), (31, .istore 6, 2), (33, .aload_n 0, 1), (34, .getfield 33, 3), (37, .aload_n 0, 1), (38, .getfield 37, 3), (41, .iload 6, 2), (43, .iaload, 1), (44, .aaload, 1), (45, .aload_n 1, 1), (46, .iload_n 2, 1), (47, .invokestatic 70, 3), (50, .istore 7, 2), (52, .iload 7, 2), (54, .ifCond .ne 4, 3), (57, .return_, 1), (58, .iload 7, 2), (60, .ifCond .ge 11, 3), (63, .iload 6, 2), (65, .iconst 1, 1), (66, .iadd, 1), (67, .istore_n 3, 1), (68, .goto 7, 3), (71, .iload 6, 2), (73, .istore 4, 2), (75, .iinc 5 1, 3), (78, .goto (-67), 3), (81, .aload_n 0, 1), (82, .iload_n 3, 1), (83, .aload_n 1, 1), (84, .iload_n 2, 1), (85, .invokevirtual 74, 3), (88, .return_, 1)] = true := by decide +kernel
set_option maxRecDepth 100000 in
theorem dtk_X10_insertOutcome : dck cX10_insertOutcome [(0, .aload_n 0, 1), (1, .getfield 51, 3), (4, .sipush 3000, 3), (7, .if_icmp .lt 4, 3), (10, .return_, 1), (11, .aload_n 0, 1), (12, .getfield 33, 3), (15, .aload_n 0, 1), (16, .getfield 51, 3), (19, .aaload, 1), (20, .ifnonnull 16, 3), (23, .aload_n 0, 1), (24, .getfield 33, 3), (27, .aload_n 0, 1), (28, .getfield 51, 3), (31, .bipush 24, 2), (33, .newarray .int, 2), (35, .aastore, 1), (36, .aload_n 2, 1), (37, .iconst 0, 1), (38, .aload_n 0, 1), (39, .getfield 33, 3), (42, .aload_n 0, 1), (43, .getfield 51, 3), (46, .aaload, 1), (47, .iconst 0, 1), (48, .iload_n 3, 1), (49, .invokestatic 78, 3), (52, .aload_n 0, 1), (53, .getfield 37, 3), (56, .iload_n 1, 1), (57, .aload_n 0, 1), (58, .getfield 37, 3), (61, .iload_n 1, 1), (62, .iconst 1, 1), (63, .iadd, 1), (64, .aload_n 0, 1), (65, .getfield 51, 3), (68, .iload_n 1, 1), (69, .isub, 1), (70, .invokestatic 78, 3), (73, .aload_n 0, 1), (74, .getfield 37, 3), (77, .iload_n 1, 1), (78, .aload_n 0, 1), (79, .getfield 51, 3), (82, .iastore, 1), (83, .aload_n 0, 1), (84, .dup, 1), (85, .getfield 51, 3), (88, .iconst 1, 1), (89, .iadd, 1), (90, .putfield 51, 3), (93, .return_, 1)] = true := by decide +kernel
set_option maxRecDepth 100000 in
theorem dtk_X10_order : dck cX10_order [(0, .iconst 0, 1), (1, .istore_n 3, 1), (2, .iload_n 3, 1), (3, .iload_n 2, 1), (4, .if_icmp .ge 33, 3), (7, .aload_n 0, 1), (8, .iload_n 3, 1), (9, .iaload, 1), (10, .aload_n 1, 1), (11, .iload_n 3, 1), (12, .iaload, 1), (13, .if_icmp .eq 18, 3), (16, .aload_n 0, 1), (17, .iload_n 3, 1), (18, .iaload, 1), (19, .aload_n 1, 1), (20, .iload_n 3, 1), (21, .iaload, 1), (22, .if_icmp .ge 7, 3), (25, .iconst (-1), 1), (26, .goto 4, 3), (29, .iconst 1, 1), (30, .ireturn, 1), (31, .iinc 3 1, 3), (34, .goto (-32), 3), (37, .iconst 0, 1), (38, .ireturn, 1)] = true := by decide +kernel
set_option maxRecDepth 100000 in
set_option maxHeartbeats 4000000 in
theorem kg_X10_order_0 {G : kG} {q : kP} {d : Nat} {x : gd} {P : Option gv → gd → Prop} (hq : kV q) {o : Nat} (ho : kiT q o) {a0 n0 : Nat} (ka0 : kK a0 = .inr (.int, n0)) (ma0 : a0 ∈ (kf q).2.1) {a1 n1 : Nat} (ka1 : kK a1 = .inr (.int, n1)) (ma1 : a1 ∈ (kf q).2.1) (l2 : Int32)
    (h : KT G q d zk_X10_order 2 [(0, vr a0), (1, vr a1), (2, vi l2), (3, vi 0)] [] x P) :
    KT G q d zk_X10_order 0 [(0, vr a0), (1, vr a1), (2, vi l2)] [] x P := by
  refine T_iconst (v := 0) (dk dtk_X10_order 0 rfl) (by decide +kernel) ?_
  refine T_istore_n (lv2 := [(3, vi 0), (0, vr a0), (1, vr a1), (2, vi l2)]) (dk dtk_X10_order 1 rfl) rfl (by decide) rfl ?_
  exact T_sub [1, 2, 3, 0] rfl h
set_option maxRecDepth 100000 in
set_option maxHeartbeats 4000000 in
theorem kg_X10_order_2 {G : kG} {q : kP} {d : Nat} {x : gd} {P : Option gv → gd → Prop} (hq : kV q) {o : Nat} (ho : kiT q o) {a0 n0 : Nat} (ka0 : kK a0 = .inr (.int, n0)) (ma0 : a0 ∈ (kf q).2.1) {a1 n1 : Nat} (ka1 : kK a1 = .inr (.int, n1)) (ma1 : a1 ∈ (kf q).2.1) (l2 : Int32) (l3 : Int32)
    (h : ((l2 ≤ l3 → P (some (vi 0)) x) ∧ (¬ (l2 ≤ l3) → vp_in l3 n0 ∧ vp_in l3 n1 ∧ (((x.1 a0 (l3 : Int32).toNatClampNeg) = (x.1 a1 (l3 : Int32).toNatClampNeg) → KT G q d zk_X10_order 2 [(0, vr a0), (1, vr a1), (2, vi l2), (3, vi (l3 + 1))] [] x P) ∧ (¬ ((x.1 a0 (l3 : Int32).toNatClampNeg) = (x.1 a1 (l3 : Int32).toNatClampNeg)) → vp_in l3 n0 ∧ vp_in l3 n1 ∧ (((x.1 a1 (l3 : Int32).toNatClampNeg) ≤ (x.1 a0 (l3 : Int32).toNatClampNeg) → P (some (vi 1)) x) ∧ (¬ ((x.1 a1 (l3 : Int32).toNatClampNeg) ≤ (x.1 a0 (l3 : Int32).toNatClampNeg)) → P (some (vi (-1))) x))))))) :
    KT G q d zk_X10_order 2 [(0, vr a0), (1, vr a1), (2, vi l2), (3, vi l3)] [] x P := by
  refine T_iload_n 3 (dk dtk_X10_order 2 rfl) rfl rfl ?_
  refine T_iload_n 2 (dk dtk_X10_order 3 rfl) rfl rfl ?_
  refine T_icmp_ge 37 (dk dtk_X10_order 4 rfl) (by decide) (fun c1 => ?_) (fun c1 => ?_)
  · have h := h.1 c1
    refine T_iconst (v := 0) (dk dtk_X10_order 25 rfl) (by decide +kernel) ?_
    exact KT_iret (dk dtk_X10_order 26 rfl) rfl rfl h
  · have h := h.2 c1
    refine T_aload_n 0 (dk dtk_X10_order 5 rfl) rfl rfl ?_
    refine T_iload_n 3 (dk dtk_X10_order 6 rfl) rfl rfl ?_
    obtain ⟨h2, h⟩ := h
    refine T_iald a0 n0 (dk dtk_X10_order 7 rfl) ka0 ma0 h2 ?_
    refine T_aload_n 1 (dk dtk_X10_order 8 rfl) rfl rfl ?_
    refine T_iload_n 3 (dk dtk_X10_order 9 rfl) rfl rfl ?_
    obtain ⟨h3, h⟩ := h
    refine T_iald a1 n1 (dk dtk_X10_order 10 rfl) ka1 ma1 h3 ?_
    refine T_icmp_eq 31 (dk dtk_X10_order 11 rfl) (by decide) (fun c4 => ?_) (fun c4 => ?_)
    · have h := h.1 c4
      refine T_iinc (v := l3 + 1) (lv2 := [(3, vi (l3 + 1)), (0, vr a0), (1, vr a1), (2, vi l2)]) 3 (dk dtk_X10_order 23 rfl) rfl rfl (by decide) rfl ?_
      refine T_goto 2 (dk dtk_X10_order 24 rfl) (by decide) ?_
      exact T_sub [1, 2, 3, 0] rfl h
    · have h := h.2 c4
      refine T_aload_n 0 (dk dtk_X10_order 12 rfl) rfl rfl ?_
      refine T_iload_n 3 (dk dtk_X10_order 13 rfl) rfl rfl ?_
      obtain ⟨h5, h⟩ := h
      refine T_iald a0 n0 (dk dtk_X10_order 14 rfl) ka0 ma0 h5 ?_
      refine T_aload_n 1 (dk dtk_X10_order 15 rfl) rfl rfl ?_
      refine T_iload_n 3 (dk dtk_X10_order 16 rfl) rfl rfl ?_
      obtain ⟨h6, h⟩ := h
      refine T_iald a1 n1 (dk dtk_X10_order 17 rfl) ka1 ma1 h6 ?_
      refine T_icmp_ge 29 (dk dtk_X10_order 18 rfl) (by decide) (fun c7 => ?_) (fun c7 => ?_)
      · have h := h.1 c7
        refine T_iconst (v := 1) (dk dtk_X10_order 21 rfl) (by decide +kernel) ?_
        exact KT_iret (dk dtk_X10_order 22 rfl) rfl rfl h
      · have h := h.2 c7
        refine T_iconst (v := (-1)) (dk dtk_X10_order 19 rfl) (by decide +kernel) ?_
        refine T_goto 30 (dk dtk_X10_order 20 rfl) (by decide) ?_
        exact KT_iret (dk dtk_X10_order 22 rfl) rfl rfl h
