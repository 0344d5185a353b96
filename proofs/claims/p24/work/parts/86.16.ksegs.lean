set_option maxRecDepth 100000 in
theorem dtk_X3_beginCall : dck cX3_beginCall [(0, .aload_n 0, 1), (1, .getfield 40, 3), (4, .bipush 12, 2), (6, .if_icmp .lt 4, 3), (9, .return_, 1), (10, .aload_n 0, 1), (11, .getfield 11, 3), (14, .aload_n 0, 1), (15, .getfield 40, 3), (18, .iload_n 2, 1), (19, .iastore, 1), (20, .aload_n 0, 1), (21, .getfield 15, 3), (24, .aload_n 0, 1), (25, .getfield 40, 3), (28, .iload_n 3, 1), (29, .iastore, 1), (30, .aload_n 0, 1), (31, .getfield 21, 3), (34, .aload_n 0, 1), (35, .getfield 40, 3), (38, .aload_n 0, 1), (39, .getfield 44, 3), (42, .iastore, 1), (43, .aload_n 0, 1), (44, .getfield 24, 3), (47, .aload_n 0, 1), (48, .getfield 40, 3), (51, .ldc 84, 2), (53, .iastore, 1), (54, .aload_n 0, 1), (55, .getfield 27, 3), (58, .aload_n 0, 1), (59, .getfield 40, 3), (62, .iconst 0, 1), (63, .iastore, 1), (64, .iconst 0, 1), (65, .istore 4, 2), (67, .iload 4, 2), (69, .aload_n 0, 1), (70, .getfield 40, 3), (73, .if_icmp .ge 39, 3), (76, .aload_n 0, 1), (77, .getfield 24, 3), (80, .iload 4, 2), (82, .iaload, 1), (83, .aload_n 0, 1), (84, .getfield 44, 3), (87, .if_icmp .ge 19, 3), (90, .aload_n 0, 1), (91, .getfield 27, 3), (94, .aload_n 0, 1), (95, .getfield 40, 3), (98, .dup2, 1), (99, .iaload, 1), (100, .iconst 1, 1), (101, .iload 4, 2), (103, .ishl, 1), (104, .ior, 1), (105, .iastore, 1), (106, .iinc 4 1, 3), (109, .goto (-42), 3), (112, .aload_n 0, 1), (113, .getfield 32, 3), (116, .iload_n 1, 1), (117, .aload_n 0, 1), (118, .getfield 40, 3), (121, .iastore, 1), (122, .aload_n 0, 1), (123, .dup, 1), (124, .getfield 40, 3), (127, .iconst 1, 1), (128, .iadd, 1), (129, .putfield 40, 3), (132, .return_, 1)] = true := by decide +kernel
set_option maxRecDepth 100000 in
set_option maxHeartbeats 4000000 in
theorem kg_X3_beginCall_0 {G : kG} {q : kP} {d : Nat} {x : gd} {P : Option gv → gd → Prop} (hq : kV q) (hh : q.hi = true) (l1 : Int32) (l2 : Int32) (l3 : Int32)
    (h : (((x.1 180 6) < (12 : Int32) → vp_in (x.1 180 6) 12 ∧ (∀ x3 : gd, x3 = si x 181 (x.1 180 6 : Int32).toNatClampNeg l2 → vp_in (x3.1 180 6) 12 ∧ (∀ x5 : gd, x5 = si x3 182 (x3.1 180 6 : Int32).toNatClampNeg l3 → vp_in (x5.1 180 6) 12 ∧ (∀ x7 : gd, x7 = si x5 184 (x5.1 180 6 : Int32).toNatClampNeg (x5.1 180 7) → vp_in (x7.1 180 6) 12 ∧ (∀ x9 : gd, x9 = si x7 185 (x7.1 180 6 : Int32).toNatClampNeg 1000000 → vp_in (x9.1 180 6) 12 ∧ (∀ x11 : gd, x11 = si x9 186 (x9.1 180 6 : Int32).toNatClampNeg 0 → KT G q d zk_X3_beginCall 67 [(0, vr 180), (1, vi l1), (4, vi 0)] [] x11 P)))))) ∧ (¬ ((x.1 180 6) < (12 : Int32)) → P none x))) :
    KT G q d zk_X3_beginCall 0 [(0, vr 180), (1, vi l1), (2, vi l2), (3, vi l3)] [] x P := by
  refine T_aload_n 0 (dk dtk_X3_beginCall 0 rfl) rfl rfl ?_
  refine T_getI 180 6 (dk dtk_X3_beginCall 1 rfl) kfl_X3_40 kk_180 (kl_180 hq hh) (by decide) rfl ?_
  refine T_bipush (v := 12) (dk dtk_X3_beginCall 2 rfl) (by decide +kernel) ?_
  refine T_icmp_lt 10 (dk dtk_X3_beginCall 3 rfl) (by decide) (fun c1 => ?_) (fun c1 => ?_)
  · have h := h.1 c1
    refine T_aload_n 0 (dk dtk_X3_beginCall 5 rfl) rfl rfl ?_
    refine T_getR 180 0 181 (dk dtk_X3_beginCall 6 rfl) kfl_X3_11 kk_180 (kl_180 hq hh) (by decide) rfl kr_180_0 ?_
    refine T_aload_n 0 (dk dtk_X3_beginCall 7 rfl) rfl rfl ?_
    refine T_getI 180 6 (dk dtk_X3_beginCall 8 rfl) kfl_X3_40 kk_180 (kl_180 hq hh) (by decide) rfl ?_
    refine T_iload_n 2 (dk dtk_X3_beginCall 9 rfl) rfl rfl ?_
    obtain ⟨h2, h⟩ := h
    obtain ⟨x3, ex3⟩ : ∃ z, z = si x 181 (x.1 180 6 : Int32).toNatClampNeg l2 := ⟨_, rfl⟩
    have h := h x3 ex3
    refine T_iast 181 12 (dk dtk_X3_beginCall 10 rfl) kk_181 (kl_181 hq hh) h2 ?_
    rw [← ex3]
    refine T_aload_n 0 (dk dtk_X3_beginCall 11 rfl) rfl rfl ?_
    refine T_getR 180 1 182 (dk dtk_X3_beginCall 12 rfl) kfl_X3_15 kk_180 (kl_180 hq hh) (by decide) rfl kr_180_1 ?_
    refine T_aload_n 0 (dk dtk_X3_beginCall 13 rfl) rfl rfl ?_
    refine T_getI 180 6 (dk dtk_X3_beginCall 14 rfl) kfl_X3_40 kk_180 (kl_180 hq hh) (by decide) rfl ?_
    refine T_iload_n 3 (dk dtk_X3_beginCall 15 rfl) rfl rfl ?_
    obtain ⟨h4, h⟩ := h
    obtain ⟨x5, ex5⟩ : ∃ z, z = si x3 182 (x3.1 180 6 : Int32).toNatClampNeg l3 := ⟨_, rfl⟩
    have h := h x5 ex5
    refine T_iast 182 12 (dk dtk_X3_beginCall 16 rfl) kk_182 (kl_182 hq hh) h4 ?_
    rw [← ex5]
    refine T_aload_n 0 (dk dtk_X3_beginCall 17 rfl) rfl rfl ?_
    refine T_getR 180 3 184 (dk dtk_X3_beginCall 18 rfl) kfl_X3_21 kk_180 (kl_180 hq hh) (by decide) rfl kr_180_3 ?_
    refine T_aload_n 0 (dk dtk_X3_beginCall 19 rfl) rfl rfl ?_
    refine T_getI 180 6 (dk dtk_X3_beginCall 20 rfl) kfl_X3_40 kk_180 (kl_180 hq hh) (by decide) rfl ?_
    refine T_aload_n 0 (dk dtk_X3_beginCall 21 rfl) rfl rfl ?_
    refine T_getI 180 7 (dk dtk_X3_beginCall 22 rfl) kfl_X3_44 kk_180 (kl_180 hq hh) (by decide) rfl ?_
    obtain ⟨h6, h⟩ := h
    obtain ⟨x7, ex7⟩ : ∃ z, z = si x5 184 (x5.1 180 6 : Int32).toNatClampNeg (x5.1 180 7) := ⟨_, rfl⟩
    have h := h x7 ex7
    refine T_iast 184 12 (dk dtk_X3_beginCall 23 rfl) kk_184 (kl_184 hq hh) h6 ?_
    rw [← ex7]
    refine T_aload_n 0 (dk dtk_X3_beginCall 24 rfl) rfl rfl ?_
    refine T_getR 180 4 185 (dk dtk_X3_beginCall 25 rfl) kfl_X3_24 kk_180 (kl_180 hq hh) (by decide) rfl kr_180_4 ?_
    refine T_aload_n 0 (dk dtk_X3_beginCall 26 rfl) rfl rfl ?_
    refine T_getI 180 6 (dk dtk_X3_beginCall 27 rfl) kfl_X3_40 kk_180 (kl_180 hq hh) (by decide) rfl ?_
    refine T_ldc (v := 1000000) (dk dtk_X3_beginCall 28 rfl) kkc_X3_84 ?_
    obtain ⟨h8, h⟩ := h
    obtain ⟨x9, ex9⟩ : ∃ z, z = si x7 185 (x7.1 180 6 : Int32).toNatClampNeg 1000000 := ⟨_, rfl⟩
    have h := h x9 ex9
    refine T_iast 185 12 (dk dtk_X3_beginCall 29 rfl) kk_185 (kl_185 hq hh) h8 ?_
    rw [← ex9]
    refine T_aload_n 0 (dk dtk_X3_beginCall 30 rfl) rfl rfl ?_
    refine T_getR 180 5 186 (dk dtk_X3_beginCall 31 rfl) kfl_X3_27 kk_180 (kl_180 hq hh) (by decide) rfl kr_180_5 ?_
    refine T_aload_n 0 (dk dtk_X3_beginCall 32 rfl) rfl rfl ?_
    refine T_getI 180 6 (dk dtk_X3_beginCall 33 rfl) kfl_X3_40 kk_180 (kl_180 hq hh) (by decide) rfl ?_
    refine T_iconst (v := 0) (dk dtk_X3_beginCall 34 rfl) (by decide +kernel) ?_
    obtain ⟨h10, h⟩ := h
    obtain ⟨x11, ex11⟩ : ∃ z, z = si x9 186 (x9.1 180 6 : Int32).toNatClampNeg 0 := ⟨_, rfl⟩
    have h := h x11 ex11
    refine T_iast 186 12 (dk dtk_X3_beginCall 35 rfl) kk_186 (kl_186 hq hh) h10 ?_
    rw [← ex11]
    refine T_iconst (v := 0) (dk dtk_X3_beginCall 36 rfl) (by decide +kernel) ?_
    refine T_istore (lv2 := [(4, vi 0), (0, vr 180), (1, vi l1), (2, vi l2), (3, vi l3)]) (dk dtk_X3_beginCall 37 rfl) (by decide) rfl ?_
    exact T_sub [1, 2, 0] rfl h
  · have h := h.2 c1
    exact KT_vret (dk dtk_X3_beginCall 4 rfl) rfl h
set_option maxRecDepth 100000 in
set_option maxHeartbeats 4000000 in
theorem kg_X3_beginCall_67 {G : kG} {q : kP} {d : Nat} {x : gd} {P : Option gv → gd → Prop} (hq : kV q) (hh : q.hi = true) (l1 : Int32) (l4 : Int32)
    (h : (((x.1 180 6) ≤ l4 → vp_in l1 6 ∧ (∀ x3 : gd, x3 = si x 189 (l1 : Int32).toNatClampNeg (x.1 180 6) → (∀ x4 : gd, x4 = si x3 180 6 ((x3.1 180 6) + 1) → P none x4))) ∧ (¬ ((x.1 180 6) ≤ l4) → vp_in l4 12 ∧ (((x.1 180 7) ≤ (x.1 185 (l4 : Int32).toNatClampNeg) → KT G q d zk_X3_beginCall 67 [(0, vr 180), (1, vi l1), (4, vi (l4 + 1))] [] x P) ∧ (¬ ((x.1 180 7) ≤ (x.1 185 (l4 : Int32).toNatClampNeg)) → vp_in (x.1 180 6) 12 ∧ vp_in (x.1 180 6) 12 ∧ (∀ x9 : gd, x9 = si x 186 (x.1 180 6 : Int32).toNatClampNeg ((x.1 186 (x.1 180 6 : Int32).toNatClampNeg) ||| (1 <<< (l4 &&& 31 : Int32))) → KT G q d zk_X3_beginCall 67 [(0, vr 180), (1, vi l1), (4, vi (l4 + 1))] [] x9 P)))))) :
    KT G q d zk_X3_beginCall 67 [(0, vr 180), (1, vi l1), (4, vi l4)] [] x P := by
  refine T_iload 2 (dk dtk_X3_beginCall 38 rfl) rfl ?_
  refine T_aload_n 0 (dk dtk_X3_beginCall 39 rfl) rfl rfl ?_
  refine T_getI 180 6 (dk dtk_X3_beginCall 40 rfl) kfl_X3_40 kk_180 (kl_180 hq hh) (by decide) rfl ?_
  refine T_icmp_ge 112 (dk dtk_X3_beginCall 41 rfl) (by decide) (fun c1 => ?_) (fun c1 => ?_)
  · have h := h.1 c1
    refine T_aload_n 0 (dk dtk_X3_beginCall 62 rfl) rfl rfl ?_
    refine T_getR 180 8 189 (dk dtk_X3_beginCall 63 rfl) kfl_X3_32 kk_180 (kl_180 hq hh) (by decide) rfl kr_180_8 ?_
    refine T_iload_n 1 (dk dtk_X3_beginCall 64 rfl) rfl rfl ?_
    refine T_aload_n 0 (dk dtk_X3_beginCall 65 rfl) rfl rfl ?_
    refine T_getI 180 6 (dk dtk_X3_beginCall 66 rfl) kfl_X3_40 kk_180 (kl_180 hq hh) (by decide) rfl ?_
    obtain ⟨h2, h⟩ := h
    obtain ⟨x3, ex3⟩ : ∃ z, z = si x 189 (l1 : Int32).toNatClampNeg (x.1 180 6) := ⟨_, rfl⟩
    have h := h x3 ex3
    refine T_iast 189 6 (dk dtk_X3_beginCall 67 rfl) kk_189 (kl_189 hq hh) h2 ?_
    rw [← ex3]
    refine T_aload_n 0 (dk dtk_X3_beginCall 68 rfl) rfl rfl ?_
    refine T_dup (dk dtk_X3_beginCall 69 rfl) rfl ?_
    refine T_getI 180 6 (dk dtk_X3_beginCall 70 rfl) kfl_X3_40 kk_180 (kl_180 hq hh) (by decide) rfl ?_
    refine T_iconst (v := 1) (dk dtk_X3_beginCall 71 rfl) (by decide +kernel) ?_
    refine T_iadd (dk dtk_X3_beginCall 72 rfl) ?_
    obtain ⟨x4, ex4⟩ : ∃ z, z = si x3 180 6 ((x3.1 180 6) + 1) := ⟨_, rfl⟩
    have h := h x4 ex4
    refine T_putI 180 6 (dk dtk_X3_beginCall 73 rfl) kfl_X3_40 kk_180 (kl_180 hq hh) (by decide) rfl ⟨rfl, rfl⟩ ?_
    rw [← ex4]
    exact KT_vret (dk dtk_X3_beginCall 74 rfl) rfl h
  · have h := h.2 c1
    refine T_aload_n 0 (dk dtk_X3_beginCall 42 rfl) rfl rfl ?_
    refine T_getR 180 4 185 (dk dtk_X3_beginCall 43 rfl) kfl_X3_24 kk_180 (kl_180 hq hh) (by decide) rfl kr_180_4 ?_
    refine T_iload 2 (dk dtk_X3_beginCall 44 rfl) rfl ?_
    obtain ⟨h5, h⟩ := h
    refine T_iald 185 12 (dk dtk_X3_beginCall 45 rfl) kk_185 (kl_185 hq hh) h5 ?_
    refine T_aload_n 0 (dk dtk_X3_beginCall 46 rfl) rfl rfl ?_
    refine T_getI 180 7 (dk dtk_X3_beginCall 47 rfl) kfl_X3_44 kk_180 (kl_180 hq hh) (by decide) rfl ?_
    refine T_icmp_ge 106 (dk dtk_X3_beginCall 48 rfl) (by decide) (fun c6 => ?_) (fun c6 => ?_)
    · have h := h.1 c6
      refine T_iinc (v := l4 + 1) (lv2 := [(4, vi (l4 + 1)), (0, vr 180), (1, vi l1)]) 2 (dk dtk_X3_beginCall 60 rfl) rfl rfl (by decide) rfl ?_
      refine T_goto 67 (dk dtk_X3_beginCall 61 rfl) (by decide) ?_
      exact T_sub [1, 2, 0] rfl h
    · have h := h.2 c6
      refine T_aload_n 0 (dk dtk_X3_beginCall 49 rfl) rfl rfl ?_
      refine T_getR 180 5 186 (dk dtk_X3_beginCall 50 rfl) kfl_X3_27 kk_180 (kl_180 hq hh) (by decide) rfl kr_180_5 ?_
      refine T_aload_n 0 (dk dtk_X3_beginCall 51 rfl) rfl rfl ?_
      refine T_getI 180 6 (dk dtk_X3_beginCall 52 rfl) kfl_X3_40 kk_180 (kl_180 hq hh) (by decide) rfl ?_
      refine T_dup2 (dk dtk_X3_beginCall 53 rfl) rfl rfl ?_
      obtain ⟨h7, h⟩ := h
      refine T_iald 186 12 (dk dtk_X3_beginCall 54 rfl) kk_186 (kl_186 hq hh) h7 ?_
      refine T_iconst (v := 1) (dk dtk_X3_beginCall 55 rfl) (by decide +kernel) ?_
      refine T_iload 2 (dk dtk_X3_beginCall 56 rfl) rfl ?_
      refine T_ishl (dk dtk_X3_beginCall 57 rfl) ?_
      refine T_ior (dk dtk_X3_beginCall 58 rfl) ?_
      obtain ⟨h8, h⟩ := h
      obtain ⟨x9, ex9⟩ : ∃ z, z = si x 186 (x.1 180 6 : Int32).toNatClampNeg ((x.1 186 (x.1 180 6 : Int32).toNatClampNeg) ||| (1 <<< (l4 &&& 31 : Int32))) := ⟨_, rfl⟩
      have h := h x9 ex9
      refine T_iast 186 12 (dk dtk_X3_beginCall 59 rfl) kk_186 (kl_186 hq hh) h8 ?_
      rw [← ex9]
      refine T_iinc (v := l4 + 1) (lv2 := [(4, vi (l4 + 1)), (0, vr 180), (1, vi l1)]) 2 (dk dtk_X3_beginCall 60 rfl) rfl rfl (by decide) rfl ?_
      refine T_goto 67 (dk dtk_X3_beginCall 61 rfl) (by decide) ?_
      exact T_sub [1, 2, 0] rfl h
set_option maxRecDepth 100000 in
theorem dtk_X3_endCall : dck cX3_endCall [(0, .aload_n 0, 1), (1, .getfield 32, 3), (4, .iload_n 1, 1), (5, .iaload, 1), (6, .iconst (-1), 1), (7, .if_icmp .eq 37, 3), (10, .aload_n 0, 1), (11, .getfield 18, 3), (14, .aload_n 0, 1), (15, .getfield 32, 3), (18, .iload_n 1, 1), (19, .iaload, 1), (20, .iload_n 2, 1), (21, .iastore, 1), (22, .aload_n 0, 1), (23, .getfield 24, 3), (26, .aload_n 0, 1), (27, .getfield 32, 3), (30, .iload_n 1, 1), (31, .iaload, 1), (32, .aload_n 0, 1), (33, .getfield 44, 3), (36, .iastore, 1), (37, .aload_n 0, 1), (38, .getfield 32, 3), (41, .iload_n 1, 1), (42, .iconst (-1), 1), (43, .iastore, 1), (44, .return_, 1)] = true := by decide +kernel
set_option maxRecDepth 100000 in
set_option maxHeartbeats 4000000 in
theorem kg_X3_endCall_0 {G : kG} {q : kP} {d : Nat} {x : gd} {P : Option gv → gd → Prop} (hq : kV q) (hh : q.hi = true) (l1 : Int32) (l2 : Int32)
    (h : vp_in l1 6 ∧ (((x.1 189 (l1 : Int32).toNatClampNeg) = (-1 : Int32) → P none x) ∧ (¬ ((x.1 189 (l1 : Int32).toNatClampNeg) = (-1 : Int32)) → vp_in l1 6 ∧ vp_in (x.1 189 (l1 : Int32).toNatClampNeg) 12 ∧ (∀ x5 : gd, x5 = si x 183 (x.1 189 (l1 : Int32).toNatClampNeg : Int32).toNatClampNeg l2 → vp_in l1 6 ∧ vp_in (x5.1 189 (l1 : Int32).toNatClampNeg) 12 ∧ (∀ x8 : gd, x8 = si x5 185 (x5.1 189 (l1 : Int32).toNatClampNeg : Int32).toNatClampNeg (x5.1 180 7) → vp_in l1 6 ∧ (∀ x10 : gd, x10 = si x8 189 (l1 : Int32).toNatClampNeg (-1) → P none x10)))))) :
    KT G q d zk_X3_endCall 0 [(0, vr 180), (1, vi l1), (2, vi l2)] [] x P := by
  refine T_aload_n 0 (dk dtk_X3_endCall 0 rfl) rfl rfl ?_
  refine T_getR 180 8 189 (dk dtk_X3_endCall 1 rfl) kfl_X3_32 kk_180 (kl_180 hq hh) (by decide) rfl kr_180_8 ?_
  refine T_iload_n 1 (dk dtk_X3_endCall 2 rfl) rfl rfl ?_
  obtain ⟨h1, h⟩ := h
  refine T_iald 189 6 (dk dtk_X3_endCall 3 rfl) kk_189 (kl_189 hq hh) h1 ?_
  refine T_iconst (v := (-1)) (dk dtk_X3_endCall 4 rfl) (by decide +kernel) ?_
  refine T_icmp_eq 44 (dk dtk_X3_endCall 5 rfl) (by decide) (fun c2 => ?_) (fun c2 => ?_)
  · have h := h.1 c2
    exact KT_vret (dk dtk_X3_endCall 28 rfl) rfl h
  · have h := h.2 c2
    refine T_aload_n 0 (dk dtk_X3_endCall 6 rfl) rfl rfl ?_
    refine T_getR 180 2 183 (dk dtk_X3_endCall 7 rfl) kfl_X3_18 kk_180 (kl_180 hq hh) (by decide) rfl kr_180_2 ?_
    refine T_aload_n 0 (dk dtk_X3_endCall 8 rfl) rfl rfl ?_
    refine T_getR 180 8 189 (dk dtk_X3_endCall 9 rfl) kfl_X3_32 kk_180 (kl_180 hq hh) (by decide) rfl kr_180_8 ?_
    refine T_iload_n 1 (dk dtk_X3_endCall 10 rfl) rfl rfl ?_
    obtain ⟨h3, h⟩ := h
    refine T_iald 189 6 (dk dtk_X3_endCall 11 rfl) kk_189 (kl_189 hq hh) h3 ?_
    refine T_iload_n 2 (dk dtk_X3_endCall 12 rfl) rfl rfl ?_
    obtain ⟨h4, h⟩ := h
    obtain ⟨x5, ex5⟩ : ∃ z, z = si x 183 (x.1 189 (l1 : Int32).toNatClampNeg : Int32).toNatClampNeg l2 := ⟨_, rfl⟩
    have h := h x5 ex5
    refine T_iast 183 12 (dk dtk_X3_endCall 13 rfl) kk_183 (kl_183 hq hh) h4 ?_
    rw [← ex5]
    refine T_aload_n 0 (dk dtk_X3_endCall 14 rfl) rfl rfl ?_
    refine T_getR 180 4 185 (dk dtk_X3_endCall 15 rfl) kfl_X3_24 kk_180 (kl_180 hq hh) (by decide) rfl kr_180_4 ?_
    refine T_aload_n 0 (dk dtk_X3_endCall 16 rfl) rfl rfl ?_
    refine T_getR 180 8 189 (dk dtk_X3_endCall 17 rfl) kfl_X3_32 kk_180 (kl_180 hq hh) (by decide) rfl kr_180_8 ?_
    refine T_iload_n 1 (dk dtk_X3_endCall 18 rfl) rfl rfl ?_
    obtain ⟨h6, h⟩ := h
    refine T_iald 189 6 (dk dtk_X3_endCall 19 rfl) kk_189 (kl_189 hq hh) h6 ?_
    refine T_aload_n 0 (dk dtk_X3_endCall 20 rfl) rfl rfl ?_
    refine T_getI 180 7 (dk dtk_X3_endCall 21 rfl) kfl_X3_44 kk_180 (kl_180 hq hh) (by decide) rfl ?_
    obtain ⟨h7, h⟩ := h
    obtain ⟨x8, ex8⟩ : ∃ z, z = si x5 185 (x5.1 189 (l1 : Int32).toNatClampNeg : Int32).toNatClampNeg (x5.1 180 7) := ⟨_, rfl⟩
    have h := h x8 ex8
    refine T_iast 185 12 (dk dtk_X3_endCall 22 rfl) kk_185 (kl_185 hq hh) h7 ?_
    rw [← ex8]
    refine T_aload_n 0 (dk dtk_X3_endCall 23 rfl) rfl rfl ?_
    refine T_getR 180 8 189 (dk dtk_X3_endCall 24 rfl) kfl_X3_32 kk_180 (kl_180 hq hh) (by decide) rfl kr_180_8 ?_
    refine T_iload_n 1 (dk dtk_X3_endCall 25 rfl) rfl rfl ?_
    refine T_iconst (v := (-1)) (dk dtk_X3_endCall 26 rfl) (by decide +kernel) ?_
    obtain ⟨h9, h⟩ := h
    obtain ⟨x10, ex10⟩ : ∃ z, z = si x8 189 (l1 : Int32).toNatClampNeg (-1) := ⟨_, rfl⟩
    have h := h x10 ex10
    refine T_iast 189 6 (dk dtk_X3_endCall 27 rfl) kk_189 (kl_189 hq hh) h9 ?_
    rw [← ex10]
    exact KT_vret (dk dtk_X3_endCall 28 rfl) rfl h
set_option maxRecDepth 100000 in
theorem dtk_X3_fewestThatFail : dck cX3_fewestThatFail [(0, .aload_n 0, 1), (1, .iload_n 1, 1), (2, .putfield 85, 3), (5, .aload_n 0, 1), (6, .aload_n 0, 1), (7, .getfield 44, 3), (10, .invokevirtual 88, 3), (13, .ifCond .eq 5, 3), (16, .iconst (-1), 1), (17, .ireturn, 1), (18, .iconst 0, 1), (19, .istore_n 2, 1), (20, .aload_n 0, 1), (21, .getfield 44, 3), (24, .istore_n 3, 1), (25, .iconst 0, 1), (26, .istore 4, 2), (28, .iload 4, 2), (30, .ldc 84, 2), (32, .if_icmp .ge 41, 3), (35, .iload_n 3, 1), (36, .iload_n 2, 1), (37, .isub, 1), (38, .iconst 1, 1), (39, .if_icmp .le 34, 3), (42, .iload_n 2, 1), (43, .iload_n 3, 1), (44, .iadd, 1), (45, .iconst 2, 1), (46, .idiv, 1), (47, .istore 5, 2), (49, .aload_n 0, 1), (50, .iload 5, 2), (52, .invokevirtual 88, 3), (55, .ifCond .eq 9, 3), (58, .iload 5, 2), (60, .istore_n 2, 1), (61, .goto 6, 3), (64, .iload 5, 2), (66, .istore_n 3, 1), (67, .iinc 4 1, 3), (70, .goto (-42), 3), (73, .iload_n 3, 1), (74, .ireturn, 1)] = true := by decide +kernel
set_option maxRecDepth 100000 in
set_option maxHeartbeats 4000000 in
theorem kg_X3_fewestThatFail_0 {G : kG} {q : kP} {d : Nat} {x : gd} {P : Option gv → gd → Prop} (hq : kV q) (hh : q.hi = true) (l1 : Int32)
    (h : (∀ x1 : gd, x1 = si x 180 10 l1 → KT G q d zk_X3_isLinear 0 [(0, vr 180), (1, vi (x1.1 180 7))] [] x1 (ri (fun r3 x2 => ((r3 = (0 : Int32) → KT G q (d + 1) zk_X3_fewestThatFail 28 [(0, vr 180), (2, vi 0), (3, vi (x2.1 180 7)), (4, vi 0)] [] x2 P) ∧ (¬ (r3 = (0 : Int32)) → P (some (vi (-1))) x2)))))) :
    KT G q (d + 1) zk_X3_fewestThatFail 0 [(0, vr 180), (1, vi l1)] [] x P := by
  refine T_aload_n 0 (dk dtk_X3_fewestThatFail 0 rfl) rfl rfl ?_
  refine T_iload_n 1 (dk dtk_X3_fewestThatFail 1 rfl) rfl rfl ?_
  obtain ⟨x1, ex1⟩ : ∃ z, z = si x 180 10 l1 := ⟨_, rfl⟩
  have h := h x1 ex1
  refine T_putI 180 10 (dk dtk_X3_fewestThatFail 2 rfl) kfl_X3_85 kk_180 (kl_180 hq hh) (by decide) rfl ⟨rfl, rfl⟩ ?_
  rw [← ex1]
  refine T_aload_n 0 (dk dtk_X3_fewestThatFail 3 rfl) rfl rfl ?_
  refine T_aload_n 0 (dk dtk_X3_fewestThatFail 4 rfl) rfl rfl ?_
  refine T_getI 180 7 (dk dtk_X3_fewestThatFail 5 rfl) kfl_X3_44 kk_180 (kl_180 hq hh) (by decide) rfl ?_
  refine T_sub (lv2 := [(0, vr 180)]) [0] rfl ?_
  refine KC_Vi [vi (x1.1 180 7)] [] rfl (dk dtk_X3_fewestThatFail 6 rfl) kcv_X3_88 rfl kk_180 rfl (kl_180 hq hh) (Nat.le_of_ble_eq_true rfl) (Nat.le_of_ble_eq_true rfl) (gok_i (av_c (gkr (kl_180 hq hh)) av_n) as_n) rfl h (fun r3 x2 h => ?_)
  refine T_if_eq 18 (dk dtk_X3_fewestThatFail 7 rfl) (by decide) (fun c4 => ?_) (fun c4 => ?_)
  · have h := h.1 c4
    refine T_iconst (v := 0) (dk dtk_X3_fewestThatFail 10 rfl) (by decide +kernel) ?_
    refine T_istore_n (lv2 := [(2, vi 0), (0, vr 180)]) (dk dtk_X3_fewestThatFail 11 rfl) rfl (by decide) rfl ?_
    refine T_aload_n 1 (dk dtk_X3_fewestThatFail 12 rfl) rfl rfl ?_
    refine T_getI 180 7 (dk dtk_X3_fewestThatFail 13 rfl) kfl_X3_44 kk_180 (kl_180 hq hh) (by decide) rfl ?_
    refine T_istore_n (lv2 := [(3, vi (x2.1 180 7)), (2, vi 0), (0, vr 180)]) (dk dtk_X3_fewestThatFail 14 rfl) rfl (by decide) rfl ?_
    refine T_iconst (v := 0) (dk dtk_X3_fewestThatFail 15 rfl) (by decide +kernel) ?_
    refine T_istore (lv2 := [(4, vi 0), (3, vi (x2.1 180 7)), (2, vi 0), (0, vr 180)]) (dk dtk_X3_fewestThatFail 16 rfl) (by decide) rfl ?_
    exact T_sub [3, 2, 1, 0] rfl h
  · have h := h.2 c4
    refine T_iconst (v := (-1)) (dk dtk_X3_fewestThatFail 8 rfl) (by decide +kernel) ?_
    exact KT_iret (dk dtk_X3_fewestThatFail 9 rfl) rfl rfl h
set_option maxRecDepth 100000 in
set_option maxHeartbeats 4000000 in
theorem kg_X3_fewestThatFail_28 {G : kG} {q : kP} {d : Nat} {x : gd} {P : Option gv → gd → Prop} (hq : kV q) (hh : q.hi = true) (l2 : Int32) (l3 : Int32) (l4 : Int32)
    (h : (((1000000 : Int32) ≤ l4 → P (some (vi l3)) x) ∧ (¬ ((1000000 : Int32) ≤ l4) → (((l3 - l2) ≤ (1 : Int32) → P (some (vi l3)) x) ∧ (¬ ((l3 - l2) ≤ (1 : Int32)) → ¬ (2 : Int32) = 0 ∧ KT G q d zk_X3_isLinear 0 [(0, vr 180), (1, vi ((l2 + l3) / 2))] [] x (ri (fun r5 x4 => ((r5 = (0 : Int32) → KT G q (d + 1) zk_X3_fewestThatFail 28 [(0, vr 180), (2, vi l2), (3, vi ((l2 + l3) / 2)), (4, vi (l4 + 1))] [] x4 P) ∧ (¬ (r5 = (0 : Int32)) → KT G q (d + 1) zk_X3_fewestThatFail 28 [(0, vr 180), (2, vi ((l2 + l3) / 2)), (3, vi l3), (4, vi (l4 + 1))] [] x4 P))))))))) :
    KT G q (d + 1) zk_X3_fewestThatFail 28 [(0, vr 180), (2, vi l2), (3, vi l3), (4, vi l4)] [] x P := by
  refine T_iload 3 (dk dtk_X3_fewestThatFail 17 rfl) rfl ?_
  refine T_ldc (v := 1000000) (dk dtk_X3_fewestThatFail 18 rfl) kkc_X3_84 ?_
  refine T_icmp_ge 73 (dk dtk_X3_fewestThatFail 19 rfl) (by decide) (fun c1 => ?_) (fun c1 => ?_)
  · have h := h.1 c1
    refine T_iload_n 2 (dk dtk_X3_fewestThatFail 42 rfl) rfl rfl ?_
    exact KT_iret (dk dtk_X3_fewestThatFail 43 rfl) rfl rfl h
  · have h := h.2 c1
    refine T_iload_n 2 (dk dtk_X3_fewestThatFail 20 rfl) rfl rfl ?_
    refine T_iload_n 1 (dk dtk_X3_fewestThatFail 21 rfl) rfl rfl ?_
    refine T_isub (dk dtk_X3_fewestThatFail 22 rfl) ?_
    refine T_iconst (v := 1) (dk dtk_X3_fewestThatFail 23 rfl) (by decide +kernel) ?_
    refine T_icmp_le 73 (dk dtk_X3_fewestThatFail 24 rfl) (by decide) (fun c2 => ?_) (fun c2 => ?_)
    · have h := h.1 c2
      refine T_iload_n 2 (dk dtk_X3_fewestThatFail 42 rfl) rfl rfl ?_
      exact KT_iret (dk dtk_X3_fewestThatFail 43 rfl) rfl rfl h
    · have h := h.2 c2
      refine T_iload_n 1 (dk dtk_X3_fewestThatFail 25 rfl) rfl rfl ?_
      refine T_iload_n 2 (dk dtk_X3_fewestThatFail 26 rfl) rfl rfl ?_
      refine T_iadd (dk dtk_X3_fewestThatFail 27 rfl) ?_
      refine T_iconst (v := 2) (dk dtk_X3_fewestThatFail 28 rfl) (by decide +kernel) ?_
      obtain ⟨h3, h⟩ := h
      refine T_idiv (dk dtk_X3_fewestThatFail 29 rfl) h3 ?_
      refine T_istore (lv2 := [(5, vi ((l2 + l3) / 2)), (0, vr 180), (2, vi l2), (3, vi l3), (4, vi l4)]) (dk dtk_X3_fewestThatFail 30 rfl) (by decide) rfl ?_
      refine T_aload_n 1 (dk dtk_X3_fewestThatFail 31 rfl) rfl rfl ?_
      refine T_iload 0 (dk dtk_X3_fewestThatFail 32 rfl) rfl ?_
      refine KC_Vi [vi ((l2 + l3) / 2)] [] rfl (dk dtk_X3_fewestThatFail 33 rfl) kcv_X3_88 rfl kk_180 rfl (kl_180 hq hh) (Nat.le_of_ble_eq_true rfl) (Nat.le_of_ble_eq_true rfl) (gok_i (av_c rfl (av_c (gkr (kl_180 hq hh)) (av_c rfl (av_c rfl (av_c rfl av_n))))) as_n) rfl h (fun r5 x4 h => ?_)
      refine T_if_eq 64 (dk dtk_X3_fewestThatFail 34 rfl) (by decide) (fun c6 => ?_) (fun c6 => ?_)
      · have h := h.1 c6
        refine T_iload 0 (dk dtk_X3_fewestThatFail 38 rfl) rfl ?_
        refine T_istore_n (lv2 := [(3, vi ((l2 + l3) / 2)), (5, vi ((l2 + l3) / 2)), (0, vr 180), (2, vi l2), (4, vi l4)]) (dk dtk_X3_fewestThatFail 39 rfl) rfl (by decide) rfl ?_
        refine T_iinc (v := l4 + 1) (lv2 := [(4, vi (l4 + 1)), (3, vi ((l2 + l3) / 2)), (5, vi ((l2 + l3) / 2)), (0, vr 180), (2, vi l2)]) 4 (dk dtk_X3_fewestThatFail 40 rfl) rfl rfl (by decide) rfl ?_
        refine T_goto 28 (dk dtk_X3_fewestThatFail 41 rfl) (by decide) ?_
        exact T_sub [3, 4, 1, 0] rfl h
      · have h := h.2 c6
        refine T_iload 0 (dk dtk_X3_fewestThatFail 35 rfl) rfl ?_
        refine T_istore_n (lv2 := [(2, vi ((l2 + l3) / 2)), (5, vi ((l2 + l3) / 2)), (0, vr 180), (3, vi l3), (4, vi l4)]) (dk dtk_X3_fewestThatFail 36 rfl) rfl (by decide) rfl ?_
        refine T_goto 67 (dk dtk_X3_fewestThatFail 37 rfl) (by decide) ?_
        refine T_iinc (v := l4 + 1) (lv2 := [(4, vi (l4 + 1)), (2, vi ((l2 + l3) / 2)), (5, vi ((l2 + l3) / 2)), (0, vr 180), (3, vi l3)]) 4 (dk dtk_X3_fewestThatFail 40 rfl) rfl rfl (by decide) rfl ?_
        refine T_goto 28 (dk dtk_X3_fewestThatFail 41 rfl) (by decide) ?_
        exact T_sub [3, 1, 4, 0] rfl h
set_option maxRecDepth 100000 in
theorem dtk_X3_isLinear : dck cX3_isLinear [(0, .aload_n 0, 1), (1, .iconst 0, 1), (2, .putfield 92, 3), (5, .aload_n 0, 1), (6, .iconst 0, 1), (7, .putfield 95, 3), (10, .iconst 0, 1), (11, .istore_n 2, 1), (12, .iload_n 2, 1), (13, .aload_n 0, 1), (14, .getfield 40, 3), (17, .if_icmp .ge 53, 3), (20, .aload_n 0, 1), (21, .getfield 21, 3), (24, .iload_n 2, 1), (25, .iaload, 1), (26, .iload_n 1, 1), (27, .if_icmp .ge 15, 3), (30, .aload_n 0, 1), (31, .dup, 1), (32, .getfield 92, 3), (35, .iconst 1, 1), (36, .iload_n 2, 1), (37, .ishl, 1), (38, .ior, 1), (39, .putfield 92, 3), (42, .aload_n 0, 1), (43, .getfield 24, 3), (46, .iload_n 2, 1), (47, .iaload, 1), (48, .iload_n 1, 1), (49, .if_icmp .ge 15, 3), (52, .aload_n 0, 1), (53, .dup, 1), (54, .getfield 95, 3), (57, .iconst 1, 1), (58, .iload_n 2, 1), (59, .ishl, 1), (60, .ior, 1), (61, .putfield 95, 3), (64, .iinc 2 1, 3), (67, .goto (-55), 3), (70, .aload_n 0, 1), (71, .getfield 37, 3), (74, .iconst 0, 1), (75, .aaload, 1), (76, .iconst 0, 1), (77, .invokestatic 47, 3), (80, .aload_n 0, 1), (81, .iconst 0, 1), (82, .iconst 0, 1), (83, .invokevirtual 98, 3), (86, .ireturn, 1)] = true := by decide +kernel
set_option maxRecDepth 100000 in
set_option maxHeartbeats 4000000 in
theorem kg_X3_isLinear_0 {G : kG} {q : kP} {d : Nat} {x : gd} {P : Option gv → gd → Prop} (hq : kV q) (hh : q.hi = true) (l1 : Int32)
    (h : (∀ x1 : gd, x1 = si x 180 11 0 → (∀ x2 : gd, x2 = si x1 180 12 0 → KT G q (d + 1) zk_X3_isLinear 12 [(0, vr 180), (1, vi l1), (2, vi 0)] [] x2 P))) :
    KT G q (d + 1) zk_X3_isLinear 0 [(0, vr 180), (1, vi l1)] [] x P := by
  refine T_aload_n 0 (dk dtk_X3_isLinear 0 rfl) rfl rfl ?_
  refine T_iconst (v := 0) (dk dtk_X3_isLinear 1 rfl) (by decide +kernel) ?_
  obtain ⟨x1, ex1⟩ : ∃ z, z = si x 180 11 0 := ⟨_, rfl⟩
  have h := h x1 ex1
  refine T_putI 180 11 (dk dtk_X3_isLinear 2 rfl) kfl_X3_92 kk_180 (kl_180 hq hh) (by decide) rfl ⟨rfl, rfl⟩ ?_
  rw [← ex1]
  refine T_aload_n 0 (dk dtk_X3_isLinear 3 rfl) rfl rfl ?_
  refine T_iconst (v := 0) (dk dtk_X3_isLinear 4 rfl) (by decide +kernel) ?_
  obtain ⟨x2, ex2⟩ : ∃ z, z = si x1 180 12 0 := ⟨_, rfl⟩
  have h := h x2 ex2
  refine T_putI 180 12 (dk dtk_X3_isLinear 5 rfl) kfl_X3_95 kk_180 (kl_180 hq hh) (by decide) rfl ⟨rfl, rfl⟩ ?_
  rw [← ex2]
  refine T_iconst (v := 0) (dk dtk_X3_isLinear 6 rfl) (by decide +kernel) ?_
  refine T_istore_n (lv2 := [(2, vi 0), (0, vr 180), (1, vi l1)]) (dk dtk_X3_isLinear 7 rfl) rfl (by decide) rfl ?_
  exact T_sub [1, 2, 0] rfl h
set_option maxRecDepth 100000 in
set_option maxHeartbeats 4000000 in
theorem kg_X3_isLinear_12 {G : kG} {q : kP} {d : Nat} {x : gd} {P : Option gv → gd → Prop} (hq : kV q) (hh : q.hi = true) (l1 : Int32) (l2 : Int32)
    (h : (((x.1 180 6) ≤ l2 → vp_in 0 13 ∧ (∀ u3, u3 = (kf q).1 190 (0 : Int32).toNatClampNeg → ∃ c4, u3 = some c4 ∧ kK c4 = .inr (.int, 14) ∧ c4 ∈ (kf q).2.1 ∧ (∀ x7 : gd, x7 = sfl x c4 0 14 → KT G q d zk_X3_canGoOn 0 [(0, vr 180), (1, vi 0), (2, vi 0)] [] x7 (ri (fun r9 x8 => gbool r9 ∧ P (some (vi r9)) x8))))) ∧ (¬ ((x.1 180 6) ≤ l2) → vp_in l2 12 ∧ ((l1 ≤ (x.1 184 (l2 : Int32).toNatClampNeg) → KT G q (d + 1) zk_X3_isLinear 42 [(0, vr 180), (1, vi l1), (2, vi l2)] [] x P) ∧ (¬ (l1 ≤ (x.1 184 (l2 : Int32).toNatClampNeg)) → (∀ x12 : gd, x12 = si x 180 11 ((x.1 180 11) ||| (1 <<< (l2 &&& 31 : Int32))) → KT G q (d + 1) zk_X3_isLinear 42 [(0, vr 180), (1, vi l1), (2, vi l2)] [] x12 P)))))) :
    KT G q (d + 1) zk_X3_isLinear 12 [(0, vr 180), (1, vi l1), (2, vi l2)] [] x P := by
  refine T_iload_n 2 (dk dtk_X3_isLinear 8 rfl) rfl rfl ?_
  refine T_aload_n 0 (dk dtk_X3_isLinear 9 rfl) rfl rfl ?_
  refine T_getI 180 6 (dk dtk_X3_isLinear 10 rfl) kfl_X3_40 kk_180 (kl_180 hq hh) (by decide) rfl ?_
  refine T_icmp_ge 70 (dk dtk_X3_isLinear 11 rfl) (by decide) (fun c1 => ?_) (fun c1 => ?_)
  · have h := h.1 c1
    refine T_aload_n 0 (dk dtk_X3_isLinear 42 rfl) rfl rfl ?_
    refine T_getR 180 9 190 (dk dtk_X3_isLinear 43 rfl) kfl_X3_37 kk_180 (kl_180 hq hh) (by decide) rfl kr_180_9 ?_
    refine T_iconst (v := 0) (dk dtk_X3_isLinear 44 rfl) (by decide +kernel) ?_
    obtain ⟨h2, h⟩ := h
    obtain ⟨u3, eu3⟩ : ∃ z, z = (kf q).1 190 (0 : Int32).toNatClampNeg := ⟨_, rfl⟩
    have h := h u3 eu3
    refine T_aaldI 190 13 (dk dtk_X3_isLinear 45 rfl) kk_190 (kl_190 hq hh) h2 ?_
    rw [← eu3]
    refine T_iconst (v := 0) (dk dtk_X3_isLinear 46 rfl) (by decide +kernel) ?_
    obtain ⟨c4, rfl, g5, g6, h⟩ := h
    refine T_sub (lv2 := [(0, vr 180)]) [0] rfl ?_
    refine KC_Sv (F := fun z => z = sfl x c4 0 14) [vr c4, vi 0] [] rfl (dk dtk_X3_isLinear 47 rfl) kcs_X3_47 rfl (Nat.le_of_ble_eq_true rfl) (Nat.le_of_ble_eq_true rfl) (gok_i (av_c (gkr (kl_180 hq hh)) av_n) as_n) rfl (tj_fill c4 14 0 g5 g6 (by decide) ⟨rfl, none, rfl, rfl, rfl⟩) (fun x7 ex7 => ?_)
    have h := h x7 ex7
    refine T_aload_n 0 (dk dtk_X3_isLinear 48 rfl) rfl rfl ?_
    refine T_iconst (v := 0) (dk dtk_X3_isLinear 49 rfl) (by decide +kernel) ?_
    refine T_iconst (v := 0) (dk dtk_X3_isLinear 50 rfl) (by decide +kernel) ?_
    refine T_sub (lv2 := []) [] rfl ?_
    refine KC_Vi [vi 0, vi 0] [] rfl (dk dtk_X3_isLinear 51 rfl) kcv_X3_98 rfl kk_180 rfl (kl_180 hq hh) (Nat.le_of_ble_eq_true rfl) (Nat.le_of_ble_eq_true rfl) (gok_i av_n as_n) rfl h (fun r9 x8 h => ?_)
    exact KT_iret (dk dtk_X3_isLinear 52 rfl) rfl h.1.1 h.2
  · have h := h.2 c1
    refine T_aload_n 0 (dk dtk_X3_isLinear 12 rfl) rfl rfl ?_
    refine T_getR 180 3 184 (dk dtk_X3_isLinear 13 rfl) kfl_X3_21 kk_180 (kl_180 hq hh) (by decide) rfl kr_180_3 ?_
    refine T_iload_n 2 (dk dtk_X3_isLinear 14 rfl) rfl rfl ?_
    obtain ⟨h10, h⟩ := h
    refine T_iald 184 12 (dk dtk_X3_isLinear 15 rfl) kk_184 (kl_184 hq hh) h10 ?_
    refine T_iload_n 1 (dk dtk_X3_isLinear 16 rfl) rfl rfl ?_
    refine T_icmp_ge 42 (dk dtk_X3_isLinear 17 rfl) (by decide) (fun c11 => ?_) (fun c11 => ?_)
    · have h := h.1 c11
      exact h
    · have h := h.2 c11
      refine T_aload_n 0 (dk dtk_X3_isLinear 18 rfl) rfl rfl ?_
      refine T_dup (dk dtk_X3_isLinear 19 rfl) rfl ?_
      refine T_getI 180 11 (dk dtk_X3_isLinear 20 rfl) kfl_X3_92 kk_180 (kl_180 hq hh) (by decide) rfl ?_
      refine T_iconst (v := 1) (dk dtk_X3_isLinear 21 rfl) (by decide +kernel) ?_
      refine T_iload_n 2 (dk dtk_X3_isLinear 22 rfl) rfl rfl ?_
      refine T_ishl (dk dtk_X3_isLinear 23 rfl) ?_
      refine T_ior (dk dtk_X3_isLinear 24 rfl) ?_
      obtain ⟨x12, ex12⟩ : ∃ z, z = si x 180 11 ((x.1 180 11) ||| (1 <<< (l2 &&& 31 : Int32))) := ⟨_, rfl⟩
      have h := h x12 ex12
      refine T_putI 180 11 (dk dtk_X3_isLinear 25 rfl) kfl_X3_92 kk_180 (kl_180 hq hh) (by decide) rfl ⟨rfl, rfl⟩ ?_
      rw [← ex12]
      exact h
set_option maxRecDepth 100000 in
set_option maxHeartbeats 4000000 in
theorem kg_X3_isLinear_42 {G : kG} {q : kP} {d : Nat} {x : gd} {P : Option gv → gd → Prop} (hq : kV q) (hh : q.hi = true) (l1 : Int32) (l2 : Int32)
    (h : vp_in l2 12 ∧ ((l1 ≤ (x.1 185 (l2 : Int32).toNatClampNeg) → KT G q (d + 1) zk_X3_isLinear 12 [(0, vr 180), (1, vi l1), (2, vi (l2 + 1))] [] x P) ∧ (¬ (l1 ≤ (x.1 185 (l2 : Int32).toNatClampNeg)) → (∀ x3 : gd, x3 = si x 180 12 ((x.1 180 12) ||| (1 <<< (l2 &&& 31 : Int32))) → KT G q (d + 1) zk_X3_isLinear 12 [(0, vr 180), (1, vi l1), (2, vi (l2 + 1))] [] x3 P)))) :
    KT G q (d + 1) zk_X3_isLinear 42 [(0, vr 180), (1, vi l1), (2, vi l2)] [] x P := by
  refine T_aload_n 0 (dk dtk_X3_isLinear 26 rfl) rfl rfl ?_
  refine T_getR 180 4 185 (dk dtk_X3_isLinear 27 rfl) kfl_X3_24 kk_180 (kl_180 hq hh) (by decide) rfl kr_180_4 ?_
  refine T_iload_n 2 (dk dtk_X3_isLinear 28 rfl) rfl rfl ?_
  obtain ⟨h1, h⟩ := h
  refine T_iald 185 12 (dk dtk_X3_isLinear 29 rfl) kk_185 (kl_185 hq hh) h1 ?_
  refine T_iload_n 1 (dk dtk_X3_isLinear 30 rfl) rfl rfl ?_
  refine T_icmp_ge 64 (dk dtk_X3_isLinear 31 rfl) (by decide) (fun c2 => ?_) (fun c2 => ?_)
  · have h := h.1 c2
    refine T_iinc (v := l2 + 1) (lv2 := [(2, vi (l2 + 1)), (0, vr 180), (1, vi l1)]) 2 (dk dtk_X3_isLinear 40 rfl) rfl rfl (by decide) rfl ?_
    refine T_goto 12 (dk dtk_X3_isLinear 41 rfl) (by decide) ?_
    exact T_sub [1, 2, 0] rfl h
  · have h := h.2 c2
    refine T_aload_n 0 (dk dtk_X3_isLinear 32 rfl) rfl rfl ?_
    refine T_dup (dk dtk_X3_isLinear 33 rfl) rfl ?_
    refine T_getI 180 12 (dk dtk_X3_isLinear 34 rfl) kfl_X3_95 kk_180 (kl_180 hq hh) (by decide) rfl ?_
    refine T_iconst (v := 1) (dk dtk_X3_isLinear 35 rfl) (by decide +kernel) ?_
    refine T_iload_n 2 (dk dtk_X3_isLinear 36 rfl) rfl rfl ?_
    refine T_ishl (dk dtk_X3_isLinear 37 rfl) ?_
    refine T_ior (dk dtk_X3_isLinear 38 rfl) ?_
    obtain ⟨x3, ex3⟩ : ∃ z, z = si x 180 12 ((x.1 180 12) ||| (1 <<< (l2 &&& 31 : Int32))) := ⟨_, rfl⟩
    have h := h x3 ex3
    refine T_putI 180 12 (dk dtk_X3_isLinear 39 rfl) kfl_X3_95 kk_180 (kl_180 hq hh) (by decide) rfl ⟨rfl, rfl⟩ ?_
    rw [← ex3]
    refine T_iinc (v := l2 + 1) (lv2 := [(2, vi (l2 + 1)), (0, vr 180), (1, vi l1)]) 2 (dk dtk_X3_isLinear 40 rfl) rfl rfl (by decide) rfl ?_
    refine T_goto 12 (dk dtk_X3_isLinear 41 rfl) (by decide) ?_
    exact T_sub [1, 2, 0] rfl h
set_option maxRecDepth 100000 in
theorem dtk_X3_canGoOn : dck cX3_canGoOn [(0, .aload_n 0, 1), (1, .getfield 95, 3), (4, .iload_n 2, 1), (5, .iconst (-1), 1), (6, .ixor, 1), (7, .iand, 1), (8, .ifCond .ne 5, 3), (11, .iconst 1, 1), (12, .ireturn, 1), (13, .iload_n 1, 1), (14, .bipush 12, 2), (16, .if_icmp .lt 5, 3), (19, .iconst 0, 1), (20, .ireturn, 1), (21, .aload_n 0, 1), (22, .getfield 92, 3), (25, .iload_n 2, 1), (26, .iconst (-1), 1), (27, .ixor, 1), (28, .iand, 1), (29, .istore_n 3, 1), (30, .iconst 0, 1), (31, .istore 4, 2), (33, .iload 4, 2), (35, .aload_n 0, 1), (36, .getfield 40, 3), (39, .if_icmp .ge 138, 3), (42, .iconst 1, 1), (43, .iload 4, 2), (45, .ishl, 1), (46, .istore 5, 2), (48, .iload_n 3, 1), (49, .iload 5, 2), (51, .iand, 1), (52, .ifCond .eq 119, 3), (55, .aload_n 0, 1), (56, .getfield 27, 3), (59, .iload 4, 2), (61, .iaload, 1), (62, .iload_n 2, 1), (63, .iconst (-1), 1), (64, .ixor, 1), (65, .iand, 1), (66, .ifCond .eq 6, 3), (69, .goto 102, 3), (72, .aload_n 0, 1), (73, .getfield 37, 3), (76, .iload_n 1, 1), (77, .aaload, 1), (78, .iconst 0, 1), (79, .aload_n 0, 1), (80, .getfield 37, 3), (83, .iload_n 1, 1), (84, .iconst 1, 1), (85, .iadd, 1), (86, .aaload, 1), (87, .iconst 0, 1), (88, .bipush 14, 2), (90, .invokestatic 102, 3), (93, .aload_n 0, 1), (94, .aload_n 0, 1), (95, .getfield 37, 3), (98, .iload_n 1, 1), (99, .iconst 1, 1), (100, .iadd, 1), (101, .aaload, 1), (102, .aload_n 0, 1), (103, .getfield 11, 3), (106, .iload 4, 2), (108, .iaload, 1), (109, .aload_n 0, 1), (110, .getfield 15, 3), (113, .iload 4, 2), (115, .iaload, 1), (116, .invokevirtual 108, 3), (119, .istore 6, 2), (121, .aload_n 0, 1), (122, .getfield 95, 3), (125, .iload 5, 2), (127, .iand, 1), (128, .ifCond .eq 15, 3), (131, .iload 6, 2), (133, .aload_n 0, 1), (134, .getfield 18, 3), (137, .iload 4, 2), (139, .iaload, 1), (140, .if_icmp .ne 7, 3), (143, .iconst 1, 1), (144, .goto 4, 3), (147, .iconst 0, 1), (148, .istore 7, 2), (150, .iload 7, 2), (152, .ifCond .eq 19, 3), (155, .aload_n 0, 1), (156, .iload_n 1, 1), (157, .iconst 1, 1), (158, .iadd, 1), (159, .iload_n 2, 1), (160, .iload 5, 2), (162, .ior, 1), (163, .invokevirtual 98, 3), (166, .ifCond .eq 5, 3), (169, .iconst 1, 1), (170, .ireturn, 1), (171, .iinc 4 1, 3), (174, .goto (-141), 3), (177, .iconst 0, 1), (178, .ireturn, 1)] = true := by decide +kernel
set_option maxRecDepth 100000 in
set_option maxHeartbeats 4000000 in
theorem kg_X3_canGoOn_0 {G : kG} {q : kP} {d : Nat} {x : gd} {P : Option gv → gd → Prop} (hq : kV q) (hh : q.hi = true) (l1 : Int32) (l2 : Int32)
    (h : ((¬ (((x.1 180 12) &&& (l2 ^^^ (-1))) = (0 : Int32)) → ((l1 < (12 : Int32) → KT G q (d + 2) zk_X3_canGoOn 33 [(0, vr 180), (1, vi l1), (2, vi l2), (3, vi ((x.1 180 11) &&& (l2 ^^^ (-1)))), (4, vi 0)] [] x P) ∧ (¬ (l1 < (12 : Int32)) → P (some (vi 0)) x))) ∧ (((x.1 180 12) &&& (l2 ^^^ (-1))) = (0 : Int32) → P (some (vi 1)) x))) :
    KT G q (d + 2) zk_X3_canGoOn 0 [(0, vr 180), (1, vi l1), (2, vi l2)] [] x P := by
  refine T_aload_n 0 (dk dtk_X3_canGoOn 0 rfl) rfl rfl ?_
  refine T_getI 180 12 (dk dtk_X3_canGoOn 1 rfl) kfl_X3_95 kk_180 (kl_180 hq hh) (by decide) rfl ?_
  refine T_iload_n 2 (dk dtk_X3_canGoOn 2 rfl) rfl rfl ?_
  refine T_iconst (v := (-1)) (dk dtk_X3_canGoOn 3 rfl) (by decide +kernel) ?_
  refine T_ixor (dk dtk_X3_canGoOn 4 rfl) ?_
  refine T_iand (dk dtk_X3_canGoOn 5 rfl) ?_
  refine T_if_ne 13 (dk dtk_X3_canGoOn 6 rfl) (by decide) (fun c1 => ?_) (fun c1 => ?_)
  · have h := h.1 c1
    refine T_iload_n 1 (dk dtk_X3_canGoOn 9 rfl) rfl rfl ?_
    refine T_bipush (v := 12) (dk dtk_X3_canGoOn 10 rfl) (by decide +kernel) ?_
    refine T_icmp_lt 21 (dk dtk_X3_canGoOn 11 rfl) (by decide) (fun c2 => ?_) (fun c2 => ?_)
    · have h := h.1 c2
      refine T_aload_n 0 (dk dtk_X3_canGoOn 14 rfl) rfl rfl ?_
      refine T_getI 180 11 (dk dtk_X3_canGoOn 15 rfl) kfl_X3_92 kk_180 (kl_180 hq hh) (by decide) rfl ?_
      refine T_iload_n 2 (dk dtk_X3_canGoOn 16 rfl) rfl rfl ?_
      refine T_iconst (v := (-1)) (dk dtk_X3_canGoOn 17 rfl) (by decide +kernel) ?_
      refine T_ixor (dk dtk_X3_canGoOn 18 rfl) ?_
      refine T_iand (dk dtk_X3_canGoOn 19 rfl) ?_
      refine T_istore_n (lv2 := [(3, vi ((x.1 180 11) &&& (l2 ^^^ (-1)))), (0, vr 180), (1, vi l1), (2, vi l2)]) (dk dtk_X3_canGoOn 20 rfl) rfl (by decide) rfl ?_
      refine T_iconst (v := 0) (dk dtk_X3_canGoOn 21 rfl) (by decide +kernel) ?_
      refine T_istore (lv2 := [(4, vi 0), (3, vi ((x.1 180 11) &&& (l2 ^^^ (-1)))), (0, vr 180), (1, vi l1), (2, vi l2)]) (dk dtk_X3_canGoOn 22 rfl) (by decide) rfl ?_
      exact T_sub [2, 3, 4, 1, 0] rfl h
    · have h := h.2 c2
      refine T_iconst (v := 0) (dk dtk_X3_canGoOn 12 rfl) (by decide +kernel) ?_
      exact KT_iret (dk dtk_X3_canGoOn 13 rfl) rfl rfl h
  · have h := h.2 c1
    refine T_iconst (v := 1) (dk dtk_X3_canGoOn 7 rfl) (by decide +kernel) ?_
    exact KT_iret (dk dtk_X3_canGoOn 8 rfl) rfl rfl h
set_option maxRecDepth 100000 in
set_option maxHeartbeats 4000000 in
theorem kg_X3_canGoOn_33 {G : kG} {q : kP} {d : Nat} {x : gd} {P : Option gv → gd → Prop} (hq : kV q) (hh : q.hi = true) (l1 : Int32) (l2 : Int32) (l3 : Int32) (l4 : Int32)
    (h : (((x.1 180 6) ≤ l4 → P (some (vi 0)) x) ∧ (¬ ((x.1 180 6) ≤ l4) → (((l3 &&& (1 <<< (l4 &&& 31 : Int32))) = (0 : Int32) → KT G q (d + 2) zk_X3_canGoOn 33 [(0, vr 180), (1, vi l1), (2, vi l2), (3, vi l3), (4, vi (l4 + 1))] [] x P) ∧ (¬ ((l3 &&& (1 <<< (l4 &&& 31 : Int32))) = (0 : Int32)) → vp_in l4 12 ∧ ((((x.1 186 (l4 : Int32).toNatClampNeg) &&& (l2 ^^^ (-1))) = (0 : Int32) → vp_in l1 13 ∧ (∀ u6, u6 = (kf q).1 190 (l1 : Int32).toNatClampNeg → vp_in (l1 + 1) 13 ∧ (∀ u8, u8 = (kf q).1 190 (l1 + 1 : Int32).toNatClampNeg → ∃ c9, u6 = some c9 ∧ kK c9 = .inr (.int, 14) ∧ c9 ∈ (kf q).2.1 ∧ ∃ c12, u8 = some c12 ∧ kK c12 = .inr (.int, 14) ∧ c12 ∈ (kf q).2.1 ∧ ¬ (0 : Int32) < 0 ∧ ¬ (0 : Int32) < 0 ∧ ¬ (14 : Int32) < 0 ∧ (0 : Int32).toNatClampNeg + (14 : Int32).toNatClampNeg ≤ 14 ∧ (0 : Int32).toNatClampNeg + (14 : Int32).toNatClampNeg ≤ 14 ∧ (∀ x20 : gd, x20 = scp x c9 c12 (0 : Int32).toNatClampNeg (0 : Int32).toNatClampNeg (14 : Int32).toNatClampNeg → vp_in (l1 + 1) 13 ∧ (∀ u22, u22 = (kf q).1 190 (l1 + 1 : Int32).toNatClampNeg → vp_in l4 12 ∧ vp_in l4 12 ∧ ∃ c25, u22 = some c25 ∧ kK c25 = .inr (.int, 14) ∧ c25 ∈ (kf q).2.1 ∧ KT G q (d + 1) zk_X3_serve 0 [(0, vr 180), (1, vr c25), (2, vi (x20.1 181 (l4 : Int32).toNatClampNeg)), (3, vi (x20.1 182 (l4 : Int32).toNatClampNeg))] [] x20 (ri (fun r29 x28 => ((((x28.1 180 12) &&& (1 <<< (l4 &&& 31 : Int32))) = (0 : Int32) → KT G q (d + 2) zk_X3_canGoOn 148 [(0, vr 180), (1, vi l1), (2, vi l2), (3, vi l3), (4, vi l4), (5, vi (1 <<< (l4 &&& 31 : Int32)))] [vi 1] x28 P) ∧ (¬ (((x28.1 180 12) &&& (1 <<< (l4 &&& 31 : Int32))) = (0 : Int32)) → vp_in l4 12 ∧ ((¬ (r29 = (x28.1 183 (l4 : Int32).toNatClampNeg)) → KT G q (d + 2) zk_X3_canGoOn 148 [(0, vr 180), (1, vi l1), (2, vi l2), (3, vi l3), (4, vi l4), (5, vi (1 <<< (l4 &&& 31 : Int32)))] [vi 0] x28 P) ∧ (r29 = (x28.1 183 (l4 : Int32).toNatClampNeg) → KT G q (d + 2) zk_X3_canGoOn 148 [(0, vr 180), (1, vi l1), (2, vi l2), (3, vi l3), (4, vi l4), (5, vi (1 <<< (l4 &&& 31 : Int32)))] [vi 1] x28 P))))))))))) ∧ (¬ (((x.1 186 (l4 : Int32).toNatClampNeg) &&& (l2 ^^^ (-1))) = (0 : Int32)) → KT G q (d + 2) zk_X3_canGoOn 33 [(0, vr 180), (1, vi l1), (2, vi l2), (3, vi l3), (4, vi (l4 + 1))] [] x P))))))) :
    KT G q (d + 2) zk_X3_canGoOn 33 [(0, vr 180), (1, vi l1), (2, vi l2), (3, vi l3), (4, vi l4)] [] x P := by
  refine T_iload 4 (dk dtk_X3_canGoOn 23 rfl) rfl ?_
  refine T_aload_n 0 (dk dtk_X3_canGoOn 24 rfl) rfl rfl ?_
  refine T_getI 180 6 (dk dtk_X3_canGoOn 25 rfl) kfl_X3_40 kk_180 (kl_180 hq hh) (by decide) rfl ?_
  refine T_icmp_ge 177 (dk dtk_X3_canGoOn 26 rfl) (by decide) (fun c1 => ?_) (fun c1 => ?_)
  · have h := h.1 c1
    refine T_iconst (v := 0) (dk dtk_X3_canGoOn 106 rfl) (by decide +kernel) ?_
    exact KT_iret (dk dtk_X3_canGoOn 107 rfl) rfl rfl h
  · have h := h.2 c1
    refine T_iconst (v := 1) (dk dtk_X3_canGoOn 27 rfl) (by decide +kernel) ?_
    refine T_iload 4 (dk dtk_X3_canGoOn 28 rfl) rfl ?_
    refine T_ishl (dk dtk_X3_canGoOn 29 rfl) ?_
    refine T_istore (lv2 := [(5, vi (1 <<< (l4 &&& 31 : Int32))), (0, vr 180), (1, vi l1), (2, vi l2), (3, vi l3), (4, vi l4)]) (dk dtk_X3_canGoOn 30 rfl) (by decide) rfl ?_
    refine T_iload_n 4 (dk dtk_X3_canGoOn 31 rfl) rfl rfl ?_
    refine T_iload 0 (dk dtk_X3_canGoOn 32 rfl) rfl ?_
    refine T_iand (dk dtk_X3_canGoOn 33 rfl) ?_
    refine T_if_eq 171 (dk dtk_X3_canGoOn 34 rfl) (by decide) (fun c2 => ?_) (fun c2 => ?_)
    · have h := h.1 c2
      refine T_iinc (v := l4 + 1) (lv2 := [(4, vi (l4 + 1)), (5, vi (1 <<< (l4 &&& 31 : Int32))), (0, vr 180), (1, vi l1), (2, vi l2), (3, vi l3)]) 5 (dk dtk_X3_canGoOn 104 rfl) rfl rfl (by decide) rfl ?_
      refine T_goto 33 (dk dtk_X3_canGoOn 105 rfl) (by decide) ?_
      exact T_sub [2, 3, 4, 5, 0] rfl h
    · have h := h.2 c2
      refine T_aload_n 1 (dk dtk_X3_canGoOn 35 rfl) rfl rfl ?_
      refine T_getR 180 5 186 (dk dtk_X3_canGoOn 36 rfl) kfl_X3_27 kk_180 (kl_180 hq hh) (by decide) rfl kr_180_5 ?_
      refine T_iload 5 (dk dtk_X3_canGoOn 37 rfl) rfl ?_
      obtain ⟨h3, h⟩ := h
      refine T_iald 186 12 (dk dtk_X3_canGoOn 38 rfl) kk_186 (kl_186 hq hh) h3 ?_
      refine T_iload_n 3 (dk dtk_X3_canGoOn 39 rfl) rfl rfl ?_
      refine T_iconst (v := (-1)) (dk dtk_X3_canGoOn 40 rfl) (by decide +kernel) ?_
      refine T_ixor (dk dtk_X3_canGoOn 41 rfl) ?_
      refine T_iand (dk dtk_X3_canGoOn 42 rfl) ?_
      refine T_if_eq 72 (dk dtk_X3_canGoOn 43 rfl) (by decide) (fun c4 => ?_) (fun c4 => ?_)
      · have h := h.1 c4
        refine T_aload_n 1 (dk dtk_X3_canGoOn 45 rfl) rfl rfl ?_
        refine T_getR 180 9 190 (dk dtk_X3_canGoOn 46 rfl) kfl_X3_37 kk_180 (kl_180 hq hh) (by decide) rfl kr_180_9 ?_
        refine T_iload_n 2 (dk dtk_X3_canGoOn 47 rfl) rfl rfl ?_
        obtain ⟨h5, h⟩ := h
        obtain ⟨u6, eu6⟩ : ∃ z, z = (kf q).1 190 (l1 : Int32).toNatClampNeg := ⟨_, rfl⟩
        have h := h u6 eu6
        refine T_aaldI 190 13 (dk dtk_X3_canGoOn 48 rfl) kk_190 (kl_190 hq hh) h5 ?_
        rw [← eu6]
        refine T_iconst (v := 0) (dk dtk_X3_canGoOn 49 rfl) (by decide +kernel) ?_
        refine T_aload_n 1 (dk dtk_X3_canGoOn 50 rfl) rfl rfl ?_
        refine T_getR 180 9 190 (dk dtk_X3_canGoOn 51 rfl) kfl_X3_37 kk_180 (kl_180 hq hh) (by decide) rfl kr_180_9 ?_
        refine T_iload_n 2 (dk dtk_X3_canGoOn 52 rfl) rfl rfl ?_
        refine T_iconst (v := 1) (dk dtk_X3_canGoOn 53 rfl) (by decide +kernel) ?_
        refine T_iadd (dk dtk_X3_canGoOn 54 rfl) ?_
        obtain ⟨h7, h⟩ := h
        obtain ⟨u8, eu8⟩ : ∃ z, z = (kf q).1 190 (l1 + 1 : Int32).toNatClampNeg := ⟨_, rfl⟩
        have h := h u8 eu8
        refine T_aaldI 190 13 (dk dtk_X3_canGoOn 55 rfl) kk_190 (kl_190 hq hh) h7 ?_
        rw [← eu8]
        refine T_iconst (v := 0) (dk dtk_X3_canGoOn 56 rfl) (by decide +kernel) ?_
        refine T_bipush (v := 14) (dk dtk_X3_canGoOn 57 rfl) (by decide +kernel) ?_
        obtain ⟨c9, rfl, g10, g11, h⟩ := h
        obtain ⟨c12, rfl, g13, g14, h⟩ := h
        obtain ⟨h15, h16, h17, h18, h19, h⟩ := h
        obtain ⟨x20, ex20⟩ : ∃ z, z = scp x c9 c12 (0 : Int32).toNatClampNeg (0 : Int32).toNatClampNeg (14 : Int32).toNatClampNeg := ⟨_, rfl⟩
        have h := h x20 ex20
        refine T_copy c9 c12 14 14 (dk dtk_X3_canGoOn 58 rfl) kcy_X3_102 g10 g11 g13 g14 (by omega) (Nat.le_of_ble_eq_true rfl) h15 h16 h17 h18 h19 ?_
        rw [← ex20]
        refine T_aload_n 1 (dk dtk_X3_canGoOn 59 rfl) rfl rfl ?_
        refine T_aload_n 1 (dk dtk_X3_canGoOn 60 rfl) rfl rfl ?_
        refine T_getR 180 9 190 (dk dtk_X3_canGoOn 61 rfl) kfl_X3_37 kk_180 (kl_180 hq hh) (by decide) rfl kr_180_9 ?_
        refine T_iload_n 2 (dk dtk_X3_canGoOn 62 rfl) rfl rfl ?_
        refine T_iconst (v := 1) (dk dtk_X3_canGoOn 63 rfl) (by decide +kernel) ?_
        refine T_iadd (dk dtk_X3_canGoOn 64 rfl) ?_
        obtain ⟨h21, h⟩ := h
        obtain ⟨u22, eu22⟩ : ∃ z, z = (kf q).1 190 (l1 + 1 : Int32).toNatClampNeg := ⟨_, rfl⟩
        have h := h u22 eu22
        refine T_aaldI 190 13 (dk dtk_X3_canGoOn 65 rfl) kk_190 (kl_190 hq hh) h21 ?_
        rw [← eu22]
        refine T_aload_n 1 (dk dtk_X3_canGoOn 66 rfl) rfl rfl ?_
        refine T_getR 180 0 181 (dk dtk_X3_canGoOn 67 rfl) kfl_X3_11 kk_180 (kl_180 hq hh) (by decide) rfl kr_180_0 ?_
        refine T_iload 5 (dk dtk_X3_canGoOn 68 rfl) rfl ?_
        obtain ⟨h23, h⟩ := h
        refine T_iald 181 12 (dk dtk_X3_canGoOn 69 rfl) kk_181 (kl_181 hq hh) h23 ?_
        refine T_aload_n 1 (dk dtk_X3_canGoOn 70 rfl) rfl rfl ?_
        refine T_getR 180 1 182 (dk dtk_X3_canGoOn 71 rfl) kfl_X3_15 kk_180 (kl_180 hq hh) (by decide) rfl kr_180_1 ?_
        refine T_iload 5 (dk dtk_X3_canGoOn 72 rfl) rfl ?_
        obtain ⟨h24, h⟩ := h
        refine T_iald 182 12 (dk dtk_X3_canGoOn 73 rfl) kk_182 (kl_182 hq hh) h24 ?_
        obtain ⟨c25, rfl, g26, g27, h⟩ := h
        refine KC_Vi [vr c25, vi (x20.1 181 (l4 : Int32).toNatClampNeg), vi (x20.1 182 (l4 : Int32).toNatClampNeg)] [] rfl (dk dtk_X3_canGoOn 74 rfl) kcv_X3_108 rfl kk_180 rfl (kl_180 hq hh) (Nat.le_of_ble_eq_true rfl) (Nat.le_of_ble_eq_true rfl) (gok_i (av_c rfl (av_c (gkr (kl_180 hq hh)) (av_c rfl (av_c rfl (av_c rfl (av_c rfl av_n)))))) as_n) rfl h (fun r29 x28 h => ?_)
        refine T_istore (lv2 := [(6, vi r29), (5, vi (1 <<< (l4 &&& 31 : Int32))), (0, vr 180), (1, vi l1), (2, vi l2), (3, vi l3), (4, vi l4)]) (dk dtk_X3_canGoOn 75 rfl) (by decide) rfl ?_
        refine T_aload_n 2 (dk dtk_X3_canGoOn 76 rfl) rfl rfl ?_
        refine T_getI 180 12 (dk dtk_X3_canGoOn 77 rfl) kfl_X3_95 kk_180 (kl_180 hq hh) (by decide) rfl ?_
        refine T_iload 1 (dk dtk_X3_canGoOn 78 rfl) rfl ?_
        refine T_iand (dk dtk_X3_canGoOn 79 rfl) ?_
        refine T_if_eq 143 (dk dtk_X3_canGoOn 80 rfl) (by decide) (fun c30 => ?_) (fun c30 => ?_)
        · have h := h.1 c30
          refine T_iconst (v := 1) (dk dtk_X3_canGoOn 87 rfl) (by decide +kernel) ?_
          refine T_goto 148 (dk dtk_X3_canGoOn 88 rfl) (by decide) ?_
          exact T_sub [2, 3, 4, 5, 6, 1] rfl h
        · have h := h.2 c30
          refine T_iload 0 (dk dtk_X3_canGoOn 81 rfl) rfl ?_
          refine T_aload_n 2 (dk dtk_X3_canGoOn 82 rfl) rfl rfl ?_
          refine T_getR 180 2 183 (dk dtk_X3_canGoOn 83 rfl) kfl_X3_18 kk_180 (kl_180 hq hh) (by decide) rfl kr_180_2 ?_
          refine T_iload 6 (dk dtk_X3_canGoOn 84 rfl) rfl ?_
          obtain ⟨h31, h⟩ := h
          refine T_iald 183 12 (dk dtk_X3_canGoOn 85 rfl) kk_183 (kl_183 hq hh) h31 ?_
          refine T_icmp_ne 147 (dk dtk_X3_canGoOn 86 rfl) (by decide) (fun c32 => ?_) (fun c32 => ?_)
          · have h := h.1 c32
            refine T_iconst (v := 0) (dk dtk_X3_canGoOn 89 rfl) (by decide +kernel) ?_
            exact T_sub [2, 3, 4, 5, 6, 1] rfl h
          · have h := h.2 c32
            refine T_iconst (v := 1) (dk dtk_X3_canGoOn 87 rfl) (by decide +kernel) ?_
            refine T_goto 148 (dk dtk_X3_canGoOn 88 rfl) (by decide) ?_
            exact T_sub [2, 3, 4, 5, 6, 1] rfl h
      · have h := h.2 c4
        refine T_goto 171 (dk dtk_X3_canGoOn 44 rfl) (by decide) ?_
        refine T_iinc (v := l4 + 1) (lv2 := [(4, vi (l4 + 1)), (5, vi (1 <<< (l4 &&& 31 : Int32))), (0, vr 180), (1, vi l1), (2, vi l2), (3, vi l3)]) 5 (dk dtk_X3_canGoOn 104 rfl) rfl rfl (by decide) rfl ?_
        refine T_goto 33 (dk dtk_X3_canGoOn 105 rfl) (by decide) ?_
        exact T_sub [2, 3, 4, 5, 0] rfl h
set_option maxRecDepth 100000 in
set_option maxHeartbeats 4000000 in
theorem kg_X3_canGoOn_148 {G : kG} {q : kP} {d : Nat} {x : gd} {P : Option gv → gd → Prop} (hq : kV q) (hh : q.hi = true) (l1 : Int32) (l2 : Int32) (l3 : Int32) (l4 : Int32) (l5 : Int32) (s0 : Int32)
    (h : ((s0 = (0 : Int32) → KT G q (d + 2) zk_X3_canGoOn 33 [(0, vr 180), (1, vi l1), (2, vi l2), (3, vi l3), (4, vi (l4 + 1))] [] x P) ∧ (¬ (s0 = (0 : Int32)) → KT G q (d + 1) zk_X3_canGoOn 0 [(0, vr 180), (1, vi (l1 + 1)), (2, vi (l2 ||| l5))] [] x (ri (fun r3 x2 => ((r3 = (0 : Int32) → KT G q (d + 2) zk_X3_canGoOn 33 [(0, vr 180), (1, vi l1), (2, vi l2), (3, vi l3), (4, vi (l4 + 1))] [] x2 P) ∧ (¬ (r3 = (0 : Int32)) → P (some (vi 1)) x2))))))) :
    KT G q (d + 2) zk_X3_canGoOn 148 [(0, vr 180), (1, vi l1), (2, vi l2), (3, vi l3), (4, vi l4), (5, vi l5)] [vi s0] x P := by
  refine T_istore (lv2 := [(7, vi s0), (0, vr 180), (1, vi l1), (2, vi l2), (3, vi l3), (4, vi l4), (5, vi l5)]) (dk dtk_X3_canGoOn 90 rfl) (by decide) rfl ?_
  refine T_iload 0 (dk dtk_X3_canGoOn 91 rfl) rfl ?_
  refine T_if_eq 171 (dk dtk_X3_canGoOn 92 rfl) (by decide) (fun c1 => ?_) (fun c1 => ?_)
  · have h := h.1 c1
    refine T_iinc (v := l4 + 1) (lv2 := [(4, vi (l4 + 1)), (7, vi s0), (0, vr 180), (1, vi l1), (2, vi l2), (3, vi l3), (5, vi l5)]) 5 (dk dtk_X3_canGoOn 104 rfl) rfl rfl (by decide) rfl ?_
    refine T_goto 33 (dk dtk_X3_canGoOn 105 rfl) (by decide) ?_
    exact T_sub [2, 3, 4, 5, 0] rfl h
  · have h := h.2 c1
    refine T_aload_n 1 (dk dtk_X3_canGoOn 93 rfl) rfl rfl ?_
    refine T_iload_n 2 (dk dtk_X3_canGoOn 94 rfl) rfl rfl ?_
    refine T_iconst (v := 1) (dk dtk_X3_canGoOn 95 rfl) (by decide +kernel) ?_
    refine T_iadd (dk dtk_X3_canGoOn 96 rfl) ?_
    refine T_iload_n 3 (dk dtk_X3_canGoOn 97 rfl) rfl rfl ?_
    refine T_iload 6 (dk dtk_X3_canGoOn 98 rfl) rfl ?_
    refine T_ior (dk dtk_X3_canGoOn 99 rfl) ?_
    refine T_sub (lv2 := [(0, vr 180), (1, vi l1), (2, vi l2), (3, vi l3), (4, vi l4)]) [1, 2, 3, 4, 5] rfl ?_
    refine KC_Vi [vi (l1 + 1), vi (l2 ||| l5)] [] rfl (dk dtk_X3_canGoOn 100 rfl) kcv_X3_98 rfl kk_180 rfl (kl_180 hq hh) (Nat.le_of_ble_eq_true rfl) (Nat.le_of_ble_eq_true rfl) (gok_i (av_c (gkr (kl_180 hq hh)) (av_c rfl (av_c rfl (av_c rfl (av_c rfl av_n))))) as_n) rfl h (fun r3 x2 h => ?_)
    refine T_if_eq 171 (dk dtk_X3_canGoOn 101 rfl) (by decide) (fun c4 => ?_) (fun c4 => ?_)
    · have h := h.1 c4
      refine T_iinc (v := l4 + 1) (lv2 := [(4, vi (l4 + 1)), (0, vr 180), (1, vi l1), (2, vi l2), (3, vi l3)]) 4 (dk dtk_X3_canGoOn 104 rfl) rfl rfl (by decide) rfl ?_
      refine T_goto 33 (dk dtk_X3_canGoOn 105 rfl) (by decide) ?_
      exact T_sub [1, 2, 3, 4, 0] rfl h
    · have h := h.2 c4
      refine T_iconst (v := 1) (dk dtk_X3_canGoOn 102 rfl) (by decide +kernel) ?_
      exact KT_iret (dk dtk_X3_canGoOn 103 rfl) rfl rfl h
set_option maxRecDepth 100000 in
theorem dtk_X3_serve : dck cX3_serve [(0, .aload_n 0, 1), (1, .getfield 85, 3), (4, .ifCond .ne 10, 3), (7, .aload_n 1, 1), (8, .iload_n 2, 1), (9, .iload_n 3, 1), (10, .invokestatic 112, 3), (13, .ireturn, 1), (14, .aload_n 0, 1), (15, .getfield 85, 3), (18, .iconst 3, 1), (19, .if_icmp .ne 12, 3), (22, .aload_n 1, 1), (23, .iload_n 2, 1), (24, .iload_n 3, 1), (25, .invokestatic 115, 3), (28, .goto 10, 3), (31, .aload_n 0, 1), (32, .aload_n 1, 1), (33, .iload_n 2, 1), (34, .iload_n 3, 1), (35, .invokevirtual 118, 3), (38, .ireturn, 1)] = true := by decide +kernel
set_option maxRecDepth 100000 in
set_option maxHeartbeats 4000000 in
theorem kg_X3_serve_0 {G : kG} {q : kP} {d : Nat} {x : gd} {P : Option gv → gd → Prop} (hq : kV q) (hh : q.hi = true) {a1 n1 : Nat} (ka1 : kK a1 = .inr (.int, n1)) (ma1 : a1 ∈ (kf q).2.1) (l2 : Int32) (l3 : Int32)
    (h : ((¬ ((x.1 180 10) = (0 : Int32)) → ((¬ ((x.1 180 10) = (3 : Int32)) → KT G q d zk_X3_serveRow 0 [(0, vr 180), (1, vr a1), (2, vi l2), (3, vi l3)] [] x (ri (fun r4 x3 => P (some (vi r4)) x3))) ∧ ((x.1 180 10) = (3 : Int32) → KT G q d zk_X3_serveSet 0 [(0, vr a1), (1, vi l2), (2, vi l3)] [] x (ri (fun r6 x5 => P (some (vi r6)) x5))))) ∧ ((x.1 180 10) = (0 : Int32) → KT G q d zk_X3_serveCell 0 [(0, vr a1), (1, vi l2), (2, vi l3)] [] x (ri (fun r8 x7 => P (some (vi r8)) x7))))) :
    KT G q (d + 1) zk_X3_serve 0 [(0, vr 180), (1, vr a1), (2, vi l2), (3, vi l3)] [] x P := by
  refine T_aload_n 0 (dk dtk_X3_serve 0 rfl) rfl rfl ?_
  refine T_getI 180 10 (dk dtk_X3_serve 1 rfl) kfl_X3_85 kk_180 (kl_180 hq hh) (by decide) rfl ?_
  refine T_if_ne 14 (dk dtk_X3_serve 2 rfl) (by decide) (fun c1 => ?_) (fun c1 => ?_)
  · have h := h.1 c1
    refine T_aload_n 0 (dk dtk_X3_serve 8 rfl) rfl rfl ?_
    refine T_getI 180 10 (dk dtk_X3_serve 9 rfl) kfl_X3_85 kk_180 (kl_180 hq hh) (by decide) rfl ?_
    refine T_iconst (v := 3) (dk dtk_X3_serve 10 rfl) (by decide +kernel) ?_
    refine T_icmp_ne 31 (dk dtk_X3_serve 11 rfl) (by decide) (fun c2 => ?_) (fun c2 => ?_)
    · have h := h.1 c2
      refine T_aload_n 0 (dk dtk_X3_serve 17 rfl) rfl rfl ?_
      refine T_aload_n 1 (dk dtk_X3_serve 18 rfl) rfl rfl ?_
      refine T_iload_n 2 (dk dtk_X3_serve 19 rfl) rfl rfl ?_
      refine T_iload_n 3 (dk dtk_X3_serve 20 rfl) rfl rfl ?_
      refine T_sub (lv2 := []) [] rfl ?_
      refine KC_Vi [vr a1, vi l2, vi l3] [] rfl (dk dtk_X3_serve 21 rfl) kcv_X3_118 rfl kk_180 rfl (kl_180 hq hh) (Nat.le_of_ble_eq_true rfl) (Nat.le_of_ble_eq_true rfl) (gok_i av_n as_n) rfl h (fun r4 x3 h => ?_)
      exact KT_iret (dk dtk_X3_serve 22 rfl) rfl rfl h
    · have h := h.2 c2
      refine T_aload_n 1 (dk dtk_X3_serve 12 rfl) rfl rfl ?_
      refine T_iload_n 2 (dk dtk_X3_serve 13 rfl) rfl rfl ?_
      refine T_iload_n 3 (dk dtk_X3_serve 14 rfl) rfl rfl ?_
      refine T_sub (lv2 := []) [] rfl ?_
      refine KC_Si [vr a1, vi l2, vi l3] [] rfl (dk dtk_X3_serve 15 rfl) kcs_X3_115 rfl (Nat.le_of_ble_eq_true rfl) (Nat.le_of_ble_eq_true rfl) (gok_i av_n as_n) rfl h (fun r6 x5 h => ?_)
      refine T_goto 38 (dk dtk_X3_serve 16 rfl) (by decide) ?_
      exact KT_iret (dk dtk_X3_serve 22 rfl) rfl rfl h
  · have h := h.2 c1
    refine T_aload_n 1 (dk dtk_X3_serve 3 rfl) rfl rfl ?_
    refine T_iload_n 2 (dk dtk_X3_serve 4 rfl) rfl rfl ?_
    refine T_iload_n 3 (dk dtk_X3_serve 5 rfl) rfl rfl ?_
    refine T_sub (lv2 := []) [] rfl ?_
    refine KC_Si [vr a1, vi l2, vi l3] [] rfl (dk dtk_X3_serve 6 rfl) kcs_X3_112 rfl (Nat.le_of_ble_eq_true rfl) (Nat.le_of_ble_eq_true rfl) (gok_i av_n as_n) rfl h (fun r8 x7 h => ?_)
    exact KT_iret (dk dtk_X3_serve 7 rfl) rfl rfl h
set_option maxRecDepth 100000 in
theorem dtk_X3_serveCell : dck cX3_serveCell [(0, .aload_n 0, 1), (1, .iconst 0, 1), (2, .iaload, 1), (3, .istore_n 3, 1), (4, .iload_n 1, 1), (5, .iconst 1, 1), (6, .if_icmp .eq 18, 3), (9, .aload_n 0, 1), (10, .iconst 0, 1), (11, .iload_n 1, 1), (12, .iconst 2, 1), (13, .if_icmp .ne 9, 3), (16, .iload_n 3, 1), (17, .iload_n 2, 1), (18, .iadd, 1), (19, .goto 4, 3), (22, .iload_n 2, 1), (23, .iastore, 1), (24, .iload_n 1, 1), (25, .ifCond .ne 7, 3), (28, .iconst 0, 1), (29, .goto 4, 3), (32, .iload_n 3, 1), (33, .ireturn, 1)] = true := by decide +kernel
set_option maxRecDepth 100000 in
set_option maxHeartbeats 4000000 in
theorem kg_X3_serveCell_0 {G : kG} {q : kP} {d : Nat} {x : gd} {P : Option gv → gd → Prop} (hq : kV q) (hh : q.hi = true) {a0 n0 : Nat} (ka0 : kK a0 = .inr (.int, n0)) (ma0 : a0 ∈ (kf q).2.1) (l1 : Int32) (l2 : Int32)
    (h : vp_in 0 n0 ∧ ((l1 = (1 : Int32) → KT G q d zk_X3_serveCell 24 [(1, vi l1), (3, vi (x.1 a0 (0 : Int32).toNatClampNeg))] [] x P) ∧ (¬ (l1 = (1 : Int32)) → ((¬ (l1 = (2 : Int32)) → vp_in 0 n0 ∧ (∀ x5 : gd, x5 = si x a0 (0 : Int32).toNatClampNeg l2 → KT G q d zk_X3_serveCell 24 [(1, vi l1), (3, vi (x.1 a0 (0 : Int32).toNatClampNeg))] [] x5 P)) ∧ (l1 = (2 : Int32) → vp_in 0 n0 ∧ (∀ x7 : gd, x7 = si x a0 (0 : Int32).toNatClampNeg ((x.1 a0 (0 : Int32).toNatClampNeg) + l2) → KT G q d zk_X3_serveCell 24 [(1, vi l1), (3, vi (x.1 a0 (0 : Int32).toNatClampNeg))] [] x7 P)))))) :
    KT G q d zk_X3_serveCell 0 [(0, vr a0), (1, vi l1), (2, vi l2)] [] x P := by
  refine T_aload_n 0 (dk dtk_X3_serveCell 0 rfl) rfl rfl ?_
  refine T_iconst (v := 0) (dk dtk_X3_serveCell 1 rfl) (by decide +kernel) ?_
  obtain ⟨h1, h⟩ := h
  refine T_iald a0 n0 (dk dtk_X3_serveCell 2 rfl) ka0 ma0 h1 ?_
  refine T_istore_n (lv2 := [(3, vi (x.1 a0 (0 : Int32).toNatClampNeg)), (0, vr a0), (1, vi l1), (2, vi l2)]) (dk dtk_X3_serveCell 3 rfl) rfl (by decide) rfl ?_
  refine T_iload_n 2 (dk dtk_X3_serveCell 4 rfl) rfl rfl ?_
  refine T_iconst (v := 1) (dk dtk_X3_serveCell 5 rfl) (by decide +kernel) ?_
  refine T_icmp_eq 24 (dk dtk_X3_serveCell 6 rfl) (by decide) (fun c2 => ?_) (fun c2 => ?_)
  · have h := h.1 c2
    exact T_sub [2, 0] rfl h
  · have h := h.2 c2
    refine T_aload_n 1 (dk dtk_X3_serveCell 7 rfl) rfl rfl ?_
    refine T_iconst (v := 0) (dk dtk_X3_serveCell 8 rfl) (by decide +kernel) ?_
    refine T_iload_n 2 (dk dtk_X3_serveCell 9 rfl) rfl rfl ?_
    refine T_iconst (v := 2) (dk dtk_X3_serveCell 10 rfl) (by decide +kernel) ?_
    refine T_icmp_ne 22 (dk dtk_X3_serveCell 11 rfl) (by decide) (fun c3 => ?_) (fun c3 => ?_)
    · have h := h.1 c3
      refine T_iload_n 3 (dk dtk_X3_serveCell 16 rfl) rfl rfl ?_
      obtain ⟨h4, h⟩ := h
      obtain ⟨x5, ex5⟩ : ∃ z, z = si x a0 (0 : Int32).toNatClampNeg l2 := ⟨_, rfl⟩
      have h := h x5 ex5
      refine T_iast a0 n0 (dk dtk_X3_serveCell 17 rfl) ka0 ma0 h4 ?_
      rw [← ex5]
      exact T_sub [2, 0] rfl h
    · have h := h.2 c3
      refine T_iload_n 0 (dk dtk_X3_serveCell 12 rfl) rfl rfl ?_
      refine T_iload_n 3 (dk dtk_X3_serveCell 13 rfl) rfl rfl ?_
      refine T_iadd (dk dtk_X3_serveCell 14 rfl) ?_
      refine T_goto 23 (dk dtk_X3_serveCell 15 rfl) (by decide) ?_
      obtain ⟨h6, h⟩ := h
      obtain ⟨x7, ex7⟩ : ∃ z, z = si x a0 (0 : Int32).toNatClampNeg ((x.1 a0 (0 : Int32).toNatClampNeg) + l2) := ⟨_, rfl⟩
      have h := h x7 ex7
      refine T_iast a0 n0 (dk dtk_X3_serveCell 17 rfl) ka0 ma0 h6 ?_
      rw [← ex7]
      exact T_sub [2, 0] rfl h
set_option maxRecDepth 100000 in
set_option maxHeartbeats 4000000 in
theorem kg_X3_serveCell_24 {G : kG} {q : kP} {d : Nat} {x : gd} {P : Option gv → gd → Prop} (hq : kV q) (hh : q.hi = true) {a0 n0 : Nat} (ka0 : kK a0 = .inr (.int, n0)) (ma0 : a0 ∈ (kf q).2.1) (l1 : Int32) (l3 : Int32)
    (h : ((¬ (l1 = (0 : Int32)) → P (some (vi l3)) x) ∧ (l1 = (0 : Int32) → P (some (vi 0)) x))) :
    KT G q d zk_X3_serveCell 24 [(1, vi l1), (3, vi l3)] [] x P := by
  refine T_iload_n 0 (dk dtk_X3_serveCell 18 rfl) rfl rfl ?_
  refine T_if_ne 32 (dk dtk_X3_serveCell 19 rfl) (by decide) (fun c1 => ?_) (fun c1 => ?_)
  · have h := h.1 c1
    refine T_iload_n 1 (dk dtk_X3_serveCell 22 rfl) rfl rfl ?_
    exact KT_iret (dk dtk_X3_serveCell 23 rfl) rfl rfl h
  · have h := h.2 c1
    refine T_iconst (v := 0) (dk dtk_X3_serveCell 20 rfl) (by decide +kernel) ?_
    refine T_goto 33 (dk dtk_X3_serveCell 21 rfl) (by decide) ?_
    exact KT_iret (dk dtk_X3_serveCell 23 rfl) rfl rfl h
set_option maxRecDepth 100000 in
theorem dtk_X3_serveRow : dck cX3_serveRow [(0, .aload_n 1, 1), (1, .iconst 0, 1), (2, .iaload, 1), (3, .istore 4, 2), (5, .iload_n 2, 1), (6, .tableswitch 64 0 2 #[26, 33, 61], 26), (32, .aload_n 1, 1), (33, .iload_n 3, 1), (34, .invokestatic 121, 3), (37, .iconst 0, 1), (38, .ireturn, 1), (39, .iload 4, 2), (41, .ifCond .ne 7, 3), (44, .iconst (-1), 1), (45, .goto 21, 3), (48, .aload_n 1, 1), (49, .aload_n 0, 1), (50, .getfield 85, 3), (53, .iconst 1, 1), (54, .if_icmp .ne 8, 3), (57, .iload 4, 2), (59, .goto 4, 3), (62, .iconst 1, 1), (63, .invokestatic 124, 3), (66, .ireturn, 1), (67, .iload 4, 2), (69, .ireturn, 1), (70, .aload_n 1, 1), (71, .iconst 0, 1), (72, .iconst 0, 1), (73, .iastore, 1), (74, .iload 4, 2), (76, .ireturn, 1)] = true := by decide +kernel
set_option maxRecDepth 100000 in
set_option maxHeartbeats 4000000 in
theorem kg_X3_serveRow_0 {G : kG} {q : kP} {d : Nat} {x : gd} {P : Option gv → gd → Prop} (hq : kV q) (hh : q.hi = true) {a1 n1 : Nat} (ka1 : kK a1 = .inr (.int, n1)) (ma1 : a1 ∈ (kf q).2.1) (l2 : Int32) (l3 : Int32)
    (h : vp_in 0 n1 ∧ (((l2 = 0) → KT G q d zk_X3_append 0 [(0, vr a1), (1, vi l3)] [] x (rv (fun x3 => P (some (vi 0)) x3))) ∧ ((l2 = 1) → ((¬ ((x.1 a1 (0 : Int32).toNatClampNeg) = (0 : Int32)) → ((¬ ((x.1 180 10) = (1 : Int32)) → KT G q (d + 1) zk_X3_serveRow 63 [] [vi 1, vr a1] x P) ∧ ((x.1 180 10) = (1 : Int32) → KT G q (d + 1) zk_X3_serveRow 63 [] [vi (x.1 a1 (0 : Int32).toNatClampNeg), vr a1] x P))) ∧ ((x.1 a1 (0 : Int32).toNatClampNeg) = (0 : Int32) → P (some (vi (-1))) x))) ∧ ((l2 = 2) → P (some (vi (x.1 a1 (0 : Int32).toNatClampNeg))) x) ∧ ((∀ k ∈ [(0 : Int32), (1 : Int32), (2 : Int32)], ¬ l2 = k) → vp_in 0 n1 ∧ (∀ x10 : gd, x10 = si x a1 (0 : Int32).toNatClampNeg 0 → P (some (vi (x.1 a1 (0 : Int32).toNatClampNeg))) x10)))) :
    KT G q (d + 1) zk_X3_serveRow 0 [(0, vr 180), (1, vr a1), (2, vi l2), (3, vi l3)] [] x P := by
  refine T_aload_n 1 (dk dtk_X3_serveRow 0 rfl) rfl rfl ?_
  refine T_iconst (v := 0) (dk dtk_X3_serveRow 1 rfl) (by decide +kernel) ?_
  obtain ⟨h1, h⟩ := h
  refine T_iald a1 n1 (dk dtk_X3_serveRow 2 rfl) ka1 ma1 h1 ?_
  refine T_istore (lv2 := [(4, vi (x.1 a1 (0 : Int32).toNatClampNeg)), (0, vr 180), (1, vr a1), (2, vi l2), (3, vi l3)]) (dk dtk_X3_serveRow 3 rfl) (by decide) rfl ?_
  refine T_iload_n 3 (dk dtk_X3_serveRow 4 rfl) rfl rfl ?_
  by_cases c2 : l2 = 0
  · have h := h.1 c2
    refine T_table 26 32 (dk dtk_X3_serveRow 5 rfl) (by decide) (by rw [c2]; decide +kernel) (by decide) ?_
    refine T_aload_n 2 (dk dtk_X3_serveRow 6 rfl) rfl rfl ?_
    refine T_iload_n 4 (dk dtk_X3_serveRow 7 rfl) rfl rfl ?_
    refine T_sub (lv2 := []) [] rfl ?_
    refine KC_Sv [vr a1, vi l3] [] rfl (dk dtk_X3_serveRow 8 rfl) kcs_X3_121 rfl (Nat.le_of_ble_eq_true rfl) (Nat.le_of_ble_eq_true rfl) (gok_i av_n as_n) rfl h (fun x3 h => ?_)
    refine T_iconst (v := 0) (dk dtk_X3_serveRow 9 rfl) (by decide +kernel) ?_
    exact KT_iret (dk dtk_X3_serveRow 10 rfl) rfl rfl h
  · have h := h.2
    by_cases c4 : l2 = 1
    · have h := h.1 c4
      refine T_table 33 39 (dk dtk_X3_serveRow 5 rfl) (by decide) (by rw [c4]; decide +kernel) (by decide) ?_
      refine T_iload 0 (dk dtk_X3_serveRow 11 rfl) rfl ?_
      refine T_if_ne 48 (dk dtk_X3_serveRow 12 rfl) (by decide) (fun c5 => ?_) (fun c5 => ?_)
      · have h := h.1 c5
        refine T_aload_n 2 (dk dtk_X3_serveRow 15 rfl) rfl rfl ?_
        refine T_aload_n 1 (dk dtk_X3_serveRow 16 rfl) rfl rfl ?_
        refine T_getI 180 10 (dk dtk_X3_serveRow 17 rfl) kfl_X3_85 kk_180 (kl_180 hq hh) (by decide) rfl ?_
        refine T_iconst (v := 1) (dk dtk_X3_serveRow 18 rfl) (by decide +kernel) ?_
        refine T_icmp_ne 62 (dk dtk_X3_serveRow 19 rfl) (by decide) (fun c6 => ?_) (fun c6 => ?_)
        · have h := h.1 c6
          refine T_iconst (v := 1) (dk dtk_X3_serveRow 22 rfl) (by decide +kernel) ?_
          exact T_sub [] rfl h
        · have h := h.2 c6
          refine T_iload 0 (dk dtk_X3_serveRow 20 rfl) rfl ?_
          refine T_goto 63 (dk dtk_X3_serveRow 21 rfl) (by decide) ?_
          exact T_sub [] rfl h
      · have h := h.2 c5
        refine T_iconst (v := (-1)) (dk dtk_X3_serveRow 13 rfl) (by decide +kernel) ?_
        refine T_goto 66 (dk dtk_X3_serveRow 14 rfl) (by decide) ?_
        exact KT_iret (dk dtk_X3_serveRow 24 rfl) rfl rfl h
    · have h := h.2
      by_cases c7 : l2 = 2
      · have h := h.1 c7
        refine T_table 61 67 (dk dtk_X3_serveRow 5 rfl) (by decide) (by rw [c7]; decide +kernel) (by decide) ?_
        refine T_iload 0 (dk dtk_X3_serveRow 25 rfl) rfl ?_
        exact KT_iret (dk dtk_X3_serveRow 26 rfl) rfl rfl h
      · have h := h.2
        have n8 : ∀ k ∈ [(0 : Int32), (1 : Int32), (2 : Int32)], ¬ l2 = k := (gno c2 (gno c4 (gno c7 gno0)))
        have h := h n8
        refine T_table 64 70 (dk dtk_X3_serveRow 5 rfl) (by decide) (gtab_d [(0 : Int32), (1 : Int32), (2 : Int32)] (by decide +kernel) n8) (by decide) ?_
        refine T_aload_n 2 (dk dtk_X3_serveRow 27 rfl) rfl rfl ?_
        refine T_iconst (v := 0) (dk dtk_X3_serveRow 28 rfl) (by decide +kernel) ?_
        refine T_iconst (v := 0) (dk dtk_X3_serveRow 29 rfl) (by decide +kernel) ?_
        obtain ⟨h9, h⟩ := h
        obtain ⟨x10, ex10⟩ : ∃ z, z = si x a1 (0 : Int32).toNatClampNeg 0 := ⟨_, rfl⟩
        have h := h x10 ex10
        refine T_iast a1 n1 (dk dtk_X3_serveRow 30 rfl) ka1 ma1 h9 ?_
        rw [← ex10]
        refine T_iload 0 (dk dtk_X3_serveRow 31 rfl) rfl ?_
        exact KT_iret (dk dtk_X3_serveRow 32 rfl) rfl rfl h
set_option maxRecDepth 100000 in
set_option maxHeartbeats 4000000 in
theorem kg_X3_serveRow_63 {G : kG} {q : kP} {d : Nat} {x : gd} {P : Option gv → gd → Prop} (hq : kV q) (hh : q.hi = true) {a1 n1 : Nat} (ka1 : kK a1 = .inr (.int, n1)) (ma1 : a1 ∈ (kf q).2.1) (s0 : Int32)
    (h : KT G q d zk_X3_removeAt 0 [(0, vr a1), (1, vi s0)] [] x (ri (fun r2 x1 => P (some (vi r2)) x1))) :
    KT G q (d + 1) zk_X3_serveRow 63 [] [vi s0, vr a1] x P := by
  refine KC_Si [vr a1, vi s0] [] rfl (dk dtk_X3_serveRow 23 rfl) kcs_X3_124 rfl (Nat.le_of_ble_eq_true rfl) (Nat.le_of_ble_eq_true rfl) (gok_i av_n as_n) rfl h (fun r2 x1 h => ?_)
  exact KT_iret (dk dtk_X3_serveRow 24 rfl) rfl rfl h
