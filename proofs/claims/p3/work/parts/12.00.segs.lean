/-- an int that a boolean holds -/
def gbool (v : Int32) : Prop := narrow .boolean (.int v) = .int v ∧ fits .boolean (.int v) = true
theorem gbool_0 : gbool 0 := ⟨rfl, rfl⟩
theorem gbool_1 : gbool 1 := ⟨rfl, rfl⟩
theorem gbool_of {v : Int32} (h : v = 0 ∨ v = 1) : gbool v := by
  rcases h with rfl | rfl
  · exact gbool_0
  · exact gbool_1
set_option maxRecDepth 100000 in
theorem dt_in : dck cX12_in [(0, .iload_n 0, 1), (1, .iload_n 1, 1), (2, .if_icmp .lt 12, 3), (5, .iload_n 0, 1), (6, .iload_n 2, 1), (7, .if_icmp .gt 7, 3), (10, .iconst 1, 1), (11, .goto 4, 3), (14, .iconst 0, 1), (15, .ireturn, 1)] = true := by decide +kernel
set_option maxRecDepth 100000 in
set_option maxHeartbeats 4000000 in
theorem sg_in_0 {G : mG} {d : Nat} {x : gd} {P : Option gv → gd → Prop} (l0 : Int32) (l1 : Int32) (l2 : Int32)
    (h : ((l0 < l1 → P (some (vi 0)) x) ∧ (¬ (l0 < l1) → ((l2 < l0 → P (some (vi 0)) x) ∧ (¬ (l2 < l0) → P (some (vi 1)) x))))) :
    MT G d z_in 0 [(0, vi l0), (1, vi l1), (2, vi l2)] [] x P := by
  refine T_iload_n 0 (dk dt_in 0 rfl) rfl rfl ?_
  refine T_iload_n 1 (dk dt_in 1 rfl) rfl rfl ?_
  refine T_icmp_lt 14 (dk dt_in 2 rfl) (by decide) (fun c1 => ?_) (fun c1 => ?_)
  · have h := h.1 c1
    refine T_iconst (v := 0) (dk dt_in 8 rfl) (by decide +kernel) ?_
    exact MT_iret (dk dt_in 9 rfl) rfl rfl h
  · have h := h.2 c1
    refine T_iload_n 0 (dk dt_in 3 rfl) rfl rfl ?_
    refine T_iload_n 2 (dk dt_in 4 rfl) rfl rfl ?_
    refine T_icmp_gt 14 (dk dt_in 5 rfl) (by decide) (fun c2 => ?_) (fun c2 => ?_)
    · have h := h.1 c2
      refine T_iconst (v := 0) (dk dt_in 8 rfl) (by decide +kernel) ?_
      exact MT_iret (dk dt_in 9 rfl) rfl rfl h
    · have h := h.2 c2
      refine T_iconst (v := 1) (dk dt_in 6 rfl) (by decide +kernel) ?_
      refine T_goto 15 (dk dt_in 7 rfl) (by decide) ?_
      exact MT_iret (dk dt_in 9 rfl) rfl rfl h
set_option maxRecDepth 100000 in
theorem dt_refuses : dck cX12_refuses [(0, .aload_n 0, 1), (1, .getfield 316, 3), (4, .ifCond .ne 12, 3), (7, .iload_n 1, 1), (8, .ifCond .eq 8, 3), (11, .aload_n 0, 1), (12, .iload_n 2, 1), (13, .putfield 316, 3), (16, .aload_n 0, 1), (17, .getfield 316, 3), (20, .ifCond .le 7, 3), (23, .iconst 1, 1), (24, .goto 4, 3), (27, .iconst 0, 1), (28, .ireturn, 1)] = true := by decide +kernel
set_option maxRecDepth 100000 in
set_option maxHeartbeats 4000000 in
theorem sg_refuses_0 {G : mG} {d : Nat} {x : gd} {P : Option gv → gd → Prop} (l1 : Int32) (l2 : Int32)
    (h : ((¬ ((x.1 0 0) = 0) → MT G d z_refuses 16 [(0, vr 0)] [] x P) ∧ ((x.1 0 0) = 0 → ((l1 = 0 → MT G d z_refuses 16 [(0, vr 0)] [] x P) ∧ (¬ (l1 = 0) → (∀ x3 : gd, x3 = si x 0 0 l2 → MT G d z_refuses 16 [(0, vr 0)] [] x3 P)))))) :
    MT G d z_refuses 0 [(0, vr 0), (1, vi l1), (2, vi l2)] [] x P := by
  refine T_aload_n 0 (dk dt_refuses 0 rfl) rfl rfl ?_
  refine T_getI 0 0 (dk dt_refuses 1 rfl) fl_316 mk_0 ml_0 (by decide) rfl ?_
  refine T_if_ne 16 (dk dt_refuses 2 rfl) (by decide) (fun c1 => ?_) (fun c1 => ?_)
  · have h := h.1 c1
    exact T_sub [0] rfl h
  · have h := h.2 c1
    refine T_iload_n 1 (dk dt_refuses 3 rfl) rfl rfl ?_
    refine T_if_eq 16 (dk dt_refuses 4 rfl) (by decide) (fun c2 => ?_) (fun c2 => ?_)
    · have h := h.1 c2
      exact T_sub [0] rfl h
    · have h := h.2 c2
      refine T_aload_n 0 (dk dt_refuses 5 rfl) rfl rfl ?_
      refine T_iload_n 2 (dk dt_refuses 6 rfl) rfl rfl ?_
      obtain ⟨x3, ex3⟩ : ∃ z, z = si x 0 0 l2 := ⟨_, rfl⟩
      have h := h x3 ex3
      refine T_putI 0 0 (dk dt_refuses 7 rfl) fl_316 mk_0 ml_0 (by decide) rfl ⟨rfl, rfl⟩ ?_
      rw [← ex3]
      exact T_sub [0] rfl h
set_option maxRecDepth 100000 in
set_option maxHeartbeats 4000000 in
theorem sg_refuses_16 {G : mG} {d : Nat} {x : gd} {P : Option gv → gd → Prop} 
    (h : (((x.1 0 0) ≤ 0 → P (some (vi 0)) x) ∧ (¬ ((x.1 0 0) ≤ 0) → P (some (vi 1)) x))) :
    MT G d z_refuses 16 [(0, vr 0)] [] x P := by
  refine T_aload_n 0 (dk dt_refuses 8 rfl) rfl rfl ?_
  refine T_getI 0 0 (dk dt_refuses 9 rfl) fl_316 mk_0 ml_0 (by decide) rfl ?_
  refine T_if_le 27 (dk dt_refuses 10 rfl) (by decide) (fun c1 => ?_) (fun c1 => ?_)
  · have h := h.1 c1
    refine T_iconst (v := 0) (dk dt_refuses 13 rfl) (by decide +kernel) ?_
    exact MT_iret (dk dt_refuses 14 rfl) rfl rfl h
  · have h := h.2 c1
    refine T_iconst (v := 1) (dk dt_refuses 11 rfl) (by decide +kernel) ?_
    refine T_goto 28 (dk dt_refuses 12 rfl) (by decide) ?_
    exact MT_iret (dk dt_refuses 14 rfl) rfl rfl h
set_option maxRecDepth 100000 in
theorem dt_byteAt : dck cX12_byteAt [(0, .iload_n 1, 1), (1, .aload_n 0, 1), (2, .getfield 319, 3), (5, .if_icmp .ge 16, 3), (8, .aload_n 0, 1), (9, .getfield 7, 3), (12, .iload_n 1, 1), (13, .baload, 1), (14, .sipush 255, 3), (17, .iand, 1), (18, .goto 4, 3), (21, .iconst (-1), 1), (22, .ireturn, 1)] = true := by decide +kernel
set_option maxRecDepth 100000 in
set_option maxHeartbeats 4000000 in
theorem sg_byteAt_0 {G : mG} {d : Nat} {x : gd} {P : Option gv → gd → Prop} (l1 : Int32)
    (h : (((x.1 0 2) ≤ l1 → P (some (vi (-1))) x) ∧ (¬ ((x.1 0 2) ≤ l1) → vp_in l1 3000 ∧ P (some (vi ((x.1 2 (l1 : Int32).toNatClampNeg) &&& 255))) x))) :
    MT G d z_byteAt 0 [(0, vr 0), (1, vi l1)] [] x P := by
  refine T_iload_n 1 (dk dt_byteAt 0 rfl) rfl rfl ?_
  refine T_aload_n 0 (dk dt_byteAt 1 rfl) rfl rfl ?_
  refine T_getI 0 2 (dk dt_byteAt 2 rfl) fl_319 mk_0 ml_0 (by decide) rfl ?_
  refine T_icmp_ge 21 (dk dt_byteAt 3 rfl) (by decide) (fun c1 => ?_) (fun c1 => ?_)
  · have h := h.1 c1
    refine T_iconst (v := (-1)) (dk dt_byteAt 11 rfl) (by decide +kernel) ?_
    exact MT_iret (dk dt_byteAt 12 rfl) rfl rfl h
  · have h := h.2 c1
    refine T_aload_n 0 (dk dt_byteAt 4 rfl) rfl rfl ?_
    refine T_getR 0 1 2 (dk dt_byteAt 5 rfl) fl_7 mk_0 ml_0 (by decide) rfl rfl ?_
    refine T_iload_n 1 (dk dt_byteAt 6 rfl) rfl rfl ?_
    obtain ⟨h2, h⟩ := h
    refine T_bald 2 3000 (dk dt_byteAt 7 rfl) mk_2 ml_2 h2 ?_
    refine T_sipush (v := 255) (dk dt_byteAt 8 rfl) (by decide +kernel) ?_
    refine T_iand (dk dt_byteAt 9 rfl) ?_
    refine T_goto 22 (dk dt_byteAt 10 rfl) (by decide) ?_
    exact MT_iret (dk dt_byteAt 12 rfl) rfl rfl h
set_option maxRecDepth 100000 in
theorem dt_isLetter : dck cX12_isLetter [(0, .iload_n 0, 1), (1, .bipush 97, 2), (3, .bipush 122, 2), (5, .invokestatic 322, 3), (8, .ifCond .ne 14, 3), (11, .iload_n 0, 1), (12, .bipush 65, 2), (14, .bipush 90, 2), (16, .invokestatic 322, 3), (19, .ifCond .eq 7, 3), (22, .iconst 1, 1), (23, .goto 4, 3), (26, .iconst 0, 1), (27, .ireturn, 1)] = true := by decide +kernel
set_option maxRecDepth 100000 in
set_option maxHeartbeats 4000000 in
theorem sg_isLetter_0 {G : mG} {d : Nat} {x : gd} {P : Option gv → gd → Prop} (l0 : Int32)
    (h : MT G d z_in 0 [(0, vi l0), (1, vi 97), (2, vi 122)] [] x (ri (fun r2 x1 => ((¬ (r2 = 0) → P (some (vi 1)) x1) ∧ (r2 = 0 → MT G d z_in 0 [(0, vi l0), (1, vi 65), (2, vi 90)] [] x1 (ri (fun r5 x4 => ((r5 = 0 → P (some (vi 0)) x4) ∧ (¬ (r5 = 0) → P (some (vi 1)) x4))))))))) :
    MT G (d + 1) z_isLetter 0 [(0, vi l0)] [] x P := by
  refine T_iload_n 0 (dk dt_isLetter 0 rfl) rfl rfl ?_
  refine T_bipush (v := 97) (dk dt_isLetter 1 rfl) (by decide +kernel) ?_
  refine T_bipush (v := 122) (dk dt_isLetter 2 rfl) (by decide +kernel) ?_
  refine MT_callSi [vi l0, vi 97, vi 122] [] rfl (dk dt_isLetter 3 rfl) cs_322 rfl (Nat.le_of_ble_eq_true rfl) (Nat.le_of_ble_eq_true rfl) rfl h (fun r2 x1 h => ?_)
  refine T_if_ne 22 (dk dt_isLetter 4 rfl) (by decide) (fun c3 => ?_) (fun c3 => ?_)
  · have h := h.1 c3
    refine T_iconst (v := 1) (dk dt_isLetter 10 rfl) (by decide +kernel) ?_
    refine T_goto 27 (dk dt_isLetter 11 rfl) (by decide) ?_
    exact MT_iret (dk dt_isLetter 13 rfl) rfl rfl h
  · have h := h.2 c3
    refine T_iload_n 0 (dk dt_isLetter 5 rfl) rfl rfl ?_
    refine T_bipush (v := 65) (dk dt_isLetter 6 rfl) (by decide +kernel) ?_
    refine T_bipush (v := 90) (dk dt_isLetter 7 rfl) (by decide +kernel) ?_
    refine MT_callSi [vi l0, vi 65, vi 90] [] rfl (dk dt_isLetter 8 rfl) cs_322 rfl (Nat.le_of_ble_eq_true rfl) (Nat.le_of_ble_eq_true rfl) rfl h (fun r5 x4 h => ?_)
    refine T_if_eq 26 (dk dt_isLetter 9 rfl) (by decide) (fun c6 => ?_) (fun c6 => ?_)
    · have h := h.1 c6
      refine T_iconst (v := 0) (dk dt_isLetter 12 rfl) (by decide +kernel) ?_
      exact MT_iret (dk dt_isLetter 13 rfl) rfl rfl h
    · have h := h.2 c6
      refine T_iconst (v := 1) (dk dt_isLetter 10 rfl) (by decide +kernel) ?_
      refine T_goto 27 (dk dt_isLetter 11 rfl) (by decide) ?_
      exact MT_iret (dk dt_isLetter 13 rfl) rfl rfl h
set_option maxRecDepth 100000 in
theorem dt_put : dck cX12_put [(0, .aload_n 0, 1), (1, .getfield 13, 3), (4, .aload_n 0, 1), (5, .getfield 342, 3), (8, .iload_n 1, 1), (9, .iastore, 1), (10, .aload_n 0, 1), (11, .getfield 17, 3), (14, .aload_n 0, 1), (15, .getfield 342, 3), (18, .iload_n 2, 1), (19, .iastore, 1), (20, .aload_n 0, 1), (21, .getfield 23, 3), (24, .aload_n 0, 1), (25, .getfield 342, 3), (28, .iload_n 3, 1), (29, .iastore, 1), (30, .aload_n 0, 1), (31, .getfield 20, 3), (34, .aload_n 0, 1), (35, .getfield 342, 3), (38, .iload 4, 2), (40, .iastore, 1), (41, .aload_n 0, 1), (42, .dup, 1), (43, .getfield 342, 3), (46, .iconst 1, 1), (47, .iadd, 1), (48, .putfield 342, 3), (51, .return_, 1)] = true := by decide +kernel
set_option maxRecDepth 100000 in
set_option maxHeartbeats 4000000 in
theorem sg_put_0 {G : mG} {d : Nat} {x : gd} {P : Option gv → gd → Prop} (l1 : Int32) (l2 : Int32) (l3 : Int32) (l4 : Int32)
    (h : vp_in (x.1 0 3) 710 ∧ (∀ x2 : gd, x2 = si x 5 (x.1 0 3 : Int32).toNatClampNeg l1 → vp_in (x2.1 0 3) 710 ∧ (∀ x4 : gd, x4 = si x2 6 (x2.1 0 3 : Int32).toNatClampNeg l2 → vp_in (x4.1 0 3) 710 ∧ (∀ x6 : gd, x6 = si x4 8 (x4.1 0 3 : Int32).toNatClampNeg l3 → vp_in (x6.1 0 3) 710 ∧ (∀ x8 : gd, x8 = si x6 7 (x6.1 0 3 : Int32).toNatClampNeg l4 → (∀ x9 : gd, x9 = si x8 0 3 ((x8.1 0 3) + 1) → P none x9)))))) :
    MT G d z_put 0 [(0, vr 0), (1, vi l1), (2, vi l2), (3, vi l3), (4, vi l4)] [] x P := by
  refine T_aload_n 0 (dk dt_put 0 rfl) rfl rfl ?_
  refine T_getR 0 4 5 (dk dt_put 1 rfl) fl_13 mk_0 ml_0 (by decide) rfl rfl ?_
  refine T_aload_n 0 (dk dt_put 2 rfl) rfl rfl ?_
  refine T_getI 0 3 (dk dt_put 3 rfl) fl_342 mk_0 ml_0 (by decide) rfl ?_
  refine T_iload_n 1 (dk dt_put 4 rfl) rfl rfl ?_
  obtain ⟨h1, h⟩ := h
  obtain ⟨x2, ex2⟩ : ∃ z, z = si x 5 (x.1 0 3 : Int32).toNatClampNeg l1 := ⟨_, rfl⟩
  have h := h x2 ex2
  refine T_iast 5 710 (dk dt_put 5 rfl) mk_5 ml_5 h1 ?_
  rw [← ex2]
  refine T_aload_n 0 (dk dt_put 6 rfl) rfl rfl ?_
  refine T_getR 0 5 6 (dk dt_put 7 rfl) fl_17 mk_0 ml_0 (by decide) rfl rfl ?_
  refine T_aload_n 0 (dk dt_put 8 rfl) rfl rfl ?_
  refine T_getI 0 3 (dk dt_put 9 rfl) fl_342 mk_0 ml_0 (by decide) rfl ?_
  refine T_iload_n 2 (dk dt_put 10 rfl) rfl rfl ?_
  obtain ⟨h3, h⟩ := h
  obtain ⟨x4, ex4⟩ : ∃ z, z = si x2 6 (x2.1 0 3 : Int32).toNatClampNeg l2 := ⟨_, rfl⟩
  have h := h x4 ex4
  refine T_iast 6 710 (dk dt_put 11 rfl) mk_6 ml_6 h3 ?_
  rw [← ex4]
  refine T_aload_n 0 (dk dt_put 12 rfl) rfl rfl ?_
  refine T_getR 0 7 8 (dk dt_put 13 rfl) fl_23 mk_0 ml_0 (by decide) rfl rfl ?_
  refine T_aload_n 0 (dk dt_put 14 rfl) rfl rfl ?_
  refine T_getI 0 3 (dk dt_put 15 rfl) fl_342 mk_0 ml_0 (by decide) rfl ?_
  refine T_iload_n 3 (dk dt_put 16 rfl) rfl rfl ?_
  obtain ⟨h5, h⟩ := h
  obtain ⟨x6, ex6⟩ : ∃ z, z = si x4 8 (x4.1 0 3 : Int32).toNatClampNeg l3 := ⟨_, rfl⟩
  have h := h x6 ex6
  refine T_iast 8 710 (dk dt_put 17 rfl) mk_8 ml_8 h5 ?_
  rw [← ex6]
  refine T_aload_n 0 (dk dt_put 18 rfl) rfl rfl ?_
  refine T_getR 0 6 7 (dk dt_put 19 rfl) fl_20 mk_0 ml_0 (by decide) rfl rfl ?_
  refine T_aload_n 0 (dk dt_put 20 rfl) rfl rfl ?_
  refine T_getI 0 3 (dk dt_put 21 rfl) fl_342 mk_0 ml_0 (by decide) rfl ?_
  refine T_iload 4 (dk dt_put 22 rfl) rfl ?_
  obtain ⟨h7, h⟩ := h
  obtain ⟨x8, ex8⟩ : ∃ z, z = si x6 7 (x6.1 0 3 : Int32).toNatClampNeg l4 := ⟨_, rfl⟩
  have h := h x8 ex8
  refine T_iast 7 710 (dk dt_put 23 rfl) mk_7 ml_7 h7 ?_
  rw [← ex8]
  refine T_aload_n 0 (dk dt_put 24 rfl) rfl rfl ?_
  refine T_dup (dk dt_put 25 rfl) rfl ?_
  refine T_getI 0 3 (dk dt_put 26 rfl) fl_342 mk_0 ml_0 (by decide) rfl ?_
  refine T_iconst (v := 1) (dk dt_put 27 rfl) (by decide +kernel) ?_
  refine T_iadd (dk dt_put 28 rfl) ?_
  obtain ⟨x9, ex9⟩ : ∃ z, z = si x8 0 3 ((x8.1 0 3) + 1) := ⟨_, rfl⟩
  have h := h x9 ex9
  refine T_putI 0 3 (dk dt_put 29 rfl) fl_342 mk_0 ml_0 (by decide) rfl ⟨rfl, rfl⟩ ?_
  rw [← ex9]
  exact MT_vret (dk dt_put 30 rfl) rfl h
