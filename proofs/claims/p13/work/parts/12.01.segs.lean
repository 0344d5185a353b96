set_option maxRecDepth 100000 in
theorem dt_step : dck cX12_step [(0, .aload_n 0, 1), (1, .getfield 366, 3), (4, .ifCond .le 4, 3), (7, .return_, 1), (8, .aload_n 0, 1), (9, .getfield 372, 3), (12, .sipush 700, 3), (15, .if_icmp .ne 13, 3), (18, .aload_n 0, 1), (19, .iconst 3, 1), (20, .aload_n 0, 1), (21, .getfield 372, 3), (24, .invokevirtual 375, 3), (27, .return_, 1), (28, .aload_n 0, 1), (29, .dup, 1), (30, .getfield 372, 3), (33, .iconst 1, 1), (34, .iadd, 1), (35, .putfield 372, 3), (38, .return_, 1)] = true := by decide +kernel
set_option maxRecDepth 100000 in
set_option maxHeartbeats 4000000 in
theorem sg_step_0 {G : mG} {d : Nat} {x : gd} {P : Option gv → gd → Prop} 
    (h : (((x.1 0 9) ≤ (0 : Int32) → ((¬ ((x.1 0 8) = (700 : Int32)) → (∀ x3 : gd, x3 = si x 0 8 ((x.1 0 8) + 1) → P none x3)) ∧ ((x.1 0 8) = (700 : Int32) → MT G d z_fault 0 [(0, vr 0), (1, vi 3), (2, vi (x.1 0 8))] [] x (rv (fun x4 => P none x4))))) ∧ (¬ ((x.1 0 9) ≤ (0 : Int32)) → P none x))) :
    MT G (d + 1) z_step 0 [(0, vr 0)] [] x P := by
  refine T_aload_n 0 (dk dt_step 0 rfl) rfl rfl ?_
  refine T_getI 0 9 (dk dt_step 1 rfl) fl_366 mk_0 ml_0 (by decide) rfl ?_
  refine T_if_le 8 (dk dt_step 2 rfl) (by decide) (fun c1 => ?_) (fun c1 => ?_)
  · have h := h.1 c1
    refine T_aload_n 0 (dk dt_step 4 rfl) rfl rfl ?_
    refine T_getI 0 8 (dk dt_step 5 rfl) fl_372 mk_0 ml_0 (by decide) rfl ?_
    refine T_sipush (v := 700) (dk dt_step 6 rfl) (by decide +kernel) ?_
    refine T_icmp_ne 28 (dk dt_step 7 rfl) (by decide) (fun c2 => ?_) (fun c2 => ?_)
    · have h := h.1 c2
      refine T_aload_n 0 (dk dt_step 14 rfl) rfl rfl ?_
      refine T_dup (dk dt_step 15 rfl) rfl ?_
      refine T_getI 0 8 (dk dt_step 16 rfl) fl_372 mk_0 ml_0 (by decide) rfl ?_
      refine T_iconst (v := 1) (dk dt_step 17 rfl) (by decide +kernel) ?_
      refine T_iadd (dk dt_step 18 rfl) ?_
      obtain ⟨x3, ex3⟩ : ∃ z, z = si x 0 8 ((x.1 0 8) + 1) := ⟨_, rfl⟩
      have h := h x3 ex3
      refine T_putI 0 8 (dk dt_step 19 rfl) fl_372 mk_0 ml_0 (by decide) rfl ⟨rfl, rfl⟩ ?_
      rw [← ex3]
      exact MT_vret (dk dt_step 20 rfl) rfl h
    · have h := h.2 c2
      refine T_aload_n 0 (dk dt_step 8 rfl) rfl rfl ?_
      refine T_iconst (v := 3) (dk dt_step 9 rfl) (by decide +kernel) ?_
      refine T_aload_n 0 (dk dt_step 10 rfl) rfl rfl ?_
      refine T_getI 0 8 (dk dt_step 11 rfl) fl_372 mk_0 ml_0 (by decide) rfl ?_
      refine MT_callVv [vi 3, vi (x.1 0 8)] [] rfl (dk dt_step 12 rfl) cv_375 rfl rfl (Nat.le_of_ble_eq_true rfl) (Nat.le_of_ble_eq_true rfl) rfl rfl h (fun x4 h => ?_)
      exact MT_vret (dk dt_step 13 rfl) rfl h
  · have h := h.2 c1
    exact MT_vret (dk dt_step 3 rfl) rfl h
set_option maxRecDepth 100000 in
theorem dt_pass : dck cX12_pass [(0, .aload_n 0, 1), (1, .getfield 366, 3), (4, .ifCond .le 4, 3), (7, .return_, 1), (8, .aload_n 0, 1), (9, .getfield 13, 3), (12, .aload_n 0, 1), (13, .getfield 372, 3), (16, .iaload, 1), (17, .iload_n 1, 1), (18, .if_icmp .eq 13, 3), (21, .aload_n 0, 1), (22, .iconst 2, 1), (23, .aload_n 0, 1), (24, .getfield 372, 3), (27, .invokevirtual 375, 3), (30, .return_, 1), (31, .aload_n 0, 1), (32, .invokevirtual 379, 3), (35, .return_, 1)] = true := by decide +kernel
set_option maxRecDepth 100000 in
set_option maxHeartbeats 4000000 in
theorem sg_pass_0 {G : mG} {d : Nat} {x : gd} {P : Option gv → gd → Prop} (l1 : Int32)
    (h : (((x.1 0 9) ≤ (0 : Int32) → vp_in (x.1 0 8) 710 ∧ (((x.1 5 (x.1 0 8 : Int32).toNatClampNeg) = l1 → MT G d z_step 0 [(0, vr 0)] [] x (rv (fun x4 => P none x4))) ∧ (¬ ((x.1 5 (x.1 0 8 : Int32).toNatClampNeg) = l1) → MT G d z_fault 0 [(0, vr 0), (1, vi 2), (2, vi (x.1 0 8))] [] x (rv (fun x5 => P none x5))))) ∧ (¬ ((x.1 0 9) ≤ (0 : Int32)) → P none x))) :
    MT G (d + 1) z_pass 0 [(0, vr 0), (1, vi l1)] [] x P := by
  refine T_aload_n 0 (dk dt_pass 0 rfl) rfl rfl ?_
  refine T_getI 0 9 (dk dt_pass 1 rfl) fl_366 mk_0 ml_0 (by decide) rfl ?_
  refine T_if_le 8 (dk dt_pass 2 rfl) (by decide) (fun c1 => ?_) (fun c1 => ?_)
  · have h := h.1 c1
    refine T_aload_n 0 (dk dt_pass 4 rfl) rfl rfl ?_
    refine T_getR 0 4 5 (dk dt_pass 5 rfl) fl_13 mk_0 ml_0 (by decide) rfl rfl ?_
    refine T_aload_n 0 (dk dt_pass 6 rfl) rfl rfl ?_
    refine T_getI 0 8 (dk dt_pass 7 rfl) fl_372 mk_0 ml_0 (by decide) rfl ?_
    obtain ⟨h2, h⟩ := h
    refine T_iald 5 710 (dk dt_pass 8 rfl) mk_5 ml_5 h2 ?_
    refine T_iload_n 1 (dk dt_pass 9 rfl) rfl rfl ?_
    refine T_icmp_eq 31 (dk dt_pass 10 rfl) (by decide) (fun c3 => ?_) (fun c3 => ?_)
    · have h := h.1 c3
      refine T_aload_n 0 (dk dt_pass 17 rfl) rfl rfl ?_
      refine MT_callVv [] [] rfl (dk dt_pass 18 rfl) cv_379 rfl rfl (Nat.le_of_ble_eq_true rfl) (Nat.le_of_ble_eq_true rfl) rfl rfl h (fun x4 h => ?_)
      exact MT_vret (dk dt_pass 19 rfl) rfl h
    · have h := h.2 c3
      refine T_aload_n 0 (dk dt_pass 11 rfl) rfl rfl ?_
      refine T_iconst (v := 2) (dk dt_pass 12 rfl) (by decide +kernel) ?_
      refine T_aload_n 0 (dk dt_pass 13 rfl) rfl rfl ?_
      refine T_getI 0 8 (dk dt_pass 14 rfl) fl_372 mk_0 ml_0 (by decide) rfl ?_
      refine MT_callVv [vi 2, vi (x.1 0 8)] [] rfl (dk dt_pass 15 rfl) cv_375 rfl rfl (Nat.le_of_ble_eq_true rfl) (Nat.le_of_ble_eq_true rfl) rfl rfl h (fun x5 h => ?_)
      exact MT_vret (dk dt_pass 16 rfl) rfl h
  · have h := h.2 c1
    exact MT_vret (dk dt_pass 3 rfl) rfl h
set_option maxRecDepth 100000 in
theorem dt_take : dck cX12_take [(0, .aload_n 0, 1), (1, .getfield 366, 3), (4, .ifCond .gt 16, 3), (7, .aload_n 0, 1), (8, .getfield 13, 3), (11, .aload_n 0, 1), (12, .getfield 372, 3), (15, .iaload, 1), (16, .iload_n 1, 1), (17, .if_icmp .eq 5, 3), (20, .iconst 0, 1), (21, .ireturn, 1), (22, .aload_n 0, 1), (23, .invokevirtual 379, 3), (26, .iconst 1, 1), (27, .ireturn, 1)] = true := by decide +kernel
set_option maxRecDepth 100000 in
set_option maxHeartbeats 4000000 in
theorem sg_take_0 {G : mG} {d : Nat} {x : gd} {P : Option gv → gd → Prop} (l1 : Int32)
    (h : (((0 : Int32) < (x.1 0 9) → P (some (vi 0)) x) ∧ (¬ ((0 : Int32) < (x.1 0 9)) → vp_in (x.1 0 8) 710 ∧ (((x.1 5 (x.1 0 8 : Int32).toNatClampNeg) = l1 → MT G d z_step 0 [(0, vr 0)] [] x (rv (fun x4 => P (some (vi 1)) x4))) ∧ (¬ ((x.1 5 (x.1 0 8 : Int32).toNatClampNeg) = l1) → P (some (vi 0)) x))))) :
    MT G (d + 1) z_take 0 [(0, vr 0), (1, vi l1)] [] x P := by
  refine T_aload_n 0 (dk dt_take 0 rfl) rfl rfl ?_
  refine T_getI 0 9 (dk dt_take 1 rfl) fl_366 mk_0 ml_0 (by decide) rfl ?_
  refine T_if_gt 20 (dk dt_take 2 rfl) (by decide) (fun c1 => ?_) (fun c1 => ?_)
  · have h := h.1 c1
    refine T_iconst (v := 0) (dk dt_take 10 rfl) (by decide +kernel) ?_
    exact MT_iret (dk dt_take 11 rfl) rfl rfl h
  · have h := h.2 c1
    refine T_aload_n 0 (dk dt_take 3 rfl) rfl rfl ?_
    refine T_getR 0 4 5 (dk dt_take 4 rfl) fl_13 mk_0 ml_0 (by decide) rfl rfl ?_
    refine T_aload_n 0 (dk dt_take 5 rfl) rfl rfl ?_
    refine T_getI 0 8 (dk dt_take 6 rfl) fl_372 mk_0 ml_0 (by decide) rfl ?_
    obtain ⟨h2, h⟩ := h
    refine T_iald 5 710 (dk dt_take 7 rfl) mk_5 ml_5 h2 ?_
    refine T_iload_n 1 (dk dt_take 8 rfl) rfl rfl ?_
    refine T_icmp_eq 22 (dk dt_take 9 rfl) (by decide) (fun c3 => ?_) (fun c3 => ?_)
    · have h := h.1 c3
      refine T_aload_n 0 (dk dt_take 12 rfl) rfl rfl ?_
      refine MT_callVv [] [] rfl (dk dt_take 13 rfl) cv_379 rfl rfl (Nat.le_of_ble_eq_true rfl) (Nat.le_of_ble_eq_true rfl) rfl rfl h (fun x4 h => ?_)
      refine T_iconst (v := 1) (dk dt_take 14 rfl) (by decide +kernel) ?_
      exact MT_iret (dk dt_take 15 rfl) rfl rfl h
    · have h := h.2 c3
      refine T_iconst (v := 0) (dk dt_take 10 rfl) (by decide +kernel) ?_
      exact MT_iret (dk dt_take 11 rfl) rfl rfl h
set_option maxRecDepth 100000 in
theorem dt_passName : dck cX12_passName [(0, .aload_n 0, 1), (1, .getfield 372, 3), (4, .istore_n 1, 1), (5, .aload_n 0, 1), (6, .iconst 1, 1), (7, .invokevirtual 382, 3), (10, .iload_n 1, 1), (11, .ireturn, 1)] = true := by decide +kernel
set_option maxRecDepth 100000 in
set_option maxHeartbeats 4000000 in
theorem sg_passName_0 {G : mG} {d : Nat} {x : gd} {P : Option gv → gd → Prop} 
    (h : MT G d z_pass 0 [(0, vr 0), (1, vi 1)] [] x (rv (fun x1 => P (some (vi (x.1 0 8))) x1))) :
    MT G (d + 1) z_passName 0 [(0, vr 0)] [] x P := by
  refine T_aload_n 0 (dk dt_passName 0 rfl) rfl rfl ?_
  refine T_getI 0 8 (dk dt_passName 1 rfl) fl_372 mk_0 ml_0 (by decide) rfl ?_
  refine T_istore_n (lv2 := [(1, vi (x.1 0 8)), (0, vr 0)]) (dk dt_passName 2 rfl) rfl (by decide) rfl ?_
  refine T_aload_n 1 (dk dt_passName 3 rfl) rfl rfl ?_
  refine T_iconst (v := 1) (dk dt_passName 4 rfl) (by decide +kernel) ?_
  refine MT_callVv [vi 1] [] rfl (dk dt_passName 5 rfl) cv_382 rfl rfl (Nat.le_of_ble_eq_true rfl) (Nat.le_of_ble_eq_true rfl) rfl rfl h (fun x1 h => ?_)
  refine T_iload_n 0 (dk dt_passName 6 rfl) rfl rfl ?_
  exact MT_iret (dk dt_passName 7 rfl) rfl rfl h
set_option maxRecDepth 100000 in
theorem dt_deeper : dck cX12_deeper [(0, .aload_n 0, 1), (1, .getfield 366, 3), (4, .ifCond .ne 21, 3), (7, .aload_n 0, 1), (8, .getfield 386, 3), (11, .bipush 16, 2), (13, .if_icmp .ne 12, 3), (16, .aload_n 0, 1), (17, .iconst 3, 1), (18, .aload_n 0, 1), (19, .getfield 372, 3), (22, .invokevirtual 375, 3), (25, .aload_n 0, 1), (26, .dup, 1), (27, .getfield 386, 3), (30, .iconst 1, 1), (31, .iadd, 1), (32, .putfield 386, 3), (35, .aload_n 0, 1), (36, .getfield 366, 3), (39, .ifCond .ne 7, 3), (42, .iconst 1, 1), (43, .goto 4, 3), (46, .iconst 0, 1), (47, .ireturn, 1)] = true := by decide +kernel
set_option maxRecDepth 100000 in
set_option maxHeartbeats 4000000 in
theorem sg_deeper_0 {G : mG} {d : Nat} {x : gd} {P : Option gv → gd → Prop} 
    (h : ((¬ ((x.1 0 9) = (0 : Int32)) → MT G (d + 1) z_deeper 25 [(0, vr 0)] [] x P) ∧ ((x.1 0 9) = (0 : Int32) → ((¬ ((x.1 0 20) = (16 : Int32)) → MT G (d + 1) z_deeper 25 [(0, vr 0)] [] x P) ∧ ((x.1 0 20) = (16 : Int32) → MT G d z_fault 0 [(0, vr 0), (1, vi 3), (2, vi (x.1 0 8))] [] x (rv (fun x3 => MT G (d + 1) z_deeper 25 [(0, vr 0)] [] x3 P))))))) :
    MT G (d + 1) z_deeper 0 [(0, vr 0)] [] x P := by
  refine T_aload_n 0 (dk dt_deeper 0 rfl) rfl rfl ?_
  refine T_getI 0 9 (dk dt_deeper 1 rfl) fl_366 mk_0 ml_0 (by decide) rfl ?_
  refine T_if_ne 25 (dk dt_deeper 2 rfl) (by decide) (fun c1 => ?_) (fun c1 => ?_)
  · have h := h.1 c1
    exact h
  · have h := h.2 c1
    refine T_aload_n 0 (dk dt_deeper 3 rfl) rfl rfl ?_
    refine T_getI 0 20 (dk dt_deeper 4 rfl) fl_386 mk_0 ml_0 (by decide) rfl ?_
    refine T_bipush (v := 16) (dk dt_deeper 5 rfl) (by decide +kernel) ?_
    refine T_icmp_ne 25 (dk dt_deeper 6 rfl) (by decide) (fun c2 => ?_) (fun c2 => ?_)
    · have h := h.1 c2
      exact h
    · have h := h.2 c2
      refine T_aload_n 0 (dk dt_deeper 7 rfl) rfl rfl ?_
      refine T_iconst (v := 3) (dk dt_deeper 8 rfl) (by decide +kernel) ?_
      refine T_aload_n 0 (dk dt_deeper 9 rfl) rfl rfl ?_
      refine T_getI 0 8 (dk dt_deeper 10 rfl) fl_372 mk_0 ml_0 (by decide) rfl ?_
      refine MT_callVv [vi 3, vi (x.1 0 8)] [] rfl (dk dt_deeper 11 rfl) cv_375 rfl rfl (Nat.le_of_ble_eq_true rfl) (Nat.le_of_ble_eq_true rfl) rfl rfl h (fun x3 h => ?_)
      exact h
set_option maxRecDepth 100000 in
set_option maxHeartbeats 4000000 in
theorem sg_deeper_25 {G : mG} {d : Nat} {x : gd} {P : Option gv → gd → Prop} 
    (h : (∀ x1 : gd, x1 = si x 0 20 ((x.1 0 20) + 1) → ((¬ ((x1.1 0 9) = (0 : Int32)) → P (some (vi 0)) x1) ∧ ((x1.1 0 9) = (0 : Int32) → P (some (vi 1)) x1)))) :
    MT G (d + 1) z_deeper 25 [(0, vr 0)] [] x P := by
  refine T_aload_n 0 (dk dt_deeper 12 rfl) rfl rfl ?_
  refine T_dup (dk dt_deeper 13 rfl) rfl ?_
  refine T_getI 0 20 (dk dt_deeper 14 rfl) fl_386 mk_0 ml_0 (by decide) rfl ?_
  refine T_iconst (v := 1) (dk dt_deeper 15 rfl) (by decide +kernel) ?_
  refine T_iadd (dk dt_deeper 16 rfl) ?_
  obtain ⟨x1, ex1⟩ : ∃ z, z = si x 0 20 ((x.1 0 20) + 1) := ⟨_, rfl⟩
  have h := h x1 ex1
  refine T_putI 0 20 (dk dt_deeper 17 rfl) fl_386 mk_0 ml_0 (by decide) rfl ⟨rfl, rfl⟩ ?_
  rw [← ex1]
  refine T_aload_n 0 (dk dt_deeper 18 rfl) rfl rfl ?_
  refine T_getI 0 9 (dk dt_deeper 19 rfl) fl_366 mk_0 ml_0 (by decide) rfl ?_
  refine T_if_ne 46 (dk dt_deeper 20 rfl) (by decide) (fun c2 => ?_) (fun c2 => ?_)
  · have h := h.1 c2
    refine T_iconst (v := 0) (dk dt_deeper 23 rfl) (by decide +kernel) ?_
    exact MT_iret (dk dt_deeper 24 rfl) rfl rfl h
  · have h := h.2 c2
    refine T_iconst (v := 1) (dk dt_deeper 21 rfl) (by decide +kernel) ?_
    refine T_goto 47 (dk dt_deeper 22 rfl) (by decide) ?_
    exact MT_iret (dk dt_deeper 24 rfl) rfl rfl h
set_option maxRecDepth 100000 in
theorem dt_beginsE : dck cX12_beginsE [(0, .aload_n 0, 1), (1, .invokevirtual 389, 3), (4, .istore_n 2, 1), (5, .iload_n 2, 1), (6, .iconst 2, 1), (7, .if_icmp .eq 36, 3), (10, .iload_n 2, 1), (11, .bipush 32, 2), (13, .if_icmp .ne 7, 3), (16, .iload_n 1, 1), (17, .ifCond .eq 26, 3), (20, .iload_n 2, 1), (21, .iconst 1, 1), (22, .if_icmp .eq 21, 3), (25, .iload_n 2, 1), (26, .bipush 61, 2), (28, .if_icmp .eq 15, 3), (31, .iload_n 2, 1), (32, .bipush 29, 2), (34, .if_icmp .eq 9, 3), (37, .iload_n 2, 1), (38, .bipush 58, 2), (40, .if_icmp .ne 7, 3), (43, .iconst 1, 1), (44, .goto 4, 3), (47, .iconst 0, 1), (48, .ireturn, 1)] = true := by decide +kernel
set_option maxRecDepth 100000 in
set_option maxHeartbeats 4000000 in
theorem sg_beginsE_0 {G : mG} {d : Nat} {x : gd} {P : Option gv → gd → Prop} (l1 : Int32)
    (h : MT G d z_here 0 [(0, vr 0)] [] x (ri (fun r2 x1 => ((r2 = (2 : Int32) → P (some (vi 1)) x1) ∧ (¬ (r2 = (2 : Int32)) → ((¬ (r2 = (32 : Int32)) → MT G (d + 1) z_beginsE 20 [(0, vr 0), (2, vi r2)] [] x1 P) ∧ (r2 = (32 : Int32) → ((l1 = (0 : Int32) → P (some (vi 1)) x1) ∧ (¬ (l1 = (0 : Int32)) → MT G (d + 1) z_beginsE 20 [(0, vr 0), (2, vi r2)] [] x1 P))))))))) :
    MT G (d + 1) z_beginsE 0 [(0, vr 0), (1, vi l1)] [] x P := by
  refine T_aload_n 0 (dk dt_beginsE 0 rfl) rfl rfl ?_
  refine MT_callVi [] [] rfl (dk dt_beginsE 1 rfl) cv_389 rfl rfl (Nat.le_of_ble_eq_true rfl) (Nat.le_of_ble_eq_true rfl) rfl rfl h (fun r2 x1 h => ?_)
  refine T_istore_n (lv2 := [(2, vi r2), (0, vr 0), (1, vi l1)]) (dk dt_beginsE 2 rfl) rfl (by decide) rfl ?_
  refine T_iload_n 0 (dk dt_beginsE 3 rfl) rfl rfl ?_
  refine T_iconst (v := 2) (dk dt_beginsE 4 rfl) (by decide +kernel) ?_
  refine T_icmp_eq 43 (dk dt_beginsE 5 rfl) (by decide) (fun c3 => ?_) (fun c3 => ?_)
  · have h := h.1 c3
    refine T_iconst (v := 1) (dk dt_beginsE 23 rfl) (by decide +kernel) ?_
    refine T_goto 48 (dk dt_beginsE 24 rfl) (by decide) ?_
    exact MT_iret (dk dt_beginsE 26 rfl) rfl rfl h
  · have h := h.2 c3
    refine T_iload_n 0 (dk dt_beginsE 6 rfl) rfl rfl ?_
    refine T_bipush (v := 32) (dk dt_beginsE 7 rfl) (by decide +kernel) ?_
    refine T_icmp_ne 20 (dk dt_beginsE 8 rfl) (by decide) (fun c4 => ?_) (fun c4 => ?_)
    · have h := h.1 c4
      exact T_sub [1, 0] rfl h
    · have h := h.2 c4
      refine T_iload_n 2 (dk dt_beginsE 9 rfl) rfl rfl ?_
      refine T_if_eq 43 (dk dt_beginsE 10 rfl) (by decide) (fun c5 => ?_) (fun c5 => ?_)
      · have h := h.1 c5
        refine T_iconst (v := 1) (dk dt_beginsE 23 rfl) (by decide +kernel) ?_
        refine T_goto 48 (dk dt_beginsE 24 rfl) (by decide) ?_
        exact MT_iret (dk dt_beginsE 26 rfl) rfl rfl h
      · have h := h.2 c5
        exact T_sub [1, 0] rfl h
set_option maxRecDepth 100000 in
set_option maxHeartbeats 4000000 in
theorem sg_beginsE_20 {G : mG} {d : Nat} {x : gd} {P : Option gv → gd → Prop} (l2 : Int32)
    (h : ((l2 = (1 : Int32) → P (some (vi 1)) x) ∧ (¬ (l2 = (1 : Int32)) → ((l2 = (61 : Int32) → P (some (vi 1)) x) ∧ (¬ (l2 = (61 : Int32)) → ((l2 = (29 : Int32) → P (some (vi 1)) x) ∧ (¬ (l2 = (29 : Int32)) → ((¬ (l2 = (58 : Int32)) → P (some (vi 0)) x) ∧ (l2 = (58 : Int32) → P (some (vi 1)) x))))))))) :
    MT G (d + 1) z_beginsE 20 [(0, vr 0), (2, vi l2)] [] x P := by
  refine T_iload_n 1 (dk dt_beginsE 11 rfl) rfl rfl ?_
  refine T_iconst (v := 1) (dk dt_beginsE 12 rfl) (by decide +kernel) ?_
  refine T_icmp_eq 43 (dk dt_beginsE 13 rfl) (by decide) (fun c1 => ?_) (fun c1 => ?_)
  · have h := h.1 c1
    refine T_iconst (v := 1) (dk dt_beginsE 23 rfl) (by decide +kernel) ?_
    refine T_goto 48 (dk dt_beginsE 24 rfl) (by decide) ?_
    exact MT_iret (dk dt_beginsE 26 rfl) rfl rfl h
  · have h := h.2 c1
    refine T_iload_n 1 (dk dt_beginsE 14 rfl) rfl rfl ?_
    refine T_bipush (v := 61) (dk dt_beginsE 15 rfl) (by decide +kernel) ?_
    refine T_icmp_eq 43 (dk dt_beginsE 16 rfl) (by decide) (fun c2 => ?_) (fun c2 => ?_)
    · have h := h.1 c2
      refine T_iconst (v := 1) (dk dt_beginsE 23 rfl) (by decide +kernel) ?_
      refine T_goto 48 (dk dt_beginsE 24 rfl) (by decide) ?_
      exact MT_iret (dk dt_beginsE 26 rfl) rfl rfl h
    · have h := h.2 c2
      refine T_iload_n 1 (dk dt_beginsE 17 rfl) rfl rfl ?_
      refine T_bipush (v := 29) (dk dt_beginsE 18 rfl) (by decide +kernel) ?_
      refine T_icmp_eq 43 (dk dt_beginsE 19 rfl) (by decide) (fun c3 => ?_) (fun c3 => ?_)
      · have h := h.1 c3
        refine T_iconst (v := 1) (dk dt_beginsE 23 rfl) (by decide +kernel) ?_
        refine T_goto 48 (dk dt_beginsE 24 rfl) (by decide) ?_
        exact MT_iret (dk dt_beginsE 26 rfl) rfl rfl h
      · have h := h.2 c3
        refine T_iload_n 1 (dk dt_beginsE 20 rfl) rfl rfl ?_
        refine T_bipush (v := 58) (dk dt_beginsE 21 rfl) (by decide +kernel) ?_
        refine T_icmp_ne 47 (dk dt_beginsE 22 rfl) (by decide) (fun c4 => ?_) (fun c4 => ?_)
        · have h := h.1 c4
          refine T_iconst (v := 0) (dk dt_beginsE 25 rfl) (by decide +kernel) ?_
          exact MT_iret (dk dt_beginsE 26 rfl) rfl rfl h
        · have h := h.2 c4
          refine T_iconst (v := 1) (dk dt_beginsE 23 rfl) (by decide +kernel) ?_
          refine T_goto 48 (dk dt_beginsE 24 rfl) (by decide) ?_
          exact MT_iret (dk dt_beginsE 26 rfl) rfl rfl h
set_option maxRecDepth 100000 in
theorem dt_strength : dck cX12_strength [(0, .iload_n 0, 1), (1, .bipush 30, 2), (3, .if_icmp .ne 7, 3), (6, .iconst 1, 1), (7, .goto 67, 3), (10, .iload_n 0, 1), (11, .bipush 12, 2), (13, .if_icmp .ne 7, 3), (16, .iconst 2, 1), (17, .goto 57, 3), (20, .iload_n 0, 1), (21, .bipush 51, 2), (23, .bipush 56, 2), (25, .invokestatic 322, 3), (28, .ifCond .eq 7, 3), (31, .iconst 3, 1), (32, .goto 42, 3), (35, .iload_n 0, 1), (36, .bipush 57, 2), (38, .if_icmp .eq 9, 3), (41, .iload_n 0, 1), (42, .bipush 58, 2), (44, .if_icmp .ne 7, 3), (47, .iconst 4, 1), (48, .goto 26, 3), (51, .iload_n 0, 1), (52, .bipush 59, 2), (54, .if_icmp .eq 15, 3), (57, .iload_n 0, 1), (58, .bipush 60, 2), (60, .if_icmp .eq 9, 3), (63, .iload_n 0, 1), (64, .bipush 28, 2), (66, .if_icmp .ne 7, 3), (69, .iconst 5, 1), (70, .goto 4, 3), (73, .iconst 0, 1), (74, .ireturn, 1)] = true := by decide +kernel
set_option maxRecDepth 100000 in
set_option maxHeartbeats 4000000 in
theorem sg_strength_0 {G : mG} {d : Nat} {x : gd} {P : Option gv → gd → Prop} (l0 : Int32)
    (h : ((¬ (l0 = (30 : Int32)) → ((¬ (l0 = (12 : Int32)) → MT G d z_in 0 [(0, vi l0), (1, vi 51), (2, vi 56)] [] x (ri (fun r4 x3 => ((r4 = (0 : Int32) → ((l0 = (57 : Int32) → P (some (vi 4)) x3) ∧ (¬ (l0 = (57 : Int32)) → ((¬ (l0 = (58 : Int32)) → ((l0 = (59 : Int32) → P (some (vi 5)) x3) ∧ (¬ (l0 = (59 : Int32)) → ((l0 = (60 : Int32) → P (some (vi 5)) x3) ∧ (¬ (l0 = (60 : Int32)) → ((¬ (l0 = (28 : Int32)) → P (some (vi 0)) x3) ∧ (l0 = (28 : Int32) → P (some (vi 5)) x3))))))) ∧ (l0 = (58 : Int32) → P (some (vi 4)) x3))))) ∧ (¬ (r4 = (0 : Int32)) → P (some (vi 3)) x3))))) ∧ (l0 = (12 : Int32) → P (some (vi 2)) x))) ∧ (l0 = (30 : Int32) → P (some (vi 1)) x))) :
    MT G (d + 1) z_strength 0 [(0, vi l0)] [] x P := by
  refine T_iload_n 0 (dk dt_strength 0 rfl) rfl rfl ?_
  refine T_bipush (v := 30) (dk dt_strength 1 rfl) (by decide +kernel) ?_
  refine T_icmp_ne 10 (dk dt_strength 2 rfl) (by decide) (fun c1 => ?_) (fun c1 => ?_)
  · have h := h.1 c1
    refine T_iload_n 0 (dk dt_strength 5 rfl) rfl rfl ?_
    refine T_bipush (v := 12) (dk dt_strength 6 rfl) (by decide +kernel) ?_
    refine T_icmp_ne 20 (dk dt_strength 7 rfl) (by decide) (fun c2 => ?_) (fun c2 => ?_)
    · have h := h.1 c2
      refine T_iload_n 0 (dk dt_strength 10 rfl) rfl rfl ?_
      refine T_bipush (v := 51) (dk dt_strength 11 rfl) (by decide +kernel) ?_
      refine T_bipush (v := 56) (dk dt_strength 12 rfl) (by decide +kernel) ?_
      refine MT_callSi [vi l0, vi 51, vi 56] [] rfl (dk dt_strength 13 rfl) cs_322 rfl (Nat.le_of_ble_eq_true rfl) (Nat.le_of_ble_eq_true rfl) rfl rfl h (fun r4 x3 h => ?_)
      refine T_if_eq 35 (dk dt_strength 14 rfl) (by decide) (fun c5 => ?_) (fun c5 => ?_)
      · have h := h.1 c5
        refine T_iload_n 0 (dk dt_strength 17 rfl) rfl rfl ?_
        refine T_bipush (v := 57) (dk dt_strength 18 rfl) (by decide +kernel) ?_
        refine T_icmp_eq 47 (dk dt_strength 19 rfl) (by decide) (fun c6 => ?_) (fun c6 => ?_)
        · have h := h.1 c6
          refine T_iconst (v := 4) (dk dt_strength 23 rfl) (by decide +kernel) ?_
          refine T_goto 74 (dk dt_strength 24 rfl) (by decide) ?_
          exact MT_iret (dk dt_strength 37 rfl) rfl rfl h
        · have h := h.2 c6
          refine T_iload_n 0 (dk dt_strength 20 rfl) rfl rfl ?_
          refine T_bipush (v := 58) (dk dt_strength 21 rfl) (by decide +kernel) ?_
          refine T_icmp_ne 51 (dk dt_strength 22 rfl) (by decide) (fun c7 => ?_) (fun c7 => ?_)
          · have h := h.1 c7
            refine T_iload_n 0 (dk dt_strength 25 rfl) rfl rfl ?_
            refine T_bipush (v := 59) (dk dt_strength 26 rfl) (by decide +kernel) ?_
            refine T_icmp_eq 69 (dk dt_strength 27 rfl) (by decide) (fun c8 => ?_) (fun c8 => ?_)
            · have h := h.1 c8
              refine T_iconst (v := 5) (dk dt_strength 34 rfl) (by decide +kernel) ?_
              refine T_goto 74 (dk dt_strength 35 rfl) (by decide) ?_
              exact MT_iret (dk dt_strength 37 rfl) rfl rfl h
            · have h := h.2 c8
              refine T_iload_n 0 (dk dt_strength 28 rfl) rfl rfl ?_
              refine T_bipush (v := 60) (dk dt_strength 29 rfl) (by decide +kernel) ?_
              refine T_icmp_eq 69 (dk dt_strength 30 rfl) (by decide) (fun c9 => ?_) (fun c9 => ?_)
              · have h := h.1 c9
                refine T_iconst (v := 5) (dk dt_strength 34 rfl) (by decide +kernel) ?_
                refine T_goto 74 (dk dt_strength 35 rfl) (by decide) ?_
                exact MT_iret (dk dt_strength 37 rfl) rfl rfl h
              · have h := h.2 c9
                refine T_iload_n 0 (dk dt_strength 31 rfl) rfl rfl ?_
                refine T_bipush (v := 28) (dk dt_strength 32 rfl) (by decide +kernel) ?_
                refine T_icmp_ne 73 (dk dt_strength 33 rfl) (by decide) (fun c10 => ?_) (fun c10 => ?_)
                · have h := h.1 c10
                  refine T_iconst (v := 0) (dk dt_strength 36 rfl) (by decide +kernel) ?_
                  exact MT_iret (dk dt_strength 37 rfl) rfl rfl h
                · have h := h.2 c10
                  refine T_iconst (v := 5) (dk dt_strength 34 rfl) (by decide +kernel) ?_
                  refine T_goto 74 (dk dt_strength 35 rfl) (by decide) ?_
                  exact MT_iret (dk dt_strength 37 rfl) rfl rfl h
          · have h := h.2 c7
            refine T_iconst (v := 4) (dk dt_strength 23 rfl) (by decide +kernel) ?_
            refine T_goto 74 (dk dt_strength 24 rfl) (by decide) ?_
            exact MT_iret (dk dt_strength 37 rfl) rfl rfl h
      · have h := h.2 c5
        refine T_iconst (v := 3) (dk dt_strength 15 rfl) (by decide +kernel) ?_
        refine T_goto 74 (dk dt_strength 16 rfl) (by decide) ?_
        exact MT_iret (dk dt_strength 37 rfl) rfl rfl h
    · have h := h.2 c2
      refine T_iconst (v := 2) (dk dt_strength 8 rfl) (by decide +kernel) ?_
      refine T_goto 74 (dk dt_strength 9 rfl) (by decide) ?_
      exact MT_iret (dk dt_strength 37 rfl) rfl rfl h
  · have h := h.2 c1
    refine T_iconst (v := 1) (dk dt_strength 3 rfl) (by decide +kernel) ?_
    refine T_goto 74 (dk dt_strength 4 rfl) (by decide) ?_
    exact MT_iret (dk dt_strength 37 rfl) rfl rfl h
set_option maxRecDepth 100000 in
theorem dt_readE : dck cX12_readE [(0, .aload_n 0, 1), (1, .getfield 366, 3), (4, .ifCond .ne 20, 3), (7, .aload_n 0, 1), (8, .iload_n 2, 1), (9, .invokevirtual 392, 3), (12, .ifCond .ne 12, 3), (15, .aload_n 0, 1), (16, .iconst 2, 1), (17, .aload_n 0, 1), (18, .getfield 372, 3), (21, .invokevirtual 375, 3), (24, .aload_n 0, 1), (25, .getfield 366, 3), (28, .ifCond .gt 10, 3), (31, .aload_n 0, 1), (32, .invokevirtual 396, 3), (35, .ifCond .ne 5, 3), (38, .iconst 0, 1), (39, .ireturn, 1), (40, .aload_n 0, 1), (41, .getfield 372, 3), (44, .istore 4, 2), (46, .aload_n 0, 1), (47, .invokevirtual 389, 3), (50, .bipush 29, 2), (52, .if_icmp .eq 12, 3), (55, .aload_n 0, 1), (56, .invokevirtual 389, 3), (59, .bipush 58, 2), (61, .if_icmp .ne 36, 3), (64, .aload_n 0, 1), (65, .invokevirtual 379, 3), (68, .aload_n 0, 1), (69, .iconst 5, 1), (70, .iload_n 2, 1), (71, .invokevirtual 400, 3), (74, .istore 5, 2), (76, .aload_n 0, 1), (77, .iconst 5, 1), (78, .aload_n 0, 1), (79, .getfield 13, 3), (82, .iload 4, 2), (84, .iaload, 1), (85, .iload 5, 2), (87, .iconst 0, 1), (88, .iload 4, 2), (90, .invokevirtual 404, 3), (93, .istore_n 3, 1), (94, .goto 9, 3), (97, .aload_n 0, 1), (98, .iload_n 2, 1), (99, .invokevirtual 408, 3), (102, .istore_n 3, 1), (103, .aload_n 0, 1), (104, .getfield 366, 3), (107, .ifCond .ne 63, 3), (110, .aload_n 0, 1), (111, .invokevirtual 389, 3), (114, .invokestatic 412, 3), (117, .iload_n 1, 1), (118, .if_icmp .le 52, 3), (121, .aload_n 0, 1), (122, .getfield 372, 3), (125, .istore 5, 2), (127, .aload_n 0, 1), (128, .invokevirtual 379, 3), (131, .aload_n 0, 1), (132, .aload_n 0, 1), (133, .getfield 13, 3), (136, .iload 5, 2), (138, .iaload, 1), (139, .invokestatic 412, 3), (142, .iload_n 2, 1), (143, .invokevirtual 400, 3), (146, .istore 6, 2), (148, .aload_n 0, 1), (149, .bipush 6, 2), (151, .aload_n 0, 1), (152, .getfield 13, 3), (155, .iload 5, 2), (157, .iaload, 1), (158, .iload_n 3, 1), (159, .iload 6, 2), (161, .iload 5, 2), (163, .invokevirtual 404, 3), (166, .istore_n 3, 1), (167, .goto (-64), 3), (170, .aload_n 0, 1), (171, .dup, 1), (172, .getfield 386, 3), (175, .iconst 1, 1), (176, .isub, 1), (177, .putfield 386, 3), (180, .iload_n 3, 1), (181, .ireturn, 1)] = true := by decide +kernel
set_option maxRecDepth 100000 in
set_option maxHeartbeats 4000000 in
theorem sg_readE_0 {G : mG} {d : Nat} {x : gd} {P : Option gv → gd → Prop} (l1 : Int32) (l2 : Int32)
    (h : ((¬ ((x.1 0 9) = (0 : Int32)) → MT G (d + 1) z_readE 24 [(0, vr 0), (1, vi l1), (2, vi l2)] [] x P) ∧ ((x.1 0 9) = (0 : Int32) → MT G d z_beginsE 0 [(0, vr 0), (1, vi l2)] [] x (ri (fun r3 x2 => ((¬ (r3 = (0 : Int32)) → MT G (d + 1) z_readE 24 [(0, vr 0), (1, vi l1), (2, vi l2)] [] x2 P) ∧ (r3 = (0 : Int32) → MT G d z_fault 0 [(0, vr 0), (1, vi 2), (2, vi (x2.1 0 8))] [] x2 (rv (fun x5 => MT G (d + 1) z_readE 24 [(0, vr 0), (1, vi l1), (2, vi l2)] [] x5 P))))))))) :
    MT G (d + 1) z_readE 0 [(0, vr 0), (1, vi l1), (2, vi l2)] [] x P := by
  refine T_aload_n 0 (dk dt_readE 0 rfl) rfl rfl ?_
  refine T_getI 0 9 (dk dt_readE 1 rfl) fl_366 mk_0 ml_0 (by decide) rfl ?_
  refine T_if_ne 24 (dk dt_readE 2 rfl) (by decide) (fun c1 => ?_) (fun c1 => ?_)
  · have h := h.1 c1
    exact h
  · have h := h.2 c1
    refine T_aload_n 0 (dk dt_readE 3 rfl) rfl rfl ?_
    refine T_iload_n 2 (dk dt_readE 4 rfl) rfl rfl ?_
    refine MT_callVi [vi l2] [] rfl (dk dt_readE 5 rfl) cv_392 rfl rfl (Nat.le_of_ble_eq_true rfl) (Nat.le_of_ble_eq_true rfl) rfl rfl h (fun r3 x2 h => ?_)
    refine T_if_ne 24 (dk dt_readE 6 rfl) (by decide) (fun c4 => ?_) (fun c4 => ?_)
    · have h := h.1 c4
      exact h
    · have h := h.2 c4
      refine T_aload_n 0 (dk dt_readE 7 rfl) rfl rfl ?_
      refine T_iconst (v := 2) (dk dt_readE 8 rfl) (by decide +kernel) ?_
      refine T_aload_n 0 (dk dt_readE 9 rfl) rfl rfl ?_
      refine T_getI 0 8 (dk dt_readE 10 rfl) fl_372 mk_0 ml_0 (by decide) rfl ?_
      refine MT_callVv [vi 2, vi (x2.1 0 8)] [] rfl (dk dt_readE 11 rfl) cv_375 rfl rfl (Nat.le_of_ble_eq_true rfl) (Nat.le_of_ble_eq_true rfl) rfl rfl h (fun x5 h => ?_)
      exact h
set_option maxRecDepth 100000 in
set_option maxHeartbeats 4000000 in
theorem sg_readE_24 {G : mG} {d : Nat} {x : gd} {P : Option gv → gd → Prop} (l1 : Int32) (l2 : Int32)
    (h : (((0 : Int32) < (x.1 0 9) → P (some (vi 0)) x) ∧ (¬ ((0 : Int32) < (x.1 0 9)) → MT G d z_deeper 0 [(0, vr 0)] [] x (ri (fun r3 x2 => ((¬ (r3 = (0 : Int32)) → MT G d z_here 0 [(0, vr 0)] [] x2 (ri (fun r6 x5 => ((r6 = (29 : Int32) → MT G (d + 1) z_readE 64 [(0, vr 0), (1, vi l1), (2, vi l2), (4, vi (x2.1 0 8))] [] x5 P) ∧ (¬ (r6 = (29 : Int32)) → MT G d z_here 0 [(0, vr 0)] [] x5 (ri (fun r9 x8 => ((¬ (r9 = (58 : Int32)) → MT G d z_readOperand 0 [(0, vr 0), (1, vi l2)] [] x8 (ri (fun r12 x11 => MT G (d + 1) z_readE 103 [(0, vr 0), (1, vi l1), (2, vi l2), (3, vi r12)] [] x11 P))) ∧ (r9 = (58 : Int32) → MT G (d + 1) z_readE 64 [(0, vr 0), (1, vi l1), (2, vi l2), (4, vi (x2.1 0 8))] [] x8 P))))))))) ∧ (r3 = (0 : Int32) → P (some (vi 0)) x2))))))) :
    MT G (d + 1) z_readE 24 [(0, vr 0), (1, vi l1), (2, vi l2)] [] x P := by
  refine T_aload_n 0 (dk dt_readE 12 rfl) rfl rfl ?_
  refine T_getI 0 9 (dk dt_readE 13 rfl) fl_366 mk_0 ml_0 (by decide) rfl ?_
  refine T_if_gt 38 (dk dt_readE 14 rfl) (by decide) (fun c1 => ?_) (fun c1 => ?_)
  · have h := h.1 c1
    refine T_iconst (v := 0) (dk dt_readE 18 rfl) (by decide +kernel) ?_
    exact MT_iret (dk dt_readE 19 rfl) rfl rfl h
  · have h := h.2 c1
    refine T_aload_n 0 (dk dt_readE 15 rfl) rfl rfl ?_
    refine MT_callVi [] [] rfl (dk dt_readE 16 rfl) cv_396 rfl rfl (Nat.le_of_ble_eq_true rfl) (Nat.le_of_ble_eq_true rfl) rfl rfl h (fun r3 x2 h => ?_)
    refine T_if_ne 40 (dk dt_readE 17 rfl) (by decide) (fun c4 => ?_) (fun c4 => ?_)
    · have h := h.1 c4
      refine T_aload_n 0 (dk dt_readE 20 rfl) rfl rfl ?_
      refine T_getI 0 8 (dk dt_readE 21 rfl) fl_372 mk_0 ml_0 (by decide) rfl ?_
      refine T_istore (lv2 := [(4, vi (x2.1 0 8)), (0, vr 0), (1, vi l1), (2, vi l2)]) (dk dt_readE 22 rfl) (by decide) rfl ?_
      refine T_aload_n 1 (dk dt_readE 23 rfl) rfl rfl ?_
      refine MT_callVi [] [] rfl (dk dt_readE 24 rfl) cv_389 rfl rfl (Nat.le_of_ble_eq_true rfl) (Nat.le_of_ble_eq_true rfl) rfl rfl h (fun r6 x5 h => ?_)
      refine T_bipush (v := 29) (dk dt_readE 25 rfl) (by decide +kernel) ?_
      refine T_icmp_eq 64 (dk dt_readE 26 rfl) (by decide) (fun c7 => ?_) (fun c7 => ?_)
      · have h := h.1 c7
        exact T_sub [1, 2, 3, 0] rfl h
      · have h := h.2 c7
        refine T_aload_n 1 (dk dt_readE 27 rfl) rfl rfl ?_
        refine MT_callVi [] [] rfl (dk dt_readE 28 rfl) cv_389 rfl rfl (Nat.le_of_ble_eq_true rfl) (Nat.le_of_ble_eq_true rfl) rfl rfl h (fun r9 x8 h => ?_)
        refine T_bipush (v := 58) (dk dt_readE 29 rfl) (by decide +kernel) ?_
        refine T_icmp_ne 97 (dk dt_readE 30 rfl) (by decide) (fun c10 => ?_) (fun c10 => ?_)
        · have h := h.1 c10
          refine T_aload_n 1 (dk dt_readE 50 rfl) rfl rfl ?_
          refine T_iload_n 3 (dk dt_readE 51 rfl) rfl rfl ?_
          refine MT_callVi [vi l2] [] rfl (dk dt_readE 52 rfl) cv_408 rfl rfl (Nat.le_of_ble_eq_true rfl) (Nat.le_of_ble_eq_true rfl) rfl rfl h (fun r12 x11 h => ?_)
          refine T_istore_n (lv2 := [(3, vi r12), (4, vi (x2.1 0 8)), (0, vr 0), (1, vi l1), (2, vi l2)]) (dk dt_readE 53 rfl) rfl (by decide) rfl ?_
          exact T_sub [2, 3, 4, 0] rfl h
        · have h := h.2 c10
          exact T_sub [1, 2, 3, 0] rfl h
    · have h := h.2 c4
      refine T_iconst (v := 0) (dk dt_readE 18 rfl) (by decide +kernel) ?_
      exact MT_iret (dk dt_readE 19 rfl) rfl rfl h
set_option maxRecDepth 100000 in
set_option maxHeartbeats 4000000 in
theorem sg_readE_64 {G : mG} {d : Nat} {x : gd} {P : Option gv → gd → Prop} (l1 : Int32) (l2 : Int32) (l4 : Int32)
    (h : MT G d z_step 0 [(0, vr 0)] [] x (rv (fun x1 => MT G d z_readE 0 [(0, vr 0), (1, vi 5), (2, vi l2)] [] x1 (ri (fun r3 x2 => vp_in l4 710 ∧ MT G d z_node 0 [(0, vr 0), (1, vi 5), (2, vi (x2.1 5 (l4 : Int32).toNatClampNeg)), (3, vi r3), (4, vi 0), (5, vi l4)] [] x2 (ri (fun r6 x5 => MT G (d + 1) z_readE 103 [(0, vr 0), (1, vi l1), (2, vi l2), (3, vi r6)] [] x5 P))))))) :
    MT G (d + 1) z_readE 64 [(0, vr 0), (1, vi l1), (2, vi l2), (4, vi l4)] [] x P := by
  refine T_aload_n 0 (dk dt_readE 31 rfl) rfl rfl ?_
  refine MT_callVv [] [] rfl (dk dt_readE 32 rfl) cv_379 rfl rfl (Nat.le_of_ble_eq_true rfl) (Nat.le_of_ble_eq_true rfl) rfl rfl h (fun x1 h => ?_)
  refine T_aload_n 0 (dk dt_readE 33 rfl) rfl rfl ?_
  refine T_iconst (v := 5) (dk dt_readE 34 rfl) (by decide +kernel) ?_
  refine T_iload_n 2 (dk dt_readE 35 rfl) rfl rfl ?_
  refine MT_callVi [vi 5, vi l2] [] rfl (dk dt_readE 36 rfl) cv_400 rfl rfl (Nat.le_of_ble_eq_true rfl) (Nat.le_of_ble_eq_true rfl) rfl rfl h (fun r3 x2 h => ?_)
  refine T_istore (lv2 := [(5, vi r3), (0, vr 0), (1, vi l1), (2, vi l2), (4, vi l4)]) (dk dt_readE 37 rfl) (by decide) rfl ?_
  refine T_aload_n 1 (dk dt_readE 38 rfl) rfl rfl ?_
  refine T_iconst (v := 5) (dk dt_readE 39 rfl) (by decide +kernel) ?_
  refine T_aload_n 1 (dk dt_readE 40 rfl) rfl rfl ?_
  refine T_getR 0 4 5 (dk dt_readE 41 rfl) fl_13 mk_0 ml_0 (by decide) rfl rfl ?_
  refine T_iload 4 (dk dt_readE 42 rfl) rfl ?_
  obtain ⟨h4, h⟩ := h
  refine T_iald 5 710 (dk dt_readE 43 rfl) mk_5 ml_5 h4 ?_
  refine T_iload 0 (dk dt_readE 44 rfl) rfl ?_
  refine T_iconst (v := 0) (dk dt_readE 45 rfl) (by decide +kernel) ?_
  refine T_iload 4 (dk dt_readE 46 rfl) rfl ?_
  refine MT_callVi [vi 5, vi (x2.1 5 (l4 : Int32).toNatClampNeg), vi r3, vi 0, vi l4] [] rfl (dk dt_readE 47 rfl) cv_404 rfl rfl (Nat.le_of_ble_eq_true rfl) (Nat.le_of_ble_eq_true rfl) rfl rfl h (fun r6 x5 h => ?_)
  refine T_istore_n (lv2 := [(3, vi r6), (5, vi r3), (0, vr 0), (1, vi l1), (2, vi l2), (4, vi l4)]) (dk dt_readE 48 rfl) rfl (by decide) rfl ?_
  refine T_goto 103 (dk dt_readE 49 rfl) (by decide) ?_
  exact T_sub [2, 3, 4, 0] rfl h
set_option maxRecDepth 100000 in
set_option maxHeartbeats 4000000 in
theorem sg_readE_103 {G : mG} {d : Nat} {x : gd} {P : Option gv → gd → Prop} (l1 : Int32) (l2 : Int32) (l3 : Int32)
    (h : ((¬ ((x.1 0 9) = (0 : Int32)) → (∀ x2 : gd, x2 = si x 0 20 ((x.1 0 20) - 1) → P (some (vi l3)) x2)) ∧ ((x.1 0 9) = (0 : Int32) → MT G d z_here 0 [(0, vr 0)] [] x (ri (fun r4 x3 => MT G d z_strength 0 [(0, vi r4)] [] x3 (ri (fun r6 x5 => ((r6 ≤ l1 → (∀ x8 : gd, x8 = si x5 0 20 ((x5.1 0 20) - 1) → P (some (vi l3)) x8)) ∧ (¬ (r6 ≤ l1) → MT G d z_step 0 [(0, vr 0)] [] x5 (rv (fun x9 => vp_in (x5.1 0 8) 710 ∧ MT G d z_strength 0 [(0, vi (x9.1 5 (x5.1 0 8 : Int32).toNatClampNeg))] [] x9 (ri (fun r12 x11 => MT G d z_readE 0 [(0, vr 0), (1, vi r12), (2, vi l2)] [] x11 (ri (fun r14 x13 => vp_in (x5.1 0 8) 710 ∧ MT G d z_node 0 [(0, vr 0), (1, vi 6), (2, vi (x13.1 5 (x5.1 0 8 : Int32).toNatClampNeg)), (3, vi l3), (4, vi r14), (5, vi (x5.1 0 8))] [] x13 (ri (fun r17 x16 => MT G (d + 1) z_readE 103 [(0, vr 0), (1, vi l1), (2, vi l2), (3, vi r17)] [] x16 P))))))))))))))))) :
    MT G (d + 1) z_readE 103 [(0, vr 0), (1, vi l1), (2, vi l2), (3, vi l3)] [] x P := by
  refine T_aload_n 0 (dk dt_readE 54 rfl) rfl rfl ?_
  refine T_getI 0 9 (dk dt_readE 55 rfl) fl_366 mk_0 ml_0 (by decide) rfl ?_
  refine T_if_ne 170 (dk dt_readE 56 rfl) (by decide) (fun c1 => ?_) (fun c1 => ?_)
  · have h := h.1 c1
    refine T_aload_n 0 (dk dt_readE 88 rfl) rfl rfl ?_
    refine T_dup (dk dt_readE 89 rfl) rfl ?_
    refine T_getI 0 20 (dk dt_readE 90 rfl) fl_386 mk_0 ml_0 (by decide) rfl ?_
    refine T_iconst (v := 1) (dk dt_readE 91 rfl) (by decide +kernel) ?_
    refine T_isub (dk dt_readE 92 rfl) ?_
    obtain ⟨x2, ex2⟩ : ∃ z, z = si x 0 20 ((x.1 0 20) - 1) := ⟨_, rfl⟩
    have h := h x2 ex2
    refine T_putI 0 20 (dk dt_readE 93 rfl) fl_386 mk_0 ml_0 (by decide) rfl ⟨rfl, rfl⟩ ?_
    rw [← ex2]
    refine T_iload_n 3 (dk dt_readE 94 rfl) rfl rfl ?_
    exact MT_iret (dk dt_readE 95 rfl) rfl rfl h
  · have h := h.2 c1
    refine T_aload_n 0 (dk dt_readE 57 rfl) rfl rfl ?_
    refine MT_callVi [] [] rfl (dk dt_readE 58 rfl) cv_389 rfl rfl (Nat.le_of_ble_eq_true rfl) (Nat.le_of_ble_eq_true rfl) rfl rfl h (fun r4 x3 h => ?_)
    refine MT_callSi [vi r4] [] rfl (dk dt_readE 59 rfl) cs_412 rfl (Nat.le_of_ble_eq_true rfl) (Nat.le_of_ble_eq_true rfl) rfl rfl h (fun r6 x5 h => ?_)
    refine T_iload_n 1 (dk dt_readE 60 rfl) rfl rfl ?_
    refine T_icmp_le 170 (dk dt_readE 61 rfl) (by decide) (fun c7 => ?_) (fun c7 => ?_)
    · have h := h.1 c7
      refine T_aload_n 0 (dk dt_readE 88 rfl) rfl rfl ?_
      refine T_dup (dk dt_readE 89 rfl) rfl ?_
      refine T_getI 0 20 (dk dt_readE 90 rfl) fl_386 mk_0 ml_0 (by decide) rfl ?_
      refine T_iconst (v := 1) (dk dt_readE 91 rfl) (by decide +kernel) ?_
      refine T_isub (dk dt_readE 92 rfl) ?_
      obtain ⟨x8, ex8⟩ : ∃ z, z = si x5 0 20 ((x5.1 0 20) - 1) := ⟨_, rfl⟩
      have h := h x8 ex8
      refine T_putI 0 20 (dk dt_readE 93 rfl) fl_386 mk_0 ml_0 (by decide) rfl ⟨rfl, rfl⟩ ?_
      rw [← ex8]
      refine T_iload_n 3 (dk dt_readE 94 rfl) rfl rfl ?_
      exact MT_iret (dk dt_readE 95 rfl) rfl rfl h
    · have h := h.2 c7
      refine T_aload_n 0 (dk dt_readE 62 rfl) rfl rfl ?_
      refine T_getI 0 8 (dk dt_readE 63 rfl) fl_372 mk_0 ml_0 (by decide) rfl ?_
      refine T_istore (lv2 := [(5, vi (x5.1 0 8)), (0, vr 0), (1, vi l1), (2, vi l2), (3, vi l3)]) (dk dt_readE 64 rfl) (by decide) rfl ?_
      refine T_aload_n 1 (dk dt_readE 65 rfl) rfl rfl ?_
      refine MT_callVv [] [] rfl (dk dt_readE 66 rfl) cv_379 rfl rfl (Nat.le_of_ble_eq_true rfl) (Nat.le_of_ble_eq_true rfl) rfl rfl h (fun x9 h => ?_)
      refine T_aload_n 1 (dk dt_readE 67 rfl) rfl rfl ?_
      refine T_aload_n 1 (dk dt_readE 68 rfl) rfl rfl ?_
      refine T_getR 0 4 5 (dk dt_readE 69 rfl) fl_13 mk_0 ml_0 (by decide) rfl rfl ?_
      refine T_iload 0 (dk dt_readE 70 rfl) rfl ?_
      obtain ⟨h10, h⟩ := h
      refine T_iald 5 710 (dk dt_readE 71 rfl) mk_5 ml_5 h10 ?_
      refine MT_callSi [vi (x9.1 5 (x5.1 0 8 : Int32).toNatClampNeg)] [vr 0] rfl (dk dt_readE 72 rfl) cs_412 rfl (Nat.le_of_ble_eq_true rfl) (Nat.le_of_ble_eq_true rfl) rfl rfl h (fun r12 x11 h => ?_)
      refine T_iload_n 3 (dk dt_readE 73 rfl) rfl rfl ?_
      refine MT_callVi [vi r12, vi l2] [] rfl (dk dt_readE 74 rfl) cv_400 rfl rfl (Nat.le_of_ble_eq_true rfl) (Nat.le_of_ble_eq_true rfl) rfl rfl h (fun r14 x13 h => ?_)
      refine T_istore (lv2 := [(6, vi r14), (5, vi (x5.1 0 8)), (0, vr 0), (1, vi l1), (2, vi l2), (3, vi l3)]) (dk dt_readE 75 rfl) (by decide) rfl ?_
      refine T_aload_n 2 (dk dt_readE 76 rfl) rfl rfl ?_
      refine T_bipush (v := 6) (dk dt_readE 77 rfl) (by decide +kernel) ?_
      refine T_aload_n 2 (dk dt_readE 78 rfl) rfl rfl ?_
      refine T_getR 0 4 5 (dk dt_readE 79 rfl) fl_13 mk_0 ml_0 (by decide) rfl rfl ?_
      refine T_iload 1 (dk dt_readE 80 rfl) rfl ?_
      obtain ⟨h15, h⟩ := h
      refine T_iald 5 710 (dk dt_readE 81 rfl) mk_5 ml_5 h15 ?_
      refine T_iload_n 5 (dk dt_readE 82 rfl) rfl rfl ?_
      refine T_iload 0 (dk dt_readE 83 rfl) rfl ?_
      refine T_iload 1 (dk dt_readE 84 rfl) rfl ?_
      refine MT_callVi [vi 6, vi (x13.1 5 (x5.1 0 8 : Int32).toNatClampNeg), vi l3, vi r14, vi (x5.1 0 8)] [] rfl (dk dt_readE 85 rfl) cv_404 rfl rfl (Nat.le_of_ble_eq_true rfl) (Nat.le_of_ble_eq_true rfl) rfl rfl h (fun r17 x16 h => ?_)
      refine T_istore_n (lv2 := [(3, vi r17), (6, vi r14), (5, vi (x5.1 0 8)), (0, vr 0), (1, vi l1), (2, vi l2)]) (dk dt_readE 86 rfl) rfl (by decide) rfl ?_
      refine T_goto 103 (dk dt_readE 87 rfl) (by decide) ?_
      exact T_sub [3, 4, 5, 0] rfl h
set_option maxRecDepth 100000 in
theorem dt_readOperand : dck cX12_readOperand [(0, .aload_n 0, 1), (1, .getfield 372, 3), (4, .istore_n 2, 1), (5, .aload_n 0, 1), (6, .invokevirtual 389, 3), (9, .lookupswitch 104 #[(2, 35), (32, 54), (61, 68)], 35), (44, .aload_n 0, 1), (45, .invokevirtual 379, 3), (48, .aload_n 0, 1), (49, .iconst 1, 1), (50, .aload_n 0, 1), (51, .getfield 20, 3), (54, .iload_n 2, 1), (55, .iaload, 1), (56, .iconst 0, 1), (57, .iconst 0, 1), (58, .iload_n 2, 1), (59, .invokevirtual 404, 3), (62, .ireturn, 1), (63, .aload_n 0, 1), (64, .invokevirtual 379, 3), (67, .aload_n 0, 1), (68, .iconst 2, 1), (69, .iconst 0, 1), (70, .iconst 0, 1), (71, .iconst 0, 1), (72, .iload_n 2, 1), (73, .invokevirtual 404, 3), (76, .ireturn, 1), (77, .aload_n 0, 1), (78, .invokevirtual 379, 3), (81, .aload_n 0, 1), (82, .iconst 0, 1), (83, .iload_n 1, 1), (84, .invokevirtual 400, 3), (87, .istore_n 3, 1), (88, .aload_n 0, 1), (89, .bipush 62, 2), (91, .invokevirtual 382, 3), (94, .iload_n 3, 1), (95, .ifCond .ge 7, 3), (98, .iload_n 3, 1), (99, .goto 13, 3), (102, .aload_n 0, 1), (103, .iconst 5, 1), (104, .bipush 61, 2), (106, .iload_n 3, 1), (107, .iconst 0, 1), (108, .iload_n 2, 1), (109, .invokevirtual 404, 3), (112, .ireturn, 1), (113, .aload_n 0, 1), (114, .iconst 1, 1), (115, .invokevirtual 382, 3), (118, .iload_n 1, 1), (119, .ifCond .eq 40, 3), (122, .aload_n 0, 1), (123, .bipush 65, 2), (125, .invokevirtual 415, 3), (128, .ifCond .eq 31, 3), (131, .aload_n 0, 1), (132, .getfield 372, 3), (135, .istore 4, 2), (137, .aload_n 0, 1), (138, .iconst 2, 1), (139, .invokevirtual 382, 3), (142, .aload_n 0, 1), (143, .bipush 66, 2), (145, .invokevirtual 382, 3), (148, .aload_n 0, 1), (149, .iconst 4, 1), (150, .iload 4, 2), (152, .iconst 0, 1), (153, .iconst 0, 1), (154, .iload_n 2, 1), (155, .invokevirtual 404, 3), (158, .ireturn, 1), (159, .aload_n 0, 1), (160, .iconst 3, 1), (161, .iconst 0, 1), (162, .iconst 0, 1), (163, .iconst 0, 1), (164, .iload_n 2, 1), (165, .invokevirtual 404, 3), (168, .ireturn, 1)] = true := by decide +kernel
set_option maxRecDepth 100000 in
set_option maxHeartbeats 4000000 in
theorem sg_readOperand_0 {G : mG} {d : Nat} {x : gd} {P : Option gv → gd → Prop} (l1 : Int32)
    (h : MT G d z_here 0 [(0, vr 0)] [] x (ri (fun r2 x1 => (((r2 = 2) → MT G d z_step 0 [(0, vr 0)] [] x1 (rv (fun x4 => vp_in (x.1 0 8) 710 ∧ MT G d z_node 0 [(0, vr 0), (1, vi 1), (2, vi (x4.1 7 (x.1 0 8 : Int32).toNatClampNeg)), (3, vi 0), (4, vi 0), (5, vi (x.1 0 8))] [] x4 (ri (fun r7 x6 => P (some (vi r7)) x6))))) ∧ ((r2 = 32) → MT G d z_step 0 [(0, vr 0)] [] x1 (rv (fun x9 => MT G d z_node 0 [(0, vr 0), (1, vi 2), (2, vi 0), (3, vi 0), (4, vi 0), (5, vi (x.1 0 8))] [] x9 (ri (fun r11 x10 => P (some (vi r11)) x10))))) ∧ ((r2 = 61) → MT G d z_step 0 [(0, vr 0)] [] x1 (rv (fun x13 => MT G d z_readE 0 [(0, vr 0), (1, vi 0), (2, vi l1)] [] x13 (ri (fun r15 x14 => MT G d z_pass 0 [(0, vr 0), (1, vi 62)] [] x14 (rv (fun x16 => (((0 : Int32) ≤ r15 → MT G d z_node 0 [(0, vr 0), (1, vi 5), (2, vi 61), (3, vi r15), (4, vi 0), (5, vi (x.1 0 8))] [] x16 (ri (fun r19 x18 => P (some (vi r19)) x18))) ∧ (¬ ((0 : Int32) ≤ r15) → P (some (vi r15)) x16))))))))) ∧ ((∀ k ∈ [(2 : Int32), (32 : Int32), (61 : Int32)], ¬ r2 = k) → MT G d z_pass 0 [(0, vr 0), (1, vi 1)] [] x1 (rv (fun x21 => ((l1 = (0 : Int32) → MT G (d + 1) z_readOperand 159 [(0, vr 0), (2, vi (x.1 0 8))] [] x21 P) ∧ (¬ (l1 = (0 : Int32)) → MT G d z_take 0 [(0, vr 0), (1, vi 65)] [] x21 (ri (fun r24 x23 => ((r24 = (0 : Int32) → MT G (d + 1) z_readOperand 159 [(0, vr 0), (2, vi (x.1 0 8))] [] x23 P) ∧ (¬ (r24 = (0 : Int32)) → MT G d z_pass 0 [(0, vr 0), (1, vi 2)] [] x23 (rv (fun x26 => MT G d z_pass 0 [(0, vr 0), (1, vi 66)] [] x26 (rv (fun x27 => MT G d z_node 0 [(0, vr 0), (1, vi 4), (2, vi (x23.1 0 8)), (3, vi 0), (4, vi 0), (5, vi (x.1 0 8))] [] x27 (ri (fun r29 x28 => P (some (vi r29)) x28))))))))))))))))))) :
    MT G (d + 1) z_readOperand 0 [(0, vr 0), (1, vi l1)] [] x P := by
  refine T_aload_n 0 (dk dt_readOperand 0 rfl) rfl rfl ?_
  refine T_getI 0 8 (dk dt_readOperand 1 rfl) fl_372 mk_0 ml_0 (by decide) rfl ?_
  refine T_istore_n (lv2 := [(2, vi (x.1 0 8)), (0, vr 0), (1, vi l1)]) (dk dt_readOperand 2 rfl) rfl (by decide) rfl ?_
  refine T_aload_n 1 (dk dt_readOperand 3 rfl) rfl rfl ?_
  refine MT_callVi [] [] rfl (dk dt_readOperand 4 rfl) cv_389 rfl rfl (Nat.le_of_ble_eq_true rfl) (Nat.le_of_ble_eq_true rfl) rfl rfl h (fun r2 x1 h => ?_)
  by_cases c3 : r2 = 2
  · have h := h.1 c3
    refine T_lookup 35 44 (dk dt_readOperand 5 rfl) (by decide +kernel) (by rw [c3]; decide +kernel) (by decide) ?_
    refine T_aload_n 1 (dk dt_readOperand 6 rfl) rfl rfl ?_
    refine MT_callVv [] [] rfl (dk dt_readOperand 7 rfl) cv_379 rfl rfl (Nat.le_of_ble_eq_true rfl) (Nat.le_of_ble_eq_true rfl) rfl rfl h (fun x4 h => ?_)
    refine T_aload_n 1 (dk dt_readOperand 8 rfl) rfl rfl ?_
    refine T_iconst (v := 1) (dk dt_readOperand 9 rfl) (by decide +kernel) ?_
    refine T_aload_n 1 (dk dt_readOperand 10 rfl) rfl rfl ?_
    refine T_getR 0 6 7 (dk dt_readOperand 11 rfl) fl_20 mk_0 ml_0 (by decide) rfl rfl ?_
    refine T_iload_n 0 (dk dt_readOperand 12 rfl) rfl rfl ?_
    obtain ⟨h5, h⟩ := h
    refine T_iald 7 710 (dk dt_readOperand 13 rfl) mk_7 ml_7 h5 ?_
    refine T_iconst (v := 0) (dk dt_readOperand 14 rfl) (by decide +kernel) ?_
    refine T_iconst (v := 0) (dk dt_readOperand 15 rfl) (by decide +kernel) ?_
    refine T_iload_n 0 (dk dt_readOperand 16 rfl) rfl rfl ?_
    refine MT_callVi [vi 1, vi (x4.1 7 (x.1 0 8 : Int32).toNatClampNeg), vi 0, vi 0, vi (x.1 0 8)] [] rfl (dk dt_readOperand 17 rfl) cv_404 rfl rfl (Nat.le_of_ble_eq_true rfl) (Nat.le_of_ble_eq_true rfl) rfl rfl h (fun r7 x6 h => ?_)
    exact MT_iret (dk dt_readOperand 18 rfl) rfl rfl h
  · have h := h.2
    by_cases c8 : r2 = 32
    · have h := h.1 c8
      refine T_lookup 54 63 (dk dt_readOperand 5 rfl) (by decide +kernel) (by rw [c8]; decide +kernel) (by decide) ?_
      refine T_aload_n 1 (dk dt_readOperand 19 rfl) rfl rfl ?_
      refine MT_callVv [] [] rfl (dk dt_readOperand 20 rfl) cv_379 rfl rfl (Nat.le_of_ble_eq_true rfl) (Nat.le_of_ble_eq_true rfl) rfl rfl h (fun x9 h => ?_)
      refine T_aload_n 1 (dk dt_readOperand 21 rfl) rfl rfl ?_
      refine T_iconst (v := 2) (dk dt_readOperand 22 rfl) (by decide +kernel) ?_
      refine T_iconst (v := 0) (dk dt_readOperand 23 rfl) (by decide +kernel) ?_
      refine T_iconst (v := 0) (dk dt_readOperand 24 rfl) (by decide +kernel) ?_
      refine T_iconst (v := 0) (dk dt_readOperand 25 rfl) (by decide +kernel) ?_
      refine T_iload_n 0 (dk dt_readOperand 26 rfl) rfl rfl ?_
      refine MT_callVi [vi 2, vi 0, vi 0, vi 0, vi (x.1 0 8)] [] rfl (dk dt_readOperand 27 rfl) cv_404 rfl rfl (Nat.le_of_ble_eq_true rfl) (Nat.le_of_ble_eq_true rfl) rfl rfl h (fun r11 x10 h => ?_)
      exact MT_iret (dk dt_readOperand 28 rfl) rfl rfl h
    · have h := h.2
      by_cases c12 : r2 = 61
      · have h := h.1 c12
        refine T_lookup 68 77 (dk dt_readOperand 5 rfl) (by decide +kernel) (by rw [c12]; decide +kernel) (by decide) ?_
        refine T_aload_n 1 (dk dt_readOperand 29 rfl) rfl rfl ?_
        refine MT_callVv [] [] rfl (dk dt_readOperand 30 rfl) cv_379 rfl rfl (Nat.le_of_ble_eq_true rfl) (Nat.le_of_ble_eq_true rfl) rfl rfl h (fun x13 h => ?_)
        refine T_aload_n 1 (dk dt_readOperand 31 rfl) rfl rfl ?_
        refine T_iconst (v := 0) (dk dt_readOperand 32 rfl) (by decide +kernel) ?_
        refine T_iload_n 2 (dk dt_readOperand 33 rfl) rfl rfl ?_
        refine MT_callVi [vi 0, vi l1] [] rfl (dk dt_readOperand 34 rfl) cv_400 rfl rfl (Nat.le_of_ble_eq_true rfl) (Nat.le_of_ble_eq_true rfl) rfl rfl h (fun r15 x14 h => ?_)
        refine T_istore_n (lv2 := [(3, vi r15), (2, vi (x.1 0 8)), (0, vr 0), (1, vi l1)]) (dk dt_readOperand 35 rfl) rfl (by decide) rfl ?_
        refine T_aload_n 2 (dk dt_readOperand 36 rfl) rfl rfl ?_
        refine T_bipush (v := 62) (dk dt_readOperand 37 rfl) (by decide +kernel) ?_
        refine MT_callVv [vi 62] [] rfl (dk dt_readOperand 38 rfl) cv_382 rfl rfl (Nat.le_of_ble_eq_true rfl) (Nat.le_of_ble_eq_true rfl) rfl rfl h (fun x16 h => ?_)
        refine T_iload_n 0 (dk dt_readOperand 39 rfl) rfl rfl ?_
        refine T_if_ge 102 (dk dt_readOperand 40 rfl) (by decide) (fun c17 => ?_) (fun c17 => ?_)
        · have h := h.1 c17
          refine T_aload_n 2 (dk dt_readOperand 43 rfl) rfl rfl ?_
          refine T_iconst (v := 5) (dk dt_readOperand 44 rfl) (by decide +kernel) ?_
          refine T_bipush (v := 61) (dk dt_readOperand 45 rfl) (by decide +kernel) ?_
          refine T_iload_n 0 (dk dt_readOperand 46 rfl) rfl rfl ?_
          refine T_iconst (v := 0) (dk dt_readOperand 47 rfl) (by decide +kernel) ?_
          refine T_iload_n 1 (dk dt_readOperand 48 rfl) rfl rfl ?_
          refine MT_callVi [vi 5, vi 61, vi r15, vi 0, vi (x.1 0 8)] [] rfl (dk dt_readOperand 49 rfl) cv_404 rfl rfl (Nat.le_of_ble_eq_true rfl) (Nat.le_of_ble_eq_true rfl) rfl rfl h (fun r19 x18 h => ?_)
          exact MT_iret (dk dt_readOperand 50 rfl) rfl rfl h
        · have h := h.2 c17
          refine T_iload_n 0 (dk dt_readOperand 41 rfl) rfl rfl ?_
          refine T_goto 112 (dk dt_readOperand 42 rfl) (by decide) ?_
          exact MT_iret (dk dt_readOperand 50 rfl) rfl rfl h
      · have h := h.2
        have n20 : ∀ k ∈ [(2 : Int32), (32 : Int32), (61 : Int32)], ¬ r2 = k := (gno c3 (gno c8 (gno c12 gno0)))
        have h := h n20
        refine T_lookup 104 113 (dk dt_readOperand 5 rfl) (by decide +kernel) (glk_d [(2 : Int32), (32 : Int32), (61 : Int32)] (by decide +kernel) n20) (by decide) ?_
        refine T_aload_n 1 (dk dt_readOperand 51 rfl) rfl rfl ?_
        refine T_iconst (v := 1) (dk dt_readOperand 52 rfl) (by decide +kernel) ?_
        refine MT_callVv [vi 1] [] rfl (dk dt_readOperand 53 rfl) cv_382 rfl rfl (Nat.le_of_ble_eq_true rfl) (Nat.le_of_ble_eq_true rfl) rfl rfl h (fun x21 h => ?_)
        refine T_iload_n 2 (dk dt_readOperand 54 rfl) rfl rfl ?_
        refine T_if_eq 159 (dk dt_readOperand 55 rfl) (by decide) (fun c22 => ?_) (fun c22 => ?_)
        · have h := h.1 c22
          exact T_sub [1, 0] rfl h
        · have h := h.2 c22
          refine T_aload_n 1 (dk dt_readOperand 56 rfl) rfl rfl ?_
          refine T_bipush (v := 65) (dk dt_readOperand 57 rfl) (by decide +kernel) ?_
          refine MT_callVi [vi 65] [] rfl (dk dt_readOperand 58 rfl) cv_415 rfl rfl (Nat.le_of_ble_eq_true rfl) (Nat.le_of_ble_eq_true rfl) rfl rfl h (fun r24 x23 h => ?_)
          refine T_if_eq 159 (dk dt_readOperand 59 rfl) (by decide) (fun c25 => ?_) (fun c25 => ?_)
          · have h := h.1 c25
            exact T_sub [1, 0] rfl h
          · have h := h.2 c25
            refine T_aload_n 1 (dk dt_readOperand 60 rfl) rfl rfl ?_
            refine T_getI 0 8 (dk dt_readOperand 61 rfl) fl_372 mk_0 ml_0 (by decide) rfl ?_
            refine T_istore (lv2 := [(4, vi (x23.1 0 8)), (2, vi (x.1 0 8)), (0, vr 0), (1, vi l1)]) (dk dt_readOperand 62 rfl) (by decide) rfl ?_
            refine T_aload_n 2 (dk dt_readOperand 63 rfl) rfl rfl ?_
            refine T_iconst (v := 2) (dk dt_readOperand 64 rfl) (by decide +kernel) ?_
            refine MT_callVv [vi 2] [] rfl (dk dt_readOperand 65 rfl) cv_382 rfl rfl (Nat.le_of_ble_eq_true rfl) (Nat.le_of_ble_eq_true rfl) rfl rfl h (fun x26 h => ?_)
            refine T_aload_n 2 (dk dt_readOperand 66 rfl) rfl rfl ?_
            refine T_bipush (v := 66) (dk dt_readOperand 67 rfl) (by decide +kernel) ?_
            refine MT_callVv [vi 66] [] rfl (dk dt_readOperand 68 rfl) cv_382 rfl rfl (Nat.le_of_ble_eq_true rfl) (Nat.le_of_ble_eq_true rfl) rfl rfl h (fun x27 h => ?_)
            refine T_aload_n 2 (dk dt_readOperand 69 rfl) rfl rfl ?_
            refine T_iconst (v := 4) (dk dt_readOperand 70 rfl) (by decide +kernel) ?_
            refine T_iload 0 (dk dt_readOperand 71 rfl) rfl ?_
            refine T_iconst (v := 0) (dk dt_readOperand 72 rfl) (by decide +kernel) ?_
            refine T_iconst (v := 0) (dk dt_readOperand 73 rfl) (by decide +kernel) ?_
            refine T_iload_n 1 (dk dt_readOperand 74 rfl) rfl rfl ?_
            refine MT_callVi [vi 4, vi (x23.1 0 8), vi 0, vi 0, vi (x.1 0 8)] [] rfl (dk dt_readOperand 75 rfl) cv_404 rfl rfl (Nat.le_of_ble_eq_true rfl) (Nat.le_of_ble_eq_true rfl) rfl rfl h (fun r29 x28 h => ?_)
            exact MT_iret (dk dt_readOperand 76 rfl) rfl rfl h
set_option maxRecDepth 100000 in
set_option maxHeartbeats 4000000 in
theorem sg_readOperand_159 {G : mG} {d : Nat} {x : gd} {P : Option gv → gd → Prop} (l2 : Int32)
    (h : MT G d z_node 0 [(0, vr 0), (1, vi 3), (2, vi 0), (3, vi 0), (4, vi 0), (5, vi l2)] [] x (ri (fun r2 x1 => P (some (vi r2)) x1))) :
    MT G (d + 1) z_readOperand 159 [(0, vr 0), (2, vi l2)] [] x P := by
  refine T_aload_n 0 (dk dt_readOperand 77 rfl) rfl rfl ?_
  refine T_iconst (v := 3) (dk dt_readOperand 78 rfl) (by decide +kernel) ?_
  refine T_iconst (v := 0) (dk dt_readOperand 79 rfl) (by decide +kernel) ?_
  refine T_iconst (v := 0) (dk dt_readOperand 80 rfl) (by decide +kernel) ?_
  refine T_iconst (v := 0) (dk dt_readOperand 81 rfl) (by decide +kernel) ?_
  refine T_iload_n 1 (dk dt_readOperand 82 rfl) rfl rfl ?_
  refine MT_callVi [vi 3, vi 0, vi 0, vi 0, vi l2] [] rfl (dk dt_readOperand 83 rfl) cv_404 rfl rfl (Nat.le_of_ble_eq_true rfl) (Nat.le_of_ble_eq_true rfl) rfl rfl h (fun r2 x1 h => ?_)
  exact MT_iret (dk dt_readOperand 84 rfl) rfl rfl h
set_option maxRecDepth 100000 in
theorem dt_readPlace : dck cX12_readPlace [(0, .aload_n 0, 1), (1, .invokevirtual 418, 3), (4, .istore_n 1, 1), (5, .iconst (-1), 1), (6, .istore_n 2, 1), (7, .aload_n 0, 1), (8, .bipush 65, 2), (10, .invokevirtual 415, 3), (13, .ifCond .eq 16, 3), (16, .aload_n 0, 1), (17, .iconst 0, 1), (18, .iconst 0, 1), (19, .invokevirtual 400, 3), (22, .istore_n 2, 1), (23, .aload_n 0, 1), (24, .bipush 66, 2), (26, .invokevirtual 382, 3), (29, .aload_n 0, 1), (30, .bipush 15, 2), (32, .iload_n 2, 1), (33, .iconst 0, 1), (34, .iconst 0, 1), (35, .iload_n 1, 1), (36, .invokevirtual 404, 3), (39, .ireturn, 1)] = true := by decide +kernel
set_option maxRecDepth 100000 in
set_option maxHeartbeats 4000000 in
theorem sg_readPlace_0 {G : mG} {d : Nat} {x : gd} {P : Option gv → gd → Prop} 
    (h : MT G d z_passName 0 [(0, vr 0)] [] x (ri (fun r2 x1 => MT G d z_take 0 [(0, vr 0), (1, vi 65)] [] x1 (ri (fun r4 x3 => ((r4 = (0 : Int32) → MT G (d + 1) z_readPlace 29 [(0, vr 0), (1, vi r2), (2, vi (-1))] [] x3 P) ∧ (¬ (r4 = (0 : Int32)) → MT G d z_readE 0 [(0, vr 0), (1, vi 0), (2, vi 0)] [] x3 (ri (fun r7 x6 => MT G d z_pass 0 [(0, vr 0), (1, vi 66)] [] x6 (rv (fun x8 => MT G (d + 1) z_readPlace 29 [(0, vr 0), (1, vi r2), (2, vi r7)] [] x8 P))))))))))) :
    MT G (d + 1) z_readPlace 0 [(0, vr 0)] [] x P := by
  refine T_aload_n 0 (dk dt_readPlace 0 rfl) rfl rfl ?_
  refine MT_callVi [] [] rfl (dk dt_readPlace 1 rfl) cv_418 rfl rfl (Nat.le_of_ble_eq_true rfl) (Nat.le_of_ble_eq_true rfl) rfl rfl h (fun r2 x1 h => ?_)
  refine T_istore_n (lv2 := [(1, vi r2), (0, vr 0)]) (dk dt_readPlace 2 rfl) rfl (by decide) rfl ?_
  refine T_iconst (v := (-1)) (dk dt_readPlace 3 rfl) (by decide +kernel) ?_
  refine T_istore_n (lv2 := [(2, vi (-1)), (1, vi r2), (0, vr 0)]) (dk dt_readPlace 4 rfl) rfl (by decide) rfl ?_
  refine T_aload_n 2 (dk dt_readPlace 5 rfl) rfl rfl ?_
  refine T_bipush (v := 65) (dk dt_readPlace 6 rfl) (by decide +kernel) ?_
  refine MT_callVi [vi 65] [] rfl (dk dt_readPlace 7 rfl) cv_415 rfl rfl (Nat.le_of_ble_eq_true rfl) (Nat.le_of_ble_eq_true rfl) rfl rfl h (fun r4 x3 h => ?_)
  refine T_if_eq 29 (dk dt_readPlace 8 rfl) (by decide) (fun c5 => ?_) (fun c5 => ?_)
  · have h := h.1 c5
    exact T_sub [2, 1, 0] rfl h
  · have h := h.2 c5
    refine T_aload_n 2 (dk dt_readPlace 9 rfl) rfl rfl ?_
    refine T_iconst (v := 0) (dk dt_readPlace 10 rfl) (by decide +kernel) ?_
    refine T_iconst (v := 0) (dk dt_readPlace 11 rfl) (by decide +kernel) ?_
    refine MT_callVi [vi 0, vi 0] [] rfl (dk dt_readPlace 12 rfl) cv_400 rfl rfl (Nat.le_of_ble_eq_true rfl) (Nat.le_of_ble_eq_true rfl) rfl rfl h (fun r7 x6 h => ?_)
    refine T_istore_n (lv2 := [(2, vi r7), (1, vi r2), (0, vr 0)]) (dk dt_readPlace 13 rfl) rfl (by decide) rfl ?_
    refine T_aload_n 2 (dk dt_readPlace 14 rfl) rfl rfl ?_
    refine T_bipush (v := 66) (dk dt_readPlace 15 rfl) (by decide +kernel) ?_
    refine MT_callVv [vi 66] [] rfl (dk dt_readPlace 16 rfl) cv_382 rfl rfl (Nat.le_of_ble_eq_true rfl) (Nat.le_of_ble_eq_true rfl) rfl rfl h (fun x8 h => ?_)
    exact T_sub [2, 1, 0] rfl h
set_option maxRecDepth 100000 in
set_option maxHeartbeats 4000000 in
theorem sg_readPlace_29 {G : mG} {d : Nat} {x : gd} {P : Option gv → gd → Prop} (l1 : Int32) (l2 : Int32)
    (h : MT G d z_node 0 [(0, vr 0), (1, vi 15), (2, vi l2), (3, vi 0), (4, vi 0), (5, vi l1)] [] x (ri (fun r2 x1 => P (some (vi r2)) x1))) :
    MT G (d + 1) z_readPlace 29 [(0, vr 0), (1, vi l1), (2, vi l2)] [] x P := by
  refine T_aload_n 0 (dk dt_readPlace 17 rfl) rfl rfl ?_
  refine T_bipush (v := 15) (dk dt_readPlace 18 rfl) (by decide +kernel) ?_
  refine T_iload_n 2 (dk dt_readPlace 19 rfl) rfl rfl ?_
  refine T_iconst (v := 0) (dk dt_readPlace 20 rfl) (by decide +kernel) ?_
  refine T_iconst (v := 0) (dk dt_readPlace 21 rfl) (by decide +kernel) ?_
  refine T_iload_n 1 (dk dt_readPlace 22 rfl) rfl rfl ?_
  refine MT_callVi [vi 15, vi l2, vi 0, vi 0, vi l1] [] rfl (dk dt_readPlace 23 rfl) cv_404 rfl rfl (Nat.le_of_ble_eq_true rfl) (Nat.le_of_ble_eq_true rfl) rfl rfl h (fun r2 x1 h => ?_)
  exact MT_iret (dk dt_readPlace 24 rfl) rfl rfl h
set_option maxRecDepth 100000 in
theorem dt_readR : dck cX12_readR [(0, .aload_n 0, 1), (1, .getfield 372, 3), (4, .istore_n 1, 1), (5, .aload_n 0, 1), (6, .invokevirtual 389, 3), (9, .istore_n 2, 1), (10, .iload_n 2, 1), (11, .bipush 35, 2), (13, .if_icmp .eq 15, 3), (16, .iload_n 2, 1), (17, .bipush 10, 2), (19, .if_icmp .eq 9, 3), (22, .iload_n 2, 1), (23, .bipush 16, 2), (25, .if_icmp .ne 84, 3), (28, .aload_n 0, 1), (29, .invokevirtual 379, 3), (32, .aload_n 0, 1), (33, .invokevirtual 421, 3), (36, .istore_n 3, 1), (37, .aload_n 0, 1), (38, .bipush 68, 2), (40, .invokevirtual 382, 3), (43, .aload_n 0, 1), (44, .iconst 0, 1), (45, .iconst 0, 1), (46, .invokevirtual 400, 3), (49, .istore 4, 2), (51, .iconst (-1), 1), (52, .istore 5, 2), (54, .iload_n 2, 1), (55, .bipush 16, 2), (57, .if_icmp .ne 17, 3), (60, .aload_n 0, 1), (61, .bipush 68, 2), (63, .invokevirtual 382, 3), (66, .aload_n 0, 1), (67, .iconst 0, 1), (68, .iconst 0, 1), (69, .invokevirtual 400, 3), (72, .istore 5, 2), (74, .aload_n 0, 1), (75, .iload_n 2, 1), (76, .bipush 35, 2), (78, .if_icmp .ne 8, 3), (81, .bipush 12, 2), (83, .goto 16, 3), (86, .iload_n 2, 1), (87, .bipush 10, 2), (89, .if_icmp .ne 8, 3), (92, .bipush 13, 2), (94, .goto 5, 3), (97, .bipush 14, 2), (99, .iload_n 3, 1), (100, .iload 4, 2), (102, .iload 5, 2), (104, .iload_n 1, 1), (105, .invokevirtual 404, 3), (108, .ireturn, 1), (109, .iload_n 2, 1), (110, .iconst 1, 1), (111, .if_icmp .ne 43, 3), (114, .aload_n 0, 1), (115, .getfield 372, 3), (118, .sipush 700, 3), (121, .if_icmp .ge 33, 3), (124, .aload_n 0, 1), (125, .getfield 13, 3), (128, .aload_n 0, 1), (129, .getfield 372, 3), (132, .iconst 1, 1), (133, .iadd, 1), (134, .iaload, 1), (135, .bipush 65, 2), (137, .if_icmp .ne 17, 3), (140, .aload_n 0, 1), (141, .bipush 11, 2), (143, .aload_n 0, 1), (144, .invokevirtual 421, 3), (147, .iconst 0, 1), (148, .iconst 0, 1), (149, .iload_n 1, 1), (150, .invokevirtual 404, 3), (153, .ireturn, 1), (154, .aload_n 0, 1), (155, .iconst 0, 1), (156, .iconst 0, 1), (157, .invokevirtual 400, 3), (160, .istore_n 3, 1), (161, .aload_n 0, 1), (162, .bipush 10, 2), (164, .iload_n 3, 1), (165, .iconst 0, 1), (166, .iconst 0, 1), (167, .iload_n 1, 1), (168, .invokevirtual 404, 3), (171, .ireturn, 1)] = true := by decide +kernel
set_option maxRecDepth 100000 in
set_option maxHeartbeats 4000000 in
theorem sg_readR_0 {G : mG} {d : Nat} {x : gd} {P : Option gv → gd → Prop} 
    (h : MT G d z_here 0 [(0, vr 0)] [] x (ri (fun r2 x1 => ((r2 = (35 : Int32) → MT G (d + 1) z_readR 28 [(0, vr 0), (1, vi (x.1 0 8)), (2, vi r2)] [] x1 P) ∧ (¬ (r2 = (35 : Int32)) → ((r2 = (10 : Int32) → MT G (d + 1) z_readR 28 [(0, vr 0), (1, vi (x.1 0 8)), (2, vi r2)] [] x1 P) ∧ (¬ (r2 = (10 : Int32)) → ((¬ (r2 = (16 : Int32)) → ((¬ (r2 = (1 : Int32)) → MT G (d + 1) z_readR 154 [(0, vr 0), (1, vi (x.1 0 8))] [] x1 P) ∧ (r2 = (1 : Int32) → (((700 : Int32) ≤ (x1.1 0 8) → MT G (d + 1) z_readR 154 [(0, vr 0), (1, vi (x.1 0 8))] [] x1 P) ∧ (¬ ((700 : Int32) ≤ (x1.1 0 8)) → vp_in ((x1.1 0 8) + 1) 710 ∧ ((¬ ((x1.1 5 ((x1.1 0 8) + 1 : Int32).toNatClampNeg) = (65 : Int32)) → MT G (d + 1) z_readR 154 [(0, vr 0), (1, vi (x.1 0 8))] [] x1 P) ∧ ((x1.1 5 ((x1.1 0 8) + 1 : Int32).toNatClampNeg) = (65 : Int32) → MT G d z_readPlace 0 [(0, vr 0)] [] x1 (ri (fun r11 x10 => MT G d z_node 0 [(0, vr 0), (1, vi 11), (2, vi r11), (3, vi 0), (4, vi 0), (5, vi (x.1 0 8))] [] x10 (ri (fun r13 x12 => P (some (vi r13)) x12))))))))))) ∧ (r2 = (16 : Int32) → MT G (d + 1) z_readR 28 [(0, vr 0), (1, vi (x.1 0 8)), (2, vi r2)] [] x1 P))))))))) :
    MT G (d + 1) z_readR 0 [(0, vr 0)] [] x P := by
  refine T_aload_n 0 (dk dt_readR 0 rfl) rfl rfl ?_
  refine T_getI 0 8 (dk dt_readR 1 rfl) fl_372 mk_0 ml_0 (by decide) rfl ?_
  refine T_istore_n (lv2 := [(1, vi (x.1 0 8)), (0, vr 0)]) (dk dt_readR 2 rfl) rfl (by decide) rfl ?_
  refine T_aload_n 1 (dk dt_readR 3 rfl) rfl rfl ?_
  refine MT_callVi [] [] rfl (dk dt_readR 4 rfl) cv_389 rfl rfl (Nat.le_of_ble_eq_true rfl) (Nat.le_of_ble_eq_true rfl) rfl rfl h (fun r2 x1 h => ?_)
  refine T_istore_n (lv2 := [(2, vi r2), (1, vi (x.1 0 8)), (0, vr 0)]) (dk dt_readR 5 rfl) rfl (by decide) rfl ?_
  refine T_iload_n 0 (dk dt_readR 6 rfl) rfl rfl ?_
  refine T_bipush (v := 35) (dk dt_readR 7 rfl) (by decide +kernel) ?_
  refine T_icmp_eq 28 (dk dt_readR 8 rfl) (by decide) (fun c3 => ?_) (fun c3 => ?_)
  · have h := h.1 c3
    exact T_sub [2, 1, 0] rfl h
  · have h := h.2 c3
    refine T_iload_n 0 (dk dt_readR 9 rfl) rfl rfl ?_
    refine T_bipush (v := 10) (dk dt_readR 10 rfl) (by decide +kernel) ?_
    refine T_icmp_eq 28 (dk dt_readR 11 rfl) (by decide) (fun c4 => ?_) (fun c4 => ?_)
    · have h := h.1 c4
      exact T_sub [2, 1, 0] rfl h
    · have h := h.2 c4
      refine T_iload_n 0 (dk dt_readR 12 rfl) rfl rfl ?_
      refine T_bipush (v := 16) (dk dt_readR 13 rfl) (by decide +kernel) ?_
      refine T_icmp_ne 109 (dk dt_readR 14 rfl) (by decide) (fun c5 => ?_) (fun c5 => ?_)
      · have h := h.1 c5
        refine T_iload_n 0 (dk dt_readR 59 rfl) rfl rfl ?_
        refine T_iconst (v := 1) (dk dt_readR 60 rfl) (by decide +kernel) ?_
        refine T_icmp_ne 154 (dk dt_readR 61 rfl) (by decide) (fun c6 => ?_) (fun c6 => ?_)
        · have h := h.1 c6
          exact T_sub [2, 1] rfl h
        · have h := h.2 c6
          refine T_aload_n 2 (dk dt_readR 62 rfl) rfl rfl ?_
          refine T_getI 0 8 (dk dt_readR 63 rfl) fl_372 mk_0 ml_0 (by decide) rfl ?_
          refine T_sipush (v := 700) (dk dt_readR 64 rfl) (by decide +kernel) ?_
          refine T_icmp_ge 154 (dk dt_readR 65 rfl) (by decide) (fun c7 => ?_) (fun c7 => ?_)
          · have h := h.1 c7
            exact T_sub [2, 1] rfl h
          · have h := h.2 c7
            refine T_aload_n 2 (dk dt_readR 66 rfl) rfl rfl ?_
            refine T_getR 0 4 5 (dk dt_readR 67 rfl) fl_13 mk_0 ml_0 (by decide) rfl rfl ?_
            refine T_aload_n 2 (dk dt_readR 68 rfl) rfl rfl ?_
            refine T_getI 0 8 (dk dt_readR 69 rfl) fl_372 mk_0 ml_0 (by decide) rfl ?_
            refine T_iconst (v := 1) (dk dt_readR 70 rfl) (by decide +kernel) ?_
            refine T_iadd (dk dt_readR 71 rfl) ?_
            obtain ⟨h8, h⟩ := h
            refine T_iald 5 710 (dk dt_readR 72 rfl) mk_5 ml_5 h8 ?_
            refine T_bipush (v := 65) (dk dt_readR 73 rfl) (by decide +kernel) ?_
            refine T_icmp_ne 154 (dk dt_readR 74 rfl) (by decide) (fun c9 => ?_) (fun c9 => ?_)
            · have h := h.1 c9
              exact T_sub [2, 1] rfl h
            · have h := h.2 c9
              refine T_aload_n 2 (dk dt_readR 75 rfl) rfl rfl ?_
              refine T_bipush (v := 11) (dk dt_readR 76 rfl) (by decide +kernel) ?_
              refine T_aload_n 2 (dk dt_readR 77 rfl) rfl rfl ?_
              refine MT_callVi [] [vi 11, vr 0] rfl (dk dt_readR 78 rfl) cv_421 rfl rfl (Nat.le_of_ble_eq_true rfl) (Nat.le_of_ble_eq_true rfl) rfl rfl h (fun r11 x10 h => ?_)
              refine T_iconst (v := 0) (dk dt_readR 79 rfl) (by decide +kernel) ?_
              refine T_iconst (v := 0) (dk dt_readR 80 rfl) (by decide +kernel) ?_
              refine T_iload_n 1 (dk dt_readR 81 rfl) rfl rfl ?_
              refine MT_callVi [vi 11, vi r11, vi 0, vi 0, vi (x.1 0 8)] [] rfl (dk dt_readR 82 rfl) cv_404 rfl rfl (Nat.le_of_ble_eq_true rfl) (Nat.le_of_ble_eq_true rfl) rfl rfl h (fun r13 x12 h => ?_)
              exact MT_iret (dk dt_readR 83 rfl) rfl rfl h
      · have h := h.2 c5
        exact T_sub [2, 1, 0] rfl h
set_option maxRecDepth 100000 in
set_option maxHeartbeats 4000000 in
theorem sg_readR_28 {G : mG} {d : Nat} {x : gd} {P : Option gv → gd → Prop} (l1 : Int32) (l2 : Int32)
    (h : MT G d z_step 0 [(0, vr 0)] [] x (rv (fun x1 => MT G d z_readPlace 0 [(0, vr 0)] [] x1 (ri (fun r3 x2 => MT G d z_pass 0 [(0, vr 0), (1, vi 68)] [] x2 (rv (fun x4 => MT G d z_readE 0 [(0, vr 0), (1, vi 0), (2, vi 0)] [] x4 (ri (fun r6 x5 => ((¬ (l2 = (16 : Int32)) → MT G (d + 1) z_readR 74 [(0, vr 0), (1, vi l1), (2, vi l2), (3, vi r3), (4, vi r6), (5, vi (-1))] [] x5 P) ∧ (l2 = (16 : Int32) → MT G d z_pass 0 [(0, vr 0), (1, vi 68)] [] x5 (rv (fun x8 => MT G d z_readE 0 [(0, vr 0), (1, vi 0), (2, vi 0)] [] x8 (ri (fun r10 x9 => MT G (d + 1) z_readR 74 [(0, vr 0), (1, vi l1), (2, vi l2), (3, vi r3), (4, vi r6), (5, vi r10)] [] x9 P))))))))))))))) :
    MT G (d + 1) z_readR 28 [(0, vr 0), (1, vi l1), (2, vi l2)] [] x P := by
  refine T_aload_n 0 (dk dt_readR 15 rfl) rfl rfl ?_
  refine MT_callVv [] [] rfl (dk dt_readR 16 rfl) cv_379 rfl rfl (Nat.le_of_ble_eq_true rfl) (Nat.le_of_ble_eq_true rfl) rfl rfl h (fun x1 h => ?_)
  refine T_aload_n 0 (dk dt_readR 17 rfl) rfl rfl ?_
  refine MT_callVi [] [] rfl (dk dt_readR 18 rfl) cv_421 rfl rfl (Nat.le_of_ble_eq_true rfl) (Nat.le_of_ble_eq_true rfl) rfl rfl h (fun r3 x2 h => ?_)
  refine T_istore_n (lv2 := [(3, vi r3), (0, vr 0), (1, vi l1), (2, vi l2)]) (dk dt_readR 19 rfl) rfl (by decide) rfl ?_
  refine T_aload_n 1 (dk dt_readR 20 rfl) rfl rfl ?_
  refine T_bipush (v := 68) (dk dt_readR 21 rfl) (by decide +kernel) ?_
  refine MT_callVv [vi 68] [] rfl (dk dt_readR 22 rfl) cv_382 rfl rfl (Nat.le_of_ble_eq_true rfl) (Nat.le_of_ble_eq_true rfl) rfl rfl h (fun x4 h => ?_)
  refine T_aload_n 1 (dk dt_readR 23 rfl) rfl rfl ?_
  refine T_iconst (v := 0) (dk dt_readR 24 rfl) (by decide +kernel) ?_
  refine T_iconst (v := 0) (dk dt_readR 25 rfl) (by decide +kernel) ?_
  refine MT_callVi [vi 0, vi 0] [] rfl (dk dt_readR 26 rfl) cv_400 rfl rfl (Nat.le_of_ble_eq_true rfl) (Nat.le_of_ble_eq_true rfl) rfl rfl h (fun r6 x5 h => ?_)
  refine T_istore (lv2 := [(4, vi r6), (3, vi r3), (0, vr 0), (1, vi l1), (2, vi l2)]) (dk dt_readR 27 rfl) (by decide) rfl ?_
  refine T_iconst (v := (-1)) (dk dt_readR 28 rfl) (by decide +kernel) ?_
  refine T_istore (lv2 := [(5, vi (-1)), (4, vi r6), (3, vi r3), (0, vr 0), (1, vi l1), (2, vi l2)]) (dk dt_readR 29 rfl) (by decide) rfl ?_
  refine T_iload_n 5 (dk dt_readR 30 rfl) rfl rfl ?_
  refine T_bipush (v := 16) (dk dt_readR 31 rfl) (by decide +kernel) ?_
  refine T_icmp_ne 74 (dk dt_readR 32 rfl) (by decide) (fun c7 => ?_) (fun c7 => ?_)
  · have h := h.1 c7
    exact T_sub [3, 4, 5, 2, 1, 0] rfl h
  · have h := h.2 c7
    refine T_aload_n 3 (dk dt_readR 33 rfl) rfl rfl ?_
    refine T_bipush (v := 68) (dk dt_readR 34 rfl) (by decide +kernel) ?_
    refine MT_callVv [vi 68] [] rfl (dk dt_readR 35 rfl) cv_382 rfl rfl (Nat.le_of_ble_eq_true rfl) (Nat.le_of_ble_eq_true rfl) rfl rfl h (fun x8 h => ?_)
    refine T_aload_n 3 (dk dt_readR 36 rfl) rfl rfl ?_
    refine T_iconst (v := 0) (dk dt_readR 37 rfl) (by decide +kernel) ?_
    refine T_iconst (v := 0) (dk dt_readR 38 rfl) (by decide +kernel) ?_
    refine MT_callVi [vi 0, vi 0] [] rfl (dk dt_readR 39 rfl) cv_400 rfl rfl (Nat.le_of_ble_eq_true rfl) (Nat.le_of_ble_eq_true rfl) rfl rfl h (fun r10 x9 h => ?_)
    refine T_istore (lv2 := [(5, vi r10), (4, vi r6), (3, vi r3), (0, vr 0), (1, vi l1), (2, vi l2)]) (dk dt_readR 40 rfl) (by decide) rfl ?_
    exact T_sub [3, 4, 5, 2, 1, 0] rfl h
set_option maxRecDepth 100000 in
set_option maxHeartbeats 4000000 in
theorem sg_readR_74 {G : mG} {d : Nat} {x : gd} {P : Option gv → gd → Prop} (l1 : Int32) (l2 : Int32) (l3 : Int32) (l4 : Int32) (l5 : Int32)
    (h : ((¬ (l2 = (35 : Int32)) → ((¬ (l2 = (10 : Int32)) → MT G (d + 1) z_readR 99 [(0, vr 0), (1, vi l1), (3, vi l3), (4, vi l4), (5, vi l5)] [vi 14, vr 0] x P) ∧ (l2 = (10 : Int32) → MT G (d + 1) z_readR 99 [(0, vr 0), (1, vi l1), (3, vi l3), (4, vi l4), (5, vi l5)] [vi 13, vr 0] x P))) ∧ (l2 = (35 : Int32) → MT G (d + 1) z_readR 99 [(0, vr 0), (1, vi l1), (3, vi l3), (4, vi l4), (5, vi l5)] [vi 12, vr 0] x P))) :
    MT G (d + 1) z_readR 74 [(0, vr 0), (1, vi l1), (2, vi l2), (3, vi l3), (4, vi l4), (5, vi l5)] [] x P := by
  refine T_aload_n 0 (dk dt_readR 41 rfl) rfl rfl ?_
  refine T_iload_n 2 (dk dt_readR 42 rfl) rfl rfl ?_
  refine T_bipush (v := 35) (dk dt_readR 43 rfl) (by decide +kernel) ?_
  refine T_icmp_ne 86 (dk dt_readR 44 rfl) (by decide) (fun c1 => ?_) (fun c1 => ?_)
  · have h := h.1 c1
    refine T_iload_n 2 (dk dt_readR 47 rfl) rfl rfl ?_
    refine T_bipush (v := 10) (dk dt_readR 48 rfl) (by decide +kernel) ?_
    refine T_icmp_ne 97 (dk dt_readR 49 rfl) (by decide) (fun c2 => ?_) (fun c2 => ?_)
    · have h := h.1 c2
      refine T_bipush (v := 14) (dk dt_readR 52 rfl) (by decide +kernel) ?_
      exact T_sub [0, 1, 3, 4, 5] rfl h
    · have h := h.2 c2
      refine T_bipush (v := 13) (dk dt_readR 50 rfl) (by decide +kernel) ?_
      refine T_goto 99 (dk dt_readR 51 rfl) (by decide) ?_
      exact T_sub [0, 1, 3, 4, 5] rfl h
  · have h := h.2 c1
    refine T_bipush (v := 12) (dk dt_readR 45 rfl) (by decide +kernel) ?_
    refine T_goto 99 (dk dt_readR 46 rfl) (by decide) ?_
    exact T_sub [0, 1, 3, 4, 5] rfl h
set_option maxRecDepth 100000 in
set_option maxHeartbeats 4000000 in
theorem sg_readR_99 {G : mG} {d : Nat} {x : gd} {P : Option gv → gd → Prop} (l1 : Int32) (l3 : Int32) (l4 : Int32) (l5 : Int32) (s0 : Int32)
    (h : MT G d z_node 0 [(0, vr 0), (1, vi s0), (2, vi l3), (3, vi l4), (4, vi l5), (5, vi l1)] [] x (ri (fun r2 x1 => P (some (vi r2)) x1))) :
    MT G (d + 1) z_readR 99 [(0, vr 0), (1, vi l1), (3, vi l3), (4, vi l4), (5, vi l5)] [vi s0, vr 0] x P := by
  refine T_iload_n 2 (dk dt_readR 53 rfl) rfl rfl ?_
  refine T_iload 3 (dk dt_readR 54 rfl) rfl ?_
  refine T_iload 4 (dk dt_readR 55 rfl) rfl ?_
  refine T_iload_n 1 (dk dt_readR 56 rfl) rfl rfl ?_
  refine MT_callVi [vi s0, vi l3, vi l4, vi l5, vi l1] [] rfl (dk dt_readR 57 rfl) cv_404 rfl rfl (Nat.le_of_ble_eq_true rfl) (Nat.le_of_ble_eq_true rfl) rfl rfl h (fun r2 x1 h => ?_)
  exact MT_iret (dk dt_readR 58 rfl) rfl rfl h
set_option maxRecDepth 100000 in
set_option maxHeartbeats 4000000 in
theorem sg_readR_154 {G : mG} {d : Nat} {x : gd} {P : Option gv → gd → Prop} (l1 : Int32)
    (h : MT G d z_readE 0 [(0, vr 0), (1, vi 0), (2, vi 0)] [] x (ri (fun r2 x1 => MT G d z_node 0 [(0, vr 0), (1, vi 10), (2, vi r2), (3, vi 0), (4, vi 0), (5, vi l1)] [] x1 (ri (fun r4 x3 => P (some (vi r4)) x3))))) :
    MT G (d + 1) z_readR 154 [(0, vr 0), (1, vi l1)] [] x P := by
  refine T_aload_n 0 (dk dt_readR 84 rfl) rfl rfl ?_
  refine T_iconst (v := 0) (dk dt_readR 85 rfl) (by decide +kernel) ?_
  refine T_iconst (v := 0) (dk dt_readR 86 rfl) (by decide +kernel) ?_
  refine MT_callVi [vi 0, vi 0] [] rfl (dk dt_readR 87 rfl) cv_400 rfl rfl (Nat.le_of_ble_eq_true rfl) (Nat.le_of_ble_eq_true rfl) rfl rfl h (fun r2 x1 h => ?_)
  refine T_istore_n (lv2 := [(3, vi r2), (0, vr 0), (1, vi l1)]) (dk dt_readR 88 rfl) rfl (by decide) rfl ?_
  refine T_aload_n 1 (dk dt_readR 89 rfl) rfl rfl ?_
  refine T_bipush (v := 10) (dk dt_readR 90 rfl) (by decide +kernel) ?_
  refine T_iload_n 0 (dk dt_readR 91 rfl) rfl rfl ?_
  refine T_iconst (v := 0) (dk dt_readR 92 rfl) (by decide +kernel) ?_
  refine T_iconst (v := 0) (dk dt_readR 93 rfl) (by decide +kernel) ?_
  refine T_iload_n 2 (dk dt_readR 94 rfl) rfl rfl ?_
  refine MT_callVi [vi 10, vi r2, vi 0, vi 0, vi l1] [] rfl (dk dt_readR 95 rfl) cv_404 rfl rfl (Nat.le_of_ble_eq_true rfl) (Nat.le_of_ble_eq_true rfl) rfl rfl h (fun r4 x3 h => ?_)
  exact MT_iret (dk dt_readR 96 rfl) rfl rfl h
set_option maxRecDepth 100000 in
theorem dt_beginsS : dck cX12_beginsS [(0, .aload_n 0, 1), (1, .invokevirtual 389, 3), (4, .istore_n 1, 1), (5, .iload_n 1, 1), (6, .bipush 26, 2), (8, .if_icmp .eq 104, 3), (11, .iload_n 1, 1), (12, .iconst 1, 1), (13, .if_icmp .eq 99, 3), (16, .iload_n 1, 1), (17, .bipush 24, 2), (19, .if_icmp .eq 93, 3), (22, .iload_n 1, 1), (23, .bipush 41, 2), (25, .if_icmp .eq 87, 3), (28, .iload_n 1, 1), (29, .bipush 27, 2), (31, .if_icmp .eq 81, 3), (34, .iload_n 1, 1), (35, .bipush 36, 2), (37, .if_icmp .eq 75, 3), (40, .iload_n 1, 1), (41, .bipush 22, 2), (43, .if_icmp .eq 69, 3), (46, .iload_n 1, 1), (47, .bipush 38, 2), (49, .if_icmp .eq 63, 3), (52, .iload_n 1, 1), (53, .bipush 39, 2), (55, .if_icmp .eq 57, 3), (58, .iload_n 1, 1), (59, .bipush 40, 2), (61, .if_icmp .eq 51, 3), (64, .iload_n 1, 1), (65, .bipush 33, 2), (67, .if_icmp .eq 45, 3), (70, .iload_n 1, 1), (71, .bipush 25, 2), (73, .if_icmp .eq 39, 3), (76, .iload_n 1, 1), (77, .bipush 20, 2), (79, .if_icmp .eq 33, 3), (82, .iload_n 1, 1), (83, .bipush 31, 2), (85, .if_icmp .eq 27, 3), (88, .iload_n 1, 1), (89, .bipush 13, 2), (91, .if_icmp .eq 21, 3), (94, .iload_n 1, 1), (95, .bipush 15, 2), (97, .if_icmp .eq 15, 3), (100, .iload_n 1, 1), (101, .bipush 14, 2), (103, .if_icmp .eq 9, 3), (106, .iload_n 1, 1), (107, .bipush 19, 2), (109, .if_icmp .ne 7, 3), (112, .iconst 1, 1), (113, .goto 4, 3), (116, .iconst 0, 1), (117, .ireturn, 1)] = true := by decide +kernel
set_option maxRecDepth 100000 in
set_option maxHeartbeats 4000000 in
theorem sg_beginsS_0 {G : mG} {d : Nat} {x : gd} {P : Option gv → gd → Prop} 
    (h : MT G d z_here 0 [(0, vr 0)] [] x (ri (fun r2 x1 => ((r2 = (26 : Int32) → P (some (vi 1)) x1) ∧ (¬ (r2 = (26 : Int32)) → ((r2 = (1 : Int32) → P (some (vi 1)) x1) ∧ (¬ (r2 = (1 : Int32)) → ((r2 = (24 : Int32) → P (some (vi 1)) x1) ∧ (¬ (r2 = (24 : Int32)) → ((r2 = (41 : Int32) → P (some (vi 1)) x1) ∧ (¬ (r2 = (41 : Int32)) → ((r2 = (27 : Int32) → P (some (vi 1)) x1) ∧ (¬ (r2 = (27 : Int32)) → ((r2 = (36 : Int32) → P (some (vi 1)) x1) ∧ (¬ (r2 = (36 : Int32)) → ((r2 = (22 : Int32) → P (some (vi 1)) x1) ∧ (¬ (r2 = (22 : Int32)) → ((r2 = (38 : Int32) → P (some (vi 1)) x1) ∧ (¬ (r2 = (38 : Int32)) → ((r2 = (39 : Int32) → P (some (vi 1)) x1) ∧ (¬ (r2 = (39 : Int32)) → ((r2 = (40 : Int32) → P (some (vi 1)) x1) ∧ (¬ (r2 = (40 : Int32)) → ((r2 = (33 : Int32) → P (some (vi 1)) x1) ∧ (¬ (r2 = (33 : Int32)) → ((r2 = (25 : Int32) → P (some (vi 1)) x1) ∧ (¬ (r2 = (25 : Int32)) → ((r2 = (20 : Int32) → P (some (vi 1)) x1) ∧ (¬ (r2 = (20 : Int32)) → ((r2 = (31 : Int32) → P (some (vi 1)) x1) ∧ (¬ (r2 = (31 : Int32)) → ((r2 = (13 : Int32) → P (some (vi 1)) x1) ∧ (¬ (r2 = (13 : Int32)) → ((r2 = (15 : Int32) → P (some (vi 1)) x1) ∧ (¬ (r2 = (15 : Int32)) → ((r2 = (14 : Int32) → P (some (vi 1)) x1) ∧ (¬ (r2 = (14 : Int32)) → ((¬ (r2 = (19 : Int32)) → P (some (vi 0)) x1) ∧ (r2 = (19 : Int32) → P (some (vi 1)) x1))))))))))))))))))))))))))))))))))))))) :
    MT G (d + 1) z_beginsS 0 [(0, vr 0)] [] x P := by
  refine T_aload_n 0 (dk dt_beginsS 0 rfl) rfl rfl ?_
  refine MT_callVi [] [] rfl (dk dt_beginsS 1 rfl) cv_389 rfl rfl (Nat.le_of_ble_eq_true rfl) (Nat.le_of_ble_eq_true rfl) rfl rfl h (fun r2 x1 h => ?_)
  refine T_istore_n (lv2 := [(1, vi r2), (0, vr 0)]) (dk dt_beginsS 2 rfl) rfl (by decide) rfl ?_
  refine T_iload_n 0 (dk dt_beginsS 3 rfl) rfl rfl ?_
  refine T_bipush (v := 26) (dk dt_beginsS 4 rfl) (by decide +kernel) ?_
  refine T_icmp_eq 112 (dk dt_beginsS 5 rfl) (by decide) (fun c3 => ?_) (fun c3 => ?_)
  · have h := h.1 c3
    refine T_iconst (v := 1) (dk dt_beginsS 57 rfl) (by decide +kernel) ?_
    refine T_goto 117 (dk dt_beginsS 58 rfl) (by decide) ?_
    exact MT_iret (dk dt_beginsS 60 rfl) rfl rfl h
  · have h := h.2 c3
    refine T_iload_n 0 (dk dt_beginsS 6 rfl) rfl rfl ?_
    refine T_iconst (v := 1) (dk dt_beginsS 7 rfl) (by decide +kernel) ?_
    refine T_icmp_eq 112 (dk dt_beginsS 8 rfl) (by decide) (fun c4 => ?_) (fun c4 => ?_)
    · have h := h.1 c4
      refine T_iconst (v := 1) (dk dt_beginsS 57 rfl) (by decide +kernel) ?_
      refine T_goto 117 (dk dt_beginsS 58 rfl) (by decide) ?_
      exact MT_iret (dk dt_beginsS 60 rfl) rfl rfl h
    · have h := h.2 c4
      refine T_iload_n 0 (dk dt_beginsS 9 rfl) rfl rfl ?_
      refine T_bipush (v := 24) (dk dt_beginsS 10 rfl) (by decide +kernel) ?_
      refine T_icmp_eq 112 (dk dt_beginsS 11 rfl) (by decide) (fun c5 => ?_) (fun c5 => ?_)
      · have h := h.1 c5
        refine T_iconst (v := 1) (dk dt_beginsS 57 rfl) (by decide +kernel) ?_
        refine T_goto 117 (dk dt_beginsS 58 rfl) (by decide) ?_
        exact MT_iret (dk dt_beginsS 60 rfl) rfl rfl h
      · have h := h.2 c5
        refine T_iload_n 0 (dk dt_beginsS 12 rfl) rfl rfl ?_
        refine T_bipush (v := 41) (dk dt_beginsS 13 rfl) (by decide +kernel) ?_
        refine T_icmp_eq 112 (dk dt_beginsS 14 rfl) (by decide) (fun c6 => ?_) (fun c6 => ?_)
        · have h := h.1 c6
          refine T_iconst (v := 1) (dk dt_beginsS 57 rfl) (by decide +kernel) ?_
          refine T_goto 117 (dk dt_beginsS 58 rfl) (by decide) ?_
          exact MT_iret (dk dt_beginsS 60 rfl) rfl rfl h
        · have h := h.2 c6
          refine T_iload_n 0 (dk dt_beginsS 15 rfl) rfl rfl ?_
          refine T_bipush (v := 27) (dk dt_beginsS 16 rfl) (by decide +kernel) ?_
          refine T_icmp_eq 112 (dk dt_beginsS 17 rfl) (by decide) (fun c7 => ?_) (fun c7 => ?_)
          · have h := h.1 c7
            refine T_iconst (v := 1) (dk dt_beginsS 57 rfl) (by decide +kernel) ?_
            refine T_goto 117 (dk dt_beginsS 58 rfl) (by decide) ?_
            exact MT_iret (dk dt_beginsS 60 rfl) rfl rfl h
          · have h := h.2 c7
            refine T_iload_n 0 (dk dt_beginsS 18 rfl) rfl rfl ?_
            refine T_bipush (v := 36) (dk dt_beginsS 19 rfl) (by decide +kernel) ?_
            refine T_icmp_eq 112 (dk dt_beginsS 20 rfl) (by decide) (fun c8 => ?_) (fun c8 => ?_)
            · have h := h.1 c8
              refine T_iconst (v := 1) (dk dt_beginsS 57 rfl) (by decide +kernel) ?_
              refine T_goto 117 (dk dt_beginsS 58 rfl) (by decide) ?_
              exact MT_iret (dk dt_beginsS 60 rfl) rfl rfl h
            · have h := h.2 c8
              refine T_iload_n 0 (dk dt_beginsS 21 rfl) rfl rfl ?_
              refine T_bipush (v := 22) (dk dt_beginsS 22 rfl) (by decide +kernel) ?_
              refine T_icmp_eq 112 (dk dt_beginsS 23 rfl) (by decide) (fun c9 => ?_) (fun c9 => ?_)
              · have h := h.1 c9
                refine T_iconst (v := 1) (dk dt_beginsS 57 rfl) (by decide +kernel) ?_
                refine T_goto 117 (dk dt_beginsS 58 rfl) (by decide) ?_
                exact MT_iret (dk dt_beginsS 60 rfl) rfl rfl h
              · have h := h.2 c9
                refine T_iload_n 0 (dk dt_beginsS 24 rfl) rfl rfl ?_
                refine T_bipush (v := 38) (dk dt_beginsS 25 rfl) (by decide +kernel) ?_
                refine T_icmp_eq 112 (dk dt_beginsS 26 rfl) (by decide) (fun c10 => ?_) (fun c10 => ?_)
                · have h := h.1 c10
                  refine T_iconst (v := 1) (dk dt_beginsS 57 rfl) (by decide +kernel) ?_
                  refine T_goto 117 (dk dt_beginsS 58 rfl) (by decide) ?_
                  exact MT_iret (dk dt_beginsS 60 rfl) rfl rfl h
                · have h := h.2 c10
                  refine T_iload_n 0 (dk dt_beginsS 27 rfl) rfl rfl ?_
                  refine T_bipush (v := 39) (dk dt_beginsS 28 rfl) (by decide +kernel) ?_
                  refine T_icmp_eq 112 (dk dt_beginsS 29 rfl) (by decide) (fun c11 => ?_) (fun c11 => ?_)
                  · have h := h.1 c11
                    refine T_iconst (v := 1) (dk dt_beginsS 57 rfl) (by decide +kernel) ?_
                    refine T_goto 117 (dk dt_beginsS 58 rfl) (by decide) ?_
                    exact MT_iret (dk dt_beginsS 60 rfl) rfl rfl h
                  · have h := h.2 c11
                    refine T_iload_n 0 (dk dt_beginsS 30 rfl) rfl rfl ?_
                    refine T_bipush (v := 40) (dk dt_beginsS 31 rfl) (by decide +kernel) ?_
                    refine T_icmp_eq 112 (dk dt_beginsS 32 rfl) (by decide) (fun c12 => ?_) (fun c12 => ?_)
                    · have h := h.1 c12
                      refine T_iconst (v := 1) (dk dt_beginsS 57 rfl) (by decide +kernel) ?_
                      refine T_goto 117 (dk dt_beginsS 58 rfl) (by decide) ?_
                      exact MT_iret (dk dt_beginsS 60 rfl) rfl rfl h
                    · have h := h.2 c12
                      refine T_iload_n 0 (dk dt_beginsS 33 rfl) rfl rfl ?_
                      refine T_bipush (v := 33) (dk dt_beginsS 34 rfl) (by decide +kernel) ?_
                      refine T_icmp_eq 112 (dk dt_beginsS 35 rfl) (by decide) (fun c13 => ?_) (fun c13 => ?_)
                      · have h := h.1 c13
                        refine T_iconst (v := 1) (dk dt_beginsS 57 rfl) (by decide +kernel) ?_
                        refine T_goto 117 (dk dt_beginsS 58 rfl) (by decide) ?_
                        exact MT_iret (dk dt_beginsS 60 rfl) rfl rfl h
                      · have h := h.2 c13
                        refine T_iload_n 0 (dk dt_beginsS 36 rfl) rfl rfl ?_
                        refine T_bipush (v := 25) (dk dt_beginsS 37 rfl) (by decide +kernel) ?_
                        refine T_icmp_eq 112 (dk dt_beginsS 38 rfl) (by decide) (fun c14 => ?_) (fun c14 => ?_)
                        · have h := h.1 c14
                          refine T_iconst (v := 1) (dk dt_beginsS 57 rfl) (by decide +kernel) ?_
                          refine T_goto 117 (dk dt_beginsS 58 rfl) (by decide) ?_
                          exact MT_iret (dk dt_beginsS 60 rfl) rfl rfl h
                        · have h := h.2 c14
                          refine T_iload_n 0 (dk dt_beginsS 39 rfl) rfl rfl ?_
                          refine T_bipush (v := 20) (dk dt_beginsS 40 rfl) (by decide +kernel) ?_
                          refine T_icmp_eq 112 (dk dt_beginsS 41 rfl) (by decide) (fun c15 => ?_) (fun c15 => ?_)
                          · have h := h.1 c15
                            refine T_iconst (v := 1) (dk dt_beginsS 57 rfl) (by decide +kernel) ?_
                            refine T_goto 117 (dk dt_beginsS 58 rfl) (by decide) ?_
                            exact MT_iret (dk dt_beginsS 60 rfl) rfl rfl h
                          · have h := h.2 c15
                            refine T_iload_n 0 (dk dt_beginsS 42 rfl) rfl rfl ?_
                            refine T_bipush (v := 31) (dk dt_beginsS 43 rfl) (by decide +kernel) ?_
                            refine T_icmp_eq 112 (dk dt_beginsS 44 rfl) (by decide) (fun c16 => ?_) (fun c16 => ?_)
                            · have h := h.1 c16
                              refine T_iconst (v := 1) (dk dt_beginsS 57 rfl) (by decide +kernel) ?_
                              refine T_goto 117 (dk dt_beginsS 58 rfl) (by decide) ?_
                              exact MT_iret (dk dt_beginsS 60 rfl) rfl rfl h
                            · have h := h.2 c16
                              refine T_iload_n 0 (dk dt_beginsS 45 rfl) rfl rfl ?_
                              refine T_bipush (v := 13) (dk dt_beginsS 46 rfl) (by decide +kernel) ?_
                              refine T_icmp_eq 112 (dk dt_beginsS 47 rfl) (by decide) (fun c17 => ?_) (fun c17 => ?_)
                              · have h := h.1 c17
                                refine T_iconst (v := 1) (dk dt_beginsS 57 rfl) (by decide +kernel) ?_
                                refine T_goto 117 (dk dt_beginsS 58 rfl) (by decide) ?_
                                exact MT_iret (dk dt_beginsS 60 rfl) rfl rfl h
                              · have h := h.2 c17
                                refine T_iload_n 0 (dk dt_beginsS 48 rfl) rfl rfl ?_
                                refine T_bipush (v := 15) (dk dt_beginsS 49 rfl) (by decide +kernel) ?_
                                refine T_icmp_eq 112 (dk dt_beginsS 50 rfl) (by decide) (fun c18 => ?_) (fun c18 => ?_)
                                · have h := h.1 c18
                                  refine T_iconst (v := 1) (dk dt_beginsS 57 rfl) (by decide +kernel) ?_
                                  refine T_goto 117 (dk dt_beginsS 58 rfl) (by decide) ?_
                                  exact MT_iret (dk dt_beginsS 60 rfl) rfl rfl h
                                · have h := h.2 c18
                                  refine T_iload_n 0 (dk dt_beginsS 51 rfl) rfl rfl ?_
                                  refine T_bipush (v := 14) (dk dt_beginsS 52 rfl) (by decide +kernel) ?_
                                  refine T_icmp_eq 112 (dk dt_beginsS 53 rfl) (by decide) (fun c19 => ?_) (fun c19 => ?_)
                                  · have h := h.1 c19
                                    refine T_iconst (v := 1) (dk dt_beginsS 57 rfl) (by decide +kernel) ?_
                                    refine T_goto 117 (dk dt_beginsS 58 rfl) (by decide) ?_
                                    exact MT_iret (dk dt_beginsS 60 rfl) rfl rfl h
                                  · have h := h.2 c19
                                    refine T_iload_n 0 (dk dt_beginsS 54 rfl) rfl rfl ?_
                                    refine T_bipush (v := 19) (dk dt_beginsS 55 rfl) (by decide +kernel) ?_
                                    refine T_icmp_ne 116 (dk dt_beginsS 56 rfl) (by decide) (fun c20 => ?_) (fun c20 => ?_)
                                    · have h := h.1 c20
                                      refine T_iconst (v := 0) (dk dt_beginsS 59 rfl) (by decide +kernel) ?_
                                      exact MT_iret (dk dt_beginsS 60 rfl) rfl rfl h
                                    · have h := h.2 c20
                                      refine T_iconst (v := 1) (dk dt_beginsS 57 rfl) (by decide +kernel) ?_
                                      refine T_goto 117 (dk dt_beginsS 58 rfl) (by decide) ?_
                                      exact MT_iret (dk dt_beginsS 60 rfl) rfl rfl h
