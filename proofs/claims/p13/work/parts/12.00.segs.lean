/-- an int that a boolean holds -/
def gbool (v : Int32) : Prop := narrow .boolean (.int v) = .int v ∧ fits .boolean (.int v) = true
theorem gbool_0 : gbool 0 := ⟨rfl, rfl⟩
theorem gbool_1 : gbool 1 := ⟨rfl, rfl⟩
theorem gbool_of {v : Int32} (h : v = 0 ∨ v = 1) : gbool v := by
  rcases h with rfl | rfl
  · exact gbool_0
  · exact gbool_1
set_option maxRecDepth 100000 in
theorem dt_thrown : dck cX12_thrown [(0, .aload_n 0, 1), (1, .getfield 316, 3), (4, .ireturn, 1)] = true := by decide +kernel
set_option maxRecDepth 100000 in
set_option maxHeartbeats 4000000 in
theorem sg_thrown_0 {G : mG} {d : Nat} {x : gd} {P : Option gv → gd → Prop} 
    (h : P (some (vi (x.1 0 0))) x) :
    MT G d z_thrown 0 [(0, vr 0)] [] x P := by
  refine T_aload_n 0 (dk dt_thrown 0 rfl) rfl rfl ?_
  refine T_getI 0 0 (dk dt_thrown 1 rfl) fl_316 mk_0 ml_0 (by decide) rfl ?_
  exact MT_iret (dk dt_thrown 2 rfl) rfl rfl h
set_option maxRecDepth 100000 in
theorem dt_in : dck cX12_in [(0, .iload_n 0, 1), (1, .iload_n 1, 1), (2, .if_icmp .lt 12, 3), (5, .iload_n 0, 1), (6, .iload_n 2, 1), (7, .if_icmp .gt 7, 3), (10, .iconst 1, 1), (11, .goto 4, 3), (14, .iconst 0, 1), (15, .ireturn, 1)] = true := by decide +kernel
set_option maxRecDepth 100000 in
set_option maxHeartbeats 4000000 in
theorem sg_in_0 {G : mG} {d : Nat} {x : gd} {P : Option gv → gd → Prop} (l0 : Int32) (l1 : Int32) (l2 : Int32)
    (h : ((l0 < l1 → P (some (vi 0)) x) ∧ (¬ (l0 < l1) → ((l2 < l0 → P (some (vi 0)) x) ∧ (¬ (l2 < l0) → P (some (vi 1)) x))))) :
    MT G d z_in 0 [(0, vi l0), (1, vi l1), (2, vi l2)] [] x P := by
  refine T_iload_n 0 (dk dt_in 0 rfl) rfl rfl ?_
  refine T_iload_n 1 (dk dt_in 1 rfl) rfl rfl ?_
  refine T_icmp_lt 14 (dk dt_in 2 rfl) (by decide) (fun c1 => ?_) (fun c1 => ?_)
  · have h := h.1 c1
    refine T_iconst (v := 0) (dk dt_in 8 rfl) (by decide +kernel) ?_
    exact MT_iret (dk dt_in 9 rfl) rfl rfl h
  · have h := h.2 c1
    refine T_iload_n 0 (dk dt_in 3 rfl) rfl rfl ?_
    refine T_iload_n 2 (dk dt_in 4 rfl) rfl rfl ?_
    refine T_icmp_gt 14 (dk dt_in 5 rfl) (by decide) (fun c2 => ?_) (fun c2 => ?_)
    · have h := h.1 c2
      refine T_iconst (v := 0) (dk dt_in 8 rfl) (by decide +kernel) ?_
      exact MT_iret (dk dt_in 9 rfl) rfl rfl h
    · have h := h.2 c2
      refine T_iconst (v := 1) (dk dt_in 6 rfl) (by decide +kernel) ?_
      refine T_goto 15 (dk dt_in 7 rfl) (by decide) ?_
      exact MT_iret (dk dt_in 9 rfl) rfl rfl h
set_option maxRecDepth 100000 in
theorem dt_refuses : dck cX12_refuses [(0, .aload_n 0, 1), (1, .getfield 316, 3), (4, .ifCond .ne 12, 3), (7, .iload_n 1, 1), (8, .ifCond .eq 8, 3), (11, .aload_n 0, 1), (12, .iload_n 2, 1), (13, .putfield 316, 3), (16, .aload_n 0, 1), (17, .getfield 316, 3), (20, .ifCond .le 7, 3), (23, .iconst 1, 1), (24, .goto 4, 3), (27, .iconst 0, 1), (28, .ireturn, 1)] = true := by decide +kernel
set_option maxRecDepth 100000 in
set_option maxHeartbeats 4000000 in
theorem sg_refuses_0 {G : mG} {d : Nat} {x : gd} {P : Option gv → gd → Prop} (l1 : Int32) (l2 : Int32)
    (h : ((¬ ((x.1 0 0) = (0 : Int32)) → MT G d z_refuses 16 [(0, vr 0)] [] x P) ∧ ((x.1 0 0) = (0 : Int32) → ((l1 = (0 : Int32) → MT G d z_refuses 16 [(0, vr 0)] [] x P) ∧ (¬ (l1 = (0 : Int32)) → (∀ x3 : gd, x3 = si x 0 0 l2 → MT G d z_refuses 16 [(0, vr 0)] [] x3 P)))))) :
    MT G d z_refuses 0 [(0, vr 0), (1, vi l1), (2, vi l2)] [] x P := by
  refine T_aload_n 0 (dk dt_refuses 0 rfl) rfl rfl ?_
  refine T_getI 0 0 (dk dt_refuses 1 rfl) fl_316 mk_0 ml_0 (by decide) rfl ?_
  refine T_if_ne 16 (dk dt_refuses 2 rfl) (by decide) (fun c1 => ?_) (fun c1 => ?_)
  · have h := h.1 c1
    exact T_sub [0] rfl h
  · have h := h.2 c1
    refine T_iload_n 1 (dk dt_refuses 3 rfl) rfl rfl ?_
    refine T_if_eq 16 (dk dt_refuses 4 rfl) (by decide) (fun c2 => ?_) (fun c2 => ?_)
    · have h := h.1 c2
      exact T_sub [0] rfl h
    · have h := h.2 c2
      refine T_aload_n 0 (dk dt_refuses 5 rfl) rfl rfl ?_
      refine T_iload_n 2 (dk dt_refuses 6 rfl) rfl rfl ?_
      obtain ⟨x3, ex3⟩ : ∃ z, z = si x 0 0 l2 := ⟨_, rfl⟩
      have h := h x3 ex3
      refine T_putI 0 0 (dk dt_refuses 7 rfl) fl_316 mk_0 ml_0 (by decide) rfl ⟨rfl, rfl⟩ ?_
      rw [← ex3]
      exact T_sub [0] rfl h
set_option maxRecDepth 100000 in
set_option maxHeartbeats 4000000 in
theorem sg_refuses_16 {G : mG} {d : Nat} {x : gd} {P : Option gv → gd → Prop} 
    (h : (((x.1 0 0) ≤ (0 : Int32) → P (some (vi 0)) x) ∧ (¬ ((x.1 0 0) ≤ (0 : Int32)) → P (some (vi 1)) x))) :
    MT G d z_refuses 16 [(0, vr 0)] [] x P := by
  refine T_aload_n 0 (dk dt_refuses 8 rfl) rfl rfl ?_
  refine T_getI 0 0 (dk dt_refuses 9 rfl) fl_316 mk_0 ml_0 (by decide) rfl ?_
  refine T_if_le 27 (dk dt_refuses 10 rfl) (by decide) (fun c1 => ?_) (fun c1 => ?_)
  · have h := h.1 c1
    refine T_iconst (v := 0) (dk dt_refuses 13 rfl) (by decide +kernel) ?_
    exact MT_iret (dk dt_refuses 14 rfl) rfl rfl h
  · have h := h.2 c1
    refine T_iconst (v := 1) (dk dt_refuses 11 rfl) (by decide +kernel) ?_
    refine T_goto 28 (dk dt_refuses 12 rfl) (by decide) ?_
    exact MT_iret (dk dt_refuses 14 rfl) rfl rfl h
set_option maxRecDepth 100000 in
theorem dt_byteAt : dck cX12_byteAt [(0, .iload_n 1, 1), (1, .aload_n 0, 1), (2, .getfield 319, 3), (5, .if_icmp .ge 16, 3), (8, .aload_n 0, 1), (9, .getfield 7, 3), (12, .iload_n 1, 1), (13, .baload, 1), (14, .sipush 255, 3), (17, .iand, 1), (18, .goto 4, 3), (21, .iconst (-1), 1), (22, .ireturn, 1)] = true := by decide +kernel
set_option maxRecDepth 100000 in
set_option maxHeartbeats 4000000 in
theorem sg_byteAt_0 {G : mG} {d : Nat} {x : gd} {P : Option gv → gd → Prop} (l1 : Int32)
    (h : (((x.1 0 2) ≤ l1 → P (some (vi (-1))) x) ∧ (¬ ((x.1 0 2) ≤ l1) → vp_in l1 3000 ∧ P (some (vi ((x.1 2 (l1 : Int32).toNatClampNeg) &&& 255))) x))) :
    MT G d z_byteAt 0 [(0, vr 0), (1, vi l1)] [] x P := by
  refine T_iload_n 1 (dk dt_byteAt 0 rfl) rfl rfl ?_
  refine T_aload_n 0 (dk dt_byteAt 1 rfl) rfl rfl ?_
  refine T_getI 0 2 (dk dt_byteAt 2 rfl) fl_319 mk_0 ml_0 (by decide) rfl ?_
  refine T_icmp_ge 21 (dk dt_byteAt 3 rfl) (by decide) (fun c1 => ?_) (fun c1 => ?_)
  · have h := h.1 c1
    refine T_iconst (v := (-1)) (dk dt_byteAt 11 rfl) (by decide +kernel) ?_
    exact MT_iret (dk dt_byteAt 12 rfl) rfl rfl h
  · have h := h.2 c1
    refine T_aload_n 0 (dk dt_byteAt 4 rfl) rfl rfl ?_
    refine T_getR 0 1 2 (dk dt_byteAt 5 rfl) fl_7 mk_0 ml_0 (by decide) rfl rfl ?_
    refine T_iload_n 1 (dk dt_byteAt 6 rfl) rfl rfl ?_
    obtain ⟨h2, h⟩ := h
    refine T_bald 2 3000 (dk dt_byteAt 7 rfl) mk_2 ml_2 h2 ?_
    refine T_sipush (v := 255) (dk dt_byteAt 8 rfl) (by decide +kernel) ?_
    refine T_iand (dk dt_byteAt 9 rfl) ?_
    refine T_goto 22 (dk dt_byteAt 10 rfl) (by decide) ?_
    exact MT_iret (dk dt_byteAt 12 rfl) rfl rfl h
set_option maxRecDepth 100000 in
theorem dt_isLetter : dck cX12_isLetter [(0, .iload_n 0, 1), (1, .bipush 97, 2), (3, .bipush 122, 2), (5, .invokestatic 322, 3), (8, .ifCond .ne 14, 3), (11, .iload_n 0, 1), (12, .bipush 65, 2), (14, .bipush 90, 2), (16, .invokestatic 322, 3), (19, .ifCond .eq 7, 3), (22, .iconst 1, 1), (23, .goto 4, 3), (26, .iconst 0, 1), (27, .ireturn, 1)] = true := by decide +kernel
set_option maxRecDepth 100000 in
set_option maxHeartbeats 4000000 in
theorem sg_isLetter_0 {G : mG} {d : Nat} {x : gd} {P : Option gv → gd → Prop} (l0 : Int32)
    (h : MT G d z_in 0 [(0, vi l0), (1, vi 97), (2, vi 122)] [] x (ri (fun r2 x1 => ((¬ (r2 = (0 : Int32)) → P (some (vi 1)) x1) ∧ (r2 = (0 : Int32) → MT G d z_in 0 [(0, vi l0), (1, vi 65), (2, vi 90)] [] x1 (ri (fun r5 x4 => ((r5 = (0 : Int32) → P (some (vi 0)) x4) ∧ (¬ (r5 = (0 : Int32)) → P (some (vi 1)) x4))))))))) :
    MT G (d + 1) z_isLetter 0 [(0, vi l0)] [] x P := by
  refine T_iload_n 0 (dk dt_isLetter 0 rfl) rfl rfl ?_
  refine T_bipush (v := 97) (dk dt_isLetter 1 rfl) (by decide +kernel) ?_
  refine T_bipush (v := 122) (dk dt_isLetter 2 rfl) (by decide +kernel) ?_
  refine MT_callSi [vi l0, vi 97, vi 122] [] rfl (dk dt_isLetter 3 rfl) cs_322 rfl (Nat.le_of_ble_eq_true rfl) (Nat.le_of_ble_eq_true rfl) rfl rfl h (fun r2 x1 h => ?_)
  refine T_if_ne 22 (dk dt_isLetter 4 rfl) (by decide) (fun c3 => ?_) (fun c3 => ?_)
  · have h := h.1 c3
    refine T_iconst (v := 1) (dk dt_isLetter 10 rfl) (by decide +kernel) ?_
    refine T_goto 27 (dk dt_isLetter 11 rfl) (by decide) ?_
    exact MT_iret (dk dt_isLetter 13 rfl) rfl rfl h
  · have h := h.2 c3
    refine T_iload_n 0 (dk dt_isLetter 5 rfl) rfl rfl ?_
    refine T_bipush (v := 65) (dk dt_isLetter 6 rfl) (by decide +kernel) ?_
    refine T_bipush (v := 90) (dk dt_isLetter 7 rfl) (by decide +kernel) ?_
    refine MT_callSi [vi l0, vi 65, vi 90] [] rfl (dk dt_isLetter 8 rfl) cs_322 rfl (Nat.le_of_ble_eq_true rfl) (Nat.le_of_ble_eq_true rfl) rfl rfl h (fun r5 x4 h => ?_)
    refine T_if_eq 26 (dk dt_isLetter 9 rfl) (by decide) (fun c6 => ?_) (fun c6 => ?_)
    · have h := h.1 c6
      refine T_iconst (v := 0) (dk dt_isLetter 12 rfl) (by decide +kernel) ?_
      exact MT_iret (dk dt_isLetter 13 rfl) rfl rfl h
    · have h := h.2 c6
      refine T_iconst (v := 1) (dk dt_isLetter 10 rfl) (by decide +kernel) ?_
      refine T_goto 27 (dk dt_isLetter 11 rfl) (by decide) ?_
      exact MT_iret (dk dt_isLetter 13 rfl) rfl rfl h
set_option maxRecDepth 100000 in
theorem dt_isDigit : dck cX12_isDigit [(0, .iload_n 0, 1), (1, .bipush 48, 2), (3, .bipush 57, 2), (5, .invokestatic 322, 3), (8, .ireturn, 1)] = true := by decide +kernel
set_option maxRecDepth 100000 in
set_option maxHeartbeats 4000000 in
theorem sg_isDigit_0 {G : mG} {d : Nat} {x : gd} {P : Option gv → gd → Prop} (l0 : Int32)
    (h : MT G d z_in 0 [(0, vi l0), (1, vi 48), (2, vi 57)] [] x (ri (fun r2 x1 => gbool r2 ∧ P (some (vi r2)) x1))) :
    MT G (d + 1) z_isDigit 0 [(0, vi l0)] [] x P := by
  refine T_iload_n 0 (dk dt_isDigit 0 rfl) rfl rfl ?_
  refine T_bipush (v := 48) (dk dt_isDigit 1 rfl) (by decide +kernel) ?_
  refine T_bipush (v := 57) (dk dt_isDigit 2 rfl) (by decide +kernel) ?_
  refine MT_callSi [vi l0, vi 48, vi 57] [] rfl (dk dt_isDigit 3 rfl) cs_322 rfl (Nat.le_of_ble_eq_true rfl) (Nat.le_of_ble_eq_true rfl) rfl rfl h (fun r2 x1 h => ?_)
  exact MT_iret (dk dt_isDigit 4 rfl) rfl h.1.1 h.2
set_option maxRecDepth 100000 in
theorem dt_signOf : dck cX12_signOf [(0, .iload_n 2, 1), (1, .bipush 61, 2), (3, .if_icmp .ne 63, 3), (6, .iload_n 1, 1), (7, .bipush 61, 2), (9, .if_icmp .eq 21, 3), (12, .iload_n 1, 1), (13, .bipush 33, 2), (15, .if_icmp .eq 15, 3), (18, .iload_n 1, 1), (19, .bipush 60, 2), (21, .if_icmp .eq 9, 3), (24, .iload_n 1, 1), (25, .bipush 62, 2), (27, .if_icmp .ne 39, 3), (30, .iload_n 1, 1), (31, .bipush 61, 2), (33, .if_icmp .ne 8, 3), (36, .bipush 51, 2), (38, .goto 27, 3), (41, .iload_n 1, 1), (42, .bipush 33, 2), (44, .if_icmp .ne 8, 3), (47, .bipush 52, 2), (49, .goto 16, 3), (52, .iload_n 1, 1), (53, .bipush 60, 2), (55, .if_icmp .ne 8, 3), (58, .bipush 54, 2), (60, .goto 5, 3), (63, .bipush 56, 2), (65, .ireturn, 1), (66, .iload_n 1, 1), (67, .lookupswitch 174 #[(40, 150), (41, 153), (42, 144), (43, 138), (44, 171), (45, 141), (47, 147), (59, 168), (60, 132), (61, 129), (62, 135), (91, 162), (93, 165), (123, 156), (125, 159)], 129), (196, .bipush 50, 2), (198, .ireturn, 1), (199, .bipush 53, 2), (201, .ireturn, 1), (202, .bipush 55, 2), (204, .ireturn, 1), (205, .bipush 57, 2), (207, .ireturn, 1), (208, .bipush 58, 2), (210, .ireturn, 1), (211, .bipush 59, 2), (213, .ireturn, 1), (214, .bipush 60, 2), (216, .ireturn, 1), (217, .bipush 61, 2), (219, .ireturn, 1), (220, .bipush 62, 2), (222, .ireturn, 1), (223, .bipush 63, 2), (225, .ireturn, 1), (226, .bipush 64, 2), (228, .ireturn, 1), (229, .bipush 65, 2), (231, .ireturn, 1), (232, .bipush 66, 2), (234, .ireturn, 1), (235, .bipush 67, 2), (237, .ireturn, 1), (238, .bipush 68, 2), (240, .ireturn, 1), (241, .iconst 3, 1), (242, .ireturn, 1)] = true := by decide +kernel
set_option maxRecDepth 100000 in
set_option maxHeartbeats 4000000 in
theorem sg_signOf_0 {G : mG} {d : Nat} {x : gd} {P : Option gv → gd → Prop} (l1 : Int32) (l2 : Int32)
    (h : ((¬ (l2 = (61 : Int32)) → MT G d z_signOf 66 [(0, vr 0), (1, vi l1)] [] x P) ∧ (l2 = (61 : Int32) → ((l1 = (61 : Int32) → MT G d z_signOf 30 [(0, vr 0), (1, vi l1)] [] x P) ∧ (¬ (l1 = (61 : Int32)) → ((l1 = (33 : Int32) → MT G d z_signOf 30 [(0, vr 0), (1, vi l1)] [] x P) ∧ (¬ (l1 = (33 : Int32)) → ((l1 = (60 : Int32) → MT G d z_signOf 30 [(0, vr 0), (1, vi l1)] [] x P) ∧ (¬ (l1 = (60 : Int32)) → ((¬ (l1 = (62 : Int32)) → MT G d z_signOf 66 [(0, vr 0), (1, vi l1)] [] x P) ∧ (l1 = (62 : Int32) → MT G d z_signOf 30 [(0, vr 0), (1, vi l1)] [] x P))))))))))) :
    MT G d z_signOf 0 [(0, vr 0), (1, vi l1), (2, vi l2)] [] x P := by
  refine T_iload_n 2 (dk dt_signOf 0 rfl) rfl rfl ?_
  refine T_bipush (v := 61) (dk dt_signOf 1 rfl) (by decide +kernel) ?_
  refine T_icmp_ne 66 (dk dt_signOf 2 rfl) (by decide) (fun c1 => ?_) (fun c1 => ?_)
  · have h := h.1 c1
    exact T_sub [0, 1] rfl h
  · have h := h.2 c1
    refine T_iload_n 1 (dk dt_signOf 3 rfl) rfl rfl ?_
    refine T_bipush (v := 61) (dk dt_signOf 4 rfl) (by decide +kernel) ?_
    refine T_icmp_eq 30 (dk dt_signOf 5 rfl) (by decide) (fun c2 => ?_) (fun c2 => ?_)
    · have h := h.1 c2
      exact T_sub [0, 1] rfl h
    · have h := h.2 c2
      refine T_iload_n 1 (dk dt_signOf 6 rfl) rfl rfl ?_
      refine T_bipush (v := 33) (dk dt_signOf 7 rfl) (by decide +kernel) ?_
      refine T_icmp_eq 30 (dk dt_signOf 8 rfl) (by decide) (fun c3 => ?_) (fun c3 => ?_)
      · have h := h.1 c3
        exact T_sub [0, 1] rfl h
      · have h := h.2 c3
        refine T_iload_n 1 (dk dt_signOf 9 rfl) rfl rfl ?_
        refine T_bipush (v := 60) (dk dt_signOf 10 rfl) (by decide +kernel) ?_
        refine T_icmp_eq 30 (dk dt_signOf 11 rfl) (by decide) (fun c4 => ?_) (fun c4 => ?_)
        · have h := h.1 c4
          exact T_sub [0, 1] rfl h
        · have h := h.2 c4
          refine T_iload_n 1 (dk dt_signOf 12 rfl) rfl rfl ?_
          refine T_bipush (v := 62) (dk dt_signOf 13 rfl) (by decide +kernel) ?_
          refine T_icmp_ne 66 (dk dt_signOf 14 rfl) (by decide) (fun c5 => ?_) (fun c5 => ?_)
          · have h := h.1 c5
            exact T_sub [0, 1] rfl h
          · have h := h.2 c5
            exact T_sub [0, 1] rfl h
set_option maxRecDepth 100000 in
set_option maxHeartbeats 4000000 in
theorem sg_signOf_30 {G : mG} {d : Nat} {x : gd} {P : Option gv → gd → Prop} (l1 : Int32)
    (h : ((¬ (l1 = (61 : Int32)) → ((¬ (l1 = (33 : Int32)) → ((¬ (l1 = (60 : Int32)) → P (some (vi 56)) x) ∧ (l1 = (60 : Int32) → P (some (vi 54)) x))) ∧ (l1 = (33 : Int32) → P (some (vi 52)) x))) ∧ (l1 = (61 : Int32) → P (some (vi 51)) x))) :
    MT G d z_signOf 30 [(0, vr 0), (1, vi l1)] [] x P := by
  refine T_iload_n 1 (dk dt_signOf 15 rfl) rfl rfl ?_
  refine T_bipush (v := 61) (dk dt_signOf 16 rfl) (by decide +kernel) ?_
  refine T_icmp_ne 41 (dk dt_signOf 17 rfl) (by decide) (fun c1 => ?_) (fun c1 => ?_)
  · have h := h.1 c1
    refine T_iload_n 1 (dk dt_signOf 20 rfl) rfl rfl ?_
    refine T_bipush (v := 33) (dk dt_signOf 21 rfl) (by decide +kernel) ?_
    refine T_icmp_ne 52 (dk dt_signOf 22 rfl) (by decide) (fun c2 => ?_) (fun c2 => ?_)
    · have h := h.1 c2
      refine T_iload_n 1 (dk dt_signOf 25 rfl) rfl rfl ?_
      refine T_bipush (v := 60) (dk dt_signOf 26 rfl) (by decide +kernel) ?_
      refine T_icmp_ne 63 (dk dt_signOf 27 rfl) (by decide) (fun c3 => ?_) (fun c3 => ?_)
      · have h := h.1 c3
        refine T_bipush (v := 56) (dk dt_signOf 30 rfl) (by decide +kernel) ?_
        exact MT_iret (dk dt_signOf 31 rfl) rfl rfl h
      · have h := h.2 c3
        refine T_bipush (v := 54) (dk dt_signOf 28 rfl) (by decide +kernel) ?_
        refine T_goto 65 (dk dt_signOf 29 rfl) (by decide) ?_
        exact MT_iret (dk dt_signOf 31 rfl) rfl rfl h
    · have h := h.2 c2
      refine T_bipush (v := 52) (dk dt_signOf 23 rfl) (by decide +kernel) ?_
      refine T_goto 65 (dk dt_signOf 24 rfl) (by decide) ?_
      exact MT_iret (dk dt_signOf 31 rfl) rfl rfl h
  · have h := h.2 c1
    refine T_bipush (v := 51) (dk dt_signOf 18 rfl) (by decide +kernel) ?_
    refine T_goto 65 (dk dt_signOf 19 rfl) (by decide) ?_
    exact MT_iret (dk dt_signOf 31 rfl) rfl rfl h
set_option maxRecDepth 100000 in
set_option maxHeartbeats 4000000 in
theorem sg_signOf_66 {G : mG} {d : Nat} {x : gd} {P : Option gv → gd → Prop} (l1 : Int32)
    (h : (((l1 = 61) → P (some (vi 50)) x) ∧ ((l1 = 60) → P (some (vi 53)) x) ∧ ((l1 = 62) → P (some (vi 55)) x) ∧ ((l1 = 43) → P (some (vi 57)) x) ∧ ((l1 = 45) → P (some (vi 58)) x) ∧ ((l1 = 42) → P (some (vi 59)) x) ∧ ((l1 = 47) → P (some (vi 60)) x) ∧ ((l1 = 40) → P (some (vi 61)) x) ∧ ((l1 = 41) → P (some (vi 62)) x) ∧ ((l1 = 123) → P (some (vi 63)) x) ∧ ((l1 = 125) → P (some (vi 64)) x) ∧ ((l1 = 91) → P (some (vi 65)) x) ∧ ((l1 = 93) → P (some (vi 66)) x) ∧ ((l1 = 59) → P (some (vi 67)) x) ∧ ((l1 = 44) → P (some (vi 68)) x) ∧ ((∀ k ∈ [(61 : Int32), (60 : Int32), (62 : Int32), (43 : Int32), (45 : Int32), (42 : Int32), (47 : Int32), (40 : Int32), (41 : Int32), (123 : Int32), (125 : Int32), (91 : Int32), (93 : Int32), (59 : Int32), (44 : Int32)], ¬ l1 = k) → P (some (vi 3)) x))) :
    MT G d z_signOf 66 [(0, vr 0), (1, vi l1)] [] x P := by
  refine T_iload_n 1 (dk dt_signOf 32 rfl) rfl rfl ?_
  by_cases c1 : l1 = 61
  · have h := h.1 c1
    refine T_lookup 129 196 (dk dt_signOf 33 rfl) (by decide +kernel) (by rw [c1]; decide +kernel) (by decide) ?_
    refine T_bipush (v := 50) (dk dt_signOf 34 rfl) (by decide +kernel) ?_
    exact MT_iret (dk dt_signOf 35 rfl) rfl rfl h
  · have h := h.2
    by_cases c2 : l1 = 60
    · have h := h.1 c2
      refine T_lookup 132 199 (dk dt_signOf 33 rfl) (by decide +kernel) (by rw [c2]; decide +kernel) (by decide) ?_
      refine T_bipush (v := 53) (dk dt_signOf 36 rfl) (by decide +kernel) ?_
      exact MT_iret (dk dt_signOf 37 rfl) rfl rfl h
    · have h := h.2
      by_cases c3 : l1 = 62
      · have h := h.1 c3
        refine T_lookup 135 202 (dk dt_signOf 33 rfl) (by decide +kernel) (by rw [c3]; decide +kernel) (by decide) ?_
        refine T_bipush (v := 55) (dk dt_signOf 38 rfl) (by decide +kernel) ?_
        exact MT_iret (dk dt_signOf 39 rfl) rfl rfl h
      · have h := h.2
        by_cases c4 : l1 = 43
        · have h := h.1 c4
          refine T_lookup 138 205 (dk dt_signOf 33 rfl) (by decide +kernel) (by rw [c4]; decide +kernel) (by decide) ?_
          refine T_bipush (v := 57) (dk dt_signOf 40 rfl) (by decide +kernel) ?_
          exact MT_iret (dk dt_signOf 41 rfl) rfl rfl h
        · have h := h.2
          by_cases c5 : l1 = 45
          · have h := h.1 c5
            refine T_lookup 141 208 (dk dt_signOf 33 rfl) (by decide +kernel) (by rw [c5]; decide +kernel) (by decide) ?_
            refine T_bipush (v := 58) (dk dt_signOf 42 rfl) (by decide +kernel) ?_
            exact MT_iret (dk dt_signOf 43 rfl) rfl rfl h
          · have h := h.2
            by_cases c6 : l1 = 42
            · have h := h.1 c6
              refine T_lookup 144 211 (dk dt_signOf 33 rfl) (by decide +kernel) (by rw [c6]; decide +kernel) (by decide) ?_
              refine T_bipush (v := 59) (dk dt_signOf 44 rfl) (by decide +kernel) ?_
              exact MT_iret (dk dt_signOf 45 rfl) rfl rfl h
            · have h := h.2
              by_cases c7 : l1 = 47
              · have h := h.1 c7
                refine T_lookup 147 214 (dk dt_signOf 33 rfl) (by decide +kernel) (by rw [c7]; decide +kernel) (by decide) ?_
                refine T_bipush (v := 60) (dk dt_signOf 46 rfl) (by decide +kernel) ?_
                exact MT_iret (dk dt_signOf 47 rfl) rfl rfl h
              · have h := h.2
                by_cases c8 : l1 = 40
                · have h := h.1 c8
                  refine T_lookup 150 217 (dk dt_signOf 33 rfl) (by decide +kernel) (by rw [c8]; decide +kernel) (by decide) ?_
                  refine T_bipush (v := 61) (dk dt_signOf 48 rfl) (by decide +kernel) ?_
                  exact MT_iret (dk dt_signOf 49 rfl) rfl rfl h
                · have h := h.2
                  by_cases c9 : l1 = 41
                  · have h := h.1 c9
                    refine T_lookup 153 220 (dk dt_signOf 33 rfl) (by decide +kernel) (by rw [c9]; decide +kernel) (by decide) ?_
                    refine T_bipush (v := 62) (dk dt_signOf 50 rfl) (by decide +kernel) ?_
                    exact MT_iret (dk dt_signOf 51 rfl) rfl rfl h
                  · have h := h.2
                    by_cases c10 : l1 = 123
                    · have h := h.1 c10
                      refine T_lookup 156 223 (dk dt_signOf 33 rfl) (by decide +kernel) (by rw [c10]; decide +kernel) (by decide) ?_
                      refine T_bipush (v := 63) (dk dt_signOf 52 rfl) (by decide +kernel) ?_
                      exact MT_iret (dk dt_signOf 53 rfl) rfl rfl h
                    · have h := h.2
                      by_cases c11 : l1 = 125
                      · have h := h.1 c11
                        refine T_lookup 159 226 (dk dt_signOf 33 rfl) (by decide +kernel) (by rw [c11]; decide +kernel) (by decide) ?_
                        refine T_bipush (v := 64) (dk dt_signOf 54 rfl) (by decide +kernel) ?_
                        exact MT_iret (dk dt_signOf 55 rfl) rfl rfl h
                      · have h := h.2
                        by_cases c12 : l1 = 91
                        · have h := h.1 c12
                          refine T_lookup 162 229 (dk dt_signOf 33 rfl) (by decide +kernel) (by rw [c12]; decide +kernel) (by decide) ?_
                          refine T_bipush (v := 65) (dk dt_signOf 56 rfl) (by decide +kernel) ?_
                          exact MT_iret (dk dt_signOf 57 rfl) rfl rfl h
                        · have h := h.2
                          by_cases c13 : l1 = 93
                          · have h := h.1 c13
                            refine T_lookup 165 232 (dk dt_signOf 33 rfl) (by decide +kernel) (by rw [c13]; decide +kernel) (by decide) ?_
                            refine T_bipush (v := 66) (dk dt_signOf 58 rfl) (by decide +kernel) ?_
                            exact MT_iret (dk dt_signOf 59 rfl) rfl rfl h
                          · have h := h.2
                            by_cases c14 : l1 = 59
                            · have h := h.1 c14
                              refine T_lookup 168 235 (dk dt_signOf 33 rfl) (by decide +kernel) (by rw [c14]; decide +kernel) (by decide) ?_
                              refine T_bipush (v := 67) (dk dt_signOf 60 rfl) (by decide +kernel) ?_
                              exact MT_iret (dk dt_signOf 61 rfl) rfl rfl h
                            · have h := h.2
                              by_cases c15 : l1 = 44
                              · have h := h.1 c15
                                refine T_lookup 171 238 (dk dt_signOf 33 rfl) (by decide +kernel) (by rw [c15]; decide +kernel) (by decide) ?_
                                refine T_bipush (v := 68) (dk dt_signOf 62 rfl) (by decide +kernel) ?_
                                exact MT_iret (dk dt_signOf 63 rfl) rfl rfl h
                              · have h := h.2
                                have n16 : ∀ k ∈ [(61 : Int32), (60 : Int32), (62 : Int32), (43 : Int32), (45 : Int32), (42 : Int32), (47 : Int32), (40 : Int32), (41 : Int32), (123 : Int32), (125 : Int32), (91 : Int32), (93 : Int32), (59 : Int32), (44 : Int32)], ¬ l1 = k := (gno c1 (gno c2 (gno c3 (gno c4 (gno c5 (gno c6 (gno c7 (gno c8 (gno c9 (gno c10 (gno c11 (gno c12 (gno c13 (gno c14 (gno c15 gno0)))))))))))))))
                                have h := h n16
                                refine T_lookup 174 241 (dk dt_signOf 33 rfl) (by decide +kernel) (glk_d [(61 : Int32), (60 : Int32), (62 : Int32), (43 : Int32), (45 : Int32), (42 : Int32), (47 : Int32), (40 : Int32), (41 : Int32), (123 : Int32), (125 : Int32), (91 : Int32), (93 : Int32), (59 : Int32), (44 : Int32)] (by decide +kernel) n16) (by decide) ?_
                                refine T_iconst (v := 3) (dk dt_signOf 64 rfl) (by decide +kernel) ?_
                                exact MT_iret (dk dt_signOf 65 rfl) rfl rfl h
set_option maxRecDepth 100000 in
theorem dt_put : dck cX12_put [(0, .aload_n 0, 1), (1, .getfield 13, 3), (4, .aload_n 0, 1), (5, .getfield 342, 3), (8, .iload_n 1, 1), (9, .iastore, 1), (10, .aload_n 0, 1), (11, .getfield 17, 3), (14, .aload_n 0, 1), (15, .getfield 342, 3), (18, .iload_n 2, 1), (19, .iastore, 1), (20, .aload_n 0, 1), (21, .getfield 23, 3), (24, .aload_n 0, 1), (25, .getfield 342, 3), (28, .iload_n 3, 1), (29, .iastore, 1), (30, .aload_n 0, 1), (31, .getfield 20, 3), (34, .aload_n 0, 1), (35, .getfield 342, 3), (38, .iload 4, 2), (40, .iastore, 1), (41, .aload_n 0, 1), (42, .dup, 1), (43, .getfield 342, 3), (46, .iconst 1, 1), (47, .iadd, 1), (48, .putfield 342, 3), (51, .return_, 1)] = true := by decide +kernel
set_option maxRecDepth 100000 in
set_option maxHeartbeats 4000000 in
theorem sg_put_0 {G : mG} {d : Nat} {x : gd} {P : Option gv → gd → Prop} (l1 : Int32) (l2 : Int32) (l3 : Int32) (l4 : Int32)
    (h : vp_in (x.1 0 3) 710 ∧ (∀ x2 : gd, x2 = si x 5 (x.1 0 3 : Int32).toNatClampNeg l1 → vp_in (x2.1 0 3) 710 ∧ (∀ x4 : gd, x4 = si x2 6 (x2.1 0 3 : Int32).toNatClampNeg l2 → vp_in (x4.1 0 3) 710 ∧ (∀ x6 : gd, x6 = si x4 8 (x4.1 0 3 : Int32).toNatClampNeg l3 → vp_in (x6.1 0 3) 710 ∧ (∀ x8 : gd, x8 = si x6 7 (x6.1 0 3 : Int32).toNatClampNeg l4 → (∀ x9 : gd, x9 = si x8 0 3 ((x8.1 0 3) + 1) → P none x9)))))) :
    MT G d z_put 0 [(0, vr 0), (1, vi l1), (2, vi l2), (3, vi l3), (4, vi l4)] [] x P := by
  refine T_aload_n 0 (dk dt_put 0 rfl) rfl rfl ?_
  refine T_getR 0 4 5 (dk dt_put 1 rfl) fl_13 mk_0 ml_0 (by decide) rfl rfl ?_
  refine T_aload_n 0 (dk dt_put 2 rfl) rfl rfl ?_
  refine T_getI 0 3 (dk dt_put 3 rfl) fl_342 mk_0 ml_0 (by decide) rfl ?_
  refine T_iload_n 1 (dk dt_put 4 rfl) rfl rfl ?_
  obtain ⟨h1, h⟩ := h
  obtain ⟨x2, ex2⟩ : ∃ z, z = si x 5 (x.1 0 3 : Int32).toNatClampNeg l1 := ⟨_, rfl⟩
  have h := h x2 ex2
  refine T_iast 5 710 (dk dt_put 5 rfl) mk_5 ml_5 h1 ?_
  rw [← ex2]
  refine T_aload_n 0 (dk dt_put 6 rfl) rfl rfl ?_
  refine T_getR 0 5 6 (dk dt_put 7 rfl) fl_17 mk_0 ml_0 (by decide) rfl rfl ?_
  refine T_aload_n 0 (dk dt_put 8 rfl) rfl rfl ?_
  refine T_getI 0 3 (dk dt_put 9 rfl) fl_342 mk_0 ml_0 (by decide) rfl ?_
  refine T_iload_n 2 (dk dt_put 10 rfl) rfl rfl ?_
  obtain ⟨h3, h⟩ := h
  obtain ⟨x4, ex4⟩ : ∃ z, z = si x2 6 (x2.1 0 3 : Int32).toNatClampNeg l2 := ⟨_, rfl⟩
  have h := h x4 ex4
  refine T_iast 6 710 (dk dt_put 11 rfl) mk_6 ml_6 h3 ?_
  rw [← ex4]
  refine T_aload_n 0 (dk dt_put 12 rfl) rfl rfl ?_
  refine T_getR 0 7 8 (dk dt_put 13 rfl) fl_23 mk_0 ml_0 (by decide) rfl rfl ?_
  refine T_aload_n 0 (dk dt_put 14 rfl) rfl rfl ?_
  refine T_getI 0 3 (dk dt_put 15 rfl) fl_342 mk_0 ml_0 (by decide) rfl ?_
  refine T_iload_n 3 (dk dt_put 16 rfl) rfl rfl ?_
  obtain ⟨h5, h⟩ := h
  obtain ⟨x6, ex6⟩ : ∃ z, z = si x4 8 (x4.1 0 3 : Int32).toNatClampNeg l3 := ⟨_, rfl⟩
  have h := h x6 ex6
  refine T_iast 8 710 (dk dt_put 17 rfl) mk_8 ml_8 h5 ?_
  rw [← ex6]
  refine T_aload_n 0 (dk dt_put 18 rfl) rfl rfl ?_
  refine T_getR 0 6 7 (dk dt_put 19 rfl) fl_20 mk_0 ml_0 (by decide) rfl rfl ?_
  refine T_aload_n 0 (dk dt_put 20 rfl) rfl rfl ?_
  refine T_getI 0 3 (dk dt_put 21 rfl) fl_342 mk_0 ml_0 (by decide) rfl ?_
  refine T_iload 4 (dk dt_put 22 rfl) rfl ?_
  obtain ⟨h7, h⟩ := h
  obtain ⟨x8, ex8⟩ : ∃ z, z = si x6 7 (x6.1 0 3 : Int32).toNatClampNeg l4 := ⟨_, rfl⟩
  have h := h x8 ex8
  refine T_iast 7 710 (dk dt_put 23 rfl) mk_7 ml_7 h7 ?_
  rw [← ex8]
  refine T_aload_n 0 (dk dt_put 24 rfl) rfl rfl ?_
  refine T_dup (dk dt_put 25 rfl) rfl ?_
  refine T_getI 0 3 (dk dt_put 26 rfl) fl_342 mk_0 ml_0 (by decide) rfl ?_
  refine T_iconst (v := 1) (dk dt_put 27 rfl) (by decide +kernel) ?_
  refine T_iadd (dk dt_put 28 rfl) ?_
  obtain ⟨x9, ex9⟩ : ∃ z, z = si x8 0 3 ((x8.1 0 3) + 1) := ⟨_, rfl⟩
  have h := h x9 ex9
  refine T_putI 0 3 (dk dt_put 29 rfl) fl_342 mk_0 ml_0 (by decide) rfl ⟨rfl, rfl⟩ ?_
  rw [← ex9]
  exact MT_vret (dk dt_put 30 rfl) rfl h
set_option maxRecDepth 100000 in
theorem dt_readTokens : dck cX12_readTokens [(0, .aload_n 0, 1), (1, .iconst 0, 1), (2, .putfield 342, 3), (5, .iconst 0, 1), (6, .istore_n 1, 1), (7, .aload_n 0, 1), (8, .getfield 342, 3), (11, .sipush 700, 3), (14, .if_icmp .gt 367, 3), (17, .iconst 1, 1), (18, .istore_n 2, 1), (19, .iload_n 2, 1), (20, .ifCond .eq 98, 3), (23, .aload_n 0, 1), (24, .iload_n 1, 1), (25, .invokevirtual 338, 3), (28, .istore_n 3, 1), (29, .iload_n 3, 1), (30, .bipush 32, 2), (32, .if_icmp .eq 21, 3), (35, .iload_n 3, 1), (36, .bipush 9, 2), (38, .if_icmp .eq 15, 3), (41, .iload_n 3, 1), (42, .bipush 13, 2), (44, .if_icmp .eq 9, 3), (47, .iload_n 3, 1), (48, .bipush 10, 2), (50, .if_icmp .ne 7, 3), (53, .iconst 1, 1), (54, .goto 4, 3), (57, .iconst 0, 1), (58, .istore_n 2, 1), (59, .iload_n 1, 1), (60, .iload_n 2, 1), (61, .ifCond .eq 7, 3), (64, .iconst 1, 1), (65, .goto 4, 3), (68, .iconst 0, 1), (69, .iadd, 1), (70, .istore_n 1, 1), (71, .iload_n 3, 1), (72, .bipush 47, 2), (74, .if_icmp .ne 41, 3), (77, .aload_n 0, 1), (78, .iload_n 1, 1), (79, .iconst 1, 1), (80, .iadd, 1), (81, .invokevirtual 338, 3), (84, .bipush 47, 2), (86, .if_icmp .ne 29, 3), (89, .iconst 1, 1), (90, .istore_n 2, 1), (91, .iload_n 1, 1), (92, .aload_n 0, 1), (93, .getfield 319, 3), (96, .if_icmp .ge 19, 3), (99, .aload_n 0, 1), (100, .iload_n 1, 1), (101, .invokevirtual 338, 3), (104, .bipush 10, 2), (106, .if_icmp .eq 9, 3), (109, .iinc 1 1, 3), (112, .goto (-21), 3), (115, .goto (-96), 3), (118, .aload_n 0, 1), (119, .iload_n 1, 1), (120, .invokevirtual 338, 3), (123, .istore_n 3, 1), (124, .iconst 0, 1), (125, .istore 4, 2), (127, .iconst 0, 1), (128, .istore 5, 2), (130, .iconst 0, 1), (131, .istore 6, 2), (133, .iload_n 3, 1), (134, .invokestatic 345, 3), (137, .ifCond .eq 70, 3), (140, .aload_n 0, 1), (141, .iload_n 1, 1), (142, .iload 4, 2), (144, .iadd, 1), (145, .invokevirtual 338, 3), (148, .invokestatic 345, 3), (151, .ifCond .ne 17, 3), (154, .aload_n 0, 1), (155, .iload_n 1, 1), (156, .iload 4, 2), (158, .iadd, 1), (159, .invokevirtual 338, 3), (162, .invokestatic 349, 3), (165, .ifCond .eq 9, 3), (168, .iinc 4 1, 3), (171, .goto (-31), 3), (174, .aload_n 0, 1), (175, .iload_n 1, 1), (176, .iload 4, 2), (178, .invokevirtual 352, 3), (181, .istore 6, 2), (183, .iload 6, 2), (185, .iconst 1, 1), (186, .if_icmp .ne 14, 3), (189, .iload 4, 2), (191, .bipush 12, 2), (193, .if_icmp .le 7, 3), (196, .iconst 3, 1), (197, .goto 5, 3), (200, .iload 6, 2), (202, .istore 6, 2), (204, .goto 146, 3), (207, .iload_n 3, 1), (208, .invokestatic 349, 3), (211, .ifCond .eq 85, 3), (214, .aload_n 0, 1), (215, .iload_n 1, 1), (216, .iload 4, 2), (218, .iadd, 1), (219, .invokevirtual 338, 3), (222, .invokestatic 349, 3), (225, .ifCond .eq 40, 3), (228, .iload 4, 2), (230, .bipush 9, 2), (232, .if_icmp .ge 23, 3), (235, .bipush 10, 2), (237, .iload 5, 2), (239, .imul, 1), (240, .aload_n 0, 1), (241, .iload_n 1, 1), (242, .iload 4, 2), (244, .iadd, 1), (245, .invokevirtual 338, 3), (248, .iadd, 1), (249, .bipush 48, 2), (251, .isub, 1), (252, .goto 5, 3), (255, .iload 5, 2), (257, .istore 5, 2), (259, .iinc 4 1, 3), (262, .goto (-48), 3), (265, .iload 4, 2), (267, .bipush 9, 2), (269, .if_icmp .gt 17, 3), (272, .aload_n 0, 1), (273, .iload_n 1, 1), (274, .iload 4, 2), (276, .iadd, 1), (277, .invokevirtual 338, 3), (280, .invokestatic 345, 3), (283, .ifCond .eq 7, 3), (286, .iconst 3, 1), (287, .goto 4, 3), (290, .iconst 2, 1), (291, .istore 6, 2), (293, .goto 57, 3), (296, .iload_n 3, 1), (297, .iconst (-1), 1), (298, .if_icmp .eq 52, 3), (301, .aload_n 0, 1), (302, .iload_n 3, 1), (303, .aload_n 0, 1), (304, .iload_n 1, 1), (305, .iconst 1, 1), (306, .iadd, 1), (307, .invokevirtual 338, 3), (310, .invokevirtual 356, 3), (313, .istore 6, 2), (315, .iload 6, 2), (317, .bipush 51, 2), (319, .if_icmp .eq 24, 3), (322, .iload 6, 2), (324, .bipush 52, 2), (326, .if_icmp .eq 17, 3), (329, .iload 6, 2), (331, .bipush 54, 2), (333, .if_icmp .eq 10, 3), (336, .iload 6, 2), (338, .bipush 56, 2), (340, .if_icmp .ne 7, 3), (343, .iconst 2, 1), (344, .goto 4, 3), (347, .iconst 1, 1), (348, .istore 4, 2), (350, .aload_n 0, 1), (351, .iload 6, 2), (353, .iload_n 1, 1), (354, .iload 4, 2), (356, .iload 5, 2), (358, .invokevirtual 359, 3), (361, .iload 6, 2), (363, .ifCond .eq 9, 3), (366, .iload 6, 2), (368, .iconst 3, 1), (369, .if_icmp .ne 4, 3), (372, .return_, 1), (373, .iload_n 1, 1), (374, .iload 4, 2), (376, .iadd, 1), (377, .istore_n 1, 1), (378, .goto (-371), 3), (381, .return_, 1)] = true := by decide +kernel
set_option maxRecDepth 100000 in
set_option maxHeartbeats 4000000 in
theorem sg_readTokens_0 {G : mG} {d : Nat} {x : gd} {P : Option gv → gd → Prop} 
    (h : (∀ x1 : gd, x1 = si x 0 3 0 → MT G (d + 1) z_readTokens 7 [(0, vr 0), (1, vi 0)] [] x1 P)) :
    MT G (d + 1) z_readTokens 0 [(0, vr 0)] [] x P := by
  refine T_aload_n 0 (dk dt_readTokens 0 rfl) rfl rfl ?_
  refine T_iconst (v := 0) (dk dt_readTokens 1 rfl) (by decide +kernel) ?_
  obtain ⟨x1, ex1⟩ : ∃ z, z = si x 0 3 0 := ⟨_, rfl⟩
  have h := h x1 ex1
  refine T_putI 0 3 (dk dt_readTokens 2 rfl) fl_342 mk_0 ml_0 (by decide) rfl ⟨rfl, rfl⟩ ?_
  rw [← ex1]
  refine T_iconst (v := 0) (dk dt_readTokens 3 rfl) (by decide +kernel) ?_
  refine T_istore_n (lv2 := [(1, vi 0), (0, vr 0)]) (dk dt_readTokens 4 rfl) rfl (by decide) rfl ?_
  exact T_sub [1, 0] rfl h
set_option maxRecDepth 100000 in
set_option maxHeartbeats 4000000 in
theorem sg_readTokens_7 {G : mG} {d : Nat} {x : gd} {P : Option gv → gd → Prop} (l1 : Int32)
    (h : (((700 : Int32) < (x.1 0 3) → P none x) ∧ (¬ ((700 : Int32) < (x.1 0 3)) → MT G (d + 1) z_readTokens 19 [(0, vr 0), (1, vi l1), (2, vi 1)] [] x P))) :
    MT G (d + 1) z_readTokens 7 [(0, vr 0), (1, vi l1)] [] x P := by
  refine T_aload_n 0 (dk dt_readTokens 5 rfl) rfl rfl ?_
  refine T_getI 0 3 (dk dt_readTokens 6 rfl) fl_342 mk_0 ml_0 (by decide) rfl ?_
  refine T_sipush (v := 700) (dk dt_readTokens 7 rfl) (by decide +kernel) ?_
  refine T_icmp_gt 381 (dk dt_readTokens 8 rfl) (by decide) (fun c1 => ?_) (fun c1 => ?_)
  · have h := h.1 c1
    exact MT_vret (dk dt_readTokens 199 rfl) rfl h
  · have h := h.2 c1
    refine T_iconst (v := 1) (dk dt_readTokens 9 rfl) (by decide +kernel) ?_
    refine T_istore_n (lv2 := [(2, vi 1), (0, vr 0), (1, vi l1)]) (dk dt_readTokens 10 rfl) rfl (by decide) rfl ?_
    exact T_sub [1, 2, 0] rfl h
set_option maxRecDepth 100000 in
set_option maxHeartbeats 4000000 in
theorem sg_readTokens_19 {G : mG} {d : Nat} {x : gd} {P : Option gv → gd → Prop} (l1 : Int32) (l2 : Int32)
    (h : ((l2 = (0 : Int32) → MT G d z_byteAt 0 [(0, vr 0), (1, vi l1)] [] x (ri (fun r3 x2 => MT G d z_isLetter 0 [(0, vi r3)] [] x2 (ri (fun r5 x4 => ((r5 = (0 : Int32) → MT G d z_isDigit 0 [(0, vi r3)] [] x4 (ri (fun r8 x7 => ((r8 = (0 : Int32) → ((r3 = (-1 : Int32) → MT G (d + 1) z_readTokens 350 [(0, vr 0), (1, vi l1), (4, vi 0), (5, vi 0), (6, vi 0)] [] x7 P) ∧ (¬ (r3 = (-1 : Int32)) → MT G d z_byteAt 0 [(0, vr 0), (1, vi (l1 + 1))] [] x7 (ri (fun r12 x11 => MT G d z_signOf 0 [(0, vr 0), (1, vi r3), (2, vi r12)] [] x11 (ri (fun r14 x13 => ((r14 = (51 : Int32) → MT G (d + 1) z_readTokens 350 [(0, vr 0), (1, vi l1), (4, vi 2), (5, vi 0), (6, vi r14)] [] x13 P) ∧ (¬ (r14 = (51 : Int32)) → ((r14 = (52 : Int32) → MT G (d + 1) z_readTokens 350 [(0, vr 0), (1, vi l1), (4, vi 2), (5, vi 0), (6, vi r14)] [] x13 P) ∧ (¬ (r14 = (52 : Int32)) → ((r14 = (54 : Int32) → MT G (d + 1) z_readTokens 350 [(0, vr 0), (1, vi l1), (4, vi 2), (5, vi 0), (6, vi r14)] [] x13 P) ∧ (¬ (r14 = (54 : Int32)) → ((¬ (r14 = (56 : Int32)) → MT G (d + 1) z_readTokens 350 [(0, vr 0), (1, vi l1), (4, vi 1), (5, vi 0), (6, vi r14)] [] x13 P) ∧ (r14 = (56 : Int32) → MT G (d + 1) z_readTokens 350 [(0, vr 0), (1, vi l1), (4, vi 2), (5, vi 0), (6, vi r14)] [] x13 P))))))))))))))) ∧ (¬ (r8 = (0 : Int32)) → MT G (d + 1) z_readTokens 214 [(0, vr 0), (1, vi l1), (4, vi 0), (5, vi 0)] [] x7 P))))) ∧ (¬ (r5 = (0 : Int32)) → MT G (d + 1) z_readTokens 140 [(0, vr 0), (1, vi l1), (4, vi 0), (5, vi 0)] [] x4 P))))))) ∧ (¬ (l2 = (0 : Int32)) → MT G d z_byteAt 0 [(0, vr 0), (1, vi l1)] [] x (ri (fun r20 x19 => ((r20 = (32 : Int32) → MT G (d + 1) z_readTokens 58 [(0, vr 0), (1, vi l1), (3, vi r20)] [vi 1] x19 P) ∧ (¬ (r20 = (32 : Int32)) → ((r20 = (9 : Int32) → MT G (d + 1) z_readTokens 58 [(0, vr 0), (1, vi l1), (3, vi r20)] [vi 1] x19 P) ∧ (¬ (r20 = (9 : Int32)) → ((r20 = (13 : Int32) → MT G (d + 1) z_readTokens 58 [(0, vr 0), (1, vi l1), (3, vi r20)] [vi 1] x19 P) ∧ (¬ (r20 = (13 : Int32)) → ((¬ (r20 = (10 : Int32)) → MT G (d + 1) z_readTokens 58 [(0, vr 0), (1, vi l1), (3, vi r20)] [vi 0] x19 P) ∧ (r20 = (10 : Int32) → MT G (d + 1) z_readTokens 58 [(0, vr 0), (1, vi l1), (3, vi r20)] [vi 1] x19 P))))))))))))) :
    MT G (d + 1) z_readTokens 19 [(0, vr 0), (1, vi l1), (2, vi l2)] [] x P := by
  refine T_iload_n 2 (dk dt_readTokens 11 rfl) rfl rfl ?_
  refine T_if_eq 118 (dk dt_readTokens 12 rfl) (by decide) (fun c1 => ?_) (fun c1 => ?_)
  · have h := h.1 c1
    refine T_aload_n 0 (dk dt_readTokens 65 rfl) rfl rfl ?_
    refine T_iload_n 1 (dk dt_readTokens 66 rfl) rfl rfl ?_
    refine MT_callVi [vi l1] [] rfl (dk dt_readTokens 67 rfl) cv_338 rfl rfl (Nat.le_of_ble_eq_true rfl) (Nat.le_of_ble_eq_true rfl) rfl rfl h (fun r3 x2 h => ?_)
    refine T_istore_n (lv2 := [(3, vi r3), (0, vr 0), (1, vi l1), (2, vi l2)]) (dk dt_readTokens 68 rfl) rfl (by decide) rfl ?_
    refine T_iconst (v := 0) (dk dt_readTokens 69 rfl) (by decide +kernel) ?_
    refine T_istore (lv2 := [(4, vi 0), (3, vi r3), (0, vr 0), (1, vi l1), (2, vi l2)]) (dk dt_readTokens 70 rfl) (by decide) rfl ?_
    refine T_iconst (v := 0) (dk dt_readTokens 71 rfl) (by decide +kernel) ?_
    refine T_istore (lv2 := [(5, vi 0), (4, vi 0), (3, vi r3), (0, vr 0), (1, vi l1), (2, vi l2)]) (dk dt_readTokens 72 rfl) (by decide) rfl ?_
    refine T_iconst (v := 0) (dk dt_readTokens 73 rfl) (by decide +kernel) ?_
    refine T_istore (lv2 := [(6, vi 0), (5, vi 0), (4, vi 0), (3, vi r3), (0, vr 0), (1, vi l1), (2, vi l2)]) (dk dt_readTokens 74 rfl) (by decide) rfl ?_
    refine T_iload_n 3 (dk dt_readTokens 75 rfl) rfl rfl ?_
    refine MT_callSi [vi r3] [] rfl (dk dt_readTokens 76 rfl) cs_345 rfl (Nat.le_of_ble_eq_true rfl) (Nat.le_of_ble_eq_true rfl) rfl rfl h (fun r5 x4 h => ?_)
    refine T_if_eq 207 (dk dt_readTokens 77 rfl) (by decide) (fun c6 => ?_) (fun c6 => ?_)
    · have h := h.1 c6
      refine T_iload_n 3 (dk dt_readTokens 110 rfl) rfl rfl ?_
      refine MT_callSi [vi r3] [] rfl (dk dt_readTokens 111 rfl) cs_349 rfl (Nat.le_of_ble_eq_true rfl) (Nat.le_of_ble_eq_true rfl) rfl rfl h (fun r8 x7 h => ?_)
      refine T_if_eq 296 (dk dt_readTokens 112 rfl) (by decide) (fun c9 => ?_) (fun c9 => ?_)
      · have h := h.1 c9
        refine T_iload_n 3 (dk dt_readTokens 154 rfl) rfl rfl ?_
        refine T_iconst (v := (-1)) (dk dt_readTokens 155 rfl) (by decide +kernel) ?_
        refine T_icmp_eq 350 (dk dt_readTokens 156 rfl) (by decide) (fun c10 => ?_) (fun c10 => ?_)
        · have h := h.1 c10
          exact T_sub [4, 5, 2, 1, 0] rfl h
        · have h := h.2 c10
          refine T_aload_n 4 (dk dt_readTokens 157 rfl) rfl rfl ?_
          refine T_iload_n 3 (dk dt_readTokens 158 rfl) rfl rfl ?_
          refine T_aload_n 4 (dk dt_readTokens 159 rfl) rfl rfl ?_
          refine T_iload_n 5 (dk dt_readTokens 160 rfl) rfl rfl ?_
          refine T_iconst (v := 1) (dk dt_readTokens 161 rfl) (by decide +kernel) ?_
          refine T_iadd (dk dt_readTokens 162 rfl) ?_
          refine MT_callVi [vi (l1 + 1)] [vi r3, vr 0] rfl (dk dt_readTokens 163 rfl) cv_338 rfl rfl (Nat.le_of_ble_eq_true rfl) (Nat.le_of_ble_eq_true rfl) rfl rfl h (fun r12 x11 h => ?_)
          refine MT_callVi [vi r3, vi r12] [] rfl (dk dt_readTokens 164 rfl) cv_356 rfl rfl (Nat.le_of_ble_eq_true rfl) (Nat.le_of_ble_eq_true rfl) rfl rfl h (fun r14 x13 h => ?_)
          refine T_istore (lv2 := [(6, vi r14), (5, vi 0), (4, vi 0), (3, vi r3), (0, vr 0), (1, vi l1), (2, vi l2)]) (dk dt_readTokens 165 rfl) (by decide) rfl ?_
          refine T_iload 0 (dk dt_readTokens 166 rfl) rfl ?_
          refine T_bipush (v := 51) (dk dt_readTokens 167 rfl) (by decide +kernel) ?_
          refine T_icmp_eq 343 (dk dt_readTokens 168 rfl) (by decide) (fun c15 => ?_) (fun c15 => ?_)
          · have h := h.1 c15
            refine T_iconst (v := 2) (dk dt_readTokens 178 rfl) (by decide +kernel) ?_
            refine T_goto 348 (dk dt_readTokens 179 rfl) (by decide) ?_
            refine T_istore (lv2 := [(4, vi 2), (6, vi r14), (5, vi 0), (3, vi r3), (0, vr 0), (1, vi l1), (2, vi l2)]) (dk dt_readTokens 181 rfl) (by decide) rfl ?_
            exact T_sub [4, 5, 0, 2, 1] rfl h
          · have h := h.2 c15
            refine T_iload 0 (dk dt_readTokens 169 rfl) rfl ?_
            refine T_bipush (v := 52) (dk dt_readTokens 170 rfl) (by decide +kernel) ?_
            refine T_icmp_eq 343 (dk dt_readTokens 171 rfl) (by decide) (fun c16 => ?_) (fun c16 => ?_)
            · have h := h.1 c16
              refine T_iconst (v := 2) (dk dt_readTokens 178 rfl) (by decide +kernel) ?_
              refine T_goto 348 (dk dt_readTokens 179 rfl) (by decide) ?_
              refine T_istore (lv2 := [(4, vi 2), (6, vi r14), (5, vi 0), (3, vi r3), (0, vr 0), (1, vi l1), (2, vi l2)]) (dk dt_readTokens 181 rfl) (by decide) rfl ?_
              exact T_sub [4, 5, 0, 2, 1] rfl h
            · have h := h.2 c16
              refine T_iload 0 (dk dt_readTokens 172 rfl) rfl ?_
              refine T_bipush (v := 54) (dk dt_readTokens 173 rfl) (by decide +kernel) ?_
              refine T_icmp_eq 343 (dk dt_readTokens 174 rfl) (by decide) (fun c17 => ?_) (fun c17 => ?_)
              · have h := h.1 c17
                refine T_iconst (v := 2) (dk dt_readTokens 178 rfl) (by decide +kernel) ?_
                refine T_goto 348 (dk dt_readTokens 179 rfl) (by decide) ?_
                refine T_istore (lv2 := [(4, vi 2), (6, vi r14), (5, vi 0), (3, vi r3), (0, vr 0), (1, vi l1), (2, vi l2)]) (dk dt_readTokens 181 rfl) (by decide) rfl ?_
                exact T_sub [4, 5, 0, 2, 1] rfl h
              · have h := h.2 c17
                refine T_iload 0 (dk dt_readTokens 175 rfl) rfl ?_
                refine T_bipush (v := 56) (dk dt_readTokens 176 rfl) (by decide +kernel) ?_
                refine T_icmp_ne 347 (dk dt_readTokens 177 rfl) (by decide) (fun c18 => ?_) (fun c18 => ?_)
                · have h := h.1 c18
                  refine T_iconst (v := 1) (dk dt_readTokens 180 rfl) (by decide +kernel) ?_
                  refine T_istore (lv2 := [(4, vi 1), (6, vi r14), (5, vi 0), (3, vi r3), (0, vr 0), (1, vi l1), (2, vi l2)]) (dk dt_readTokens 181 rfl) (by decide) rfl ?_
                  exact T_sub [4, 5, 0, 2, 1] rfl h
                · have h := h.2 c18
                  refine T_iconst (v := 2) (dk dt_readTokens 178 rfl) (by decide +kernel) ?_
                  refine T_goto 348 (dk dt_readTokens 179 rfl) (by decide) ?_
                  refine T_istore (lv2 := [(4, vi 2), (6, vi r14), (5, vi 0), (3, vi r3), (0, vr 0), (1, vi l1), (2, vi l2)]) (dk dt_readTokens 181 rfl) (by decide) rfl ?_
                  exact T_sub [4, 5, 0, 2, 1] rfl h
      · have h := h.2 c9
        exact T_sub [4, 5, 2, 1] rfl h
    · have h := h.2 c6
      exact T_sub [4, 5, 2, 1] rfl h
  · have h := h.2 c1
    refine T_aload_n 0 (dk dt_readTokens 13 rfl) rfl rfl ?_
    refine T_iload_n 1 (dk dt_readTokens 14 rfl) rfl rfl ?_
    refine MT_callVi [vi l1] [] rfl (dk dt_readTokens 15 rfl) cv_338 rfl rfl (Nat.le_of_ble_eq_true rfl) (Nat.le_of_ble_eq_true rfl) rfl rfl h (fun r20 x19 h => ?_)
    refine T_istore_n (lv2 := [(3, vi r20), (0, vr 0), (1, vi l1), (2, vi l2)]) (dk dt_readTokens 16 rfl) rfl (by decide) rfl ?_
    refine T_iload_n 0 (dk dt_readTokens 17 rfl) rfl rfl ?_
    refine T_bipush (v := 32) (dk dt_readTokens 18 rfl) (by decide +kernel) ?_
    refine T_icmp_eq 53 (dk dt_readTokens 19 rfl) (by decide) (fun c21 => ?_) (fun c21 => ?_)
    · have h := h.1 c21
      refine T_iconst (v := 1) (dk dt_readTokens 29 rfl) (by decide +kernel) ?_
      refine T_goto 58 (dk dt_readTokens 30 rfl) (by decide) ?_
      exact T_sub [1, 2, 0] rfl h
    · have h := h.2 c21
      refine T_iload_n 0 (dk dt_readTokens 20 rfl) rfl rfl ?_
      refine T_bipush (v := 9) (dk dt_readTokens 21 rfl) (by decide +kernel) ?_
      refine T_icmp_eq 53 (dk dt_readTokens 22 rfl) (by decide) (fun c22 => ?_) (fun c22 => ?_)
      · have h := h.1 c22
        refine T_iconst (v := 1) (dk dt_readTokens 29 rfl) (by decide +kernel) ?_
        refine T_goto 58 (dk dt_readTokens 30 rfl) (by decide) ?_
        exact T_sub [1, 2, 0] rfl h
      · have h := h.2 c22
        refine T_iload_n 0 (dk dt_readTokens 23 rfl) rfl rfl ?_
        refine T_bipush (v := 13) (dk dt_readTokens 24 rfl) (by decide +kernel) ?_
        refine T_icmp_eq 53 (dk dt_readTokens 25 rfl) (by decide) (fun c23 => ?_) (fun c23 => ?_)
        · have h := h.1 c23
          refine T_iconst (v := 1) (dk dt_readTokens 29 rfl) (by decide +kernel) ?_
          refine T_goto 58 (dk dt_readTokens 30 rfl) (by decide) ?_
          exact T_sub [1, 2, 0] rfl h
        · have h := h.2 c23
          refine T_iload_n 0 (dk dt_readTokens 26 rfl) rfl rfl ?_
          refine T_bipush (v := 10) (dk dt_readTokens 27 rfl) (by decide +kernel) ?_
          refine T_icmp_ne 57 (dk dt_readTokens 28 rfl) (by decide) (fun c24 => ?_) (fun c24 => ?_)
          · have h := h.1 c24
            refine T_iconst (v := 0) (dk dt_readTokens 31 rfl) (by decide +kernel) ?_
            exact T_sub [1, 2, 0] rfl h
          · have h := h.2 c24
            refine T_iconst (v := 1) (dk dt_readTokens 29 rfl) (by decide +kernel) ?_
            refine T_goto 58 (dk dt_readTokens 30 rfl) (by decide) ?_
            exact T_sub [1, 2, 0] rfl h
set_option maxRecDepth 100000 in
set_option maxHeartbeats 4000000 in
theorem sg_readTokens_58 {G : mG} {d : Nat} {x : gd} {P : Option gv → gd → Prop} (l1 : Int32) (l3 : Int32) (s0 : Int32)
    (h : ((s0 = (0 : Int32) → MT G (d + 1) z_readTokens 69 [(0, vr 0), (2, vi s0), (3, vi l3)] [vi 0, vi l1] x P) ∧ (¬ (s0 = (0 : Int32)) → MT G (d + 1) z_readTokens 69 [(0, vr 0), (2, vi s0), (3, vi l3)] [vi 1, vi l1] x P))) :
    MT G (d + 1) z_readTokens 58 [(0, vr 0), (1, vi l1), (3, vi l3)] [vi s0] x P := by
  refine T_istore_n (lv2 := [(2, vi s0), (0, vr 0), (1, vi l1), (3, vi l3)]) (dk dt_readTokens 32 rfl) rfl (by decide) rfl ?_
  refine T_iload_n 2 (dk dt_readTokens 33 rfl) rfl rfl ?_
  refine T_iload_n 0 (dk dt_readTokens 34 rfl) rfl rfl ?_
  refine T_if_eq 68 (dk dt_readTokens 35 rfl) (by decide) (fun c1 => ?_) (fun c1 => ?_)
  · have h := h.1 c1
    refine T_iconst (v := 0) (dk dt_readTokens 38 rfl) (by decide +kernel) ?_
    exact T_sub [1, 0, 3] rfl h
  · have h := h.2 c1
    refine T_iconst (v := 1) (dk dt_readTokens 36 rfl) (by decide +kernel) ?_
    refine T_goto 69 (dk dt_readTokens 37 rfl) (by decide) ?_
    exact T_sub [1, 0, 3] rfl h
set_option maxRecDepth 100000 in
set_option maxHeartbeats 4000000 in
theorem sg_readTokens_69 {G : mG} {d : Nat} {x : gd} {P : Option gv → gd → Prop} (l2 : Int32) (l3 : Int32) (s0 : Int32) (s1 : Int32)
    (h : ((¬ (l3 = (47 : Int32)) → MT G (d + 1) z_readTokens 19 [(0, vr 0), (1, vi (s1 + s0)), (2, vi l2)] [] x P) ∧ (l3 = (47 : Int32) → MT G d z_byteAt 0 [(0, vr 0), (1, vi ((s1 + s0) + 1))] [] x (ri (fun r3 x2 => ((¬ (r3 = (47 : Int32)) → MT G (d + 1) z_readTokens 19 [(0, vr 0), (1, vi (s1 + s0)), (2, vi l2)] [] x2 P) ∧ (r3 = (47 : Int32) → MT G (d + 1) z_readTokens 91 [(0, vr 0), (1, vi (s1 + s0)), (2, vi 1)] [] x2 P))))))) :
    MT G (d + 1) z_readTokens 69 [(0, vr 0), (2, vi l2), (3, vi l3)] [vi s0, vi s1] x P := by
  refine T_iadd (dk dt_readTokens 39 rfl) ?_
  refine T_istore_n (lv2 := [(1, vi (s1 + s0)), (0, vr 0), (2, vi l2), (3, vi l3)]) (dk dt_readTokens 40 rfl) rfl (by decide) rfl ?_
  refine T_iload_n 3 (dk dt_readTokens 41 rfl) rfl rfl ?_
  refine T_bipush (v := 47) (dk dt_readTokens 42 rfl) (by decide +kernel) ?_
  refine T_icmp_ne 115 (dk dt_readTokens 43 rfl) (by decide) (fun c1 => ?_) (fun c1 => ?_)
  · have h := h.1 c1
    refine T_goto 19 (dk dt_readTokens 64 rfl) (by decide) ?_
    exact T_sub [1, 0, 2] rfl h
  · have h := h.2 c1
    refine T_aload_n 1 (dk dt_readTokens 44 rfl) rfl rfl ?_
    refine T_iload_n 0 (dk dt_readTokens 45 rfl) rfl rfl ?_
    refine T_iconst (v := 1) (dk dt_readTokens 46 rfl) (by decide +kernel) ?_
    refine T_iadd (dk dt_readTokens 47 rfl) ?_
    refine MT_callVi [vi ((s1 + s0) + 1)] [] rfl (dk dt_readTokens 48 rfl) cv_338 rfl rfl (Nat.le_of_ble_eq_true rfl) (Nat.le_of_ble_eq_true rfl) rfl rfl h (fun r3 x2 h => ?_)
    refine T_bipush (v := 47) (dk dt_readTokens 49 rfl) (by decide +kernel) ?_
    refine T_icmp_ne 115 (dk dt_readTokens 50 rfl) (by decide) (fun c4 => ?_) (fun c4 => ?_)
    · have h := h.1 c4
      refine T_goto 19 (dk dt_readTokens 64 rfl) (by decide) ?_
      exact T_sub [1, 0, 2] rfl h
    · have h := h.2 c4
      refine T_iconst (v := 1) (dk dt_readTokens 51 rfl) (by decide +kernel) ?_
      refine T_istore_n (lv2 := [(2, vi 1), (1, vi (s1 + s0)), (0, vr 0), (3, vi l3)]) (dk dt_readTokens 52 rfl) rfl (by decide) rfl ?_
      exact T_sub [2, 1, 0] rfl h
set_option maxRecDepth 100000 in
set_option maxHeartbeats 4000000 in
theorem sg_readTokens_91 {G : mG} {d : Nat} {x : gd} {P : Option gv → gd → Prop} (l1 : Int32) (l2 : Int32)
    (h : (((x.1 0 2) ≤ l1 → MT G (d + 1) z_readTokens 19 [(0, vr 0), (1, vi l1), (2, vi l2)] [] x P) ∧ (¬ ((x.1 0 2) ≤ l1) → MT G d z_byteAt 0 [(0, vr 0), (1, vi l1)] [] x (ri (fun r3 x2 => ((r3 = (10 : Int32) → MT G (d + 1) z_readTokens 19 [(0, vr 0), (1, vi l1), (2, vi l2)] [] x2 P) ∧ (¬ (r3 = (10 : Int32)) → MT G (d + 1) z_readTokens 91 [(0, vr 0), (1, vi (l1 + 1)), (2, vi l2)] [] x2 P))))))) :
    MT G (d + 1) z_readTokens 91 [(0, vr 0), (1, vi l1), (2, vi l2)] [] x P := by
  refine T_iload_n 1 (dk dt_readTokens 53 rfl) rfl rfl ?_
  refine T_aload_n 0 (dk dt_readTokens 54 rfl) rfl rfl ?_
  refine T_getI 0 2 (dk dt_readTokens 55 rfl) fl_319 mk_0 ml_0 (by decide) rfl ?_
  refine T_icmp_ge 115 (dk dt_readTokens 56 rfl) (by decide) (fun c1 => ?_) (fun c1 => ?_)
  · have h := h.1 c1
    refine T_goto 19 (dk dt_readTokens 64 rfl) (by decide) ?_
    exact h
  · have h := h.2 c1
    refine T_aload_n 0 (dk dt_readTokens 57 rfl) rfl rfl ?_
    refine T_iload_n 1 (dk dt_readTokens 58 rfl) rfl rfl ?_
    refine MT_callVi [vi l1] [] rfl (dk dt_readTokens 59 rfl) cv_338 rfl rfl (Nat.le_of_ble_eq_true rfl) (Nat.le_of_ble_eq_true rfl) rfl rfl h (fun r3 x2 h => ?_)
    refine T_bipush (v := 10) (dk dt_readTokens 60 rfl) (by decide +kernel) ?_
    refine T_icmp_eq 115 (dk dt_readTokens 61 rfl) (by decide) (fun c4 => ?_) (fun c4 => ?_)
    · have h := h.1 c4
      refine T_goto 19 (dk dt_readTokens 64 rfl) (by decide) ?_
      exact h
    · have h := h.2 c4
      refine T_iinc (v := l1 + 1) (lv2 := [(1, vi (l1 + 1)), (0, vr 0), (2, vi l2)]) 1 (dk dt_readTokens 62 rfl) rfl rfl (by decide) rfl ?_
      refine T_goto 91 (dk dt_readTokens 63 rfl) (by decide) ?_
      exact T_sub [1, 0, 2] rfl h
set_option maxRecDepth 100000 in
set_option maxHeartbeats 4000000 in
theorem sg_readTokens_140 {G : mG} {d : Nat} {x : gd} {P : Option gv → gd → Prop} (l1 : Int32) (l4 : Int32) (l5 : Int32)
    (h : MT G d z_byteAt 0 [(0, vr 0), (1, vi (l1 + l4))] [] x (ri (fun r2 x1 => MT G d z_isLetter 0 [(0, vi r2)] [] x1 (ri (fun r4 x3 => ((¬ (r4 = (0 : Int32)) → MT G (d + 1) z_readTokens 140 [(0, vr 0), (1, vi l1), (4, vi (l4 + 1)), (5, vi l5)] [] x3 P) ∧ (r4 = (0 : Int32) → MT G d z_byteAt 0 [(0, vr 0), (1, vi (l1 + l4))] [] x3 (ri (fun r7 x6 => MT G d z_isDigit 0 [(0, vi r7)] [] x6 (ri (fun r9 x8 => ((r9 = (0 : Int32) → MT G d z_wordOf 0 [(0, vr 0), (1, vi l1), (2, vi l4)] [] x8 (ri (fun r12 x11 => ((¬ (r12 = (1 : Int32)) → MT G (d + 1) z_readTokens 350 [(0, vr 0), (1, vi l1), (4, vi l4), (5, vi l5), (6, vi r12)] [] x11 P) ∧ (r12 = (1 : Int32) → ((l4 ≤ (12 : Int32) → MT G (d + 1) z_readTokens 350 [(0, vr 0), (1, vi l1), (4, vi l4), (5, vi l5), (6, vi r12)] [] x11 P) ∧ (¬ (l4 ≤ (12 : Int32)) → MT G (d + 1) z_readTokens 350 [(0, vr 0), (1, vi l1), (4, vi l4), (5, vi l5), (6, vi 3)] [] x11 P))))))) ∧ (¬ (r9 = (0 : Int32)) → MT G (d + 1) z_readTokens 140 [(0, vr 0), (1, vi l1), (4, vi (l4 + 1)), (5, vi l5)] [] x8 P))))))))))))) :
    MT G (d + 1) z_readTokens 140 [(0, vr 0), (1, vi l1), (4, vi l4), (5, vi l5)] [] x P := by
  refine T_aload_n 0 (dk dt_readTokens 78 rfl) rfl rfl ?_
  refine T_iload_n 1 (dk dt_readTokens 79 rfl) rfl rfl ?_
  refine T_iload 2 (dk dt_readTokens 80 rfl) rfl ?_
  refine T_iadd (dk dt_readTokens 81 rfl) ?_
  refine MT_callVi [vi (l1 + l4)] [] rfl (dk dt_readTokens 82 rfl) cv_338 rfl rfl (Nat.le_of_ble_eq_true rfl) (Nat.le_of_ble_eq_true rfl) rfl rfl h (fun r2 x1 h => ?_)
  refine MT_callSi [vi r2] [] rfl (dk dt_readTokens 83 rfl) cs_345 rfl (Nat.le_of_ble_eq_true rfl) (Nat.le_of_ble_eq_true rfl) rfl rfl h (fun r4 x3 h => ?_)
  refine T_if_ne 168 (dk dt_readTokens 84 rfl) (by decide) (fun c5 => ?_) (fun c5 => ?_)
  · have h := h.1 c5
    refine T_iinc (v := l4 + 1) (lv2 := [(4, vi (l4 + 1)), (0, vr 0), (1, vi l1), (5, vi l5)]) 2 (dk dt_readTokens 92 rfl) rfl rfl (by decide) rfl ?_
    refine T_goto 140 (dk dt_readTokens 93 rfl) (by decide) ?_
    exact T_sub [1, 2, 0, 3] rfl h
  · have h := h.2 c5
    refine T_aload_n 0 (dk dt_readTokens 85 rfl) rfl rfl ?_
    refine T_iload_n 1 (dk dt_readTokens 86 rfl) rfl rfl ?_
    refine T_iload 2 (dk dt_readTokens 87 rfl) rfl ?_
    refine T_iadd (dk dt_readTokens 88 rfl) ?_
    refine MT_callVi [vi (l1 + l4)] [] rfl (dk dt_readTokens 89 rfl) cv_338 rfl rfl (Nat.le_of_ble_eq_true rfl) (Nat.le_of_ble_eq_true rfl) rfl rfl h (fun r7 x6 h => ?_)
    refine MT_callSi [vi r7] [] rfl (dk dt_readTokens 90 rfl) cs_349 rfl (Nat.le_of_ble_eq_true rfl) (Nat.le_of_ble_eq_true rfl) rfl rfl h (fun r9 x8 h => ?_)
    refine T_if_eq 174 (dk dt_readTokens 91 rfl) (by decide) (fun c10 => ?_) (fun c10 => ?_)
    · have h := h.1 c10
      refine T_aload_n 0 (dk dt_readTokens 94 rfl) rfl rfl ?_
      refine T_iload_n 1 (dk dt_readTokens 95 rfl) rfl rfl ?_
      refine T_iload 2 (dk dt_readTokens 96 rfl) rfl ?_
      refine MT_callVi [vi l1, vi l4] [] rfl (dk dt_readTokens 97 rfl) cv_352 rfl rfl (Nat.le_of_ble_eq_true rfl) (Nat.le_of_ble_eq_true rfl) rfl rfl h (fun r12 x11 h => ?_)
      refine T_istore (lv2 := [(6, vi r12), (0, vr 0), (1, vi l1), (4, vi l4), (5, vi l5)]) (dk dt_readTokens 98 rfl) (by decide) rfl ?_
      refine T_iload 0 (dk dt_readTokens 99 rfl) rfl ?_
      refine T_iconst (v := 1) (dk dt_readTokens 100 rfl) (by decide +kernel) ?_
      refine T_icmp_ne 200 (dk dt_readTokens 101 rfl) (by decide) (fun c13 => ?_) (fun c13 => ?_)
      · have h := h.1 c13
        refine T_iload 0 (dk dt_readTokens 107 rfl) rfl ?_
        refine T_istore (lv2 := [(6, vi r12), (0, vr 0), (1, vi l1), (4, vi l4), (5, vi l5)]) (dk dt_readTokens 108 rfl) (by decide) rfl ?_
        refine T_goto 350 (dk dt_readTokens 109 rfl) (by decide) ?_
        exact T_sub [1, 2, 3, 4, 0] rfl h
      · have h := h.2 c13
        refine T_iload 3 (dk dt_readTokens 102 rfl) rfl ?_
        refine T_bipush (v := 12) (dk dt_readTokens 103 rfl) (by decide +kernel) ?_
        refine T_icmp_le 200 (dk dt_readTokens 104 rfl) (by decide) (fun c14 => ?_) (fun c14 => ?_)
        · have h := h.1 c14
          refine T_iload 0 (dk dt_readTokens 107 rfl) rfl ?_
          refine T_istore (lv2 := [(6, vi r12), (0, vr 0), (1, vi l1), (4, vi l4), (5, vi l5)]) (dk dt_readTokens 108 rfl) (by decide) rfl ?_
          refine T_goto 350 (dk dt_readTokens 109 rfl) (by decide) ?_
          exact T_sub [1, 2, 3, 4, 0] rfl h
        · have h := h.2 c14
          refine T_iconst (v := 3) (dk dt_readTokens 105 rfl) (by decide +kernel) ?_
          refine T_goto 202 (dk dt_readTokens 106 rfl) (by decide) ?_
          refine T_istore (lv2 := [(6, vi 3), (0, vr 0), (1, vi l1), (4, vi l4), (5, vi l5)]) (dk dt_readTokens 108 rfl) (by decide) rfl ?_
          refine T_goto 350 (dk dt_readTokens 109 rfl) (by decide) ?_
          exact T_sub [1, 2, 3, 4, 0] rfl h
    · have h := h.2 c10
      refine T_iinc (v := l4 + 1) (lv2 := [(4, vi (l4 + 1)), (0, vr 0), (1, vi l1), (5, vi l5)]) 2 (dk dt_readTokens 92 rfl) rfl rfl (by decide) rfl ?_
      refine T_goto 140 (dk dt_readTokens 93 rfl) (by decide) ?_
      exact T_sub [1, 2, 0, 3] rfl h
set_option maxRecDepth 100000 in
set_option maxHeartbeats 4000000 in
theorem sg_readTokens_214 {G : mG} {d : Nat} {x : gd} {P : Option gv → gd → Prop} (l1 : Int32) (l4 : Int32) (l5 : Int32)
    (h : MT G d z_byteAt 0 [(0, vr 0), (1, vi (l1 + l4))] [] x (ri (fun r2 x1 => MT G d z_isDigit 0 [(0, vi r2)] [] x1 (ri (fun r4 x3 => ((r4 = (0 : Int32) → (((9 : Int32) < l4 → MT G (d + 1) z_readTokens 350 [(0, vr 0), (1, vi l1), (4, vi l4), (5, vi l5), (6, vi 3)] [] x3 P) ∧ (¬ ((9 : Int32) < l4) → MT G d z_byteAt 0 [(0, vr 0), (1, vi (l1 + l4))] [] x3 (ri (fun r8 x7 => MT G d z_isLetter 0 [(0, vi r8)] [] x7 (ri (fun r10 x9 => ((r10 = (0 : Int32) → MT G (d + 1) z_readTokens 350 [(0, vr 0), (1, vi l1), (4, vi l4), (5, vi l5), (6, vi 2)] [] x9 P) ∧ (¬ (r10 = (0 : Int32)) → MT G (d + 1) z_readTokens 350 [(0, vr 0), (1, vi l1), (4, vi l4), (5, vi l5), (6, vi 3)] [] x9 P))))))))) ∧ (¬ (r4 = (0 : Int32)) → (((9 : Int32) ≤ l4 → MT G (d + 1) z_readTokens 214 [(0, vr 0), (1, vi l1), (4, vi (l4 + 1)), (5, vi l5)] [] x3 P) ∧ (¬ ((9 : Int32) ≤ l4) → MT G d z_byteAt 0 [(0, vr 0), (1, vi (l1 + l4))] [] x3 (ri (fun r14 x13 => MT G (d + 1) z_readTokens 214 [(0, vr 0), (1, vi l1), (4, vi (l4 + 1)), (5, vi (((10 * l5) + r14) - 48))] [] x13 P))))))))))) :
    MT G (d + 1) z_readTokens 214 [(0, vr 0), (1, vi l1), (4, vi l4), (5, vi l5)] [] x P := by
  refine T_aload_n 0 (dk dt_readTokens 113 rfl) rfl rfl ?_
  refine T_iload_n 1 (dk dt_readTokens 114 rfl) rfl rfl ?_
  refine T_iload 2 (dk dt_readTokens 115 rfl) rfl ?_
  refine T_iadd (dk dt_readTokens 116 rfl) ?_
  refine MT_callVi [vi (l1 + l4)] [] rfl (dk dt_readTokens 117 rfl) cv_338 rfl rfl (Nat.le_of_ble_eq_true rfl) (Nat.le_of_ble_eq_true rfl) rfl rfl h (fun r2 x1 h => ?_)
  refine MT_callSi [vi r2] [] rfl (dk dt_readTokens 118 rfl) cs_349 rfl (Nat.le_of_ble_eq_true rfl) (Nat.le_of_ble_eq_true rfl) rfl rfl h (fun r4 x3 h => ?_)
  refine T_if_eq 265 (dk dt_readTokens 119 rfl) (by decide) (fun c5 => ?_) (fun c5 => ?_)
  · have h := h.1 c5
    refine T_iload 2 (dk dt_readTokens 139 rfl) rfl ?_
    refine T_bipush (v := 9) (dk dt_readTokens 140 rfl) (by decide +kernel) ?_
    refine T_icmp_gt 286 (dk dt_readTokens 141 rfl) (by decide) (fun c6 => ?_) (fun c6 => ?_)
    · have h := h.1 c6
      refine T_iconst (v := 3) (dk dt_readTokens 149 rfl) (by decide +kernel) ?_
      refine T_goto 291 (dk dt_readTokens 150 rfl) (by decide) ?_
      refine T_istore (lv2 := [(6, vi 3), (0, vr 0), (1, vi l1), (4, vi l4), (5, vi l5)]) (dk dt_readTokens 152 rfl) (by decide) rfl ?_
      refine T_goto 350 (dk dt_readTokens 153 rfl) (by decide) ?_
      exact T_sub [1, 2, 3, 4, 0] rfl h
    · have h := h.2 c6
      refine T_aload_n 0 (dk dt_readTokens 142 rfl) rfl rfl ?_
      refine T_iload_n 1 (dk dt_readTokens 143 rfl) rfl rfl ?_
      refine T_iload 2 (dk dt_readTokens 144 rfl) rfl ?_
      refine T_iadd (dk dt_readTokens 145 rfl) ?_
      refine MT_callVi [vi (l1 + l4)] [] rfl (dk dt_readTokens 146 rfl) cv_338 rfl rfl (Nat.le_of_ble_eq_true rfl) (Nat.le_of_ble_eq_true rfl) rfl rfl h (fun r8 x7 h => ?_)
      refine MT_callSi [vi r8] [] rfl (dk dt_readTokens 147 rfl) cs_345 rfl (Nat.le_of_ble_eq_true rfl) (Nat.le_of_ble_eq_true rfl) rfl rfl h (fun r10 x9 h => ?_)
      refine T_if_eq 290 (dk dt_readTokens 148 rfl) (by decide) (fun c11 => ?_) (fun c11 => ?_)
      · have h := h.1 c11
        refine T_iconst (v := 2) (dk dt_readTokens 151 rfl) (by decide +kernel) ?_
        refine T_istore (lv2 := [(6, vi 2), (0, vr 0), (1, vi l1), (4, vi l4), (5, vi l5)]) (dk dt_readTokens 152 rfl) (by decide) rfl ?_
        refine T_goto 350 (dk dt_readTokens 153 rfl) (by decide) ?_
        exact T_sub [1, 2, 3, 4, 0] rfl h
      · have h := h.2 c11
        refine T_iconst (v := 3) (dk dt_readTokens 149 rfl) (by decide +kernel) ?_
        refine T_goto 291 (dk dt_readTokens 150 rfl) (by decide) ?_
        refine T_istore (lv2 := [(6, vi 3), (0, vr 0), (1, vi l1), (4, vi l4), (5, vi l5)]) (dk dt_readTokens 152 rfl) (by decide) rfl ?_
        refine T_goto 350 (dk dt_readTokens 153 rfl) (by decide) ?_
        exact T_sub [1, 2, 3, 4, 0] rfl h
  · have h := h.2 c5
    refine T_iload 2 (dk dt_readTokens 120 rfl) rfl ?_
    refine T_bipush (v := 9) (dk dt_readTokens 121 rfl) (by decide +kernel) ?_
    refine T_icmp_ge 255 (dk dt_readTokens 122 rfl) (by decide) (fun c12 => ?_) (fun c12 => ?_)
    · have h := h.1 c12
      refine T_iload 3 (dk dt_readTokens 135 rfl) rfl ?_
      refine T_istore (lv2 := [(5, vi l5), (0, vr 0), (1, vi l1), (4, vi l4)]) (dk dt_readTokens 136 rfl) (by decide) rfl ?_
      refine T_iinc (v := l4 + 1) (lv2 := [(4, vi (l4 + 1)), (5, vi l5), (0, vr 0), (1, vi l1)]) 3 (dk dt_readTokens 137 rfl) rfl rfl (by decide) rfl ?_
      refine T_goto 214 (dk dt_readTokens 138 rfl) (by decide) ?_
      exact T_sub [2, 3, 0, 1] rfl h
    · have h := h.2 c12
      refine T_bipush (v := 10) (dk dt_readTokens 123 rfl) (by decide +kernel) ?_
      refine T_iload 3 (dk dt_readTokens 124 rfl) rfl ?_
      refine T_imul (dk dt_readTokens 125 rfl) ?_
      refine T_aload_n 0 (dk dt_readTokens 126 rfl) rfl rfl ?_
      refine T_iload_n 1 (dk dt_readTokens 127 rfl) rfl rfl ?_
      refine T_iload 2 (dk dt_readTokens 128 rfl) rfl ?_
      refine T_iadd (dk dt_readTokens 129 rfl) ?_
      refine MT_callVi [vi (l1 + l4)] [vi (10 * l5)] rfl (dk dt_readTokens 130 rfl) cv_338 rfl rfl (Nat.le_of_ble_eq_true rfl) (Nat.le_of_ble_eq_true rfl) rfl rfl h (fun r14 x13 h => ?_)
      refine T_iadd (dk dt_readTokens 131 rfl) ?_
      refine T_bipush (v := 48) (dk dt_readTokens 132 rfl) (by decide +kernel) ?_
      refine T_isub (dk dt_readTokens 133 rfl) ?_
      refine T_goto 257 (dk dt_readTokens 134 rfl) (by decide) ?_
      refine T_istore (lv2 := [(5, vi (((10 * l5) + r14) - 48)), (0, vr 0), (1, vi l1), (4, vi l4)]) (dk dt_readTokens 136 rfl) (by decide) rfl ?_
      refine T_iinc (v := l4 + 1) (lv2 := [(4, vi (l4 + 1)), (5, vi (((10 * l5) + r14) - 48)), (0, vr 0), (1, vi l1)]) 3 (dk dt_readTokens 137 rfl) rfl rfl (by decide) rfl ?_
      refine T_goto 214 (dk dt_readTokens 138 rfl) (by decide) ?_
      exact T_sub [2, 3, 0, 1] rfl h
set_option maxRecDepth 100000 in
set_option maxHeartbeats 4000000 in
theorem sg_readTokens_350 {G : mG} {d : Nat} {x : gd} {P : Option gv → gd → Prop} (l1 : Int32) (l4 : Int32) (l5 : Int32) (l6 : Int32)
    (h : MT G d z_put 0 [(0, vr 0), (1, vi l6), (2, vi l1), (3, vi l4), (4, vi l5)] [] x (rv (fun x1 => ((l6 = (0 : Int32) → P none x1) ∧ (¬ (l6 = (0 : Int32)) → ((¬ (l6 = (3 : Int32)) → MT G (d + 1) z_readTokens 7 [(0, vr 0), (1, vi (l1 + l4))] [] x1 P) ∧ (l6 = (3 : Int32) → P none x1))))))) :
    MT G (d + 1) z_readTokens 350 [(0, vr 0), (1, vi l1), (4, vi l4), (5, vi l5), (6, vi l6)] [] x P := by
  refine T_aload_n 0 (dk dt_readTokens 182 rfl) rfl rfl ?_
  refine T_iload 4 (dk dt_readTokens 183 rfl) rfl ?_
  refine T_iload_n 1 (dk dt_readTokens 184 rfl) rfl rfl ?_
  refine T_iload 2 (dk dt_readTokens 185 rfl) rfl ?_
  refine T_iload 3 (dk dt_readTokens 186 rfl) rfl ?_
  refine MT_callVv [vi l6, vi l1, vi l4, vi l5] [] rfl (dk dt_readTokens 187 rfl) cv_359 rfl rfl (Nat.le_of_ble_eq_true rfl) (Nat.le_of_ble_eq_true rfl) rfl rfl h (fun x1 h => ?_)
  refine T_iload 4 (dk dt_readTokens 188 rfl) rfl ?_
  refine T_if_eq 372 (dk dt_readTokens 189 rfl) (by decide) (fun c2 => ?_) (fun c2 => ?_)
  · have h := h.1 c2
    exact MT_vret (dk dt_readTokens 193 rfl) rfl h
  · have h := h.2 c2
    refine T_iload 4 (dk dt_readTokens 190 rfl) rfl ?_
    refine T_iconst (v := 3) (dk dt_readTokens 191 rfl) (by decide +kernel) ?_
    refine T_icmp_ne 373 (dk dt_readTokens 192 rfl) (by decide) (fun c3 => ?_) (fun c3 => ?_)
    · have h := h.1 c3
      refine T_iload_n 1 (dk dt_readTokens 194 rfl) rfl rfl ?_
      refine T_iload 2 (dk dt_readTokens 195 rfl) rfl ?_
      refine T_iadd (dk dt_readTokens 196 rfl) ?_
      refine T_istore_n (lv2 := [(1, vi (l1 + l4)), (0, vr 0), (4, vi l4), (5, vi l5), (6, vi l6)]) (dk dt_readTokens 197 rfl) rfl (by decide) rfl ?_
      refine T_goto 7 (dk dt_readTokens 198 rfl) (by decide) ?_
      exact T_sub [1, 0] rfl h
    · have h := h.2 c3
      exact MT_vret (dk dt_readTokens 193 rfl) rfl h
set_option maxRecDepth 100000 in
theorem dt_lineOf : dck cX12_lineOf [(0, .iconst 1, 1), (1, .istore_n 2, 1), (2, .iconst 0, 1), (3, .istore_n 3, 1), (4, .iload_n 3, 1), (5, .iload_n 1, 1), (6, .if_icmp .ge 28, 3), (9, .iload_n 2, 1), (10, .aload_n 0, 1), (11, .getfield 7, 3), (14, .iload_n 3, 1), (15, .baload, 1), (16, .bipush 10, 2), (18, .if_icmp .ne 7, 3), (21, .iconst 1, 1), (22, .goto 4, 3), (25, .iconst 0, 1), (26, .iadd, 1), (27, .istore_n 2, 1), (28, .iinc 3 1, 3), (31, .goto (-27), 3), (34, .iload_n 2, 1), (35, .ireturn, 1)] = true := by decide +kernel
set_option maxRecDepth 100000 in
set_option maxHeartbeats 4000000 in
theorem sg_lineOf_0 {G : mG} {d : Nat} {x : gd} {P : Option gv → gd → Prop} (l1 : Int32)
    (h : MT G d z_lineOf 4 [(0, vr 0), (1, vi l1), (2, vi 1), (3, vi 0)] [] x P) :
    MT G d z_lineOf 0 [(0, vr 0), (1, vi l1)] [] x P := by
  refine T_iconst (v := 1) (dk dt_lineOf 0 rfl) (by decide +kernel) ?_
  refine T_istore_n (lv2 := [(2, vi 1), (0, vr 0), (1, vi l1)]) (dk dt_lineOf 1 rfl) rfl (by decide) rfl ?_
  refine T_iconst (v := 0) (dk dt_lineOf 2 rfl) (by decide +kernel) ?_
  refine T_istore_n (lv2 := [(3, vi 0), (2, vi 1), (0, vr 0), (1, vi l1)]) (dk dt_lineOf 3 rfl) rfl (by decide) rfl ?_
  exact T_sub [2, 3, 1, 0] rfl h
set_option maxRecDepth 100000 in
set_option maxHeartbeats 4000000 in
theorem sg_lineOf_4 {G : mG} {d : Nat} {x : gd} {P : Option gv → gd → Prop} (l1 : Int32) (l2 : Int32) (l3 : Int32)
    (h : ((l1 ≤ l3 → P (some (vi l2)) x) ∧ (¬ (l1 ≤ l3) → vp_in l3 3000 ∧ ((¬ ((x.1 2 (l3 : Int32).toNatClampNeg) = (10 : Int32)) → MT G d z_lineOf 4 [(0, vr 0), (1, vi l1), (2, vi (l2 + 0)), (3, vi (l3 + 1))] [] x P) ∧ ((x.1 2 (l3 : Int32).toNatClampNeg) = (10 : Int32) → MT G d z_lineOf 4 [(0, vr 0), (1, vi l1), (2, vi (l2 + 1)), (3, vi (l3 + 1))] [] x P))))) :
    MT G d z_lineOf 4 [(0, vr 0), (1, vi l1), (2, vi l2), (3, vi l3)] [] x P := by
  refine T_iload_n 3 (dk dt_lineOf 4 rfl) rfl rfl ?_
  refine T_iload_n 1 (dk dt_lineOf 5 rfl) rfl rfl ?_
  refine T_icmp_ge 34 (dk dt_lineOf 6 rfl) (by decide) (fun c1 => ?_) (fun c1 => ?_)
  · have h := h.1 c1
    refine T_iload_n 2 (dk dt_lineOf 21 rfl) rfl rfl ?_
    exact MT_iret (dk dt_lineOf 22 rfl) rfl rfl h
  · have h := h.2 c1
    refine T_iload_n 2 (dk dt_lineOf 7 rfl) rfl rfl ?_
    refine T_aload_n 0 (dk dt_lineOf 8 rfl) rfl rfl ?_
    refine T_getR 0 1 2 (dk dt_lineOf 9 rfl) fl_7 mk_0 ml_0 (by decide) rfl rfl ?_
    refine T_iload_n 3 (dk dt_lineOf 10 rfl) rfl rfl ?_
    obtain ⟨h2, h⟩ := h
    refine T_bald 2 3000 (dk dt_lineOf 11 rfl) mk_2 ml_2 h2 ?_
    refine T_bipush (v := 10) (dk dt_lineOf 12 rfl) (by decide +kernel) ?_
    refine T_icmp_ne 25 (dk dt_lineOf 13 rfl) (by decide) (fun c3 => ?_) (fun c3 => ?_)
    · have h := h.1 c3
      refine T_iconst (v := 0) (dk dt_lineOf 16 rfl) (by decide +kernel) ?_
      refine T_iadd (dk dt_lineOf 17 rfl) ?_
      refine T_istore_n (lv2 := [(2, vi (l2 + 0)), (0, vr 0), (1, vi l1), (3, vi l3)]) (dk dt_lineOf 18 rfl) rfl (by decide) rfl ?_
      refine T_iinc (v := l3 + 1) (lv2 := [(3, vi (l3 + 1)), (2, vi (l2 + 0)), (0, vr 0), (1, vi l1)]) 3 (dk dt_lineOf 19 rfl) rfl rfl (by decide) rfl ?_
      refine T_goto 4 (dk dt_lineOf 20 rfl) (by decide) ?_
      exact T_sub [2, 3, 1, 0] rfl h
    · have h := h.2 c3
      refine T_iconst (v := 1) (dk dt_lineOf 14 rfl) (by decide +kernel) ?_
      refine T_goto 26 (dk dt_lineOf 15 rfl) (by decide) ?_
      refine T_iadd (dk dt_lineOf 17 rfl) ?_
      refine T_istore_n (lv2 := [(2, vi (l2 + 1)), (0, vr 0), (1, vi l1), (3, vi l3)]) (dk dt_lineOf 18 rfl) rfl (by decide) rfl ?_
      refine T_iinc (v := l3 + 1) (lv2 := [(3, vi (l3 + 1)), (2, vi (l2 + 1)), (0, vr 0), (1, vi l1)]) 3 (dk dt_lineOf 19 rfl) rfl rfl (by decide) rfl ?_
      refine T_goto 4 (dk dt_lineOf 20 rfl) (by decide) ?_
      exact T_sub [2, 3, 1, 0] rfl h
set_option maxRecDepth 100000 in
theorem dt_isSameName : dck cX12_isSameName [(0, .aload_n 0, 1), (1, .getfield 23, 3), (4, .iload_n 1, 1), (5, .iaload, 1), (6, .aload_n 0, 1), (7, .getfield 23, 3), (10, .iload_n 2, 1), (11, .iaload, 1), (12, .if_icmp .ne 7, 3), (15, .iconst 1, 1), (16, .goto 4, 3), (19, .iconst 0, 1), (20, .istore_n 3, 1), (21, .iconst 0, 1), (22, .istore 4, 2), (24, .iload 4, 2), (26, .aload_n 0, 1), (27, .getfield 23, 3), (30, .iload_n 1, 1), (31, .iaload, 1), (32, .if_icmp .ge 50, 3), (35, .iload_n 3, 1), (36, .ifCond .eq 46, 3), (39, .aload_n 0, 1), (40, .getfield 7, 3), (43, .aload_n 0, 1), (44, .getfield 17, 3), (47, .iload_n 1, 1), (48, .iaload, 1), (49, .iload 4, 2), (51, .iadd, 1), (52, .baload, 1), (53, .aload_n 0, 1), (54, .getfield 7, 3), (57, .aload_n 0, 1), (58, .getfield 17, 3), (61, .iload_n 2, 1), (62, .iaload, 1), (63, .iload 4, 2), (65, .iadd, 1), (66, .baload, 1), (67, .if_icmp .ne 7, 3), (70, .iconst 1, 1), (71, .goto 4, 3), (74, .iconst 0, 1), (75, .istore_n 3, 1), (76, .iinc 4 1, 3), (79, .goto (-55), 3), (82, .iload_n 3, 1), (83, .ireturn, 1)] = true := by decide +kernel
set_option maxRecDepth 100000 in
set_option maxHeartbeats 4000000 in
theorem sg_isSameName_0 {G : mG} {d : Nat} {x : gd} {P : Option gv → gd → Prop} (l1 : Int32) (l2 : Int32)
    (h : vp_in l1 710 ∧ vp_in l2 710 ∧ ((¬ ((x.1 8 (l1 : Int32).toNatClampNeg) = (x.1 8 (l2 : Int32).toNatClampNeg)) → MT G d z_isSameName 24 [(0, vr 0), (1, vi l1), (2, vi l2), (3, vi 0), (4, vi 0)] [] x P) ∧ ((x.1 8 (l1 : Int32).toNatClampNeg) = (x.1 8 (l2 : Int32).toNatClampNeg) → MT G d z_isSameName 24 [(0, vr 0), (1, vi l1), (2, vi l2), (3, vi 1), (4, vi 0)] [] x P))) :
    MT G d z_isSameName 0 [(0, vr 0), (1, vi l1), (2, vi l2)] [] x P := by
  refine T_aload_n 0 (dk dt_isSameName 0 rfl) rfl rfl ?_
  refine T_getR 0 7 8 (dk dt_isSameName 1 rfl) fl_23 mk_0 ml_0 (by decide) rfl rfl ?_
  refine T_iload_n 1 (dk dt_isSameName 2 rfl) rfl rfl ?_
  obtain ⟨h1, h⟩ := h
  refine T_iald 8 710 (dk dt_isSameName 3 rfl) mk_8 ml_8 h1 ?_
  refine T_aload_n 0 (dk dt_isSameName 4 rfl) rfl rfl ?_
  refine T_getR 0 7 8 (dk dt_isSameName 5 rfl) fl_23 mk_0 ml_0 (by decide) rfl rfl ?_
  refine T_iload_n 2 (dk dt_isSameName 6 rfl) rfl rfl ?_
  obtain ⟨h2, h⟩ := h
  refine T_iald 8 710 (dk dt_isSameName 7 rfl) mk_8 ml_8 h2 ?_
  refine T_icmp_ne 19 (dk dt_isSameName 8 rfl) (by decide) (fun c3 => ?_) (fun c3 => ?_)
  · have h := h.1 c3
    refine T_iconst (v := 0) (dk dt_isSameName 11 rfl) (by decide +kernel) ?_
    refine T_istore_n (lv2 := [(3, vi 0), (0, vr 0), (1, vi l1), (2, vi l2)]) (dk dt_isSameName 12 rfl) rfl (by decide) rfl ?_
    refine T_iconst (v := 0) (dk dt_isSameName 13 rfl) (by decide +kernel) ?_
    refine T_istore (lv2 := [(4, vi 0), (3, vi 0), (0, vr 0), (1, vi l1), (2, vi l2)]) (dk dt_isSameName 14 rfl) (by decide) rfl ?_
    exact T_sub [2, 3, 4, 1, 0] rfl h
  · have h := h.2 c3
    refine T_iconst (v := 1) (dk dt_isSameName 9 rfl) (by decide +kernel) ?_
    refine T_goto 20 (dk dt_isSameName 10 rfl) (by decide) ?_
    refine T_istore_n (lv2 := [(3, vi 1), (0, vr 0), (1, vi l1), (2, vi l2)]) (dk dt_isSameName 12 rfl) rfl (by decide) rfl ?_
    refine T_iconst (v := 0) (dk dt_isSameName 13 rfl) (by decide +kernel) ?_
    refine T_istore (lv2 := [(4, vi 0), (3, vi 1), (0, vr 0), (1, vi l1), (2, vi l2)]) (dk dt_isSameName 14 rfl) (by decide) rfl ?_
    exact T_sub [2, 3, 4, 1, 0] rfl h
set_option maxRecDepth 100000 in
set_option maxHeartbeats 4000000 in
theorem sg_isSameName_24 {G : mG} {d : Nat} {x : gd} {P : Option gv → gd → Prop} (l1 : Int32) (l2 : Int32) (l3 : Int32) (l4 : Int32)
    (h : vp_in l1 710 ∧ (((x.1 8 (l1 : Int32).toNatClampNeg) ≤ l4 → gbool l3 ∧ P (some (vi l3)) x) ∧ (¬ ((x.1 8 (l1 : Int32).toNatClampNeg) ≤ l4) → ((l3 = (0 : Int32) → gbool l3 ∧ P (some (vi l3)) x) ∧ (¬ (l3 = (0 : Int32)) → vp_in l1 710 ∧ vp_in ((x.1 6 (l1 : Int32).toNatClampNeg) + l4) 3000 ∧ vp_in l2 710 ∧ vp_in ((x.1 6 (l2 : Int32).toNatClampNeg) + l4) 3000 ∧ ((¬ ((x.1 2 ((x.1 6 (l1 : Int32).toNatClampNeg) + l4 : Int32).toNatClampNeg) = (x.1 2 ((x.1 6 (l2 : Int32).toNatClampNeg) + l4 : Int32).toNatClampNeg)) → MT G d z_isSameName 24 [(0, vr 0), (1, vi l1), (2, vi l2), (3, vi 0), (4, vi (l4 + 1))] [] x P) ∧ ((x.1 2 ((x.1 6 (l1 : Int32).toNatClampNeg) + l4 : Int32).toNatClampNeg) = (x.1 2 ((x.1 6 (l2 : Int32).toNatClampNeg) + l4 : Int32).toNatClampNeg) → MT G d z_isSameName 24 [(0, vr 0), (1, vi l1), (2, vi l2), (3, vi 1), (4, vi (l4 + 1))] [] x P))))))) :
    MT G d z_isSameName 24 [(0, vr 0), (1, vi l1), (2, vi l2), (3, vi l3), (4, vi l4)] [] x P := by
  refine T_iload 4 (dk dt_isSameName 15 rfl) rfl ?_
  refine T_aload_n 0 (dk dt_isSameName 16 rfl) rfl rfl ?_
  refine T_getR 0 7 8 (dk dt_isSameName 17 rfl) fl_23 mk_0 ml_0 (by decide) rfl rfl ?_
  refine T_iload_n 1 (dk dt_isSameName 18 rfl) rfl rfl ?_
  obtain ⟨h1, h⟩ := h
  refine T_iald 8 710 (dk dt_isSameName 19 rfl) mk_8 ml_8 h1 ?_
  refine T_icmp_ge 82 (dk dt_isSameName 20 rfl) (by decide) (fun c2 => ?_) (fun c2 => ?_)
  · have h := h.1 c2
    refine T_iload_n 3 (dk dt_isSameName 48 rfl) rfl rfl ?_
    exact MT_iret (dk dt_isSameName 49 rfl) rfl h.1.1 h.2
  · have h := h.2 c2
    refine T_iload_n 3 (dk dt_isSameName 21 rfl) rfl rfl ?_
    refine T_if_eq 82 (dk dt_isSameName 22 rfl) (by decide) (fun c3 => ?_) (fun c3 => ?_)
    · have h := h.1 c3
      refine T_iload_n 3 (dk dt_isSameName 48 rfl) rfl rfl ?_
      exact MT_iret (dk dt_isSameName 49 rfl) rfl h.1.1 h.2
    · have h := h.2 c3
      refine T_aload_n 0 (dk dt_isSameName 23 rfl) rfl rfl ?_
      refine T_getR 0 1 2 (dk dt_isSameName 24 rfl) fl_7 mk_0 ml_0 (by decide) rfl rfl ?_
      refine T_aload_n 0 (dk dt_isSameName 25 rfl) rfl rfl ?_
      refine T_getR 0 5 6 (dk dt_isSameName 26 rfl) fl_17 mk_0 ml_0 (by decide) rfl rfl ?_
      refine T_iload_n 1 (dk dt_isSameName 27 rfl) rfl rfl ?_
      obtain ⟨h4, h⟩ := h
      refine T_iald 6 710 (dk dt_isSameName 28 rfl) mk_6 ml_6 h4 ?_
      refine T_iload 4 (dk dt_isSameName 29 rfl) rfl ?_
      refine T_iadd (dk dt_isSameName 30 rfl) ?_
      obtain ⟨h5, h⟩ := h
      refine T_bald 2 3000 (dk dt_isSameName 31 rfl) mk_2 ml_2 h5 ?_
      refine T_aload_n 0 (dk dt_isSameName 32 rfl) rfl rfl ?_
      refine T_getR 0 1 2 (dk dt_isSameName 33 rfl) fl_7 mk_0 ml_0 (by decide) rfl rfl ?_
      refine T_aload_n 0 (dk dt_isSameName 34 rfl) rfl rfl ?_
      refine T_getR 0 5 6 (dk dt_isSameName 35 rfl) fl_17 mk_0 ml_0 (by decide) rfl rfl ?_
      refine T_iload_n 2 (dk dt_isSameName 36 rfl) rfl rfl ?_
      obtain ⟨h6, h⟩ := h
      refine T_iald 6 710 (dk dt_isSameName 37 rfl) mk_6 ml_6 h6 ?_
      refine T_iload 4 (dk dt_isSameName 38 rfl) rfl ?_
      refine T_iadd (dk dt_isSameName 39 rfl) ?_
      obtain ⟨h7, h⟩ := h
      refine T_bald 2 3000 (dk dt_isSameName 40 rfl) mk_2 ml_2 h7 ?_
      refine T_icmp_ne 74 (dk dt_isSameName 41 rfl) (by decide) (fun c8 => ?_) (fun c8 => ?_)
      · have h := h.1 c8
        refine T_iconst (v := 0) (dk dt_isSameName 44 rfl) (by decide +kernel) ?_
        refine T_istore_n (lv2 := [(3, vi 0), (0, vr 0), (1, vi l1), (2, vi l2), (4, vi l4)]) (dk dt_isSameName 45 rfl) rfl (by decide) rfl ?_
        refine T_iinc (v := l4 + 1) (lv2 := [(4, vi (l4 + 1)), (3, vi 0), (0, vr 0), (1, vi l1), (2, vi l2)]) 4 (dk dt_isSameName 46 rfl) rfl rfl (by decide) rfl ?_
        refine T_goto 24 (dk dt_isSameName 47 rfl) (by decide) ?_
        exact T_sub [2, 3, 4, 1, 0] rfl h
      · have h := h.2 c8
        refine T_iconst (v := 1) (dk dt_isSameName 42 rfl) (by decide +kernel) ?_
        refine T_goto 75 (dk dt_isSameName 43 rfl) (by decide) ?_
        refine T_istore_n (lv2 := [(3, vi 1), (0, vr 0), (1, vi l1), (2, vi l2), (4, vi l4)]) (dk dt_isSameName 45 rfl) rfl (by decide) rfl ?_
        refine T_iinc (v := l4 + 1) (lv2 := [(4, vi (l4 + 1)), (3, vi 1), (0, vr 0), (1, vi l1), (2, vi l2)]) 4 (dk dt_isSameName 46 rfl) rfl rfl (by decide) rfl ?_
        refine T_goto 24 (dk dt_isSameName 47 rfl) (by decide) ?_
        exact T_sub [2, 3, 4, 1, 0] rfl h
set_option maxRecDepth 100000 in
theorem dt_node : dck cX12_node [(0, .aload_n 0, 1), (1, .getfield 33, 3), (4, .aload_n 0, 1), (5, .getfield 363, 3), (8, .iload_n 1, 1), (9, .iastore, 1), (10, .aload_n 0, 1), (11, .getfield 36, 3), (14, .aload_n 0, 1), (15, .getfield 363, 3), (18, .iload_n 2, 1), (19, .iastore, 1), (20, .aload_n 0, 1), (21, .getfield 39, 3), (24, .aload_n 0, 1), (25, .getfield 363, 3), (28, .iload_n 3, 1), (29, .iastore, 1), (30, .aload_n 0, 1), (31, .getfield 42, 3), (34, .aload_n 0, 1), (35, .getfield 363, 3), (38, .iload 4, 2), (40, .iastore, 1), (41, .aload_n 0, 1), (42, .getfield 45, 3), (45, .aload_n 0, 1), (46, .getfield 363, 3), (49, .iload 5, 2), (51, .iastore, 1), (52, .aload_n 0, 1), (53, .getfield 48, 3), (56, .aload_n 0, 1), (57, .getfield 363, 3), (60, .iconst (-1), 1), (61, .iastore, 1), (62, .aload_n 0, 1), (63, .dup, 1), (64, .getfield 363, 3), (67, .iconst 1, 1), (68, .iadd, 1), (69, .putfield 363, 3), (72, .aload_n 0, 1), (73, .getfield 363, 3), (76, .iconst 1, 1), (77, .isub, 1), (78, .ireturn, 1)] = true := by decide +kernel
set_option maxRecDepth 100000 in
set_option maxHeartbeats 4000000 in
theorem sg_node_0 {G : mG} {d : Nat} {x : gd} {P : Option gv → gd → Prop} (l1 : Int32) (l2 : Int32) (l3 : Int32) (l4 : Int32) (l5 : Int32)
    (h : vp_in (x.1 0 13) 3000 ∧ (∀ x2 : gd, x2 = si x 15 (x.1 0 13 : Int32).toNatClampNeg l1 → vp_in (x2.1 0 13) 3000 ∧ (∀ x4 : gd, x4 = si x2 16 (x2.1 0 13 : Int32).toNatClampNeg l2 → vp_in (x4.1 0 13) 3000 ∧ (∀ x6 : gd, x6 = si x4 17 (x4.1 0 13 : Int32).toNatClampNeg l3 → vp_in (x6.1 0 13) 3000 ∧ (∀ x8 : gd, x8 = si x6 18 (x6.1 0 13 : Int32).toNatClampNeg l4 → vp_in (x8.1 0 13) 3000 ∧ (∀ x10 : gd, x10 = si x8 19 (x8.1 0 13 : Int32).toNatClampNeg l5 → vp_in (x10.1 0 13) 3000 ∧ (∀ x12 : gd, x12 = si x10 20 (x10.1 0 13 : Int32).toNatClampNeg (-1) → (∀ x13 : gd, x13 = si x12 0 13 ((x12.1 0 13) + 1) → P (some (vi ((x13.1 0 13) - 1))) x13)))))))) :
    MT G d z_node 0 [(0, vr 0), (1, vi l1), (2, vi l2), (3, vi l3), (4, vi l4), (5, vi l5)] [] x P := by
  refine T_aload_n 0 (dk dt_node 0 rfl) rfl rfl ?_
  refine T_getR 0 14 15 (dk dt_node 1 rfl) fl_33 mk_0 ml_0 (by decide) rfl rfl ?_
  refine T_aload_n 0 (dk dt_node 2 rfl) rfl rfl ?_
  refine T_getI 0 13 (dk dt_node 3 rfl) fl_363 mk_0 ml_0 (by decide) rfl ?_
  refine T_iload_n 1 (dk dt_node 4 rfl) rfl rfl ?_
  obtain ⟨h1, h⟩ := h
  obtain ⟨x2, ex2⟩ : ∃ z, z = si x 15 (x.1 0 13 : Int32).toNatClampNeg l1 := ⟨_, rfl⟩
  have h := h x2 ex2
  refine T_iast 15 3000 (dk dt_node 5 rfl) mk_15 ml_15 h1 ?_
  rw [← ex2]
  refine T_aload_n 0 (dk dt_node 6 rfl) rfl rfl ?_
  refine T_getR 0 15 16 (dk dt_node 7 rfl) fl_36 mk_0 ml_0 (by decide) rfl rfl ?_
  refine T_aload_n 0 (dk dt_node 8 rfl) rfl rfl ?_
  refine T_getI 0 13 (dk dt_node 9 rfl) fl_363 mk_0 ml_0 (by decide) rfl ?_
  refine T_iload_n 2 (dk dt_node 10 rfl) rfl rfl ?_
  obtain ⟨h3, h⟩ := h
  obtain ⟨x4, ex4⟩ : ∃ z, z = si x2 16 (x2.1 0 13 : Int32).toNatClampNeg l2 := ⟨_, rfl⟩
  have h := h x4 ex4
  refine T_iast 16 3000 (dk dt_node 11 rfl) mk_16 ml_16 h3 ?_
  rw [← ex4]
  refine T_aload_n 0 (dk dt_node 12 rfl) rfl rfl ?_
  refine T_getR 0 16 17 (dk dt_node 13 rfl) fl_39 mk_0 ml_0 (by decide) rfl rfl ?_
  refine T_aload_n 0 (dk dt_node 14 rfl) rfl rfl ?_
  refine T_getI 0 13 (dk dt_node 15 rfl) fl_363 mk_0 ml_0 (by decide) rfl ?_
  refine T_iload_n 3 (dk dt_node 16 rfl) rfl rfl ?_
  obtain ⟨h5, h⟩ := h
  obtain ⟨x6, ex6⟩ : ∃ z, z = si x4 17 (x4.1 0 13 : Int32).toNatClampNeg l3 := ⟨_, rfl⟩
  have h := h x6 ex6
  refine T_iast 17 3000 (dk dt_node 17 rfl) mk_17 ml_17 h5 ?_
  rw [← ex6]
  refine T_aload_n 0 (dk dt_node 18 rfl) rfl rfl ?_
  refine T_getR 0 17 18 (dk dt_node 19 rfl) fl_42 mk_0 ml_0 (by decide) rfl rfl ?_
  refine T_aload_n 0 (dk dt_node 20 rfl) rfl rfl ?_
  refine T_getI 0 13 (dk dt_node 21 rfl) fl_363 mk_0 ml_0 (by decide) rfl ?_
  refine T_iload 4 (dk dt_node 22 rfl) rfl ?_
  obtain ⟨h7, h⟩ := h
  obtain ⟨x8, ex8⟩ : ∃ z, z = si x6 18 (x6.1 0 13 : Int32).toNatClampNeg l4 := ⟨_, rfl⟩
  have h := h x8 ex8
  refine T_iast 18 3000 (dk dt_node 23 rfl) mk_18 ml_18 h7 ?_
  rw [← ex8]
  refine T_aload_n 0 (dk dt_node 24 rfl) rfl rfl ?_
  refine T_getR 0 18 19 (dk dt_node 25 rfl) fl_45 mk_0 ml_0 (by decide) rfl rfl ?_
  refine T_aload_n 0 (dk dt_node 26 rfl) rfl rfl ?_
  refine T_getI 0 13 (dk dt_node 27 rfl) fl_363 mk_0 ml_0 (by decide) rfl ?_
  refine T_iload 5 (dk dt_node 28 rfl) rfl ?_
  obtain ⟨h9, h⟩ := h
  obtain ⟨x10, ex10⟩ : ∃ z, z = si x8 19 (x8.1 0 13 : Int32).toNatClampNeg l5 := ⟨_, rfl⟩
  have h := h x10 ex10
  refine T_iast 19 3000 (dk dt_node 29 rfl) mk_19 ml_19 h9 ?_
  rw [← ex10]
  refine T_aload_n 0 (dk dt_node 30 rfl) rfl rfl ?_
  refine T_getR 0 19 20 (dk dt_node 31 rfl) fl_48 mk_0 ml_0 (by decide) rfl rfl ?_
  refine T_aload_n 0 (dk dt_node 32 rfl) rfl rfl ?_
  refine T_getI 0 13 (dk dt_node 33 rfl) fl_363 mk_0 ml_0 (by decide) rfl ?_
  refine T_iconst (v := (-1)) (dk dt_node 34 rfl) (by decide +kernel) ?_
  obtain ⟨h11, h⟩ := h
  obtain ⟨x12, ex12⟩ : ∃ z, z = si x10 20 (x10.1 0 13 : Int32).toNatClampNeg (-1) := ⟨_, rfl⟩
  have h := h x12 ex12
  refine T_iast 20 3000 (dk dt_node 35 rfl) mk_20 ml_20 h11 ?_
  rw [← ex12]
  refine T_aload_n 0 (dk dt_node 36 rfl) rfl rfl ?_
  refine T_dup (dk dt_node 37 rfl) rfl ?_
  refine T_getI 0 13 (dk dt_node 38 rfl) fl_363 mk_0 ml_0 (by decide) rfl ?_
  refine T_iconst (v := 1) (dk dt_node 39 rfl) (by decide +kernel) ?_
  refine T_iadd (dk dt_node 40 rfl) ?_
  obtain ⟨x13, ex13⟩ : ∃ z, z = si x12 0 13 ((x12.1 0 13) + 1) := ⟨_, rfl⟩
  have h := h x13 ex13
  refine T_putI 0 13 (dk dt_node 41 rfl) fl_363 mk_0 ml_0 (by decide) rfl ⟨rfl, rfl⟩ ?_
  rw [← ex13]
  refine T_aload_n 0 (dk dt_node 42 rfl) rfl rfl ?_
  refine T_getI 0 13 (dk dt_node 43 rfl) fl_363 mk_0 ml_0 (by decide) rfl ?_
  refine T_iconst (v := 1) (dk dt_node 44 rfl) (by decide +kernel) ?_
  refine T_isub (dk dt_node 45 rfl) ?_
  exact MT_iret (dk dt_node 46 rfl) rfl rfl h
set_option maxRecDepth 100000 in
theorem dt_fault : dck cX12_fault [(0, .aload_n 0, 1), (1, .getfield 366, 3), (4, .ifCond .ne 32, 3), (7, .aload_n 0, 1), (8, .aload_n 0, 1), (9, .getfield 13, 3), (12, .iload_n 2, 1), (13, .iaload, 1), (14, .iconst 3, 1), (15, .if_icmp .ne 7, 3), (18, .iconst 1, 1), (19, .goto 4, 3), (22, .iload_n 1, 1), (23, .putfield 366, 3), (26, .aload_n 0, 1), (27, .aload_n 0, 1), (28, .getfield 17, 3), (31, .iload_n 2, 1), (32, .iaload, 1), (33, .putfield 369, 3), (36, .return_, 1)] = true := by decide +kernel
set_option maxRecDepth 100000 in
set_option maxHeartbeats 4000000 in
theorem sg_fault_0 {G : mG} {d : Nat} {x : gd} {P : Option gv → gd → Prop} (l1 : Int32) (l2 : Int32)
    (h : ((¬ ((x.1 0 9) = (0 : Int32)) → P none x) ∧ ((x.1 0 9) = (0 : Int32) → vp_in l2 710 ∧ ((¬ ((x.1 5 (l2 : Int32).toNatClampNeg) = (3 : Int32)) → (∀ x4 : gd, x4 = si x 0 9 l1 → vp_in l2 710 ∧ (∀ x6 : gd, x6 = si x4 0 10 (x4.1 6 (l2 : Int32).toNatClampNeg) → P none x6))) ∧ ((x.1 5 (l2 : Int32).toNatClampNeg) = (3 : Int32) → (∀ x7 : gd, x7 = si x 0 9 1 → vp_in l2 710 ∧ (∀ x9 : gd, x9 = si x7 0 10 (x7.1 6 (l2 : Int32).toNatClampNeg) → P none x9))))))) :
    MT G d z_fault 0 [(0, vr 0), (1, vi l1), (2, vi l2)] [] x P := by
  refine T_aload_n 0 (dk dt_fault 0 rfl) rfl rfl ?_
  refine T_getI 0 9 (dk dt_fault 1 rfl) fl_366 mk_0 ml_0 (by decide) rfl ?_
  refine T_if_ne 36 (dk dt_fault 2 rfl) (by decide) (fun c1 => ?_) (fun c1 => ?_)
  · have h := h.1 c1
    exact MT_vret (dk dt_fault 20 rfl) rfl h
  · have h := h.2 c1
    refine T_aload_n 0 (dk dt_fault 3 rfl) rfl rfl ?_
    refine T_aload_n 0 (dk dt_fault 4 rfl) rfl rfl ?_
    refine T_getR 0 4 5 (dk dt_fault 5 rfl) fl_13 mk_0 ml_0 (by decide) rfl rfl ?_
    refine T_iload_n 2 (dk dt_fault 6 rfl) rfl rfl ?_
    obtain ⟨h2, h⟩ := h
    refine T_iald 5 710 (dk dt_fault 7 rfl) mk_5 ml_5 h2 ?_
    refine T_iconst (v := 3) (dk dt_fault 8 rfl) (by decide +kernel) ?_
    refine T_icmp_ne 22 (dk dt_fault 9 rfl) (by decide) (fun c3 => ?_) (fun c3 => ?_)
    · have h := h.1 c3
      refine T_iload_n 1 (dk dt_fault 12 rfl) rfl rfl ?_
      obtain ⟨x4, ex4⟩ : ∃ z, z = si x 0 9 l1 := ⟨_, rfl⟩
      have h := h x4 ex4
      refine T_putI 0 9 (dk dt_fault 13 rfl) fl_366 mk_0 ml_0 (by decide) rfl ⟨rfl, rfl⟩ ?_
      rw [← ex4]
      refine T_aload_n 0 (dk dt_fault 14 rfl) rfl rfl ?_
      refine T_aload_n 0 (dk dt_fault 15 rfl) rfl rfl ?_
      refine T_getR 0 5 6 (dk dt_fault 16 rfl) fl_17 mk_0 ml_0 (by decide) rfl rfl ?_
      refine T_iload_n 2 (dk dt_fault 17 rfl) rfl rfl ?_
      obtain ⟨h5, h⟩ := h
      refine T_iald 6 710 (dk dt_fault 18 rfl) mk_6 ml_6 h5 ?_
      obtain ⟨x6, ex6⟩ : ∃ z, z = si x4 0 10 (x4.1 6 (l2 : Int32).toNatClampNeg) := ⟨_, rfl⟩
      have h := h x6 ex6
      refine T_putI 0 10 (dk dt_fault 19 rfl) fl_369 mk_0 ml_0 (by decide) rfl ⟨rfl, rfl⟩ ?_
      rw [← ex6]
      exact MT_vret (dk dt_fault 20 rfl) rfl h
    · have h := h.2 c3
      refine T_iconst (v := 1) (dk dt_fault 10 rfl) (by decide +kernel) ?_
      refine T_goto 23 (dk dt_fault 11 rfl) (by decide) ?_
      obtain ⟨x7, ex7⟩ : ∃ z, z = si x 0 9 1 := ⟨_, rfl⟩
      have h := h x7 ex7
      refine T_putI 0 9 (dk dt_fault 13 rfl) fl_366 mk_0 ml_0 (by decide) rfl ⟨rfl, rfl⟩ ?_
      rw [← ex7]
      refine T_aload_n 0 (dk dt_fault 14 rfl) rfl rfl ?_
      refine T_aload_n 0 (dk dt_fault 15 rfl) rfl rfl ?_
      refine T_getR 0 5 6 (dk dt_fault 16 rfl) fl_17 mk_0 ml_0 (by decide) rfl rfl ?_
      refine T_iload_n 2 (dk dt_fault 17 rfl) rfl rfl ?_
      obtain ⟨h8, h⟩ := h
      refine T_iald 6 710 (dk dt_fault 18 rfl) mk_6 ml_6 h8 ?_
      obtain ⟨x9, ex9⟩ : ∃ z, z = si x7 0 10 (x7.1 6 (l2 : Int32).toNatClampNeg) := ⟨_, rfl⟩
      have h := h x9 ex9
      refine T_putI 0 10 (dk dt_fault 19 rfl) fl_369 mk_0 ml_0 (by decide) rfl ⟨rfl, rfl⟩ ?_
      rw [← ex9]
      exact MT_vret (dk dt_fault 20 rfl) rfl h
set_option maxRecDepth 100000 in
theorem dt_here : dck cX12_here [(0, .aload_n 0, 1), (1, .getfield 366, 3), (4, .ifCond .le 7, 3), (7, .iconst 0, 1), (8, .goto 12, 3), (11, .aload_n 0, 1), (12, .getfield 13, 3), (15, .aload_n 0, 1), (16, .getfield 372, 3), (19, .iaload, 1), (20, .ireturn, 1)] = true := by decide +kernel
set_option maxRecDepth 100000 in
set_option maxHeartbeats 4000000 in
theorem sg_here_0 {G : mG} {d : Nat} {x : gd} {P : Option gv → gd → Prop} 
    (h : (((x.1 0 9) ≤ (0 : Int32) → vp_in (x.1 0 8) 710 ∧ P (some (vi (x.1 5 (x.1 0 8 : Int32).toNatClampNeg))) x) ∧ (¬ ((x.1 0 9) ≤ (0 : Int32)) → P (some (vi 0)) x))) :
    MT G d z_here 0 [(0, vr 0)] [] x P := by
  refine T_aload_n 0 (dk dt_here 0 rfl) rfl rfl ?_
  refine T_getI 0 9 (dk dt_here 1 rfl) fl_366 mk_0 ml_0 (by decide) rfl ?_
  refine T_if_le 11 (dk dt_here 2 rfl) (by decide) (fun c1 => ?_) (fun c1 => ?_)
  · have h := h.1 c1
    refine T_aload_n 0 (dk dt_here 5 rfl) rfl rfl ?_
    refine T_getR 0 4 5 (dk dt_here 6 rfl) fl_13 mk_0 ml_0 (by decide) rfl rfl ?_
    refine T_aload_n 0 (dk dt_here 7 rfl) rfl rfl ?_
    refine T_getI 0 8 (dk dt_here 8 rfl) fl_372 mk_0 ml_0 (by decide) rfl ?_
    obtain ⟨h2, h⟩ := h
    refine T_iald 5 710 (dk dt_here 9 rfl) mk_5 ml_5 h2 ?_
    exact MT_iret (dk dt_here 10 rfl) rfl rfl h
  · have h := h.2 c1
    refine T_iconst (v := 0) (dk dt_here 3 rfl) (by decide +kernel) ?_
    refine T_goto 20 (dk dt_here 4 rfl) (by decide) ?_
    exact MT_iret (dk dt_here 10 rfl) rfl rfl h
