set_option maxRecDepth 100000 in
set_option maxHeartbeats 4000000 in
theorem sd_one_0 {d : Nat} {S : gS} {x : gd} {P : Option gv → gd → gS → Prop} (l0 : Int32)
    (h : ((l0 = (0 : Int32) → P (some (vi 0)) x S) ∧ (¬ (l0 = (0 : Int32)) → P (some (vi 1)) x S))) :
    MD d z_one 0 [(0, vi l0)] [] S x P := by
  refine MD_lift (fun G z Q k => T_iload_n 0 (dk dt_one 0 rfl) rfl rfl k) ?_
  by_cases c1 : l0 = (0 : Int32)
  · have h := h.1 c1
    refine MD_lift (fun G z Q k => T_if_eq 8 (dk dt_one 1 rfl) (by decide) (fun _ => k) (fun q => absurd c1 q)) ?_
    refine MD_lift (fun G z Q k => T_iconst (v := 0) (dk dt_one 4 rfl) (by decide +kernel) k) ?_
    exact MD_ret (fun G z Q k => MT_iret (dk dt_one 5 rfl) rfl rfl k) h
  · have h := h.2 c1
    refine MD_lift (fun G z Q k => T_if_eq 8 (dk dt_one 1 rfl) (by decide) (fun q => absurd q c1) (fun _ => k)) ?_
    refine MD_lift (fun G z Q k => T_iconst (v := 1) (dk dt_one 2 rfl) (by decide +kernel) k) ?_
    refine MD_lift (fun G z Q k => T_goto 9 (dk dt_one 3 rfl) (by decide) k) ?_
    exact MD_ret (fun G z Q k => MT_iret (dk dt_one 5 rfl) rfl rfl k) h
set_option maxRecDepth 100000 in
set_option maxHeartbeats 4000000 in
theorem sd_isAtomic_0 {d : Nat} {S : gS} {x : gd} {P : Option gv → gd → gS → Prop} (l1 : Int32)
    (h : ((l1 = (2 : Int32) → P (some (vi 1)) x S) ∧ (¬ (l1 = (2 : Int32)) → ((l1 = (3 : Int32) → P (some (vi 1)) x S) ∧ (¬ (l1 = (3 : Int32)) → ((¬ (l1 = (4 : Int32)) → P (some (vi 0)) x S) ∧ (l1 = (4 : Int32) → P (some (vi 1)) x S))))))) :
    MD d z_isAtomic 0 [(0, vr 0), (1, vi l1)] [] S x P := by
  refine MD_lift (fun G z Q k => T_iload_n 1 (dk dt_isAtomic 0 rfl) rfl rfl k) ?_
  refine MD_lift (fun G z Q k => T_iconst (v := 2) (dk dt_isAtomic 1 rfl) (by decide +kernel) k) ?_
  by_cases c1 : l1 = (2 : Int32)
  · have h := h.1 c1
    refine MD_lift (fun G z Q k => T_icmp_eq 15 (dk dt_isAtomic 2 rfl) (by decide) (fun _ => k) (fun q => absurd c1 q)) ?_
    refine MD_lift (fun G z Q k => T_iconst (v := 1) (dk dt_isAtomic 9 rfl) (by decide +kernel) k) ?_
    refine MD_lift (fun G z Q k => T_goto 20 (dk dt_isAtomic 10 rfl) (by decide) k) ?_
    exact MD_ret (fun G z Q k => MT_iret (dk dt_isAtomic 12 rfl) rfl rfl k) h
  · have h := h.2 c1
    refine MD_lift (fun G z Q k => T_icmp_eq 15 (dk dt_isAtomic 2 rfl) (by decide) (fun q => absurd q c1) (fun _ => k)) ?_
    refine MD_lift (fun G z Q k => T_iload_n 1 (dk dt_isAtomic 3 rfl) rfl rfl k) ?_
    refine MD_lift (fun G z Q k => T_iconst (v := 3) (dk dt_isAtomic 4 rfl) (by decide +kernel) k) ?_
    by_cases c2 : l1 = (3 : Int32)
    · have h := h.1 c2
      refine MD_lift (fun G z Q k => T_icmp_eq 15 (dk dt_isAtomic 5 rfl) (by decide) (fun _ => k) (fun q => absurd c2 q)) ?_
      refine MD_lift (fun G z Q k => T_iconst (v := 1) (dk dt_isAtomic 9 rfl) (by decide +kernel) k) ?_
      refine MD_lift (fun G z Q k => T_goto 20 (dk dt_isAtomic 10 rfl) (by decide) k) ?_
      exact MD_ret (fun G z Q k => MT_iret (dk dt_isAtomic 12 rfl) rfl rfl k) h
    · have h := h.2 c2
      refine MD_lift (fun G z Q k => T_icmp_eq 15 (dk dt_isAtomic 5 rfl) (by decide) (fun q => absurd q c2) (fun _ => k)) ?_
      refine MD_lift (fun G z Q k => T_iload_n 1 (dk dt_isAtomic 6 rfl) rfl rfl k) ?_
      refine MD_lift (fun G z Q k => T_iconst (v := 4) (dk dt_isAtomic 7 rfl) (by decide +kernel) k) ?_
      by_cases c3 : l1 = (4 : Int32)
      · have h := h.2 c3
        refine MD_lift (fun G z Q k => T_icmp_ne 19 (dk dt_isAtomic 8 rfl) (by decide) (fun q => absurd c3 q) (fun _ => k)) ?_
        refine MD_lift (fun G z Q k => T_iconst (v := 1) (dk dt_isAtomic 9 rfl) (by decide +kernel) k) ?_
        refine MD_lift (fun G z Q k => T_goto 20 (dk dt_isAtomic 10 rfl) (by decide) k) ?_
        exact MD_ret (fun G z Q k => MT_iret (dk dt_isAtomic 12 rfl) rfl rfl k) h
      · have h := h.1 c3
        refine MD_lift (fun G z Q k => T_icmp_ne 19 (dk dt_isAtomic 8 rfl) (by decide) (fun _ => k) (fun q => absurd q c3)) ?_
        refine MD_lift (fun G z Q k => T_iconst (v := 0) (dk dt_isAtomic 11 rfl) (by decide +kernel) k) ?_
        exact MD_ret (fun G z Q k => MT_iret (dk dt_isAtomic 12 rfl) rfl rfl k) h
set_option maxRecDepth 100000 in
set_option maxHeartbeats 4000000 in
theorem sd_isAccess_0 {d : Nat} {S : gS} {x : gd} {P : Option gv → gd → gS → Prop} (l1 : Int32)
    (h : ((l1 = (0 : Int32) → P (some (vi 1)) x S) ∧ (¬ (l1 = (0 : Int32)) → ((l1 = (1 : Int32) → P (some (vi 1)) x S) ∧ (¬ (l1 = (1 : Int32)) → ((l1 = (2 : Int32) → P (some (vi 1)) x S) ∧ (¬ (l1 = (2 : Int32)) → ((l1 = (3 : Int32) → P (some (vi 1)) x S) ∧ (¬ (l1 = (3 : Int32)) → ((¬ (l1 = (4 : Int32)) → P (some (vi 0)) x S) ∧ (l1 = (4 : Int32) → P (some (vi 1)) x S))))))))))) :
    MD d z_isAccess 0 [(0, vr 0), (1, vi l1)] [] S x P := by
  refine MD_lift (fun G z Q k => T_iload_n 1 (dk dt_isAccess 0 rfl) rfl rfl k) ?_
  by_cases c1 : l1 = (0 : Int32)
  · have h := h.1 c1
    refine MD_lift (fun G z Q k => T_if_eq 24 (dk dt_isAccess 1 rfl) (by decide) (fun _ => k) (fun q => absurd c1 q)) ?_
    refine MD_lift (fun G z Q k => T_iconst (v := 1) (dk dt_isAccess 14 rfl) (by decide +kernel) k) ?_
    refine MD_lift (fun G z Q k => T_goto 29 (dk dt_isAccess 15 rfl) (by decide) k) ?_
    exact MD_ret (fun G z Q k => MT_iret (dk dt_isAccess 17 rfl) rfl rfl k) h
  · have h := h.2 c1
    refine MD_lift (fun G z Q k => T_if_eq 24 (dk dt_isAccess 1 rfl) (by decide) (fun q => absurd q c1) (fun _ => k)) ?_
    refine MD_lift (fun G z Q k => T_iload_n 1 (dk dt_isAccess 2 rfl) rfl rfl k) ?_
    refine MD_lift (fun G z Q k => T_iconst (v := 1) (dk dt_isAccess 3 rfl) (by decide +kernel) k) ?_
    by_cases c2 : l1 = (1 : Int32)
    · have h := h.1 c2
      refine MD_lift (fun G z Q k => T_icmp_eq 24 (dk dt_isAccess 4 rfl) (by decide) (fun _ => k) (fun q => absurd c2 q)) ?_
      refine MD_lift (fun G z Q k => T_iconst (v := 1) (dk dt_isAccess 14 rfl) (by decide +kernel) k) ?_
      refine MD_lift (fun G z Q k => T_goto 29 (dk dt_isAccess 15 rfl) (by decide) k) ?_
      exact MD_ret (fun G z Q k => MT_iret (dk dt_isAccess 17 rfl) rfl rfl k) h
    · have h := h.2 c2
      refine MD_lift (fun G z Q k => T_icmp_eq 24 (dk dt_isAccess 4 rfl) (by decide) (fun q => absurd q c2) (fun _ => k)) ?_
      refine MD_lift (fun G z Q k => T_iload_n 1 (dk dt_isAccess 5 rfl) rfl rfl k) ?_
      refine MD_lift (fun G z Q k => T_iconst (v := 2) (dk dt_isAccess 6 rfl) (by decide +kernel) k) ?_
      by_cases c3 : l1 = (2 : Int32)
      · have h := h.1 c3
        refine MD_lift (fun G z Q k => T_icmp_eq 24 (dk dt_isAccess 7 rfl) (by decide) (fun _ => k) (fun q => absurd c3 q)) ?_
        refine MD_lift (fun G z Q k => T_iconst (v := 1) (dk dt_isAccess 14 rfl) (by decide +kernel) k) ?_
        refine MD_lift (fun G z Q k => T_goto 29 (dk dt_isAccess 15 rfl) (by decide) k) ?_
        exact MD_ret (fun G z Q k => MT_iret (dk dt_isAccess 17 rfl) rfl rfl k) h
      · have h := h.2 c3
        refine MD_lift (fun G z Q k => T_icmp_eq 24 (dk dt_isAccess 7 rfl) (by decide) (fun q => absurd q c3) (fun _ => k)) ?_
        refine MD_lift (fun G z Q k => T_iload_n 1 (dk dt_isAccess 8 rfl) rfl rfl k) ?_
        refine MD_lift (fun G z Q k => T_iconst (v := 3) (dk dt_isAccess 9 rfl) (by decide +kernel) k) ?_
        by_cases c4 : l1 = (3 : Int32)
        · have h := h.1 c4
          refine MD_lift (fun G z Q k => T_icmp_eq 24 (dk dt_isAccess 10 rfl) (by decide) (fun _ => k) (fun q => absurd c4 q)) ?_
          refine MD_lift (fun G z Q k => T_iconst (v := 1) (dk dt_isAccess 14 rfl) (by decide +kernel) k) ?_
          refine MD_lift (fun G z Q k => T_goto 29 (dk dt_isAccess 15 rfl) (by decide) k) ?_
          exact MD_ret (fun G z Q k => MT_iret (dk dt_isAccess 17 rfl) rfl rfl k) h
        · have h := h.2 c4
          refine MD_lift (fun G z Q k => T_icmp_eq 24 (dk dt_isAccess 10 rfl) (by decide) (fun q => absurd q c4) (fun _ => k)) ?_
          refine MD_lift (fun G z Q k => T_iload_n 1 (dk dt_isAccess 11 rfl) rfl rfl k) ?_
          refine MD_lift (fun G z Q k => T_iconst (v := 4) (dk dt_isAccess 12 rfl) (by decide +kernel) k) ?_
          by_cases c5 : l1 = (4 : Int32)
          · have h := h.2 c5
            refine MD_lift (fun G z Q k => T_icmp_ne 28 (dk dt_isAccess 13 rfl) (by decide) (fun q => absurd c5 q) (fun _ => k)) ?_
            refine MD_lift (fun G z Q k => T_iconst (v := 1) (dk dt_isAccess 14 rfl) (by decide +kernel) k) ?_
            refine MD_lift (fun G z Q k => T_goto 29 (dk dt_isAccess 15 rfl) (by decide) k) ?_
            exact MD_ret (fun G z Q k => MT_iret (dk dt_isAccess 17 rfl) rfl rfl k) h
          · have h := h.1 c5
            refine MD_lift (fun G z Q k => T_icmp_ne 28 (dk dt_isAccess 13 rfl) (by decide) (fun _ => k) (fun q => absurd q c5)) ?_
            refine MD_lift (fun G z Q k => T_iconst (v := 0) (dk dt_isAccess 16 rfl) (by decide +kernel) k) ?_
            exact MD_ret (fun G z Q k => MT_iret (dk dt_isAccess 17 rfl) rfl rfl k) h
set_option maxRecDepth 100000 in
set_option maxHeartbeats 4000000 in
theorem sd_reckon_0 {d : Nat} {S : gS} {x : gd} {P : Option gv → gd → gS → Prop} (l1 : Int32) (l2 : Int32) (l3 : Int32)
    (h : (((l1 = 30) → ((¬ (l2 = (0 : Int32)) → MD (d + 1) z_reckon 113 [(0, vr 0)] [vi 1] S x P) ∧ (l2 = (0 : Int32) → ((l3 = (0 : Int32) → MD (d + 1) z_reckon 113 [(0, vr 0)] [vi 0] S x P) ∧ (¬ (l3 = (0 : Int32)) → MD (d + 1) z_reckon 113 [(0, vr 0)] [vi 1] S x P))))) ∧ ((l1 = 12) → ((l2 = (0 : Int32) → MD (d + 1) z_reckon 130 [(0, vr 0)] [vi 0] S x P) ∧ (¬ (l2 = (0 : Int32)) → ((l3 = (0 : Int32) → MD (d + 1) z_reckon 130 [(0, vr 0)] [vi 0] S x P) ∧ (¬ (l3 = (0 : Int32)) → MD (d + 1) z_reckon 130 [(0, vr 0)] [vi 1] S x P))))) ∧ ((l1 = 51) → ((¬ (l2 = l3) → MD (d + 1) z_reckon 144 [(0, vr 0)] [vi 0] S x P) ∧ (l2 = l3 → MD (d + 1) z_reckon 144 [(0, vr 0)] [vi 1] S x P))) ∧ ((l1 = 52) → ((l2 = l3 → MD (d + 1) z_reckon 158 [(0, vr 0)] [vi 0] S x P) ∧ (¬ (l2 = l3) → MD (d + 1) z_reckon 158 [(0, vr 0)] [vi 1] S x P))) ∧ ((l1 = 53) → ((l3 ≤ l2 → MD (d + 1) z_reckon 172 [(0, vr 0)] [vi 0] S x P) ∧ (¬ (l3 ≤ l2) → MD (d + 1) z_reckon 172 [(0, vr 0)] [vi 1] S x P))) ∧ ((l1 = 54) → ((l3 < l2 → MD (d + 1) z_reckon 186 [(0, vr 0)] [vi 0] S x P) ∧ (¬ (l3 < l2) → MD (d + 1) z_reckon 186 [(0, vr 0)] [vi 1] S x P))) ∧ ((l1 = 55) → ((l2 ≤ l3 → MD (d + 1) z_reckon 200 [(0, vr 0)] [vi 0] S x P) ∧ (¬ (l2 ≤ l3) → MD (d + 1) z_reckon 200 [(0, vr 0)] [vi 1] S x P))) ∧ ((l1 = 56) → ((l2 < l3 → MD (d + 1) z_reckon 214 [(0, vr 0)] [vi 0] S x P) ∧ (¬ (l2 < l3) → MD (d + 1) z_reckon 214 [(0, vr 0)] [vi 1] S x P))) ∧ ((l1 = 57) → P (some (vi (l2 + l3))) x S) ∧ ((l1 = 58) → P (some (vi (l2 - l3))) x S) ∧ ((l1 = 59) → P (some (vi (l2 * l3))) x S) ∧ ((∀ k ∈ [(30 : Int32), (12 : Int32), (51 : Int32), (52 : Int32), (53 : Int32), (54 : Int32), (55 : Int32), (56 : Int32), (57 : Int32), (58 : Int32), (59 : Int32)], ¬ l1 = k) → ((¬ (l3 = (0 : Int32)) → ((¬ (l1 = (60 : Int32)) → ((¬ (l3 = (-1 : Int32)) → ¬ l3 = 0 ∧ P (some (vi (l2 - l2 / l3 * l3))) x S) ∧ (l3 = (-1 : Int32) → P (some (vi 0)) x S))) ∧ (l1 = (60 : Int32) → ((¬ (l3 = (-1 : Int32)) → ¬ l3 = 0 ∧ P (some (vi (l2 / l3))) x S) ∧ (l3 = (-1 : Int32) → P (some (vi (-l2))) x S))))) ∧ (l3 = (0 : Int32) → (∀ x24 : gd, x24 = si x 0 82 1 → P (some (vi 0)) x24 (sadd S 0 82))))))) :
    MD (d + 1) z_reckon 0 [(0, vr 0), (1, vi l1), (2, vi l2), (3, vi l3)] [] S x P := by
  refine MD_lift (fun G z Q k => T_iload_n 1 (dk dt_reckon 0 rfl) rfl rfl k) ?_
  by_cases c1 : l1 = 30
  · have h := h.1 c1
    refine MD_lift (fun G z Q k => T_lookup 99 100 (dk dt_reckon 1 rfl) (by decide +kernel) (by rw [c1]; decide +kernel) (by decide) k) ?_
    refine MD_lift (fun G z Q k => T_iload_n 2 (dk dt_reckon 2 rfl) rfl rfl k) ?_
    by_cases c2 : l2 = (0 : Int32)
    · have h := h.2 c2
      refine MD_lift (fun G z Q k => T_if_ne 108 (dk dt_reckon 3 rfl) (by decide) (fun q => absurd c2 q) (fun _ => k)) ?_
      refine MD_lift (fun G z Q k => T_iload_n 3 (dk dt_reckon 4 rfl) rfl rfl k) ?_
      by_cases c3 : l3 = (0 : Int32)
      · have h := h.1 c3
        refine MD_lift (fun G z Q k => T_if_eq 112 (dk dt_reckon 5 rfl) (by decide) (fun _ => k) (fun q => absurd c3 q)) ?_
        refine MD_lift (fun G z Q k => T_iconst (v := 0) (dk dt_reckon 8 rfl) (by decide +kernel) k) ?_
        exact MD_lift (fun G z Q k => T_sub [0] rfl k) h
      · have h := h.2 c3
        refine MD_lift (fun G z Q k => T_if_eq 112 (dk dt_reckon 5 rfl) (by decide) (fun q => absurd q c3) (fun _ => k)) ?_
        refine MD_lift (fun G z Q k => T_iconst (v := 1) (dk dt_reckon 6 rfl) (by decide +kernel) k) ?_
        refine MD_lift (fun G z Q k => T_goto 113 (dk dt_reckon 7 rfl) (by decide) k) ?_
        exact MD_lift (fun G z Q k => T_sub [0] rfl k) h
    · have h := h.1 c2
      refine MD_lift (fun G z Q k => T_if_ne 108 (dk dt_reckon 3 rfl) (by decide) (fun _ => k) (fun q => absurd q c2)) ?_
      refine MD_lift (fun G z Q k => T_iconst (v := 1) (dk dt_reckon 6 rfl) (by decide +kernel) k) ?_
      refine MD_lift (fun G z Q k => T_goto 113 (dk dt_reckon 7 rfl) (by decide) k) ?_
      exact MD_lift (fun G z Q k => T_sub [0] rfl k) h
  · have h := h.2
    by_cases c4 : l1 = 12
    · have h := h.1 c4
      refine MD_lift (fun G z Q k => T_lookup 116 117 (dk dt_reckon 1 rfl) (by decide +kernel) (by rw [c4]; decide +kernel) (by decide) k) ?_
      refine MD_lift (fun G z Q k => T_iload_n 2 (dk dt_reckon 11 rfl) rfl rfl k) ?_
      by_cases c5 : l2 = (0 : Int32)
      · have h := h.1 c5
        refine MD_lift (fun G z Q k => T_if_eq 129 (dk dt_reckon 12 rfl) (by decide) (fun _ => k) (fun q => absurd c5 q)) ?_
        refine MD_lift (fun G z Q k => T_iconst (v := 0) (dk dt_reckon 17 rfl) (by decide +kernel) k) ?_
        exact MD_lift (fun G z Q k => T_sub [0] rfl k) h
      · have h := h.2 c5
        refine MD_lift (fun G z Q k => T_if_eq 129 (dk dt_reckon 12 rfl) (by decide) (fun q => absurd q c5) (fun _ => k)) ?_
        refine MD_lift (fun G z Q k => T_iload_n 3 (dk dt_reckon 13 rfl) rfl rfl k) ?_
        by_cases c6 : l3 = (0 : Int32)
        · have h := h.1 c6
          refine MD_lift (fun G z Q k => T_if_eq 129 (dk dt_reckon 14 rfl) (by decide) (fun _ => k) (fun q => absurd c6 q)) ?_
          refine MD_lift (fun G z Q k => T_iconst (v := 0) (dk dt_reckon 17 rfl) (by decide +kernel) k) ?_
          exact MD_lift (fun G z Q k => T_sub [0] rfl k) h
        · have h := h.2 c6
          refine MD_lift (fun G z Q k => T_if_eq 129 (dk dt_reckon 14 rfl) (by decide) (fun q => absurd q c6) (fun _ => k)) ?_
          refine MD_lift (fun G z Q k => T_iconst (v := 1) (dk dt_reckon 15 rfl) (by decide +kernel) k) ?_
          refine MD_lift (fun G z Q k => T_goto 130 (dk dt_reckon 16 rfl) (by decide) k) ?_
          exact MD_lift (fun G z Q k => T_sub [0] rfl k) h
    · have h := h.2
      by_cases c7 : l1 = 51
      · have h := h.1 c7
        refine MD_lift (fun G z Q k => T_lookup 133 134 (dk dt_reckon 1 rfl) (by decide +kernel) (by rw [c7]; decide +kernel) (by decide) k) ?_
        refine MD_lift (fun G z Q k => T_iload_n 2 (dk dt_reckon 20 rfl) rfl rfl k) ?_
        refine MD_lift (fun G z Q k => T_iload_n 3 (dk dt_reckon 21 rfl) rfl rfl k) ?_
        by_cases c8 : l2 = l3
        · have h := h.2 c8
          refine MD_lift (fun G z Q k => T_icmp_ne 143 (dk dt_reckon 22 rfl) (by decide) (fun q => absurd c8 q) (fun _ => k)) ?_
          refine MD_lift (fun G z Q k => T_iconst (v := 1) (dk dt_reckon 23 rfl) (by decide +kernel) k) ?_
          refine MD_lift (fun G z Q k => T_goto 144 (dk dt_reckon 24 rfl) (by decide) k) ?_
          exact MD_lift (fun G z Q k => T_sub [0] rfl k) h
        · have h := h.1 c8
          refine MD_lift (fun G z Q k => T_icmp_ne 143 (dk dt_reckon 22 rfl) (by decide) (fun _ => k) (fun q => absurd q c8)) ?_
          refine MD_lift (fun G z Q k => T_iconst (v := 0) (dk dt_reckon 25 rfl) (by decide +kernel) k) ?_
          exact MD_lift (fun G z Q k => T_sub [0] rfl k) h
      · have h := h.2
        by_cases c9 : l1 = 52
        · have h := h.1 c9
          refine MD_lift (fun G z Q k => T_lookup 147 148 (dk dt_reckon 1 rfl) (by decide +kernel) (by rw [c9]; decide +kernel) (by decide) k) ?_
          refine MD_lift (fun G z Q k => T_iload_n 2 (dk dt_reckon 28 rfl) rfl rfl k) ?_
          refine MD_lift (fun G z Q k => T_iload_n 3 (dk dt_reckon 29 rfl) rfl rfl k) ?_
          by_cases c10 : l2 = l3
          · have h := h.1 c10
            refine MD_lift (fun G z Q k => T_icmp_eq 157 (dk dt_reckon 30 rfl) (by decide) (fun _ => k) (fun q => absurd c10 q)) ?_
            refine MD_lift (fun G z Q k => T_iconst (v := 0) (dk dt_reckon 33 rfl) (by decide +kernel) k) ?_
            exact MD_lift (fun G z Q k => T_sub [0] rfl k) h
          · have h := h.2 c10
            refine MD_lift (fun G z Q k => T_icmp_eq 157 (dk dt_reckon 30 rfl) (by decide) (fun q => absurd q c10) (fun _ => k)) ?_
            refine MD_lift (fun G z Q k => T_iconst (v := 1) (dk dt_reckon 31 rfl) (by decide +kernel) k) ?_
            refine MD_lift (fun G z Q k => T_goto 158 (dk dt_reckon 32 rfl) (by decide) k) ?_
            exact MD_lift (fun G z Q k => T_sub [0] rfl k) h
        · have h := h.2
          by_cases c11 : l1 = 53
          · have h := h.1 c11
            refine MD_lift (fun G z Q k => T_lookup 161 162 (dk dt_reckon 1 rfl) (by decide +kernel) (by rw [c11]; decide +kernel) (by decide) k) ?_
            refine MD_lift (fun G z Q k => T_iload_n 2 (dk dt_reckon 36 rfl) rfl rfl k) ?_
            refine MD_lift (fun G z Q k => T_iload_n 3 (dk dt_reckon 37 rfl) rfl rfl k) ?_
            by_cases c12 : l3 ≤ l2
            · have h := h.1 c12
              refine MD_lift (fun G z Q k => T_icmp_ge 171 (dk dt_reckon 38 rfl) (by decide) (fun _ => k) (fun q => absurd c12 q)) ?_
              refine MD_lift (fun G z Q k => T_iconst (v := 0) (dk dt_reckon 41 rfl) (by decide +kernel) k) ?_
              exact MD_lift (fun G z Q k => T_sub [0] rfl k) h
            · have h := h.2 c12
              refine MD_lift (fun G z Q k => T_icmp_ge 171 (dk dt_reckon 38 rfl) (by decide) (fun q => absurd q c12) (fun _ => k)) ?_
              refine MD_lift (fun G z Q k => T_iconst (v := 1) (dk dt_reckon 39 rfl) (by decide +kernel) k) ?_
              refine MD_lift (fun G z Q k => T_goto 172 (dk dt_reckon 40 rfl) (by decide) k) ?_
              exact MD_lift (fun G z Q k => T_sub [0] rfl k) h
          · have h := h.2
            by_cases c13 : l1 = 54
            · have h := h.1 c13
              refine MD_lift (fun G z Q k => T_lookup 175 176 (dk dt_reckon 1 rfl) (by decide +kernel) (by rw [c13]; decide +kernel) (by decide) k) ?_
              refine MD_lift (fun G z Q k => T_iload_n 2 (dk dt_reckon 44 rfl) rfl rfl k) ?_
              refine MD_lift (fun G z Q k => T_iload_n 3 (dk dt_reckon 45 rfl) rfl rfl k) ?_
              by_cases c14 : l3 < l2
              · have h := h.1 c14
                refine MD_lift (fun G z Q k => T_icmp_gt 185 (dk dt_reckon 46 rfl) (by decide) (fun _ => k) (fun q => absurd c14 q)) ?_
                refine MD_lift (fun G z Q k => T_iconst (v := 0) (dk dt_reckon 49 rfl) (by decide +kernel) k) ?_
                exact MD_lift (fun G z Q k => T_sub [0] rfl k) h
              · have h := h.2 c14
                refine MD_lift (fun G z Q k => T_icmp_gt 185 (dk dt_reckon 46 rfl) (by decide) (fun q => absurd q c14) (fun _ => k)) ?_
                refine MD_lift (fun G z Q k => T_iconst (v := 1) (dk dt_reckon 47 rfl) (by decide +kernel) k) ?_
                refine MD_lift (fun G z Q k => T_goto 186 (dk dt_reckon 48 rfl) (by decide) k) ?_
                exact MD_lift (fun G z Q k => T_sub [0] rfl k) h
            · have h := h.2
              by_cases c15 : l1 = 55
              · have h := h.1 c15
                refine MD_lift (fun G z Q k => T_lookup 189 190 (dk dt_reckon 1 rfl) (by decide +kernel) (by rw [c15]; decide +kernel) (by decide) k) ?_
                refine MD_lift (fun G z Q k => T_iload_n 2 (dk dt_reckon 52 rfl) rfl rfl k) ?_
                refine MD_lift (fun G z Q k => T_iload_n 3 (dk dt_reckon 53 rfl) rfl rfl k) ?_
                by_cases c16 : l2 ≤ l3
                · have h := h.1 c16
                  refine MD_lift (fun G z Q k => T_icmp_le 199 (dk dt_reckon 54 rfl) (by decide) (fun _ => k) (fun q => absurd c16 q)) ?_
                  refine MD_lift (fun G z Q k => T_iconst (v := 0) (dk dt_reckon 57 rfl) (by decide +kernel) k) ?_
                  exact MD_lift (fun G z Q k => T_sub [0] rfl k) h
                · have h := h.2 c16
                  refine MD_lift (fun G z Q k => T_icmp_le 199 (dk dt_reckon 54 rfl) (by decide) (fun q => absurd q c16) (fun _ => k)) ?_
                  refine MD_lift (fun G z Q k => T_iconst (v := 1) (dk dt_reckon 55 rfl) (by decide +kernel) k) ?_
                  refine MD_lift (fun G z Q k => T_goto 200 (dk dt_reckon 56 rfl) (by decide) k) ?_
                  exact MD_lift (fun G z Q k => T_sub [0] rfl k) h
              · have h := h.2
                by_cases c17 : l1 = 56
                · have h := h.1 c17
                  refine MD_lift (fun G z Q k => T_lookup 203 204 (dk dt_reckon 1 rfl) (by decide +kernel) (by rw [c17]; decide +kernel) (by decide) k) ?_
                  refine MD_lift (fun G z Q k => T_iload_n 2 (dk dt_reckon 60 rfl) rfl rfl k) ?_
                  refine MD_lift (fun G z Q k => T_iload_n 3 (dk dt_reckon 61 rfl) rfl rfl k) ?_
                  by_cases c18 : l2 < l3
                  · have h := h.1 c18
                    refine MD_lift (fun G z Q k => T_icmp_lt 213 (dk dt_reckon 62 rfl) (by decide) (fun _ => k) (fun q => absurd c18 q)) ?_
                    refine MD_lift (fun G z Q k => T_iconst (v := 0) (dk dt_reckon 65 rfl) (by decide +kernel) k) ?_
                    exact MD_lift (fun G z Q k => T_sub [0] rfl k) h
                  · have h := h.2 c18
                    refine MD_lift (fun G z Q k => T_icmp_lt 213 (dk dt_reckon 62 rfl) (by decide) (fun q => absurd q c18) (fun _ => k)) ?_
                    refine MD_lift (fun G z Q k => T_iconst (v := 1) (dk dt_reckon 63 rfl) (by decide +kernel) k) ?_
                    refine MD_lift (fun G z Q k => T_goto 214 (dk dt_reckon 64 rfl) (by decide) k) ?_
                    exact MD_lift (fun G z Q k => T_sub [0] rfl k) h
                · have h := h.2
                  by_cases c19 : l1 = 57
                  · have h := h.1 c19
                    refine MD_lift (fun G z Q k => T_lookup 217 218 (dk dt_reckon 1 rfl) (by decide +kernel) (by rw [c19]; decide +kernel) (by decide) k) ?_
                    refine MD_lift (fun G z Q k => T_iload_n 2 (dk dt_reckon 68 rfl) rfl rfl k) ?_
                    refine MD_lift (fun G z Q k => T_iload_n 3 (dk dt_reckon 69 rfl) rfl rfl k) ?_
                    refine MD_lift (fun G z Q k => T_iadd (dk dt_reckon 70 rfl) k) ?_
                    exact MD_ret (fun G z Q k => MT_iret (dk dt_reckon 71 rfl) rfl rfl k) h
                  · have h := h.2
                    by_cases c20 : l1 = 58
                    · have h := h.1 c20
                      refine MD_lift (fun G z Q k => T_lookup 221 222 (dk dt_reckon 1 rfl) (by decide +kernel) (by rw [c20]; decide +kernel) (by decide) k) ?_
                      refine MD_lift (fun G z Q k => T_iload_n 2 (dk dt_reckon 72 rfl) rfl rfl k) ?_
                      refine MD_lift (fun G z Q k => T_iload_n 3 (dk dt_reckon 73 rfl) rfl rfl k) ?_
                      refine MD_lift (fun G z Q k => T_isub (dk dt_reckon 74 rfl) k) ?_
                      exact MD_ret (fun G z Q k => MT_iret (dk dt_reckon 75 rfl) rfl rfl k) h
                    · have h := h.2
                      by_cases c21 : l1 = 59
                      · have h := h.1 c21
                        refine MD_lift (fun G z Q k => T_lookup 225 226 (dk dt_reckon 1 rfl) (by decide +kernel) (by rw [c21]; decide +kernel) (by decide) k) ?_
                        refine MD_lift (fun G z Q k => T_iload_n 2 (dk dt_reckon 76 rfl) rfl rfl k) ?_
                        refine MD_lift (fun G z Q k => T_iload_n 3 (dk dt_reckon 77 rfl) rfl rfl k) ?_
                        refine MD_lift (fun G z Q k => T_imul (dk dt_reckon 78 rfl) k) ?_
                        exact MD_ret (fun G z Q k => MT_iret (dk dt_reckon 79 rfl) rfl rfl k) h
                      · have h := h.2
                        have n22 : ∀ k ∈ [(30 : Int32), (12 : Int32), (51 : Int32), (52 : Int32), (53 : Int32), (54 : Int32), (55 : Int32), (56 : Int32), (57 : Int32), (58 : Int32), (59 : Int32)], ¬ l1 = k := (gno c1 (gno c4 (gno c7 (gno c9 (gno c11 (gno c13 (gno c15 (gno c17 (gno c19 (gno c20 (gno c21 gno0)))))))))))
                        have h := h n22
                        refine MD_lift (fun G z Q k => T_lookup 229 230 (dk dt_reckon 1 rfl) (by decide +kernel) (glk_d [(30 : Int32), (12 : Int32), (51 : Int32), (52 : Int32), (53 : Int32), (54 : Int32), (55 : Int32), (56 : Int32), (57 : Int32), (58 : Int32), (59 : Int32)] (by decide +kernel) n22) (by decide) k) ?_
                        refine MD_lift (fun G z Q k => T_iload_n 3 (dk dt_reckon 80 rfl) rfl rfl k) ?_
                        by_cases c23 : l3 = (0 : Int32)
                        · have h := h.2 c23
                          refine MD_lift (fun G z Q k => T_if_ne 241 (dk dt_reckon 81 rfl) (by decide) (fun q => absurd c23 q) (fun _ => k)) ?_
                          refine MD_lift (fun G z Q k => T_aload_n 0 (dk dt_reckon 82 rfl) rfl rfl k) ?_
                          refine MD_lift (fun G z Q k => T_iconst (v := 1) (dk dt_reckon 83 rfl) (by decide +kernel) k) ?_
                          obtain ⟨x24, ex24⟩ : ∃ z, z = si x 0 82 1 := ⟨_, rfl⟩
                          have h := h x24 ex24
                          refine MD_wr 0 82 1 (fun G z Q k => T_putI 0 82 (dk dt_reckon 84 rfl) fl_581 mk_0 ml_0 (by decide) rfl ⟨rfl, rfl⟩ k) (hm_f (by decide) _) ?_
                          rw [← ex24]
                          refine MD_lift (fun G z Q k => T_iconst (v := 0) (dk dt_reckon 85 rfl) (by decide +kernel) k) ?_
                          exact MD_ret (fun G z Q k => MT_iret (dk dt_reckon 86 rfl) rfl rfl k) h
                        · have h := h.1 c23
                          refine MD_lift (fun G z Q k => T_if_ne 241 (dk dt_reckon 81 rfl) (by decide) (fun _ => k) (fun q => absurd q c23)) ?_
                          refine MD_lift (fun G z Q k => T_iload_n 1 (dk dt_reckon 87 rfl) rfl rfl k) ?_
                          refine MD_lift (fun G z Q k => T_bipush (v := 60) (dk dt_reckon 88 rfl) (by decide +kernel) k) ?_
                          by_cases c25 : l1 = (60 : Int32)
                          · have h := h.2 c25
                            refine MD_lift (fun G z Q k => T_icmp_ne 263 (dk dt_reckon 89 rfl) (by decide) (fun q => absurd c25 q) (fun _ => k)) ?_
                            refine MD_lift (fun G z Q k => T_iload_n 3 (dk dt_reckon 90 rfl) rfl rfl k) ?_
                            refine MD_lift (fun G z Q k => T_iconst (v := (-1)) (dk dt_reckon 91 rfl) (by decide +kernel) k) ?_
                            by_cases c26 : l3 = (-1 : Int32)
                            · have h := h.2 c26
                              refine MD_lift (fun G z Q k => T_icmp_ne 257 (dk dt_reckon 92 rfl) (by decide) (fun q => absurd c26 q) (fun _ => k)) ?_
                              refine MD_lift (fun G z Q k => T_iload_n 2 (dk dt_reckon 93 rfl) rfl rfl k) ?_
                              refine MD_lift (fun G z Q k => T_ineg (dk dt_reckon 94 rfl) k) ?_
                              refine MD_lift (fun G z Q k => T_goto 275 (dk dt_reckon 95 rfl) (by decide) k) ?_
                              exact MD_ret (fun G z Q k => MT_iret (dk dt_reckon 108 rfl) rfl rfl k) h
                            · have h := h.1 c26
                              refine MD_lift (fun G z Q k => T_icmp_ne 257 (dk dt_reckon 92 rfl) (by decide) (fun _ => k) (fun q => absurd q c26)) ?_
                              refine MD_lift (fun G z Q k => T_iload_n 2 (dk dt_reckon 96 rfl) rfl rfl k) ?_
                              refine MD_lift (fun G z Q k => T_iload_n 3 (dk dt_reckon 97 rfl) rfl rfl k) ?_
                              obtain ⟨h27, h⟩ := h
                              refine MD_lift (fun G z Q k => T_idiv (dk dt_reckon 98 rfl) h27 k) ?_
                              refine MD_lift (fun G z Q k => T_goto 275 (dk dt_reckon 99 rfl) (by decide) k) ?_
                              exact MD_ret (fun G z Q k => MT_iret (dk dt_reckon 108 rfl) rfl rfl k) h
                          · have h := h.1 c25
                            refine MD_lift (fun G z Q k => T_icmp_ne 263 (dk dt_reckon 89 rfl) (by decide) (fun _ => k) (fun q => absurd q c25)) ?_
                            refine MD_lift (fun G z Q k => T_iload_n 3 (dk dt_reckon 100 rfl) rfl rfl k) ?_
                            refine MD_lift (fun G z Q k => T_iconst (v := (-1)) (dk dt_reckon 101 rfl) (by decide +kernel) k) ?_
                            by_cases c28 : l3 = (-1 : Int32)
                            · have h := h.2 c28
                              refine MD_lift (fun G z Q k => T_icmp_ne 272 (dk dt_reckon 102 rfl) (by decide) (fun q => absurd c28 q) (fun _ => k)) ?_
                              refine MD_lift (fun G z Q k => T_iconst (v := 0) (dk dt_reckon 103 rfl) (by decide +kernel) k) ?_
                              refine MD_lift (fun G z Q k => T_goto 275 (dk dt_reckon 104 rfl) (by decide) k) ?_
                              exact MD_ret (fun G z Q k => MT_iret (dk dt_reckon 108 rfl) rfl rfl k) h
                            · have h := h.1 c28
                              refine MD_lift (fun G z Q k => T_icmp_ne 272 (dk dt_reckon 102 rfl) (by decide) (fun _ => k) (fun q => absurd q c28)) ?_
                              refine MD_lift (fun G z Q k => T_iload_n 2 (dk dt_reckon 105 rfl) rfl rfl k) ?_
                              refine MD_lift (fun G z Q k => T_iload_n 3 (dk dt_reckon 106 rfl) rfl rfl k) ?_
                              obtain ⟨h29, h⟩ := h
                              refine MD_lift (fun G z Q k => T_irem (dk dt_reckon 107 rfl) h29 k) ?_
                              exact MD_ret (fun G z Q k => MT_iret (dk dt_reckon 108 rfl) rfl rfl k) h
set_option maxRecDepth 100000 in
set_option maxHeartbeats 4000000 in
theorem sd_reckon_113 {d : Nat} {S : gS} {x : gd} {P : Option gv → gd → gS → Prop} (s0 : Int32)
    (h : MD d z_one 0 [(0, vi s0)] [] S x (Di (fun r2 x1 S1 => P (some (vi r2)) x1 S1))) :
    MD (d + 1) z_reckon 113 [(0, vr 0)] [vi s0] S x P := by
  refine MD_calli (fun G z F Q k kk => MT_callSi [vi s0] [] rfl (dk dt_reckon 9 rfl) cs_587 rfl (Nat.le_of_ble_eq_true rfl) (Nat.le_of_ble_eq_true rfl) rfl rfl k kk) h (fun r2 x1 S1 h => ?_)
  exact MD_ret (fun G z Q k => MT_iret (dk dt_reckon 10 rfl) rfl rfl k) h
set_option maxRecDepth 100000 in
set_option maxHeartbeats 4000000 in
theorem sd_reckon_130 {d : Nat} {S : gS} {x : gd} {P : Option gv → gd → gS → Prop} (s0 : Int32)
    (h : MD d z_one 0 [(0, vi s0)] [] S x (Di (fun r2 x1 S1 => P (some (vi r2)) x1 S1))) :
    MD (d + 1) z_reckon 130 [(0, vr 0)] [vi s0] S x P := by
  refine MD_calli (fun G z F Q k kk => MT_callSi [vi s0] [] rfl (dk dt_reckon 18 rfl) cs_587 rfl (Nat.le_of_ble_eq_true rfl) (Nat.le_of_ble_eq_true rfl) rfl rfl k kk) h (fun r2 x1 S1 h => ?_)
  exact MD_ret (fun G z Q k => MT_iret (dk dt_reckon 19 rfl) rfl rfl k) h
set_option maxRecDepth 100000 in
set_option maxHeartbeats 4000000 in
theorem sd_reckon_144 {d : Nat} {S : gS} {x : gd} {P : Option gv → gd → gS → Prop} (s0 : Int32)
    (h : MD d z_one 0 [(0, vi s0)] [] S x (Di (fun r2 x1 S1 => P (some (vi r2)) x1 S1))) :
    MD (d + 1) z_reckon 144 [(0, vr 0)] [vi s0] S x P := by
  refine MD_calli (fun G z F Q k kk => MT_callSi [vi s0] [] rfl (dk dt_reckon 26 rfl) cs_587 rfl (Nat.le_of_ble_eq_true rfl) (Nat.le_of_ble_eq_true rfl) rfl rfl k kk) h (fun r2 x1 S1 h => ?_)
  exact MD_ret (fun G z Q k => MT_iret (dk dt_reckon 27 rfl) rfl rfl k) h
set_option maxRecDepth 100000 in
set_option maxHeartbeats 4000000 in
theorem sd_reckon_158 {d : Nat} {S : gS} {x : gd} {P : Option gv → gd → gS → Prop} (s0 : Int32)
    (h : MD d z_one 0 [(0, vi s0)] [] S x (Di (fun r2 x1 S1 => P (some (vi r2)) x1 S1))) :
    MD (d + 1) z_reckon 158 [(0, vr 0)] [vi s0] S x P := by
  refine MD_calli (fun G z F Q k kk => MT_callSi [vi s0] [] rfl (dk dt_reckon 34 rfl) cs_587 rfl (Nat.le_of_ble_eq_true rfl) (Nat.le_of_ble_eq_true rfl) rfl rfl k kk) h (fun r2 x1 S1 h => ?_)
  exact MD_ret (fun G z Q k => MT_iret (dk dt_reckon 35 rfl) rfl rfl k) h
set_option maxRecDepth 100000 in
set_option maxHeartbeats 4000000 in
theorem sd_reckon_172 {d : Nat} {S : gS} {x : gd} {P : Option gv → gd → gS → Prop} (s0 : Int32)
    (h : MD d z_one 0 [(0, vi s0)] [] S x (Di (fun r2 x1 S1 => P (some (vi r2)) x1 S1))) :
    MD (d + 1) z_reckon 172 [(0, vr 0)] [vi s0] S x P := by
  refine MD_calli (fun G z F Q k kk => MT_callSi [vi s0] [] rfl (dk dt_reckon 42 rfl) cs_587 rfl (Nat.le_of_ble_eq_true rfl) (Nat.le_of_ble_eq_true rfl) rfl rfl k kk) h (fun r2 x1 S1 h => ?_)
  exact MD_ret (fun G z Q k => MT_iret (dk dt_reckon 43 rfl) rfl rfl k) h
set_option maxRecDepth 100000 in
set_option maxHeartbeats 4000000 in
theorem sd_reckon_186 {d : Nat} {S : gS} {x : gd} {P : Option gv → gd → gS → Prop} (s0 : Int32)
    (h : MD d z_one 0 [(0, vi s0)] [] S x (Di (fun r2 x1 S1 => P (some (vi r2)) x1 S1))) :
    MD (d + 1) z_reckon 186 [(0, vr 0)] [vi s0] S x P := by
  refine MD_calli (fun G z F Q k kk => MT_callSi [vi s0] [] rfl (dk dt_reckon 50 rfl) cs_587 rfl (Nat.le_of_ble_eq_true rfl) (Nat.le_of_ble_eq_true rfl) rfl rfl k kk) h (fun r2 x1 S1 h => ?_)
  exact MD_ret (fun G z Q k => MT_iret (dk dt_reckon 51 rfl) rfl rfl k) h
set_option maxRecDepth 100000 in
set_option maxHeartbeats 4000000 in
theorem sd_reckon_200 {d : Nat} {S : gS} {x : gd} {P : Option gv → gd → gS → Prop} (s0 : Int32)
    (h : MD d z_one 0 [(0, vi s0)] [] S x (Di (fun r2 x1 S1 => P (some (vi r2)) x1 S1))) :
    MD (d + 1) z_reckon 200 [(0, vr 0)] [vi s0] S x P := by
  refine MD_calli (fun G z F Q k kk => MT_callSi [vi s0] [] rfl (dk dt_reckon 58 rfl) cs_587 rfl (Nat.le_of_ble_eq_true rfl) (Nat.le_of_ble_eq_true rfl) rfl rfl k kk) h (fun r2 x1 S1 h => ?_)
  exact MD_ret (fun G z Q k => MT_iret (dk dt_reckon 59 rfl) rfl rfl k) h
set_option maxRecDepth 100000 in
set_option maxHeartbeats 4000000 in
theorem sd_reckon_214 {d : Nat} {S : gS} {x : gd} {P : Option gv → gd → gS → Prop} (s0 : Int32)
    (h : MD d z_one 0 [(0, vi s0)] [] S x (Di (fun r2 x1 S1 => P (some (vi r2)) x1 S1))) :
    MD (d + 1) z_reckon 214 [(0, vr 0)] [vi s0] S x P := by
  refine MD_calli (fun G z F Q k kk => MT_callSi [vi s0] [] rfl (dk dt_reckon 66 rfl) cs_587 rfl (Nat.le_of_ble_eq_true rfl) (Nat.le_of_ble_eq_true rfl) rfl rfl k kk) h (fun r2 x1 S1 h => ?_)
  exact MD_ret (fun G z Q k => MT_iret (dk dt_reckon 67 rfl) rfl rfl k) h
