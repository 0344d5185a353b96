set_option maxRecDepth 100000 in
set_option maxHeartbeats 4000000 in
theorem sd_hasAct_0 {d : Nat} {S : gS} {x : gd} {P : Option gv → gd → gS → Prop} (l1 : Int32)
    (h : vp_in l1 6 ∧ ((¬ ((x.1 73 (l1 : Int32).toNatClampNeg) = (1 : Int32)) → P (some (vi 0)) x S) ∧ ((x.1 73 (l1 : Int32).toNatClampNeg) = (1 : Int32) → vp_in l1 6 ∧ ((¬ ((x.1 77 (l1 : Int32).toNatClampNeg) = (1 : Int32)) → vp_in l1 6 ∧ MD d z_sortOf 0 [(0, vr 0), (1, vi l1)] [] S x (Di (fun r7 x6 S6 => MD d z_isAccess 0 [(0, vr 0), (1, vi r7)] [] S6 x6 (Di (fun r9 x8 S8 => ((r9 = (0 : Int32) → MD (d + 1) z_hasAct 62 [(0, vr 0), (1, vi l1), (2, vi (x.1 74 (l1 : Int32).toNatClampNeg)), (3, vi r7)] [vi 0] S8 x8 P) ∧ (¬ (r9 = (0 : Int32)) → vp_in (x.1 74 (l1 : Int32).toNatClampNeg) 1500 ∧ vp_in (x8.1 56 (x.1 74 (l1 : Int32).toNatClampNeg : Int32).toNatClampNeg) 24 ∧ (((x8.1 37 (x8.1 56 (x.1 74 (l1 : Int32).toNatClampNeg : Int32).toNatClampNeg : Int32).toNatClampNeg) = (0 : Int32) → MD (d + 1) z_hasAct 62 [(0, vr 0), (1, vi l1), (2, vi (x.1 74 (l1 : Int32).toNatClampNeg)), (3, vi r7)] [vi 0] S8 x8 P) ∧ (¬ ((x8.1 37 (x8.1 56 (x.1 74 (l1 : Int32).toNatClampNeg : Int32).toNatClampNeg : Int32).toNatClampNeg) = (0 : Int32)) → MD (d + 1) z_hasAct 62 [(0, vr 0), (1, vi l1), (2, vi (x.1 74 (l1 : Int32).toNatClampNeg)), (3, vi r7)] [vi 1] S8 x8 P))))))))) ∧ ((x.1 77 (l1 : Int32).toNatClampNeg) = (1 : Int32) → P (some (vi 0)) x S))))) :
    MD (d + 1) z_hasAct 0 [(0, vr 0), (1, vi l1)] [] S x P := by
  refine MD_lift (fun G z Q k => T_aload_n 0 (dk dt_hasAct 0 rfl) rfl rfl k) ?_
  refine MD_lift (fun G z Q k => T_getR 0 72 73 (dk dt_hasAct 1 rfl) fl_151 mk_0 ml_0 (by decide) rfl rfl k) ?_
  refine MD_lift (fun G z Q k => T_iload_n 1 (dk dt_hasAct 2 rfl) rfl rfl k) ?_
  obtain ⟨h1, h⟩ := h
  refine MD_read (fun z => z.1 73 (l1 : Int32).toNatClampNeg) (fun G z Q k => T_iald 73 6 (dk dt_hasAct 3 rfl) mk_73 ml_73 h1 k) (fun z e => e 73 _ (Or.inl (core_a (by decide) h1))) ?_
  refine MD_lift (fun G z Q k => T_iconst (v := 1) (dk dt_hasAct 4 rfl) (by decide +kernel) k) ?_
  by_cases c2 : (x.1 73 (l1 : Int32).toNatClampNeg) = (1 : Int32)
  · have h := h.2 c2
    refine MD_lift (fun G z Q k => T_icmp_ne 20 (dk dt_hasAct 5 rfl) (by decide) (fun q => absurd c2 q) (fun _ => k)) ?_
    refine MD_lift (fun G z Q k => T_aload_n 0 (dk dt_hasAct 6 rfl) rfl rfl k) ?_
    refine MD_lift (fun G z Q k => T_getR 0 76 77 (dk dt_hasAct 7 rfl) fl_163 mk_0 ml_0 (by decide) rfl rfl k) ?_
    refine MD_lift (fun G z Q k => T_iload_n 1 (dk dt_hasAct 8 rfl) rfl rfl k) ?_
    obtain ⟨h3, h⟩ := h
    refine MD_read (fun z => z.1 77 (l1 : Int32).toNatClampNeg) (fun G z Q k => T_iald 77 6 (dk dt_hasAct 9 rfl) mk_77 ml_77 h3 k) (fun z e => e 77 _ (Or.inl (core_a (by decide) h3))) ?_
    refine MD_lift (fun G z Q k => T_iconst (v := 1) (dk dt_hasAct 10 rfl) (by decide +kernel) k) ?_
    by_cases c4 : (x.1 77 (l1 : Int32).toNatClampNeg) = (1 : Int32)
    · have h := h.2 c4
      refine MD_lift (fun G z Q k => T_icmp_ne 22 (dk dt_hasAct 11 rfl) (by decide) (fun q => absurd c4 q) (fun _ => k)) ?_
      refine MD_lift (fun G z Q k => T_iconst (v := 0) (dk dt_hasAct 12 rfl) (by decide +kernel) k) ?_
      exact MD_ret (fun G z Q k => MT_iret (dk dt_hasAct 13 rfl) rfl rfl k) h
    · have h := h.1 c4
      refine MD_lift (fun G z Q k => T_icmp_ne 22 (dk dt_hasAct 11 rfl) (by decide) (fun _ => k) (fun q => absurd q c4)) ?_
      refine MD_lift (fun G z Q k => T_aload_n 0 (dk dt_hasAct 14 rfl) rfl rfl k) ?_
      refine MD_lift (fun G z Q k => T_getR 0 73 74 (dk dt_hasAct 15 rfl) fl_154 mk_0 ml_0 (by decide) rfl rfl k) ?_
      refine MD_lift (fun G z Q k => T_iload_n 1 (dk dt_hasAct 16 rfl) rfl rfl k) ?_
      obtain ⟨h5, h⟩ := h
      refine MD_read (fun z => z.1 74 (l1 : Int32).toNatClampNeg) (fun G z Q k => T_iald 74 6 (dk dt_hasAct 17 rfl) mk_74 ml_74 h5 k) (fun z e => e 74 _ (Or.inl (core_a (by decide) h5))) ?_
      refine MD_lift (fun G z Q k => T_istore_n (lv2 := [(2, vi (x.1 74 (l1 : Int32).toNatClampNeg)), (0, vr 0), (1, vi l1)]) (dk dt_hasAct 18 rfl) rfl (by decide) rfl k) ?_
      refine MD_lift (fun G z Q k => T_aload_n 1 (dk dt_hasAct 19 rfl) rfl rfl k) ?_
      refine MD_lift (fun G z Q k => T_iload_n 2 (dk dt_hasAct 20 rfl) rfl rfl k) ?_
      refine MD_calli (fun G z F Q k kk => MT_callVi [vi l1] [] rfl (dk dt_hasAct 21 rfl) cv_602 rfl rfl (Nat.le_of_ble_eq_true rfl) (Nat.le_of_ble_eq_true rfl) rfl rfl k kk) h (fun r7 x6 S6 h => ?_)
      refine MD_lift (fun G z Q k => T_istore_n (lv2 := [(3, vi r7), (2, vi (x.1 74 (l1 : Int32).toNatClampNeg)), (0, vr 0), (1, vi l1)]) (dk dt_hasAct 22 rfl) rfl (by decide) rfl k) ?_
      refine MD_lift (fun G z Q k => T_aload_n 2 (dk dt_hasAct 23 rfl) rfl rfl k) ?_
      refine MD_lift (fun G z Q k => T_iload_n 0 (dk dt_hasAct 24 rfl) rfl rfl k) ?_
      refine MD_calli (fun G z F Q k kk => MT_callVi [vi r7] [] rfl (dk dt_hasAct 25 rfl) cv_605 rfl rfl (Nat.le_of_ble_eq_true rfl) (Nat.le_of_ble_eq_true rfl) rfl rfl k kk) h (fun r9 x8 S8 h => ?_)
      by_cases c10 : r9 = (0 : Int32)
      · have h := h.1 c10
        refine MD_lift (fun G z Q k => T_if_eq 61 (dk dt_hasAct 26 rfl) (by decide) (fun _ => k) (fun q => absurd c10 q)) ?_
        refine MD_lift (fun G z Q k => T_iconst (v := 0) (dk dt_hasAct 37 rfl) (by decide +kernel) k) ?_
        exact MD_lift (fun G z Q k => T_sub [2, 3, 1, 0] rfl k) h
      · have h := h.2 c10
        refine MD_lift (fun G z Q k => T_if_eq 61 (dk dt_hasAct 26 rfl) (by decide) (fun q => absurd q c10) (fun _ => k)) ?_
        refine MD_lift (fun G z Q k => T_aload_n 2 (dk dt_hasAct 27 rfl) rfl rfl k) ?_
        refine MD_lift (fun G z Q k => T_getR 0 36 37 (dk dt_hasAct 28 rfl) fl_73 mk_0 ml_0 (by decide) rfl rfl k) ?_
        refine MD_lift (fun G z Q k => T_aload_n 2 (dk dt_hasAct 29 rfl) rfl rfl k) ?_
        refine MD_lift (fun G z Q k => T_getR 0 55 56 (dk dt_hasAct 30 rfl) fl_109 mk_0 ml_0 (by decide) rfl rfl k) ?_
        refine MD_lift (fun G z Q k => T_iload_n 1 (dk dt_hasAct 31 rfl) rfl rfl k) ?_
        obtain ⟨h11, h⟩ := h
        refine MD_read (fun z => z.1 56 (x.1 74 (l1 : Int32).toNatClampNeg : Int32).toNatClampNeg) (fun G z Q k => T_iald 56 1500 (dk dt_hasAct 32 rfl) mk_56 ml_56 h11 k) (fun z e => e 56 _ (Or.inl (core_a (by decide) h11))) ?_
        obtain ⟨h12, h⟩ := h
        refine MD_read (fun z => z.1 37 (x8.1 56 (x.1 74 (l1 : Int32).toNatClampNeg : Int32).toNatClampNeg : Int32).toNatClampNeg) (fun G z Q k => T_zald 37 24 (dk dt_hasAct 33 rfl) mk_37 ml_37 h12 k) (fun z e => e 37 _ (Or.inl (core_a (by decide) h12))) ?_
        by_cases c13 : (x8.1 37 (x8.1 56 (x.1 74 (l1 : Int32).toNatClampNeg : Int32).toNatClampNeg : Int32).toNatClampNeg) = (0 : Int32)
        · have h := h.1 c13
          refine MD_lift (fun G z Q k => T_if_eq 61 (dk dt_hasAct 34 rfl) (by decide) (fun _ => k) (fun q => absurd c13 q)) ?_
          refine MD_lift (fun G z Q k => T_iconst (v := 0) (dk dt_hasAct 37 rfl) (by decide +kernel) k) ?_
          exact MD_lift (fun G z Q k => T_sub [2, 3, 1, 0] rfl k) h
        · have h := h.2 c13
          refine MD_lift (fun G z Q k => T_if_eq 61 (dk dt_hasAct 34 rfl) (by decide) (fun q => absurd q c13) (fun _ => k)) ?_
          refine MD_lift (fun G z Q k => T_iconst (v := 1) (dk dt_hasAct 35 rfl) (by decide +kernel) k) ?_
          refine MD_lift (fun G z Q k => T_goto 62 (dk dt_hasAct 36 rfl) (by decide) k) ?_
          exact MD_lift (fun G z Q k => T_sub [2, 3, 1, 0] rfl k) h
  · have h := h.1 c2
    refine MD_lift (fun G z Q k => T_icmp_ne 20 (dk dt_hasAct 5 rfl) (by decide) (fun _ => k) (fun q => absurd q c2)) ?_
    refine MD_lift (fun G z Q k => T_iconst (v := 0) (dk dt_hasAct 12 rfl) (by decide +kernel) k) ?_
    exact MD_ret (fun G z Q k => MT_iret (dk dt_hasAct 13 rfl) rfl rfl k) h
set_option maxRecDepth 100000 in
set_option maxHeartbeats 4000000 in
theorem sd_hasAct_62 {d : Nat} {S : gS} {x : gd} {P : Option gv → gd → gS → Prop} (l1 : Int32) (l2 : Int32) (l3 : Int32) (s0 : Int32)
    (h : (((x.1 0 68) = (0 : Int32) → MD (d + 1) z_hasAct 85 [(0, vr 0), (1, vi l1), (2, vi l2), (3, vi l3), (4, vi s0)] [vi 1] S x P) ∧ (¬ ((x.1 0 68) = (0 : Int32)) → vp_in l1 6 ∧ ((¬ ((x.1 80 (l1 : Int32).toNatClampNeg) = (0 : Int32)) → MD (d + 1) z_hasAct 85 [(0, vr 0), (1, vi l1), (2, vi l2), (3, vi l3), (4, vi s0)] [vi 0] S x P) ∧ ((x.1 80 (l1 : Int32).toNatClampNeg) = (0 : Int32) → MD (d + 1) z_hasAct 85 [(0, vr 0), (1, vi l1), (2, vi l2), (3, vi l3), (4, vi s0)] [vi 1] S x P))))) :
    MD (d + 1) z_hasAct 62 [(0, vr 0), (1, vi l1), (2, vi l2), (3, vi l3)] [vi s0] S x P := by
  refine MD_lift (fun G z Q k => T_istore (lv2 := [(4, vi s0), (0, vr 0), (1, vi l1), (2, vi l2), (3, vi l3)]) (dk dt_hasAct 38 rfl) (by decide) rfl k) ?_
  refine MD_lift (fun G z Q k => T_aload_n 1 (dk dt_hasAct 39 rfl) rfl rfl k) ?_
  refine MD_read (fun z => z.1 0 68) (fun G z Q k => T_getI 0 68 (dk dt_hasAct 40 rfl) fl_608 mk_0 ml_0 (by decide) rfl k) (fun z e => e 0 68 (Or.inl (core_f (by decide)))) ?_
  by_cases c1 : (x.1 0 68) = (0 : Int32)
  · have h := h.1 c1
    refine MD_lift (fun G z Q k => T_if_eq 80 (dk dt_hasAct 41 rfl) (by decide) (fun _ => k) (fun q => absurd c1 q)) ?_
    refine MD_lift (fun G z Q k => T_iconst (v := 1) (dk dt_hasAct 47 rfl) (by decide +kernel) k) ?_
    refine MD_lift (fun G z Q k => T_goto 85 (dk dt_hasAct 48 rfl) (by decide) k) ?_
    exact MD_lift (fun G z Q k => T_sub [1, 2, 3, 4, 0] rfl k) h
  · have h := h.2 c1
    refine MD_lift (fun G z Q k => T_if_eq 80 (dk dt_hasAct 41 rfl) (by decide) (fun q => absurd q c1) (fun _ => k)) ?_
    refine MD_lift (fun G z Q k => T_aload_n 1 (dk dt_hasAct 42 rfl) rfl rfl k) ?_
    refine MD_lift (fun G z Q k => T_getR 0 79 80 (dk dt_hasAct 43 rfl) fl_172 mk_0 ml_0 (by decide) rfl rfl k) ?_
    refine MD_lift (fun G z Q k => T_iload_n 2 (dk dt_hasAct 44 rfl) rfl rfl k) ?_
    obtain ⟨h2, h⟩ := h
    refine MD_read (fun z => z.1 80 (l1 : Int32).toNatClampNeg) (fun G z Q k => T_iald 80 6 (dk dt_hasAct 45 rfl) mk_80 ml_80 h2 k) (fun z e => e 80 _ (Or.inl (core_a (by decide) h2))) ?_
    by_cases c3 : (x.1 80 (l1 : Int32).toNatClampNeg) = (0 : Int32)
    · have h := h.2 c3
      refine MD_lift (fun G z Q k => T_if_ne 84 (dk dt_hasAct 46 rfl) (by decide) (fun q => absurd c3 q) (fun _ => k)) ?_
      refine MD_lift (fun G z Q k => T_iconst (v := 1) (dk dt_hasAct 47 rfl) (by decide +kernel) k) ?_
      refine MD_lift (fun G z Q k => T_goto 85 (dk dt_hasAct 48 rfl) (by decide) k) ?_
      exact MD_lift (fun G z Q k => T_sub [1, 2, 3, 4, 0] rfl k) h
    · have h := h.1 c3
      refine MD_lift (fun G z Q k => T_if_ne 84 (dk dt_hasAct 46 rfl) (by decide) (fun _ => k) (fun q => absurd q c3)) ?_
      refine MD_lift (fun G z Q k => T_iconst (v := 0) (dk dt_hasAct 49 rfl) (by decide +kernel) k) ?_
      exact MD_lift (fun G z Q k => T_sub [1, 2, 3, 4, 0] rfl k) h
set_option maxRecDepth 100000 in
set_option maxHeartbeats 4000000 in
theorem sd_hasAct_85 {d : Nat} {S : gS} {x : gd} {P : Option gv → gd → gS → Prop} (l1 : Int32) (l2 : Int32) (l3 : Int32) (l4 : Int32) (s0 : Int32)
    (h : ((l3 = (0 : Int32) → MD (d + 1) z_hasAct 124 [(0, vr 0), (1, vi l1), (2, vi l2), (3, vi l3), (5, vi s0)] [vi 0] S x P) ∧ (¬ (l3 = (0 : Int32)) → ((l3 = (12 : Int32) → MD (d + 1) z_hasAct 124 [(0, vr 0), (1, vi l1), (2, vi l2), (3, vi l3), (5, vi s0)] [vi 0] S x P) ∧ (¬ (l3 = (12 : Int32)) → ((l3 = (13 : Int32) → MD (d + 1) z_hasAct 124 [(0, vr 0), (1, vi l1), (2, vi l2), (3, vi l3), (5, vi s0)] [vi 0] S x P) ∧ (¬ (l3 = (13 : Int32)) → ((l3 = (14 : Int32) → MD (d + 1) z_hasAct 124 [(0, vr 0), (1, vi l1), (2, vi l2), (3, vi l3), (5, vi s0)] [vi 0] S x P) ∧ (¬ (l3 = (14 : Int32)) → ((¬ (l3 = (1 : Int32)) → MD (d + 1) z_hasAct 124 [(0, vr 0), (1, vi l1), (2, vi l2), (3, vi l3), (5, vi s0)] [vi 1] S x P) ∧ (l3 = (1 : Int32) → ((l4 = (0 : Int32) → MD (d + 1) z_hasAct 124 [(0, vr 0), (1, vi l1), (2, vi l2), (3, vi l3), (5, vi s0)] [vi 0] S x P) ∧ (¬ (l4 = (0 : Int32)) → MD (d + 1) z_hasAct 124 [(0, vr 0), (1, vi l1), (2, vi l2), (3, vi l3), (5, vi s0)] [vi 1] S x P))))))))))))) :
    MD (d + 1) z_hasAct 85 [(0, vr 0), (1, vi l1), (2, vi l2), (3, vi l3), (4, vi l4)] [vi s0] S x P := by
  refine MD_lift (fun G z Q k => T_istore (lv2 := [(5, vi s0), (0, vr 0), (1, vi l1), (2, vi l2), (3, vi l3), (4, vi l4)]) (dk dt_hasAct 50 rfl) (by decide) rfl k) ?_
  refine MD_lift (fun G z Q k => T_iload_n 4 (dk dt_hasAct 51 rfl) rfl rfl k) ?_
  by_cases c1 : l3 = (0 : Int32)
  · have h := h.1 c1
    refine MD_lift (fun G z Q k => T_if_eq 123 (dk dt_hasAct 52 rfl) (by decide) (fun _ => k) (fun q => absurd c1 q)) ?_
    refine MD_lift (fun G z Q k => T_iconst (v := 0) (dk dt_hasAct 69 rfl) (by decide +kernel) k) ?_
    exact MD_lift (fun G z Q k => T_sub [1, 2, 3, 4, 0] rfl k) h
  · have h := h.2 c1
    refine MD_lift (fun G z Q k => T_if_eq 123 (dk dt_hasAct 52 rfl) (by decide) (fun q => absurd q c1) (fun _ => k)) ?_
    refine MD_lift (fun G z Q k => T_iload_n 4 (dk dt_hasAct 53 rfl) rfl rfl k) ?_
    refine MD_lift (fun G z Q k => T_bipush (v := 12) (dk dt_hasAct 54 rfl) (by decide +kernel) k) ?_
    by_cases c2 : l3 = (12 : Int32)
    · have h := h.1 c2
      refine MD_lift (fun G z Q k => T_icmp_eq 123 (dk dt_hasAct 55 rfl) (by decide) (fun _ => k) (fun q => absurd c2 q)) ?_
      refine MD_lift (fun G z Q k => T_iconst (v := 0) (dk dt_hasAct 69 rfl) (by decide +kernel) k) ?_
      exact MD_lift (fun G z Q k => T_sub [1, 2, 3, 4, 0] rfl k) h
    · have h := h.2 c2
      refine MD_lift (fun G z Q k => T_icmp_eq 123 (dk dt_hasAct 55 rfl) (by decide) (fun q => absurd q c2) (fun _ => k)) ?_
      refine MD_lift (fun G z Q k => T_iload_n 4 (dk dt_hasAct 56 rfl) rfl rfl k) ?_
      refine MD_lift (fun G z Q k => T_bipush (v := 13) (dk dt_hasAct 57 rfl) (by decide +kernel) k) ?_
      by_cases c3 : l3 = (13 : Int32)
      · have h := h.1 c3
        refine MD_lift (fun G z Q k => T_icmp_eq 123 (dk dt_hasAct 58 rfl) (by decide) (fun _ => k) (fun q => absurd c3 q)) ?_
        refine MD_lift (fun G z Q k => T_iconst (v := 0) (dk dt_hasAct 69 rfl) (by decide +kernel) k) ?_
        exact MD_lift (fun G z Q k => T_sub [1, 2, 3, 4, 0] rfl k) h
      · have h := h.2 c3
        refine MD_lift (fun G z Q k => T_icmp_eq 123 (dk dt_hasAct 58 rfl) (by decide) (fun q => absurd q c3) (fun _ => k)) ?_
        refine MD_lift (fun G z Q k => T_iload_n 4 (dk dt_hasAct 59 rfl) rfl rfl k) ?_
        refine MD_lift (fun G z Q k => T_bipush (v := 14) (dk dt_hasAct 60 rfl) (by decide +kernel) k) ?_
        by_cases c4 : l3 = (14 : Int32)
        · have h := h.1 c4
          refine MD_lift (fun G z Q k => T_icmp_eq 123 (dk dt_hasAct 61 rfl) (by decide) (fun _ => k) (fun q => absurd c4 q)) ?_
          refine MD_lift (fun G z Q k => T_iconst (v := 0) (dk dt_hasAct 69 rfl) (by decide +kernel) k) ?_
          exact MD_lift (fun G z Q k => T_sub [1, 2, 3, 4, 0] rfl k) h
        · have h := h.2 c4
          refine MD_lift (fun G z Q k => T_icmp_eq 123 (dk dt_hasAct 61 rfl) (by decide) (fun q => absurd q c4) (fun _ => k)) ?_
          refine MD_lift (fun G z Q k => T_iload_n 4 (dk dt_hasAct 62 rfl) rfl rfl k) ?_
          refine MD_lift (fun G z Q k => T_iconst (v := 1) (dk dt_hasAct 63 rfl) (by decide +kernel) k) ?_
          by_cases c5 : l3 = (1 : Int32)
          · have h := h.2 c5
            refine MD_lift (fun G z Q k => T_icmp_ne 119 (dk dt_hasAct 64 rfl) (by decide) (fun q => absurd c5 q) (fun _ => k)) ?_
            refine MD_lift (fun G z Q k => T_iload 5 (dk dt_hasAct 65 rfl) rfl k) ?_
            by_cases c6 : l4 = (0 : Int32)
            · have h := h.1 c6
              refine MD_lift (fun G z Q k => T_if_eq 123 (dk dt_hasAct 66 rfl) (by decide) (fun _ => k) (fun q => absurd c6 q)) ?_
              refine MD_lift (fun G z Q k => T_iconst (v := 0) (dk dt_hasAct 69 rfl) (by decide +kernel) k) ?_
              exact MD_lift (fun G z Q k => T_sub [1, 2, 3, 4, 0] rfl k) h
            · have h := h.2 c6
              refine MD_lift (fun G z Q k => T_if_eq 123 (dk dt_hasAct 66 rfl) (by decide) (fun q => absurd q c6) (fun _ => k)) ?_
              refine MD_lift (fun G z Q k => T_iconst (v := 1) (dk dt_hasAct 67 rfl) (by decide +kernel) k) ?_
              refine MD_lift (fun G z Q k => T_goto 124 (dk dt_hasAct 68 rfl) (by decide) k) ?_
              exact MD_lift (fun G z Q k => T_sub [1, 2, 3, 4, 0] rfl k) h
          · have h := h.1 c5
            refine MD_lift (fun G z Q k => T_icmp_ne 119 (dk dt_hasAct 64 rfl) (by decide) (fun _ => k) (fun q => absurd q c5)) ?_
            refine MD_lift (fun G z Q k => T_iconst (v := 1) (dk dt_hasAct 67 rfl) (by decide +kernel) k) ?_
            refine MD_lift (fun G z Q k => T_goto 124 (dk dt_hasAct 68 rfl) (by decide) k) ?_
            exact MD_lift (fun G z Q k => T_sub [1, 2, 3, 4, 0] rfl k) h
set_option maxRecDepth 100000 in
set_option maxHeartbeats 4000000 in
theorem sd_hasAct_124 {d : Nat} {S : gS} {x : gd} {P : Option gv → gd → gS → Prop} (l1 : Int32) (l2 : Int32) (l3 : Int32) (l5 : Int32) (s0 : Int32)
    (h : ((s0 = (0 : Int32) → MD (d + 1) z_hasAct 138 [(0, vr 0), (1, vi l1), (2, vi l2), (3, vi l3)] [] S x P) ∧ (¬ (s0 = (0 : Int32)) → ((¬ (l5 = (0 : Int32)) → MD (d + 1) z_hasAct 138 [(0, vr 0), (1, vi l1), (2, vi l2), (3, vi l3)] [] S x P) ∧ (l5 = (0 : Int32) → P (some (vi 0)) x S))))) :
    MD (d + 1) z_hasAct 124 [(0, vr 0), (1, vi l1), (2, vi l2), (3, vi l3), (5, vi l5)] [vi s0] S x P := by
  refine MD_lift (fun G z Q k => T_istore (lv2 := [(6, vi s0), (0, vr 0), (1, vi l1), (2, vi l2), (3, vi l3), (5, vi l5)]) (dk dt_hasAct 70 rfl) (by decide) rfl k) ?_
  refine MD_lift (fun G z Q k => T_iload 0 (dk dt_hasAct 71 rfl) rfl k) ?_
  by_cases c1 : s0 = (0 : Int32)
  · have h := h.1 c1
    refine MD_lift (fun G z Q k => T_if_eq 138 (dk dt_hasAct 72 rfl) (by decide) (fun _ => k) (fun q => absurd c1 q)) ?_
    exact MD_lift (fun G z Q k => T_sub [1, 2, 3, 4] rfl k) h
  · have h := h.2 c1
    refine MD_lift (fun G z Q k => T_if_eq 138 (dk dt_hasAct 72 rfl) (by decide) (fun q => absurd q c1) (fun _ => k)) ?_
    refine MD_lift (fun G z Q k => T_iload 5 (dk dt_hasAct 73 rfl) rfl k) ?_
    by_cases c2 : l5 = (0 : Int32)
    · have h := h.2 c2
      refine MD_lift (fun G z Q k => T_if_ne 138 (dk dt_hasAct 74 rfl) (by decide) (fun q => absurd c2 q) (fun _ => k)) ?_
      refine MD_lift (fun G z Q k => T_iconst (v := 0) (dk dt_hasAct 75 rfl) (by decide +kernel) k) ?_
      exact MD_ret (fun G z Q k => MT_iret (dk dt_hasAct 76 rfl) rfl rfl k) h
    · have h := h.1 c2
      refine MD_lift (fun G z Q k => T_if_ne 138 (dk dt_hasAct 74 rfl) (by decide) (fun _ => k) (fun q => absurd q c2)) ?_
      exact MD_lift (fun G z Q k => T_sub [1, 2, 3, 4] rfl k) h
set_option maxRecDepth 100000 in
set_option maxHeartbeats 4000000 in
theorem sd_hasAct_138 {d : Nat} {S : gS} {x : gd} {P : Option gv → gd → gS → Prop} (l1 : Int32) (l2 : Int32) (l3 : Int32)
    (h : ((l3 = (5 : Int32) → MD (d + 1) z_hasAct 149 [(0, vr 0), (1, vi l1), (2, vi l2)] [] S x P) ∧ (¬ (l3 = (5 : Int32)) → ((¬ (l3 = (15 : Int32)) → ((¬ (l3 = (10 : Int32)) → P (some (vi 1)) x S) ∧ (l3 = (10 : Int32) → vp_in l2 1500 ∧ (((x.1 56 (l2 : Int32).toNatClampNeg) = l1 → P (some (vi 0)) x S) ∧ (¬ ((x.1 56 (l2 : Int32).toNatClampNeg) = l1) → vp_in (x.1 56 (l2 : Int32).toNatClampNeg) 6 ∧ (((x.1 73 (x.1 56 (l2 : Int32).toNatClampNeg : Int32).toNatClampNeg) ≤ (1 : Int32) → P (some (vi 0)) x S) ∧ (¬ ((x.1 73 (x.1 56 (l2 : Int32).toNatClampNeg : Int32).toNatClampNeg) ≤ (1 : Int32)) → vp_in (x.1 56 (l2 : Int32).toNatClampNeg) 6 ∧ ((¬ ((x.1 80 (x.1 56 (l2 : Int32).toNatClampNeg : Int32).toNatClampNeg) = (0 : Int32)) → P (some (vi 0)) x S) ∧ ((x.1 80 (x.1 56 (l2 : Int32).toNatClampNeg : Int32).toNatClampNeg) = (0 : Int32) → P (some (vi 1)) x S))))))))) ∧ (l3 = (15 : Int32) → MD (d + 1) z_hasAct 149 [(0, vr 0), (1, vi l1), (2, vi l2)] [] S x P))))) :
    MD (d + 1) z_hasAct 138 [(0, vr 0), (1, vi l1), (2, vi l2), (3, vi l3)] [] S x P := by
  refine MD_lift (fun G z Q k => T_iload_n 3 (dk dt_hasAct 77 rfl) rfl rfl k) ?_
  refine MD_lift (fun G z Q k => T_iconst (v := 5) (dk dt_hasAct 78 rfl) (by decide +kernel) k) ?_
  by_cases c1 : l3 = (5 : Int32)
  · have h := h.1 c1
    refine MD_lift (fun G z Q k => T_icmp_eq 149 (dk dt_hasAct 79 rfl) (by decide) (fun _ => k) (fun q => absurd c1 q)) ?_
    exact MD_lift (fun G z Q k => T_sub [0, 1, 2] rfl k) h
  · have h := h.2 c1
    refine MD_lift (fun G z Q k => T_icmp_eq 149 (dk dt_hasAct 79 rfl) (by decide) (fun q => absurd q c1) (fun _ => k)) ?_
    refine MD_lift (fun G z Q k => T_iload_n 3 (dk dt_hasAct 80 rfl) rfl rfl k) ?_
    refine MD_lift (fun G z Q k => T_bipush (v := 15) (dk dt_hasAct 81 rfl) (by decide +kernel) k) ?_
    by_cases c2 : l3 = (15 : Int32)
    · have h := h.2 c2
      refine MD_lift (fun G z Q k => T_icmp_ne 185 (dk dt_hasAct 82 rfl) (by decide) (fun q => absurd c2 q) (fun _ => k)) ?_
      exact MD_lift (fun G z Q k => T_sub [0, 1, 2] rfl k) h
    · have h := h.1 c2
      refine MD_lift (fun G z Q k => T_icmp_ne 185 (dk dt_hasAct 82 rfl) (by decide) (fun _ => k) (fun q => absurd q c2)) ?_
      refine MD_lift (fun G z Q k => T_iload_n 3 (dk dt_hasAct 105 rfl) rfl rfl k) ?_
      refine MD_lift (fun G z Q k => T_bipush (v := 10) (dk dt_hasAct 106 rfl) (by decide +kernel) k) ?_
      by_cases c3 : l3 = (10 : Int32)
      · have h := h.2 c3
        refine MD_lift (fun G z Q k => T_icmp_ne 232 (dk dt_hasAct 107 rfl) (by decide) (fun q => absurd c3 q) (fun _ => k)) ?_
        refine MD_lift (fun G z Q k => T_aload_n 0 (dk dt_hasAct 108 rfl) rfl rfl k) ?_
        refine MD_lift (fun G z Q k => T_getR 0 55 56 (dk dt_hasAct 109 rfl) fl_109 mk_0 ml_0 (by decide) rfl rfl k) ?_
        refine MD_lift (fun G z Q k => T_iload_n 2 (dk dt_hasAct 110 rfl) rfl rfl k) ?_
        obtain ⟨h4, h⟩ := h
        refine MD_read (fun z => z.1 56 (l2 : Int32).toNatClampNeg) (fun G z Q k => T_iald 56 1500 (dk dt_hasAct 111 rfl) mk_56 ml_56 h4 k) (fun z e => e 56 _ (Or.inl (core_a (by decide) h4))) ?_
        refine MD_lift (fun G z Q k => T_istore (lv2 := [(7, vi (x.1 56 (l2 : Int32).toNatClampNeg)), (0, vr 0), (1, vi l1), (2, vi l2), (3, vi l3)]) (dk dt_hasAct 112 rfl) (by decide) rfl k) ?_
        refine MD_lift (fun G z Q k => T_iload 0 (dk dt_hasAct 113 rfl) rfl k) ?_
        refine MD_lift (fun G z Q k => T_iload_n 2 (dk dt_hasAct 114 rfl) rfl rfl k) ?_
        by_cases c5 : (x.1 56 (l2 : Int32).toNatClampNeg) = l1
        · have h := h.1 c5
          refine MD_lift (fun G z Q k => T_icmp_eq 230 (dk dt_hasAct 115 rfl) (by decide) (fun _ => k) (fun q => absurd c5 q)) ?_
          refine MD_lift (fun G z Q k => T_iconst (v := 0) (dk dt_hasAct 129 rfl) (by decide +kernel) k) ?_
          exact MD_ret (fun G z Q k => MT_iret (dk dt_hasAct 130 rfl) rfl rfl k) h
        · have h := h.2 c5
          refine MD_lift (fun G z Q k => T_icmp_eq 230 (dk dt_hasAct 115 rfl) (by decide) (fun q => absurd q c5) (fun _ => k)) ?_
          refine MD_lift (fun G z Q k => T_aload_n 1 (dk dt_hasAct 116 rfl) rfl rfl k) ?_
          refine MD_lift (fun G z Q k => T_getR 0 72 73 (dk dt_hasAct 117 rfl) fl_151 mk_0 ml_0 (by decide) rfl rfl k) ?_
          refine MD_lift (fun G z Q k => T_iload 0 (dk dt_hasAct 118 rfl) rfl k) ?_
          obtain ⟨h6, h⟩ := h
          refine MD_read (fun z => z.1 73 (x.1 56 (l2 : Int32).toNatClampNeg : Int32).toNatClampNeg) (fun G z Q k => T_iald 73 6 (dk dt_hasAct 119 rfl) mk_73 ml_73 h6 k) (fun z e => e 73 _ (Or.inl (core_a (by decide) h6))) ?_
          refine MD_lift (fun G z Q k => T_iconst (v := 1) (dk dt_hasAct 120 rfl) (by decide +kernel) k) ?_
          by_cases c7 : (x.1 73 (x.1 56 (l2 : Int32).toNatClampNeg : Int32).toNatClampNeg) ≤ (1 : Int32)
          · have h := h.1 c7
            refine MD_lift (fun G z Q k => T_icmp_le 230 (dk dt_hasAct 121 rfl) (by decide) (fun _ => k) (fun q => absurd c7 q)) ?_
            refine MD_lift (fun G z Q k => T_iconst (v := 0) (dk dt_hasAct 129 rfl) (by decide +kernel) k) ?_
            exact MD_ret (fun G z Q k => MT_iret (dk dt_hasAct 130 rfl) rfl rfl k) h
          · have h := h.2 c7
            refine MD_lift (fun G z Q k => T_icmp_le 230 (dk dt_hasAct 121 rfl) (by decide) (fun q => absurd q c7) (fun _ => k)) ?_
            refine MD_lift (fun G z Q k => T_aload_n 1 (dk dt_hasAct 122 rfl) rfl rfl k) ?_
            refine MD_lift (fun G z Q k => T_getR 0 79 80 (dk dt_hasAct 123 rfl) fl_172 mk_0 ml_0 (by decide) rfl rfl k) ?_
            refine MD_lift (fun G z Q k => T_iload 0 (dk dt_hasAct 124 rfl) rfl k) ?_
            obtain ⟨h8, h⟩ := h
            refine MD_read (fun z => z.1 80 (x.1 56 (l2 : Int32).toNatClampNeg : Int32).toNatClampNeg) (fun G z Q k => T_iald 80 6 (dk dt_hasAct 125 rfl) mk_80 ml_80 h8 k) (fun z e => e 80 _ (Or.inl (core_a (by decide) h8))) ?_
            by_cases c9 : (x.1 80 (x.1 56 (l2 : Int32).toNatClampNeg : Int32).toNatClampNeg) = (0 : Int32)
            · have h := h.2 c9
              refine MD_lift (fun G z Q k => T_if_ne 230 (dk dt_hasAct 126 rfl) (by decide) (fun q => absurd c9 q) (fun _ => k)) ?_
              refine MD_lift (fun G z Q k => T_iconst (v := 1) (dk dt_hasAct 127 rfl) (by decide +kernel) k) ?_
              refine MD_lift (fun G z Q k => T_goto 231 (dk dt_hasAct 128 rfl) (by decide) k) ?_
              exact MD_ret (fun G z Q k => MT_iret (dk dt_hasAct 130 rfl) rfl rfl k) h
            · have h := h.1 c9
              refine MD_lift (fun G z Q k => T_if_ne 230 (dk dt_hasAct 126 rfl) (by decide) (fun _ => k) (fun q => absurd q c9)) ?_
              refine MD_lift (fun G z Q k => T_iconst (v := 0) (dk dt_hasAct 129 rfl) (by decide +kernel) k) ?_
              exact MD_ret (fun G z Q k => MT_iret (dk dt_hasAct 130 rfl) rfl rfl k) h
      · have h := h.1 c3
        refine MD_lift (fun G z Q k => T_icmp_ne 232 (dk dt_hasAct 107 rfl) (by decide) (fun _ => k) (fun q => absurd q c3)) ?_
        refine MD_lift (fun G z Q k => T_iconst (v := 1) (dk dt_hasAct 131 rfl) (by decide +kernel) k) ?_
        exact MD_ret (fun G z Q k => MT_iret (dk dt_hasAct 132 rfl) rfl rfl k) h
set_option maxRecDepth 100000 in
set_option maxHeartbeats 4000000 in
theorem sd_hasAct_149 {d : Nat} {S : gS} {x : gd} {P : Option gv → gd → gS → Prop} (l1 : Int32) (l2 : Int32)
    (h : vp_in l2 1500 ∧ vp_in (x.1 56 (l2 : Int32).toNatClampNeg) 6 ∧ (((x.1 71 (x.1 56 (l2 : Int32).toNatClampNeg : Int32).toNatClampNeg) = (-1 : Int32) → P (some (vi 1)) x S) ∧ (¬ ((x.1 71 (x.1 56 (l2 : Int32).toNatClampNeg : Int32).toNatClampNeg) = (-1 : Int32)) → vp_in l2 1500 ∧ vp_in (x.1 56 (l2 : Int32).toNatClampNeg) 6 ∧ ((¬ ((x.1 71 (x.1 56 (l2 : Int32).toNatClampNeg : Int32).toNatClampNeg) = l1) → P (some (vi 0)) x S) ∧ ((x.1 71 (x.1 56 (l2 : Int32).toNatClampNeg : Int32).toNatClampNeg) = l1 → P (some (vi 1)) x S))))) :
    MD (d + 1) z_hasAct 149 [(0, vr 0), (1, vi l1), (2, vi l2)] [] S x P := by
  refine MD_lift (fun G z Q k => T_aload_n 0 (dk dt_hasAct 83 rfl) rfl rfl k) ?_
  refine MD_lift (fun G z Q k => T_getR 0 70 71 (dk dt_hasAct 84 rfl) fl_145 mk_0 ml_0 (by decide) rfl rfl k) ?_
  refine MD_lift (fun G z Q k => T_aload_n 0 (dk dt_hasAct 85 rfl) rfl rfl k) ?_
  refine MD_lift (fun G z Q k => T_getR 0 55 56 (dk dt_hasAct 86 rfl) fl_109 mk_0 ml_0 (by decide) rfl rfl k) ?_
  refine MD_lift (fun G z Q k => T_iload_n 2 (dk dt_hasAct 87 rfl) rfl rfl k) ?_
  obtain ⟨h1, h⟩ := h
  refine MD_read (fun z => z.1 56 (l2 : Int32).toNatClampNeg) (fun G z Q k => T_iald 56 1500 (dk dt_hasAct 88 rfl) mk_56 ml_56 h1 k) (fun z e => e 56 _ (Or.inl (core_a (by decide) h1))) ?_
  obtain ⟨h2, h⟩ := h
  refine MD_read (fun z => z.1 71 (x.1 56 (l2 : Int32).toNatClampNeg : Int32).toNatClampNeg) (fun G z Q k => T_iald 71 6 (dk dt_hasAct 89 rfl) mk_71 ml_71 h2 k) (fun z e => e 71 _ (Or.inl (core_a (by decide) h2))) ?_
  refine MD_lift (fun G z Q k => T_iconst (v := (-1)) (dk dt_hasAct 90 rfl) (by decide +kernel) k) ?_
  by_cases c3 : (x.1 71 (x.1 56 (l2 : Int32).toNatClampNeg : Int32).toNatClampNeg) = (-1 : Int32)
  · have h := h.1 c3
    refine MD_lift (fun G z Q k => T_icmp_eq 179 (dk dt_hasAct 91 rfl) (by decide) (fun _ => k) (fun q => absurd c3 q)) ?_
    refine MD_lift (fun G z Q k => T_iconst (v := 1) (dk dt_hasAct 101 rfl) (by decide +kernel) k) ?_
    refine MD_lift (fun G z Q k => T_goto 184 (dk dt_hasAct 102 rfl) (by decide) k) ?_
    exact MD_ret (fun G z Q k => MT_iret (dk dt_hasAct 104 rfl) rfl rfl k) h
  · have h := h.2 c3
    refine MD_lift (fun G z Q k => T_icmp_eq 179 (dk dt_hasAct 91 rfl) (by decide) (fun q => absurd q c3) (fun _ => k)) ?_
    refine MD_lift (fun G z Q k => T_aload_n 0 (dk dt_hasAct 92 rfl) rfl rfl k) ?_
    refine MD_lift (fun G z Q k => T_getR 0 70 71 (dk dt_hasAct 93 rfl) fl_145 mk_0 ml_0 (by decide) rfl rfl k) ?_
    refine MD_lift (fun G z Q k => T_aload_n 0 (dk dt_hasAct 94 rfl) rfl rfl k) ?_
    refine MD_lift (fun G z Q k => T_getR 0 55 56 (dk dt_hasAct 95 rfl) fl_109 mk_0 ml_0 (by decide) rfl rfl k) ?_
    refine MD_lift (fun G z Q k => T_iload_n 2 (dk dt_hasAct 96 rfl) rfl rfl k) ?_
    obtain ⟨h4, h⟩ := h
    refine MD_read (fun z => z.1 56 (l2 : Int32).toNatClampNeg) (fun G z Q k => T_iald 56 1500 (dk dt_hasAct 97 rfl) mk_56 ml_56 h4 k) (fun z e => e 56 _ (Or.inl (core_a (by decide) h4))) ?_
    obtain ⟨h5, h⟩ := h
    refine MD_read (fun z => z.1 71 (x.1 56 (l2 : Int32).toNatClampNeg : Int32).toNatClampNeg) (fun G z Q k => T_iald 71 6 (dk dt_hasAct 98 rfl) mk_71 ml_71 h5 k) (fun z e => e 71 _ (Or.inl (core_a (by decide) h5))) ?_
    refine MD_lift (fun G z Q k => T_iload_n 1 (dk dt_hasAct 99 rfl) rfl rfl k) ?_
    by_cases c6 : (x.1 71 (x.1 56 (l2 : Int32).toNatClampNeg : Int32).toNatClampNeg) = l1
    · have h := h.2 c6
      refine MD_lift (fun G z Q k => T_icmp_ne 183 (dk dt_hasAct 100 rfl) (by decide) (fun q => absurd c6 q) (fun _ => k)) ?_
      refine MD_lift (fun G z Q k => T_iconst (v := 1) (dk dt_hasAct 101 rfl) (by decide +kernel) k) ?_
      refine MD_lift (fun G z Q k => T_goto 184 (dk dt_hasAct 102 rfl) (by decide) k) ?_
      exact MD_ret (fun G z Q k => MT_iret (dk dt_hasAct 104 rfl) rfl rfl k) h
    · have h := h.1 c6
      refine MD_lift (fun G z Q k => T_icmp_ne 183 (dk dt_hasAct 100 rfl) (by decide) (fun _ => k) (fun q => absurd q c6)) ?_
      refine MD_lift (fun G z Q k => T_iconst (v := 0) (dk dt_hasAct 103 rfl) (by decide +kernel) k) ?_
      exact MD_ret (fun G z Q k => MT_iret (dk dt_hasAct 104 rfl) rfl rfl k) h
set_option maxRecDepth 100000 in
set_option maxHeartbeats 4000000 in
theorem sd_choose_0 {d : Nat} {S : gS} {x : gd} {P : Option gv → gd → gS → Prop} (l1 : Int32) (l2 : Int32) (l3 : Int32)
    (h : S 0 84 ∧ vp_in (x.1 0 84) 200 ∧ (∀ x3 : gd, x3 = si x 86 (x.1 0 84 : Int32).toNatClampNeg l1 → (sadd S 86 ((x.1 0 84 : Int32).toNatClampNeg)) 0 84 ∧ vp_in (x3.1 0 84) 200 ∧ (∀ x6 : gd, x6 = si x3 87 (x3.1 0 84 : Int32).toNatClampNeg l2 → (sadd (sadd S 86 ((x.1 0 84 : Int32).toNatClampNeg)) 87 ((x3.1 0 84 : Int32).toNatClampNeg)) 0 84 ∧ vp_in (x6.1 0 84) 200 ∧ (∀ x9 : gd, x9 = si x6 88 (x6.1 0 84 : Int32).toNatClampNeg l3 → (sadd (sadd (sadd S 86 ((x.1 0 84 : Int32).toNatClampNeg)) 87 ((x3.1 0 84 : Int32).toNatClampNeg)) 88 ((x6.1 0 84 : Int32).toNatClampNeg)) 0 84 ∧ (∀ x11 : gd, x11 = si x9 0 84 ((x9.1 0 84) + 1) → P none x11 (sadd (sadd (sadd (sadd S 86 ((x.1 0 84 : Int32).toNatClampNeg)) 87 ((x3.1 0 84 : Int32).toNatClampNeg)) 88 ((x6.1 0 84 : Int32).toNatClampNeg)) 0 84)))))) :
    MD d z_choose 0 [(0, vr 0), (1, vi l1), (2, vi l2), (3, vi l3)] [] S x P := by
  refine MD_lift (fun G z Q k => T_aload_n 0 (dk dt_choose 0 rfl) rfl rfl k) ?_
  refine MD_lift (fun G z Q k => T_getR 0 85 86 (dk dt_choose 1 rfl) fl_184 mk_0 ml_0 (by decide) rfl rfl k) ?_
  refine MD_lift (fun G z Q k => T_aload_n 0 (dk dt_choose 2 rfl) rfl rfl k) ?_
  obtain ⟨h1, h⟩ := h
  refine MD_read (fun z => z.1 0 84) (fun G z Q k => T_getI 0 84 (dk dt_choose 3 rfl) fl_611 mk_0 ml_0 (by decide) rfl k) (fun z e => e 0 84 (Or.inr h1)) ?_
  refine MD_lift (fun G z Q k => T_iload_n 1 (dk dt_choose 4 rfl) rfl rfl k) ?_
  obtain ⟨h2, h⟩ := h
  obtain ⟨x3, ex3⟩ : ∃ z, z = si x 86 (x.1 0 84 : Int32).toNatClampNeg l1 := ⟨_, rfl⟩
  have h := h x3 ex3
  refine MD_wr 86 ((x.1 0 84 : Int32).toNatClampNeg) l1 (fun G z Q k => T_iast 86 200 (dk dt_choose 5 rfl) mk_86 ml_86 h2 k) (hm_a (by decide) _ _) ?_
  rw [← ex3]
  refine MD_lift (fun G z Q k => T_aload_n 0 (dk dt_choose 6 rfl) rfl rfl k) ?_
  refine MD_lift (fun G z Q k => T_getR 0 86 87 (dk dt_choose 7 rfl) fl_187 mk_0 ml_0 (by decide) rfl rfl k) ?_
  refine MD_lift (fun G z Q k => T_aload_n 0 (dk dt_choose 8 rfl) rfl rfl k) ?_
  obtain ⟨h4, h⟩ := h
  refine MD_read (fun z => z.1 0 84) (fun G z Q k => T_getI 0 84 (dk dt_choose 9 rfl) fl_611 mk_0 ml_0 (by decide) rfl k) (fun z e => e 0 84 (Or.inr h4)) ?_
  refine MD_lift (fun G z Q k => T_iload_n 2 (dk dt_choose 10 rfl) rfl rfl k) ?_
  obtain ⟨h5, h⟩ := h
  obtain ⟨x6, ex6⟩ : ∃ z, z = si x3 87 (x3.1 0 84 : Int32).toNatClampNeg l2 := ⟨_, rfl⟩
  have h := h x6 ex6
  refine MD_wr 87 ((x3.1 0 84 : Int32).toNatClampNeg) l2 (fun G z Q k => T_iast 87 200 (dk dt_choose 11 rfl) mk_87 ml_87 h5 k) (hm_a (by decide) _ _) ?_
  rw [← ex6]
  refine MD_lift (fun G z Q k => T_aload_n 0 (dk dt_choose 12 rfl) rfl rfl k) ?_
  refine MD_lift (fun G z Q k => T_getR 0 87 88 (dk dt_choose 13 rfl) fl_190 mk_0 ml_0 (by decide) rfl rfl k) ?_
  refine MD_lift (fun G z Q k => T_aload_n 0 (dk dt_choose 14 rfl) rfl rfl k) ?_
  obtain ⟨h7, h⟩ := h
  refine MD_read (fun z => z.1 0 84) (fun G z Q k => T_getI 0 84 (dk dt_choose 15 rfl) fl_611 mk_0 ml_0 (by decide) rfl k) (fun z e => e 0 84 (Or.inr h7)) ?_
  refine MD_lift (fun G z Q k => T_iload_n 3 (dk dt_choose 16 rfl) rfl rfl k) ?_
  obtain ⟨h8, h⟩ := h
  obtain ⟨x9, ex9⟩ : ∃ z, z = si x6 88 (x6.1 0 84 : Int32).toNatClampNeg l3 := ⟨_, rfl⟩
  have h := h x9 ex9
  refine MD_wr 88 ((x6.1 0 84 : Int32).toNatClampNeg) l3 (fun G z Q k => T_iast 88 200 (dk dt_choose 17 rfl) mk_88 ml_88 h8 k) (hm_a (by decide) _ _) ?_
  rw [← ex9]
  refine MD_lift (fun G z Q k => T_aload_n 0 (dk dt_choose 18 rfl) rfl rfl k) ?_
  refine MD_lift (fun G z Q k => T_dup (dk dt_choose 19 rfl) rfl k) ?_
  obtain ⟨h10, h⟩ := h
  refine MD_read (fun z => z.1 0 84) (fun G z Q k => T_getI 0 84 (dk dt_choose 20 rfl) fl_611 mk_0 ml_0 (by decide) rfl k) (fun z e => e 0 84 (Or.inr h10)) ?_
  refine MD_lift (fun G z Q k => T_iconst (v := 1) (dk dt_choose 21 rfl) (by decide +kernel) k) ?_
  refine MD_lift (fun G z Q k => T_iadd (dk dt_choose 22 rfl) k) ?_
  obtain ⟨x11, ex11⟩ : ∃ z, z = si x9 0 84 ((x9.1 0 84) + 1) := ⟨_, rfl⟩
  have h := h x11 ex11
  refine MD_wr 0 84 ((x9.1 0 84) + 1) (fun G z Q k => T_putI 0 84 (dk dt_choose 23 rfl) fl_611 mk_0 ml_0 (by decide) rfl ⟨rfl, rfl⟩ k) (hm_f (by decide) _) ?_
  rw [← ex11]
  exact MD_ret (fun G z Q k => MT_vret (dk dt_choose 24 rfl) rfl k) h
