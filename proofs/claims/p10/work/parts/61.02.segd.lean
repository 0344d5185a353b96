set_option maxRecDepth 100000 in
set_option maxHeartbeats 4000000 in
theorem sd_own_0 {d : Nat} {S : gS} {x : gd} {P : Option gv → gd → gS → Prop} (l1 : Int32)
    (h : MD (d + 1) z_own 2 [(0, vr 0), (1, vi l1), (2, vi 0)] [] S x P) :
    MD (d + 1) z_own 0 [(0, vr 0), (1, vi l1)] [] S x P := by
  refine MD_lift (fun G z Q k => T_iconst (v := 0) (dk dt_own 0 rfl) (by decide +kernel) k) ?_
  refine MD_lift (fun G z Q k => T_istore_n (lv2 := [(2, vi 0), (0, vr 0), (1, vi l1)]) (dk dt_own 1 rfl) rfl (by decide) rfl k) ?_
  exact MD_lift (fun G z Q k => T_sub [1, 2, 0] rfl k) h
set_option maxRecDepth 100000 in
set_option maxHeartbeats 4000000 in
theorem sd_own_2 {d : Nat} {S : gS} {x : gd} {P : Option gv → gd → gS → Prop} (l1 : Int32) (l2 : Int32)
    (h : vp_in l1 6 ∧ ((¬ ((x.1 73 (l1 : Int32).toNatClampNeg) = (1 : Int32)) → MD (d + 1) z_own 264 [(0, vr 0), (1, vi l1)] [] S x P) ∧ ((x.1 73 (l1 : Int32).toNatClampNeg) = (1 : Int32) → vp_in l1 6 ∧ vp_in (x.1 74 (l1 : Int32).toNatClampNeg) 1500 ∧ (((x.1 54 (x.1 74 (l1 : Int32).toNatClampNeg : Int32).toNatClampNeg) = (6 : Int32) → MD (d + 1) z_own 264 [(0, vr 0), (1, vi l1)] [] S x P) ∧ (¬ ((x.1 54 (x.1 74 (l1 : Int32).toNatClampNeg : Int32).toNatClampNeg) = (6 : Int32)) → vp_in l1 6 ∧ vp_in (x.1 74 (l1 : Int32).toNatClampNeg) 1500 ∧ ((¬ ((x.1 54 (x.1 74 (l1 : Int32).toNatClampNeg : Int32).toNatClampNeg) = (3 : Int32)) → ((¬ ((x.1 54 (x.1 74 (l1 : Int32).toNatClampNeg : Int32).toNatClampNeg) = (5 : Int32)) → (((l2 + 1) ≤ (300 : Int32) → vp_in (x.1 74 (l1 : Int32).toNatClampNeg) 1500 ∧ ((¬ ((x.1 59 (x.1 74 (l1 : Int32).toNatClampNeg : Int32).toNatClampNeg) = (-1 : Int32)) → vp_in (x.1 74 (l1 : Int32).toNatClampNeg) 1500 ∧ MD d z_worked 0 [(0, vr 0), (1, vi (x.1 59 (x.1 74 (l1 : Int32).toNatClampNeg : Int32).toNatClampNeg)), (2, vi l1)] [] S x (Di (fun r20 x19 S19 => MD (d + 1) z_own 125 [(0, vr 0), (1, vi l1), (2, vi (l2 + 1)), (3, vi (x.1 74 (l1 : Int32).toNatClampNeg)), (4, vi (x.1 54 (x.1 74 (l1 : Int32).toNatClampNeg : Int32).toNatClampNeg))] [vi r20] S19 x19 P))) ∧ ((x.1 59 (x.1 74 (l1 : Int32).toNatClampNeg : Int32).toNatClampNeg) = (-1 : Int32) → MD (d + 1) z_own 125 [(0, vr 0), (1, vi l1), (2, vi (l2 + 1)), (3, vi (x.1 74 (l1 : Int32).toNatClampNeg)), (4, vi (x.1 54 (x.1 74 (l1 : Int32).toNatClampNeg : Int32).toNatClampNeg))] [vi 0] S x P))) ∧ (¬ ((l2 + 1) ≤ (300 : Int32)) → MD d z_failThread 0 [(0, vr 0), (1, vi l1), (2, vi 6)] [] S x (Dv (fun x21 S21 => MD (d + 1) z_own 2 [(0, vr 0), (1, vi l1), (2, vi (l2 + 1))] [] S21 x21 P))))) ∧ ((x.1 54 (x.1 74 (l1 : Int32).toNatClampNeg : Int32).toNatClampNeg) = (5 : Int32) → vp_in l1 6 ∧ (∀ x14 : gd, x14 = si x 73 (l1 : Int32).toNatClampNeg 2 → MD (d + 1) z_own 2 [(0, vr 0), (1, vi l1), (2, vi l2)] [] S x14 P)))) ∧ ((x.1 54 (x.1 74 (l1 : Int32).toNatClampNeg : Int32).toNatClampNeg) = (3 : Int32) → vp_in (x.1 74 (l1 : Int32).toNatClampNeg) 1500 ∧ vp_in l1 6 ∧ (∀ x11 : gd, x11 = si x 74 (l1 : Int32).toNatClampNeg (x.1 61 (x.1 74 (l1 : Int32).toNatClampNeg : Int32).toNatClampNeg) → MD (d + 1) z_own 2 [(0, vr 0), (1, vi l1), (2, vi l2)] [] S x11 P)))))))) :
    MD (d + 1) z_own 2 [(0, vr 0), (1, vi l1), (2, vi l2)] [] S x P := by
  refine MD_lift (fun G z Q k => T_aload_n 0 (dk dt_own 2 rfl) rfl rfl k) ?_
  refine MD_lift (fun G z Q k => T_getR 0 72 73 (dk dt_own 3 rfl) fl_151 mk_0 ml_0 (by decide) rfl rfl k) ?_
  refine MD_lift (fun G z Q k => T_iload_n 1 (dk dt_own 4 rfl) rfl rfl k) ?_
  obtain ⟨h1, h⟩ := h
  refine MD_read (fun z => z.1 73 (l1 : Int32).toNatClampNeg) (fun G z Q k => T_iald 73 6 (dk dt_own 5 rfl) mk_73 ml_73 h1 k) (fun z e => e 73 _ (Or.inl (core_a (by decide) h1))) ?_
  refine MD_lift (fun G z Q k => T_iconst (v := 1) (dk dt_own 6 rfl) (by decide +kernel) k) ?_
  by_cases c2 : (x.1 73 (l1 : Int32).toNatClampNeg) = (1 : Int32)
  · have h := h.2 c2
    refine MD_lift (fun G z Q k => T_icmp_ne 264 (dk dt_own 7 rfl) (by decide) (fun q => absurd c2 q) (fun _ => k)) ?_
    refine MD_lift (fun G z Q k => T_aload_n 0 (dk dt_own 8 rfl) rfl rfl k) ?_
    refine MD_lift (fun G z Q k => T_getR 0 53 54 (dk dt_own 9 rfl) fl_103 mk_0 ml_0 (by decide) rfl rfl k) ?_
    refine MD_lift (fun G z Q k => T_aload_n 0 (dk dt_own 10 rfl) rfl rfl k) ?_
    refine MD_lift (fun G z Q k => T_getR 0 73 74 (dk dt_own 11 rfl) fl_154 mk_0 ml_0 (by decide) rfl rfl k) ?_
    refine MD_lift (fun G z Q k => T_iload_n 1 (dk dt_own 12 rfl) rfl rfl k) ?_
    obtain ⟨h3, h⟩ := h
    refine MD_read (fun z => z.1 74 (l1 : Int32).toNatClampNeg) (fun G z Q k => T_iald 74 6 (dk dt_own 13 rfl) mk_74 ml_74 h3 k) (fun z e => e 74 _ (Or.inl (core_a (by decide) h3))) ?_
    obtain ⟨h4, h⟩ := h
    refine MD_read (fun z => z.1 54 (x.1 74 (l1 : Int32).toNatClampNeg : Int32).toNatClampNeg) (fun G z Q k => T_iald 54 1500 (dk dt_own 14 rfl) mk_54 ml_54 h4 k) (fun z e => e 54 _ (Or.inl (core_a (by decide) h4))) ?_
    refine MD_lift (fun G z Q k => T_bipush (v := 6) (dk dt_own 15 rfl) (by decide +kernel) k) ?_
    by_cases c5 : (x.1 54 (x.1 74 (l1 : Int32).toNatClampNeg : Int32).toNatClampNeg) = (6 : Int32)
    · have h := h.1 c5
      refine MD_lift (fun G z Q k => T_icmp_eq 264 (dk dt_own 16 rfl) (by decide) (fun _ => k) (fun q => absurd c5 q)) ?_
      exact MD_lift (fun G z Q k => T_sub [0, 1] rfl k) h
    · have h := h.2 c5
      refine MD_lift (fun G z Q k => T_icmp_eq 264 (dk dt_own 16 rfl) (by decide) (fun q => absurd q c5) (fun _ => k)) ?_
      refine MD_lift (fun G z Q k => T_aload_n 0 (dk dt_own 17 rfl) rfl rfl k) ?_
      refine MD_lift (fun G z Q k => T_getR 0 73 74 (dk dt_own 18 rfl) fl_154 mk_0 ml_0 (by decide) rfl rfl k) ?_
      refine MD_lift (fun G z Q k => T_iload_n 1 (dk dt_own 19 rfl) rfl rfl k) ?_
      obtain ⟨h6, h⟩ := h
      refine MD_read (fun z => z.1 74 (l1 : Int32).toNatClampNeg) (fun G z Q k => T_iald 74 6 (dk dt_own 20 rfl) mk_74 ml_74 h6 k) (fun z e => e 74 _ (Or.inl (core_a (by decide) h6))) ?_
      refine MD_lift (fun G z Q k => T_istore_n (lv2 := [(3, vi (x.1 74 (l1 : Int32).toNatClampNeg)), (0, vr 0), (1, vi l1), (2, vi l2)]) (dk dt_own 21 rfl) rfl (by decide) rfl k) ?_
      refine MD_lift (fun G z Q k => T_aload_n 1 (dk dt_own 22 rfl) rfl rfl k) ?_
      refine MD_lift (fun G z Q k => T_getR 0 53 54 (dk dt_own 23 rfl) fl_103 mk_0 ml_0 (by decide) rfl rfl k) ?_
      refine MD_lift (fun G z Q k => T_iload_n 0 (dk dt_own 24 rfl) rfl rfl k) ?_
      obtain ⟨h7, h⟩ := h
      refine MD_read (fun z => z.1 54 (x.1 74 (l1 : Int32).toNatClampNeg : Int32).toNatClampNeg) (fun G z Q k => T_iald 54 1500 (dk dt_own 25 rfl) mk_54 ml_54 h7 k) (fun z e => e 54 _ (Or.inl (core_a (by decide) h7))) ?_
      refine MD_lift (fun G z Q k => T_istore (lv2 := [(4, vi (x.1 54 (x.1 74 (l1 : Int32).toNatClampNeg : Int32).toNatClampNeg)), (3, vi (x.1 74 (l1 : Int32).toNatClampNeg)), (0, vr 0), (1, vi l1), (2, vi l2)]) (dk dt_own 26 rfl) (by decide) rfl k) ?_
      refine MD_lift (fun G z Q k => T_iload 0 (dk dt_own 27 rfl) rfl k) ?_
      refine MD_lift (fun G z Q k => T_iconst (v := 3) (dk dt_own 28 rfl) (by decide +kernel) k) ?_
      by_cases c8 : (x.1 54 (x.1 74 (l1 : Int32).toNatClampNeg : Int32).toNatClampNeg) = (3 : Int32)
      · have h := h.2 c8
        refine MD_lift (fun G z Q k => T_icmp_ne 64 (dk dt_own 29 rfl) (by decide) (fun q => absurd c8 q) (fun _ => k)) ?_
        refine MD_lift (fun G z Q k => T_aload_n 2 (dk dt_own 30 rfl) rfl rfl k) ?_
        refine MD_lift (fun G z Q k => T_getR 0 73 74 (dk dt_own 31 rfl) fl_154 mk_0 ml_0 (by decide) rfl rfl k) ?_
        refine MD_lift (fun G z Q k => T_iload_n 3 (dk dt_own 32 rfl) rfl rfl k) ?_
        refine MD_lift (fun G z Q k => T_aload_n 2 (dk dt_own 33 rfl) rfl rfl k) ?_
        refine MD_lift (fun G z Q k => T_getR 0 60 61 (dk dt_own 34 rfl) fl_124 mk_0 ml_0 (by decide) rfl rfl k) ?_
        refine MD_lift (fun G z Q k => T_iload_n 1 (dk dt_own 35 rfl) rfl rfl k) ?_
        obtain ⟨h9, h⟩ := h
        refine MD_read (fun z => z.1 61 (x.1 74 (l1 : Int32).toNatClampNeg : Int32).toNatClampNeg) (fun G z Q k => T_iald 61 1500 (dk dt_own 36 rfl) mk_61 ml_61 h9 k) (fun z e => e 61 _ (Or.inl (core_a (by decide) h9))) ?_
        obtain ⟨h10, h⟩ := h
        obtain ⟨x11, ex11⟩ : ∃ z, z = si x 74 (l1 : Int32).toNatClampNeg (x.1 61 (x.1 74 (l1 : Int32).toNatClampNeg : Int32).toNatClampNeg) := ⟨_, rfl⟩
        have h := h x11 ex11
        refine MD_wk 74 ((l1 : Int32).toNatClampNeg) (x.1 61 (x.1 74 (l1 : Int32).toNatClampNeg : Int32).toNatClampNeg) (fun G z Q k => T_iast 74 6 (dk dt_own 37 rfl) mk_74 ml_74 h10 k) (hm_a (by decide) _ _) ?_
        rw [← ex11]
        refine MD_lift (fun G z Q k => T_goto 2 (dk dt_own 38 rfl) (by decide) k) ?_
        exact MD_lift (fun G z Q k => T_sub [2, 3, 4] rfl k) h
      · have h := h.1 c8
        refine MD_lift (fun G z Q k => T_icmp_ne 64 (dk dt_own 29 rfl) (by decide) (fun _ => k) (fun q => absurd q c8)) ?_
        refine MD_lift (fun G z Q k => T_iload 0 (dk dt_own 39 rfl) rfl k) ?_
        refine MD_lift (fun G z Q k => T_iconst (v := 5) (dk dt_own 40 rfl) (by decide +kernel) k) ?_
        by_cases c12 : (x.1 54 (x.1 74 (l1 : Int32).toNatClampNeg : Int32).toNatClampNeg) = (5 : Int32)
        · have h := h.2 c12
          refine MD_lift (fun G z Q k => T_icmp_ne 80 (dk dt_own 41 rfl) (by decide) (fun q => absurd c12 q) (fun _ => k)) ?_
          refine MD_lift (fun G z Q k => T_aload_n 2 (dk dt_own 42 rfl) rfl rfl k) ?_
          refine MD_lift (fun G z Q k => T_getR 0 72 73 (dk dt_own 43 rfl) fl_151 mk_0 ml_0 (by decide) rfl rfl k) ?_
          refine MD_lift (fun G z Q k => T_iload_n 3 (dk dt_own 44 rfl) rfl rfl k) ?_
          refine MD_lift (fun G z Q k => T_iconst (v := 2) (dk dt_own 45 rfl) (by decide +kernel) k) ?_
          obtain ⟨h13, h⟩ := h
          obtain ⟨x14, ex14⟩ : ∃ z, z = si x 73 (l1 : Int32).toNatClampNeg 2 := ⟨_, rfl⟩
          have h := h x14 ex14
          refine MD_wk 73 ((l1 : Int32).toNatClampNeg) 2 (fun G z Q k => T_iast 73 6 (dk dt_own 46 rfl) mk_73 ml_73 h13 k) (hm_a (by decide) _ _) ?_
          rw [← ex14]
          refine MD_lift (fun G z Q k => T_goto 2 (dk dt_own 47 rfl) (by decide) k) ?_
          exact MD_lift (fun G z Q k => T_sub [2, 3, 4] rfl k) h
        · have h := h.1 c12
          refine MD_lift (fun G z Q k => T_icmp_ne 80 (dk dt_own 41 rfl) (by decide) (fun _ => k) (fun q => absurd q c12)) ?_
          refine MD_lift (fun G z Q k => T_iinc (v := l2 + 1) (lv2 := [(2, vi (l2 + 1)), (4, vi (x.1 54 (x.1 74 (l1 : Int32).toNatClampNeg : Int32).toNatClampNeg)), (3, vi (x.1 74 (l1 : Int32).toNatClampNeg)), (0, vr 0), (1, vi l1)]) 4 (dk dt_own 48 rfl) rfl rfl (by decide) rfl k) ?_
          refine MD_lift (fun G z Q k => T_iload_n 0 (dk dt_own 49 rfl) rfl rfl k) ?_
          refine MD_lift (fun G z Q k => T_sipush (v := 300) (dk dt_own 50 rfl) (by decide +kernel) k) ?_
          by_cases c15 : (l2 + 1) ≤ (300 : Int32)
          · have h := h.1 c15
            refine MD_lift (fun G z Q k => T_icmp_le 100 (dk dt_own 51 rfl) (by decide) (fun _ => k) (fun q => absurd c15 q)) ?_
            refine MD_lift (fun G z Q k => T_aload_n 3 (dk dt_own 57 rfl) rfl rfl k) ?_
            refine MD_lift (fun G z Q k => T_getR 0 58 59 (dk dt_own 58 rfl) fl_118 mk_0 ml_0 (by decide) rfl rfl k) ?_
            refine MD_lift (fun G z Q k => T_iload_n 2 (dk dt_own 59 rfl) rfl rfl k) ?_
            obtain ⟨h16, h⟩ := h
            refine MD_read (fun z => z.1 59 (x.1 74 (l1 : Int32).toNatClampNeg : Int32).toNatClampNeg) (fun G z Q k => T_iald 59 1500 (dk dt_own 60 rfl) mk_59 ml_59 h16 k) (fun z e => e 59 _ (Or.inl (core_a (by decide) h16))) ?_
            refine MD_lift (fun G z Q k => T_iconst (v := (-1)) (dk dt_own 61 rfl) (by decide +kernel) k) ?_
            by_cases c17 : (x.1 59 (x.1 74 (l1 : Int32).toNatClampNeg : Int32).toNatClampNeg) = (-1 : Int32)
            · have h := h.2 c17
              refine MD_lift (fun G z Q k => T_icmp_ne 114 (dk dt_own 62 rfl) (by decide) (fun q => absurd c17 q) (fun _ => k)) ?_
              refine MD_lift (fun G z Q k => T_iconst (v := 0) (dk dt_own 63 rfl) (by decide +kernel) k) ?_
              refine MD_lift (fun G z Q k => T_goto 125 (dk dt_own 64 rfl) (by decide) k) ?_
              exact MD_lift (fun G z Q k => T_sub [3, 4, 0, 2, 1] rfl k) h
            · have h := h.1 c17
              refine MD_lift (fun G z Q k => T_icmp_ne 114 (dk dt_own 62 rfl) (by decide) (fun _ => k) (fun q => absurd q c17)) ?_
              refine MD_lift (fun G z Q k => T_aload_n 3 (dk dt_own 65 rfl) rfl rfl k) ?_
              refine MD_lift (fun G z Q k => T_aload_n 3 (dk dt_own 66 rfl) rfl rfl k) ?_
              refine MD_lift (fun G z Q k => T_getR 0 58 59 (dk dt_own 67 rfl) fl_118 mk_0 ml_0 (by decide) rfl rfl k) ?_
              refine MD_lift (fun G z Q k => T_iload_n 2 (dk dt_own 68 rfl) rfl rfl k) ?_
              obtain ⟨h18, h⟩ := h
              refine MD_read (fun z => z.1 59 (x.1 74 (l1 : Int32).toNatClampNeg : Int32).toNatClampNeg) (fun G z Q k => T_iald 59 1500 (dk dt_own 69 rfl) mk_59 ml_59 h18 k) (fun z e => e 59 _ (Or.inl (core_a (by decide) h18))) ?_
              refine MD_lift (fun G z Q k => T_iload_n 4 (dk dt_own 70 rfl) rfl rfl k) ?_
              refine MD_calli (fun G z F Q k kk => MT_callVi [vi (x.1 59 (x.1 74 (l1 : Int32).toNatClampNeg : Int32).toNatClampNeg), vi l1] [] rfl (dk dt_own 71 rfl) cv_593 rfl rfl (Nat.le_of_ble_eq_true rfl) (Nat.le_of_ble_eq_true rfl) rfl rfl k kk) h (fun r20 x19 S19 h => ?_)
              exact MD_lift (fun G z Q k => T_sub [3, 4, 0, 2, 1] rfl k) h
          · have h := h.2 c15
            refine MD_lift (fun G z Q k => T_icmp_le 100 (dk dt_own 51 rfl) (by decide) (fun q => absurd q c15) (fun _ => k)) ?_
            refine MD_lift (fun G z Q k => T_aload_n 3 (dk dt_own 52 rfl) rfl rfl k) ?_
            refine MD_lift (fun G z Q k => T_iload_n 4 (dk dt_own 53 rfl) rfl rfl k) ?_
            refine MD_lift (fun G z Q k => T_bipush (v := 6) (dk dt_own 54 rfl) (by decide +kernel) k) ?_
            refine MD_callv (fun G z F Q k kk => MT_callVv [vi l1, vi 6] [] rfl (dk dt_own 55 rfl) cv_590 rfl rfl (Nat.le_of_ble_eq_true rfl) (Nat.le_of_ble_eq_true rfl) rfl rfl k kk) h (fun x21 S21 h => ?_)
            refine MD_lift (fun G z Q k => T_goto 2 (dk dt_own 56 rfl) (by decide) k) ?_
            exact MD_lift (fun G z Q k => T_sub [3, 4, 0] rfl k) h
  · have h := h.1 c2
    refine MD_lift (fun G z Q k => T_icmp_ne 264 (dk dt_own 7 rfl) (by decide) (fun _ => k) (fun q => absurd q c2)) ?_
    exact MD_lift (fun G z Q k => T_sub [0, 1] rfl k) h
set_option maxRecDepth 100000 in
set_option maxHeartbeats 4000000 in
theorem sd_own_125 {d : Nat} {S : gS} {x : gd} {P : Option gv → gd → gS → Prop} (l1 : Int32) (l2 : Int32) (l3 : Int32) (l4 : Int32) (s0 : Int32)
    (h : vp_in l3 1500 ∧ (((x.1 59 (l3 : Int32).toNatClampNeg) = (-1 : Int32) → MD (d + 1) z_own 153 [(0, vr 0), (1, vi l1), (2, vi l2), (3, vi l3), (4, vi l4), (5, vi s0)] [] S x P) ∧ (¬ ((x.1 59 (l3 : Int32).toNatClampNeg) = (-1 : Int32)) → S 0 82 ∧ (((x.1 0 82) ≤ (0 : Int32) → MD (d + 1) z_own 153 [(0, vr 0), (1, vi l1), (2, vi l2), (3, vi l3), (4, vi l4), (5, vi s0)] [] S x P) ∧ (¬ ((x.1 0 82) ≤ (0 : Int32)) → MD d z_failThread 0 [(0, vr 0), (1, vi l1), (2, vi 1)] [] S x (Dv (fun x5 S5 => MD (d + 1) z_own 2 [(0, vr 0), (1, vi l1), (2, vi l2)] [] S5 x5 P))))))) :
    MD (d + 1) z_own 125 [(0, vr 0), (1, vi l1), (2, vi l2), (3, vi l3), (4, vi l4)] [vi s0] S x P := by
  refine MD_lift (fun G z Q k => T_istore (lv2 := [(5, vi s0), (0, vr 0), (1, vi l1), (2, vi l2), (3, vi l3), (4, vi l4)]) (dk dt_own 72 rfl) (by decide) rfl k) ?_
  refine MD_lift (fun G z Q k => T_aload_n 1 (dk dt_own 73 rfl) rfl rfl k) ?_
  refine MD_lift (fun G z Q k => T_getR 0 58 59 (dk dt_own 74 rfl) fl_118 mk_0 ml_0 (by decide) rfl rfl k) ?_
  refine MD_lift (fun G z Q k => T_iload_n 4 (dk dt_own 75 rfl) rfl rfl k) ?_
  obtain ⟨h1, h⟩ := h
  refine MD_read (fun z => z.1 59 (l3 : Int32).toNatClampNeg) (fun G z Q k => T_iald 59 1500 (dk dt_own 76 rfl) mk_59 ml_59 h1 k) (fun z e => e 59 _ (Or.inl (core_a (by decide) h1))) ?_
  refine MD_lift (fun G z Q k => T_iconst (v := (-1)) (dk dt_own 77 rfl) (by decide +kernel) k) ?_
  by_cases c2 : (x.1 59 (l3 : Int32).toNatClampNeg) = (-1 : Int32)
  · have h := h.1 c2
    refine MD_lift (fun G z Q k => T_icmp_eq 153 (dk dt_own 78 rfl) (by decide) (fun _ => k) (fun q => absurd c2 q)) ?_
    exact MD_lift (fun G z Q k => T_sub [1, 2, 3, 4, 5, 0] rfl k) h
  · have h := h.2 c2
    refine MD_lift (fun G z Q k => T_icmp_eq 153 (dk dt_own 78 rfl) (by decide) (fun q => absurd q c2) (fun _ => k)) ?_
    refine MD_lift (fun G z Q k => T_aload_n 1 (dk dt_own 79 rfl) rfl rfl k) ?_
    obtain ⟨h3, h⟩ := h
    refine MD_read (fun z => z.1 0 82) (fun G z Q k => T_getI 0 82 (dk dt_own 80 rfl) fl_581 mk_0 ml_0 (by decide) rfl k) (fun z e => e 0 82 (Or.inr h3)) ?_
    by_cases c4 : (x.1 0 82) ≤ (0 : Int32)
    · have h := h.1 c4
      refine MD_lift (fun G z Q k => T_if_le 153 (dk dt_own 81 rfl) (by decide) (fun _ => k) (fun q => absurd c4 q)) ?_
      exact MD_lift (fun G z Q k => T_sub [1, 2, 3, 4, 5, 0] rfl k) h
    · have h := h.2 c4
      refine MD_lift (fun G z Q k => T_if_le 153 (dk dt_own 81 rfl) (by decide) (fun q => absurd q c4) (fun _ => k)) ?_
      refine MD_lift (fun G z Q k => T_aload_n 1 (dk dt_own 82 rfl) rfl rfl k) ?_
      refine MD_lift (fun G z Q k => T_iload_n 2 (dk dt_own 83 rfl) rfl rfl k) ?_
      refine MD_lift (fun G z Q k => T_iconst (v := 1) (dk dt_own 84 rfl) (by decide +kernel) k) ?_
      refine MD_callv (fun G z F Q k kk => MT_callVv [vi l1, vi 1] [] rfl (dk dt_own 85 rfl) cv_590 rfl rfl (Nat.le_of_ble_eq_true rfl) (Nat.le_of_ble_eq_true rfl) rfl rfl k kk) h (fun x5 S5 h => ?_)
      refine MD_lift (fun G z Q k => T_goto 2 (dk dt_own 86 rfl) (by decide) k) ?_
      exact MD_lift (fun G z Q k => T_sub [1, 2, 3] rfl k) h
set_option maxRecDepth 100000 in
set_option maxHeartbeats 4000000 in
theorem sd_own_153 {d : Nat} {S : gS} {x : gd} {P : Option gv → gd → gS → Prop} (l1 : Int32) (l2 : Int32) (l3 : Int32) (l4 : Int32) (l5 : Int32)
    (h : ((¬ (l4 = (0 : Int32)) → ((¬ (l4 = (2 : Int32)) → ((¬ (l4 = (1 : Int32)) → vp_in l1 6 ∧ (∀ x22 : gd, x22 = si x 73 (l1 : Int32).toNatClampNeg 2 → MD (d + 1) z_own 2 [(0, vr 0), (1, vi l1), (2, vi l2)] [] S x22 P)) ∧ (l4 = (1 : Int32) → ((¬ (l5 = (0 : Int32)) → vp_in l1 6 ∧ vp_in l1 6 ∧ (∀ x20 : gd, x20 = si x 74 (l1 : Int32).toNatClampNeg ((x.1 74 (l1 : Int32).toNatClampNeg) + 1) → MD (d + 1) z_own 2 [(0, vr 0), (1, vi l1), (2, vi l2)] [] S x20 P)) ∧ (l5 = (0 : Int32) → MD d z_failThread 0 [(0, vr 0), (1, vi l1), (2, vi 5)] [] S x (Dv (fun x17 S17 => MD (d + 1) z_own 2 [(0, vr 0), (1, vi l1), (2, vi l2)] [] S17 x17 P))))))) ∧ (l4 = (2 : Int32) → ((l5 = (0 : Int32) → vp_in l3 1500 ∧ vp_in l1 6 ∧ (∀ x12 : gd, x12 = si x 74 (l1 : Int32).toNatClampNeg (x.1 61 (l3 : Int32).toNatClampNeg) → MD (d + 1) z_own 2 [(0, vr 0), (1, vi l1), (2, vi l2)] [] S x12 P)) ∧ (¬ (l5 = (0 : Int32)) → vp_in l1 6 ∧ (∀ x14 : gd, x14 = si x 74 (l1 : Int32).toNatClampNeg (l3 + 1) → MD (d + 1) z_own 2 [(0, vr 0), (1, vi l1), (2, vi l2)] [] S x14 P)))))) ∧ (l4 = (0 : Int32) → vp_in l3 1500 ∧ vp_in ((8 * l1) + (x.1 61 (l3 : Int32).toNatClampNeg)) 48 ∧ (∀ x4 : gd, x4 = si x 76 ((8 * l1) + (x.1 61 (l3 : Int32).toNatClampNeg) : Int32).toNatClampNeg l5 → vp_in l1 6 ∧ vp_in l1 6 ∧ (∀ x7 : gd, x7 = si x4 74 (l1 : Int32).toNatClampNeg ((x4.1 74 (l1 : Int32).toNatClampNeg) + 1) → MD (d + 1) z_own 2 [(0, vr 0), (1, vi l1), (2, vi l2)] [] S x7 P))))) :
    MD (d + 1) z_own 153 [(0, vr 0), (1, vi l1), (2, vi l2), (3, vi l3), (4, vi l4), (5, vi l5)] [] S x P := by
  refine MD_lift (fun G z Q k => T_iload 4 (dk dt_own 87 rfl) rfl k) ?_
  by_cases c1 : l4 = (0 : Int32)
  · have h := h.2 c1
    refine MD_lift (fun G z Q k => T_if_ne 189 (dk dt_own 88 rfl) (by decide) (fun q => absurd c1 q) (fun _ => k)) ?_
    refine MD_lift (fun G z Q k => T_aload_n 0 (dk dt_own 89 rfl) rfl rfl k) ?_
    refine MD_lift (fun G z Q k => T_getR 0 75 76 (dk dt_own 90 rfl) fl_160 mk_0 ml_0 (by decide) rfl rfl k) ?_
    refine MD_lift (fun G z Q k => T_bipush (v := 8) (dk dt_own 91 rfl) (by decide +kernel) k) ?_
    refine MD_lift (fun G z Q k => T_iload_n 1 (dk dt_own 92 rfl) rfl rfl k) ?_
    refine MD_lift (fun G z Q k => T_imul (dk dt_own 93 rfl) k) ?_
    refine MD_lift (fun G z Q k => T_aload_n 0 (dk dt_own 94 rfl) rfl rfl k) ?_
    refine MD_lift (fun G z Q k => T_getR 0 60 61 (dk dt_own 95 rfl) fl_124 mk_0 ml_0 (by decide) rfl rfl k) ?_
    refine MD_lift (fun G z Q k => T_iload_n 3 (dk dt_own 96 rfl) rfl rfl k) ?_
    obtain ⟨h2, h⟩ := h
    refine MD_read (fun z => z.1 61 (l3 : Int32).toNatClampNeg) (fun G z Q k => T_iald 61 1500 (dk dt_own 97 rfl) mk_61 ml_61 h2 k) (fun z e => e 61 _ (Or.inl (core_a (by decide) h2))) ?_
    refine MD_lift (fun G z Q k => T_iadd (dk dt_own 98 rfl) k) ?_
    refine MD_lift (fun G z Q k => T_iload 5 (dk dt_own 99 rfl) rfl k) ?_
    obtain ⟨h3, h⟩ := h
    obtain ⟨x4, ex4⟩ : ∃ z, z = si x 76 ((8 * l1) + (x.1 61 (l3 : Int32).toNatClampNeg) : Int32).toNatClampNeg l5 := ⟨_, rfl⟩
    have h := h x4 ex4
    refine MD_wk 76 (((8 * l1) + (x.1 61 (l3 : Int32).toNatClampNeg) : Int32).toNatClampNeg) l5 (fun G z Q k => T_iast 76 48 (dk dt_own 100 rfl) mk_76 ml_76 h3 k) (hm_a (by decide) _ _) ?_
    rw [← ex4]
    refine MD_lift (fun G z Q k => T_aload_n 0 (dk dt_own 101 rfl) rfl rfl k) ?_
    refine MD_lift (fun G z Q k => T_getR 0 73 74 (dk dt_own 102 rfl) fl_154 mk_0 ml_0 (by decide) rfl rfl k) ?_
    refine MD_lift (fun G z Q k => T_iload_n 1 (dk dt_own 103 rfl) rfl rfl k) ?_
    refine MD_lift (fun G z Q k => T_dup2 (dk dt_own 104 rfl) rfl rfl k) ?_
    obtain ⟨h5, h⟩ := h
    refine MD_read (fun z => z.1 74 (l1 : Int32).toNatClampNeg) (fun G z Q k => T_iald 74 6 (dk dt_own 105 rfl) mk_74 ml_74 h5 k) (fun z e => e 74 _ (Or.inl (core_a (by decide) h5))) ?_
    refine MD_lift (fun G z Q k => T_iconst (v := 1) (dk dt_own 106 rfl) (by decide +kernel) k) ?_
    refine MD_lift (fun G z Q k => T_iadd (dk dt_own 107 rfl) k) ?_
    obtain ⟨h6, h⟩ := h
    obtain ⟨x7, ex7⟩ : ∃ z, z = si x4 74 (l1 : Int32).toNatClampNeg ((x4.1 74 (l1 : Int32).toNatClampNeg) + 1) := ⟨_, rfl⟩
    have h := h x7 ex7
    refine MD_wk 74 ((l1 : Int32).toNatClampNeg) ((x4.1 74 (l1 : Int32).toNatClampNeg) + 1) (fun G z Q k => T_iast 74 6 (dk dt_own 108 rfl) mk_74 ml_74 h6 k) (hm_a (by decide) _ _) ?_
    rw [← ex7]
    refine MD_lift (fun G z Q k => T_goto 261 (dk dt_own 109 rfl) (by decide) k) ?_
    refine MD_lift (fun G z Q k => T_goto 2 (dk dt_own 152 rfl) (by decide) k) ?_
    exact MD_lift (fun G z Q k => T_sub [0, 1, 2] rfl k) h
  · have h := h.1 c1
    refine MD_lift (fun G z Q k => T_if_ne 189 (dk dt_own 88 rfl) (by decide) (fun _ => k) (fun q => absurd q c1)) ?_
    refine MD_lift (fun G z Q k => T_iload 4 (dk dt_own 110 rfl) rfl k) ?_
    refine MD_lift (fun G z Q k => T_iconst (v := 2) (dk dt_own 111 rfl) (by decide +kernel) k) ?_
    by_cases c8 : l4 = (2 : Int32)
    · have h := h.2 c8
      refine MD_lift (fun G z Q k => T_icmp_ne 221 (dk dt_own 112 rfl) (by decide) (fun q => absurd c8 q) (fun _ => k)) ?_
      refine MD_lift (fun G z Q k => T_aload_n 0 (dk dt_own 113 rfl) rfl rfl k) ?_
      refine MD_lift (fun G z Q k => T_getR 0 73 74 (dk dt_own 114 rfl) fl_154 mk_0 ml_0 (by decide) rfl rfl k) ?_
      refine MD_lift (fun G z Q k => T_iload_n 1 (dk dt_own 115 rfl) rfl rfl k) ?_
      refine MD_lift (fun G z Q k => T_iload 5 (dk dt_own 116 rfl) rfl k) ?_
      by_cases c9 : l5 = (0 : Int32)
      · have h := h.1 c9
        refine MD_lift (fun G z Q k => T_if_eq 211 (dk dt_own 117 rfl) (by decide) (fun _ => k) (fun q => absurd c9 q)) ?_
        refine MD_lift (fun G z Q k => T_aload_n 0 (dk dt_own 122 rfl) rfl rfl k) ?_
        refine MD_lift (fun G z Q k => T_getR 0 60 61 (dk dt_own 123 rfl) fl_124 mk_0 ml_0 (by decide) rfl rfl k) ?_
        refine MD_lift (fun G z Q k => T_iload_n 3 (dk dt_own 124 rfl) rfl rfl k) ?_
        obtain ⟨h10, h⟩ := h
        refine MD_read (fun z => z.1 61 (l3 : Int32).toNatClampNeg) (fun G z Q k => T_iald 61 1500 (dk dt_own 125 rfl) mk_61 ml_61 h10 k) (fun z e => e 61 _ (Or.inl (core_a (by decide) h10))) ?_
        obtain ⟨h11, h⟩ := h
        obtain ⟨x12, ex12⟩ : ∃ z, z = si x 74 (l1 : Int32).toNatClampNeg (x.1 61 (l3 : Int32).toNatClampNeg) := ⟨_, rfl⟩
        have h := h x12 ex12
        refine MD_wk 74 ((l1 : Int32).toNatClampNeg) (x.1 61 (l3 : Int32).toNatClampNeg) (fun G z Q k => T_iast 74 6 (dk dt_own 126 rfl) mk_74 ml_74 h11 k) (hm_a (by decide) _ _) ?_
        rw [← ex12]
        refine MD_lift (fun G z Q k => T_goto 261 (dk dt_own 127 rfl) (by decide) k) ?_
        refine MD_lift (fun G z Q k => T_goto 2 (dk dt_own 152 rfl) (by decide) k) ?_
        exact MD_lift (fun G z Q k => T_sub [0, 1, 2] rfl k) h
      · have h := h.2 c9
        refine MD_lift (fun G z Q k => T_if_eq 211 (dk dt_own 117 rfl) (by decide) (fun q => absurd q c9) (fun _ => k)) ?_
        refine MD_lift (fun G z Q k => T_iload_n 3 (dk dt_own 118 rfl) rfl rfl k) ?_
        refine MD_lift (fun G z Q k => T_iconst (v := 1) (dk dt_own 119 rfl) (by decide +kernel) k) ?_
        refine MD_lift (fun G z Q k => T_iadd (dk dt_own 120 rfl) k) ?_
        refine MD_lift (fun G z Q k => T_goto 217 (dk dt_own 121 rfl) (by decide) k) ?_
        obtain ⟨h13, h⟩ := h
        obtain ⟨x14, ex14⟩ : ∃ z, z = si x 74 (l1 : Int32).toNatClampNeg (l3 + 1) := ⟨_, rfl⟩
        have h := h x14 ex14
        refine MD_wk 74 ((l1 : Int32).toNatClampNeg) (l3 + 1) (fun G z Q k => T_iast 74 6 (dk dt_own 126 rfl) mk_74 ml_74 h13 k) (hm_a (by decide) _ _) ?_
        rw [← ex14]
        refine MD_lift (fun G z Q k => T_goto 261 (dk dt_own 127 rfl) (by decide) k) ?_
        refine MD_lift (fun G z Q k => T_goto 2 (dk dt_own 152 rfl) (by decide) k) ?_
        exact MD_lift (fun G z Q k => T_sub [0, 1, 2] rfl k) h
    · have h := h.1 c8
      refine MD_lift (fun G z Q k => T_icmp_ne 221 (dk dt_own 112 rfl) (by decide) (fun _ => k) (fun q => absurd q c8)) ?_
      refine MD_lift (fun G z Q k => T_iload 4 (dk dt_own 128 rfl) rfl k) ?_
      refine MD_lift (fun G z Q k => T_iconst (v := 1) (dk dt_own 129 rfl) (by decide +kernel) k) ?_
      by_cases c15 : l4 = (1 : Int32)
      · have h := h.2 c15
        refine MD_lift (fun G z Q k => T_icmp_ne 254 (dk dt_own 130 rfl) (by decide) (fun q => absurd c15 q) (fun _ => k)) ?_
        refine MD_lift (fun G z Q k => T_iload 5 (dk dt_own 131 rfl) rfl k) ?_
        by_cases c16 : l5 = (0 : Int32)
        · have h := h.2 c16
          refine MD_lift (fun G z Q k => T_if_ne 241 (dk dt_own 132 rfl) (by decide) (fun q => absurd c16 q) (fun _ => k)) ?_
          refine MD_lift (fun G z Q k => T_aload_n 0 (dk dt_own 133 rfl) rfl rfl k) ?_
          refine MD_lift (fun G z Q k => T_iload_n 1 (dk dt_own 134 rfl) rfl rfl k) ?_
          refine MD_lift (fun G z Q k => T_iconst (v := 5) (dk dt_own 135 rfl) (by decide +kernel) k) ?_
          refine MD_callv (fun G z F Q k kk => MT_callVv [vi l1, vi 5] [] rfl (dk dt_own 136 rfl) cv_590 rfl rfl (Nat.le_of_ble_eq_true rfl) (Nat.le_of_ble_eq_true rfl) rfl rfl k kk) h (fun x17 S17 h => ?_)
          refine MD_lift (fun G z Q k => T_goto 261 (dk dt_own 137 rfl) (by decide) k) ?_
          refine MD_lift (fun G z Q k => T_goto 2 (dk dt_own 152 rfl) (by decide) k) ?_
          exact MD_lift (fun G z Q k => T_sub [0, 1, 2] rfl k) h
        · have h := h.1 c16
          refine MD_lift (fun G z Q k => T_if_ne 241 (dk dt_own 132 rfl) (by decide) (fun _ => k) (fun q => absurd q c16)) ?_
          refine MD_lift (fun G z Q k => T_aload_n 0 (dk dt_own 138 rfl) rfl rfl k) ?_
          refine MD_lift (fun G z Q k => T_getR 0 73 74 (dk dt_own 139 rfl) fl_154 mk_0 ml_0 (by decide) rfl rfl k) ?_
          refine MD_lift (fun G z Q k => T_iload_n 1 (dk dt_own 140 rfl) rfl rfl k) ?_
          refine MD_lift (fun G z Q k => T_dup2 (dk dt_own 141 rfl) rfl rfl k) ?_
          obtain ⟨h18, h⟩ := h
          refine MD_read (fun z => z.1 74 (l1 : Int32).toNatClampNeg) (fun G z Q k => T_iald 74 6 (dk dt_own 142 rfl) mk_74 ml_74 h18 k) (fun z e => e 74 _ (Or.inl (core_a (by decide) h18))) ?_
          refine MD_lift (fun G z Q k => T_iconst (v := 1) (dk dt_own 143 rfl) (by decide +kernel) k) ?_
          refine MD_lift (fun G z Q k => T_iadd (dk dt_own 144 rfl) k) ?_
          obtain ⟨h19, h⟩ := h
          obtain ⟨x20, ex20⟩ : ∃ z, z = si x 74 (l1 : Int32).toNatClampNeg ((x.1 74 (l1 : Int32).toNatClampNeg) + 1) := ⟨_, rfl⟩
          have h := h x20 ex20
          refine MD_wk 74 ((l1 : Int32).toNatClampNeg) ((x.1 74 (l1 : Int32).toNatClampNeg) + 1) (fun G z Q k => T_iast 74 6 (dk dt_own 145 rfl) mk_74 ml_74 h19 k) (hm_a (by decide) _ _) ?_
          rw [← ex20]
          refine MD_lift (fun G z Q k => T_goto 261 (dk dt_own 146 rfl) (by decide) k) ?_
          refine MD_lift (fun G z Q k => T_goto 2 (dk dt_own 152 rfl) (by decide) k) ?_
          exact MD_lift (fun G z Q k => T_sub [0, 1, 2] rfl k) h
      · have h := h.1 c15
        refine MD_lift (fun G z Q k => T_icmp_ne 254 (dk dt_own 130 rfl) (by decide) (fun _ => k) (fun q => absurd q c15)) ?_
        refine MD_lift (fun G z Q k => T_aload_n 0 (dk dt_own 147 rfl) rfl rfl k) ?_
        refine MD_lift (fun G z Q k => T_getR 0 72 73 (dk dt_own 148 rfl) fl_151 mk_0 ml_0 (by decide) rfl rfl k) ?_
        refine MD_lift (fun G z Q k => T_iload_n 1 (dk dt_own 149 rfl) rfl rfl k) ?_
        refine MD_lift (fun G z Q k => T_iconst (v := 2) (dk dt_own 150 rfl) (by decide +kernel) k) ?_
        obtain ⟨h21, h⟩ := h
        obtain ⟨x22, ex22⟩ : ∃ z, z = si x 73 (l1 : Int32).toNatClampNeg 2 := ⟨_, rfl⟩
        have h := h x22 ex22
        refine MD_wk 73 ((l1 : Int32).toNatClampNeg) 2 (fun G z Q k => T_iast 73 6 (dk dt_own 151 rfl) mk_73 ml_73 h21 k) (hm_a (by decide) _ _) ?_
        rw [← ex22]
        refine MD_lift (fun G z Q k => T_goto 2 (dk dt_own 152 rfl) (by decide) k) ?_
        exact MD_lift (fun G z Q k => T_sub [0, 1, 2] rfl k) h
set_option maxRecDepth 100000 in
set_option maxHeartbeats 4000000 in
theorem sd_own_264 {d : Nat} {S : gS} {x : gd} {P : Option gv → gd → gS → Prop} (l1 : Int32)
    (h : MD d z_clean 0 [(0, vr 0), (1, vi l1)] [] S x (Dv (fun x1 S1 => P none x1 S1))) :
    MD (d + 1) z_own 264 [(0, vr 0), (1, vi l1)] [] S x P := by
  refine MD_lift (fun G z Q k => T_aload_n 0 (dk dt_own 153 rfl) rfl rfl k) ?_
  refine MD_lift (fun G z Q k => T_iload_n 1 (dk dt_own 154 rfl) rfl rfl k) ?_
  refine MD_callv (fun G z F Q k kk => MT_callVv [vi l1] [] rfl (dk dt_own 155 rfl) cv_596 rfl rfl (Nat.le_of_ble_eq_true rfl) (Nat.le_of_ble_eq_true rfl) rfl rfl k kk) h (fun x1 S1 h => ?_)
  exact MD_ret (fun G z Q k => MT_vret (dk dt_own 156 rfl) rfl k) h
set_option maxRecDepth 100000 in
set_option maxHeartbeats 4000000 in
theorem sd_sortOf_0 {d : Nat} {S : gS} {x : gd} {P : Option gv → gd → gS → Prop} (l1 : Int32)
    (h : vp_in l1 6 ∧ ((¬ ((x.1 77 (l1 : Int32).toNatClampNeg) = (2 : Int32)) → vp_in l1 6 ∧ vp_in (x.1 74 (l1 : Int32).toNatClampNeg) 1500 ∧ P (some (vi (x.1 55 (x.1 74 (l1 : Int32).toNatClampNeg : Int32).toNatClampNeg))) x S) ∧ ((x.1 77 (l1 : Int32).toNatClampNeg) = (2 : Int32) → P (some (vi 15)) x S))) :
    MD d z_sortOf 0 [(0, vr 0), (1, vi l1)] [] S x P := by
  refine MD_lift (fun G z Q k => T_aload_n 0 (dk dt_sortOf 0 rfl) rfl rfl k) ?_
  refine MD_lift (fun G z Q k => T_getR 0 76 77 (dk dt_sortOf 1 rfl) fl_163 mk_0 ml_0 (by decide) rfl rfl k) ?_
  refine MD_lift (fun G z Q k => T_iload_n 1 (dk dt_sortOf 2 rfl) rfl rfl k) ?_
  obtain ⟨h1, h⟩ := h
  refine MD_read (fun z => z.1 77 (l1 : Int32).toNatClampNeg) (fun G z Q k => T_iald 77 6 (dk dt_sortOf 3 rfl) mk_77 ml_77 h1 k) (fun z e => e 77 _ (Or.inl (core_a (by decide) h1))) ?_
  refine MD_lift (fun G z Q k => T_iconst (v := 2) (dk dt_sortOf 4 rfl) (by decide +kernel) k) ?_
  by_cases c2 : (x.1 77 (l1 : Int32).toNatClampNeg) = (2 : Int32)
  · have h := h.2 c2
    refine MD_lift (fun G z Q k => T_icmp_ne 15 (dk dt_sortOf 5 rfl) (by decide) (fun q => absurd c2 q) (fun _ => k)) ?_
    refine MD_lift (fun G z Q k => T_bipush (v := 15) (dk dt_sortOf 6 rfl) (by decide +kernel) k) ?_
    refine MD_lift (fun G z Q k => T_goto 26 (dk dt_sortOf 7 rfl) (by decide) k) ?_
    exact MD_ret (fun G z Q k => MT_iret (dk dt_sortOf 15 rfl) rfl rfl k) h
  · have h := h.1 c2
    refine MD_lift (fun G z Q k => T_icmp_ne 15 (dk dt_sortOf 5 rfl) (by decide) (fun _ => k) (fun q => absurd q c2)) ?_
    refine MD_lift (fun G z Q k => T_aload_n 0 (dk dt_sortOf 8 rfl) rfl rfl k) ?_
    refine MD_lift (fun G z Q k => T_getR 0 54 55 (dk dt_sortOf 9 rfl) fl_106 mk_0 ml_0 (by decide) rfl rfl k) ?_
    refine MD_lift (fun G z Q k => T_aload_n 0 (dk dt_sortOf 10 rfl) rfl rfl k) ?_
    refine MD_lift (fun G z Q k => T_getR 0 73 74 (dk dt_sortOf 11 rfl) fl_154 mk_0 ml_0 (by decide) rfl rfl k) ?_
    refine MD_lift (fun G z Q k => T_iload_n 1 (dk dt_sortOf 12 rfl) rfl rfl k) ?_
    obtain ⟨h3, h⟩ := h
    refine MD_read (fun z => z.1 74 (l1 : Int32).toNatClampNeg) (fun G z Q k => T_iald 74 6 (dk dt_sortOf 13 rfl) mk_74 ml_74 h3 k) (fun z e => e 74 _ (Or.inl (core_a (by decide) h3))) ?_
    obtain ⟨h4, h⟩ := h
    refine MD_read (fun z => z.1 55 (x.1 74 (l1 : Int32).toNatClampNeg : Int32).toNatClampNeg) (fun G z Q k => T_iald 55 1500 (dk dt_sortOf 14 rfl) mk_55 ml_55 h4 k) (fun z e => e 55 _ (Or.inl (core_a (by decide) h4))) ?_
    exact MD_ret (fun G z Q k => MT_iret (dk dt_sortOf 15 rfl) rfl rfl k) h
