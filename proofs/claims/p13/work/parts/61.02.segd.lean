section
set_option maxRecDepth 100000 in
set_option maxHeartbeats 4000000 in
theorem sd_own_0 {d : Nat} {S : gS} {x : gd} {P : Option gv → gd → gS → Prop} (l1 : Int32)
    (h : MD (d + 1) z_own 2 [(0, vr 0), (1, vi l1), (2, vi 0)] [] S x P) :
    MD (d + 1) z_own 0 [(0, vr 0), (1, vi l1)] [] S x P := by
  refine MD_lift (fun G z Q k => T_iconst (v := 0) (dk dt_own 0 rfl) (by decide +kernel) k) ?_
  refine MD_lift (fun G z Q k => T_istore_n (lv2 := [(2, vi 0), (0, vr 0), (1, vi l1)]) (dk dt_own 1 rfl) rfl (by decide) rfl k) ?_
  exact MD_lift (fun G z Q k => T_sub [1, 2, 0] rfl k) h
set_option maxRecDepth 100000 in
set_option maxHeartbeats 4000000 in
theorem sd_own_2 {d : Nat} {S : gS} {x : gd} {P : Option gv → gd → gS → Prop} (l1 : Int32) (l2 : Int32)
    (h : vp_in l1 6 ∧ ((¬ ((x.1 73 (l1 : Int32).toNatClampNeg) = (1 : Int32)) → MD (d + 1) z_own 264 [(0, vr 0), (1, vi l1)] [] S x P) ∧ ((x.1 73 (l1 : Int32).toNatClampNeg) = (1 : Int32) → vp_in l1 6 ∧ vp_in (x.1 74 (l1 : Int32).toNatClampNeg) 1500 ∧ (((x.1 54 (x.1 74 (l1 : Int32).toNatClampNeg : Int32).toNatClampNeg) = (6 : Int32) → MD (d + 1) z_own 264 [(0, vr 0), (1, vi l1)] [] S x P) ∧ (¬ ((x.1 54 (x.1 74 (l1 : Int32).toNatClampNeg : Int32).toNatClampNeg) = (6 : Int32)) → vp_in l1 6 ∧ vp_in (x.1 74 (l1 : Int32).toNatClampNeg) 1500 ∧ ((¬ ((x.1 54 (x.1 74 (l1 : Int32).toNatClampNeg : Int32).toNatClampNeg) = (3 : Int32)) → ((¬ ((x.1 54 (x.1 74 (l1 : Int32).toNatClampNeg : Int32).toNatClampNeg) = (5 : Int32)) → (((l2 + 1) ≤ (300 : Int32) → vp_in (x.1 74 (l1 : Int32).toNatClampNeg) 1500 ∧ ((¬ ((x.1 59 (x.1 74 (l1 : Int32).toNatClampNeg : Int32).toNatClampNeg) = (-1 : Int32)) → vp_in (x.1 74 (l1 : Int32).toNatClampNeg) 1500 ∧ MD d z_worked 0 [(0, vr 0), (1, vi (x.1 59 (x.1 74 (l1 : Int32).toNatClampNeg : Int32).toNatClampNeg)), (2, vi l1)] [] S x (Di (fun r20 x19 S19 => MD (d + 1) z_own 125 [(0, vr 0), (1, vi l1), (2, vi (l2 + 1)), (3, vi (x.1 74 (l1 : Int32).toNatClampNeg)), (4, vi (x.1 54 (x.1 74 (l1 : Int32).toNatClampNeg : Int32).toNatClampNeg))] [vi r20] S19 x19 P))) ∧ ((x.1 59 (x.1 74 (l1 : Int32).toNatClampNeg : Int32).toNatClampNeg) = (-1 : Int32) → MD (d + 1) z_own 125 [(0, vr 0), (1, vi l1), (2, vi (l2 + 1)), (3, vi (x.1 74 (l1 : Int32).toNatClampNeg)), (4, vi (x.1 54 (x.1 74 (l1 : Int32).toNatClampNeg : Int32).toNatClampNeg))] [vi 0] S x P))) ∧ (¬ ((l2 + 1) ≤ (300 : Int32)) → MD d z_failThread 0 [(0, vr 0), (1, vi l1), (2, vi 6)] [] S x (Dv (fun x21 S21 => MD (d + 1) z_own 2 [(0, vr 0), (1, vi l1), (2, vi (l2 + 1))] [] S21 x21 P))))) ∧ ((x.1 54 (x.1 74 (l1 : Int32).toNatClampNeg : Int32).toNatClampNeg) = (5 : Int32) → vp_in l1 6 ∧ (∀ x14 : gd, x14 = si x 73 (l1 : Int32).toNatClampNeg 2 → MD (d + 1) z_own 2 [(0, vr 0), (1, vi l1), (2, vi l2)] [] S x14 P)))) ∧ ((x.1 54 (x.1 74 (l1 : Int32).toNatClampNeg : Int32).toNatClampNeg) = (3 : Int32) → vp_in (x.1 74 (l1 : Int32).toNatClampNeg) 1500 ∧ vp_in l1 6 ∧ (∀ x11 : gd, x11 = si x 74 (l1 : Int32).toNatClampNeg (x.1 61 (x.1 74 (l1 : Int32).toNatClampNeg : Int32).toNatClampNeg) → MD (d + 1) z_own 2 [(0, vr 0), (1, vi l1), (2, vi l2)] [] S x11 P)))))))) :
    MD (d + 1) z_own 2 [(0, vr 0), (1, vi l1), (2, vi l2)] [] S x P := by
  refine MD_lift (fun G z Q k => T_aload_n 0 (dk dt_own 2 rfl) rfl rfl k) ?_
  refine MD_lift (fun G z Q k => T_getR 0 72 73 (dk dt_own 3 rfl) fl_151 mk_0 ml_0 (by decide) rfl rfl k) ?_
  refine MD_lift (fun G z Q k => T_iload_n 1 (dk dt_own 4 rfl) rfl rfl k) ?_
  obtain ⟨h1, h⟩ := h
  refine MD_read (fun z => z.1 73 (l1 : Int32).toNatClampNeg) (fun G z Q k => T_iald 73 6 (dk dt_own 5 rfl) mk_73 ml_73 h1 k) (fun z e => e 73 _ (Or.inl (core_a (by decide) h1))) ?_
  refine MD_lift (fun G z Q k => T_iconst (v := 1) (dk dt_own 6 rfl) (by decide +kernel) k) ?_
  by_cases c2 : (x.1 73 (l1 : Int32).toNatClampNeg) = (1 : Int32)
  · have h := h.2 c2
    refine MD_lift (fun G z Q k => T_icmp_ne 264 (dk dt_own 7 rfl) (by decide) (fun q => absurd c2 q) (fun _ => k)) ?_
    refine MD_lift (fun G z Q k => T_aload_n 0 (dk dt_own 8 rfl) rfl rfl k) ?_
    refine MD_lift (fun G z Q k => T_getR 0 53 54 (dk dt_own 9 rfl) fl_103 mk_0 ml_0 (by decide) rfl rfl k) ?_
    refine MD_lift (fun G z Q k => T_aload_n 0 (dk dt_own 10 rfl) rfl rfl k) ?_
    refine MD_lift (fun G z Q k => T_getR 0 73 74 (dk dt_own 11 rfl) fl_154 mk_0 ml_0 (by decide) rfl rfl k) ?_
    refine MD_lift (fun G z Q k => T_iload_n 1 (dk dt_own 12 rfl) rfl rfl k) ?_
    obtain ⟨h3, h⟩ := h
    refine MD_read (fun z => z.1 74 (l1 : Int32).toNatClampNeg) (fun G z Q k => T_iald 74 6 (dk dt_own 13 rfl) mk_74 ml_74 h3 k) (fun z e => e 74 _ (Or.inl (core_a (by decide) h3))) ?_
    obtain ⟨h4, h⟩ := h
    refine MD_read (fun z => z.1 54 (x.1 74 (l1 : Int32).toNatClampNeg : Int32).toNatClampNeg) (fun G z Q k => T_iald 54 1500 (dk dt_own 14 rfl) mk_54 ml_54 h4 k) (fun z e => e 54 _ (Or.inl (core_a (by decide) h4))) ?_
    refine MD_lift (fun G z Q k => T_bipush (v := 6) (dk dt_own 15 rfl) (by decide +kernel) k) ?_
    by_cases c5 : (x.1 54 (x.1 74 (l1 : Int32).toNatClampNeg : Int32).toNatClampNeg) = (6 : Int32)
    · have h := h.1 c5
      refine MD_lift (fun G z Q k => T_icmp_eq 264 (dk dt_own 16 rfl) (by decide) (fun _ => k) (fun q => absurd c5 q)) ?_
      exact MD_lift (fun G z Q k => T_sub [0, 1] rfl k) h
    · have h := h.2 c5
      refine MD_lift (fun G z Q k => T_icmp_eq 264 (dk dt_own 16 rfl) (by decide) (fun q => absurd q c5) (fun _ => k)) ?_
      refine MD_lift (fun G z Q k => T_aload_n 0 (dk dt_own 17 rfl) rfl rfl k) ?_
      refine MD_lift (fun G z Q k => T_getR 0 73 74 (dk dt_own 18 rfl) fl_154 mk_0 ml_0 (by decide) rfl rfl k) ?_
      refine MD_lift (fun G z Q k => T_iload_n 1 (dk dt_own 19 rfl) rfl rfl k) ?_
      obtain ⟨h6, h⟩ := h
      refine MD_read (fun z => z.1 74 (l1 : Int32).toNatClampNeg) (fun G z Q k => T_iald 74 6 (dk dt_own 20 rfl) mk_74 ml_74 h6 k) (fun z e => e 74 _ (Or.inl (core_a (by decide) h6))) ?_
      refine MD_lift (fun G z Q k => T_istore_n (lv2 := [(3, vi (x.1 74 (l1 : Int32).toNatClampNeg)), (0, vr 0), (1, vi l1), (2, vi l2)]) (dk dt_own 21 rfl) rfl (by decide) rfl k) ?_
      refine MD_lift (fun G z Q k => T_aload_n 1 (dk dt_own 22 rfl) rfl rfl k) ?_
      refine MD_lift (fun G z Q k => T_getR 0 53 54 (dk dt_own 23 rfl) fl_103 mk_0 ml_0 (by decide) rfl rfl k) ?_
      refine MD_lift (fun G z Q k => T_iload_n 0 (dk dt_own 24 rfl) rfl rfl k) ?_
      obtain ⟨h7, h⟩ := h
      refine MD_read (fun z => z.1 54 (x.1 74 (l1 : Int32).toNatClampNeg : Int32).toNatClampNeg) (fun G z Q k => T_iald 54 1500 (dk dt_own 25 rfl) mk_54 ml_54 h7 k) (fun z e => e 54 _ (Or.inl (core_a (by decide) h7))) ?_
      refine MD_lift (fun G z Q k => T_istore (lv2 := [(4, vi (x.1 54 (x.1 74 (l1 : Int32).toNatClampNeg : Int32).toNatClampNeg)), (3, vi (x.1 74 (l1 : Int32).toNatClampNeg)), (0, vr 0), (1, vi l1), (2, vi l2)]) (dk dt_own 26 rfl) (by decide) rfl k) ?_
      refine MD_lift (fun G z Q k => T_iload 0 (dk dt_own 27 rfl) rfl k) ?_
      refine MD_lift (fun G z Q k => T_iconst (v := 3) (dk dt_own 28 rfl) (by decide +kernel) k) ?_
      by_cases c8 : (x.1 54 (x.1 74 (l1 : Int32).toNatClampNeg : Int32).toNatClampNeg) = (3 : Int32)
      · have h := h.2 c8
        refine MD_lift (fun G z Q k => T_icmp_ne 64 (dk dt_own 29 rfl) (by decide) (fun q => absurd c8 q) (fun _ => k)) ?_
        refine MD_lift (fun G z Q k => T_aload_n 2 (dk dt_own 30 rfl) rfl rfl k) ?_
        refine MD_lift (fun G z Q k => T_getR 0 73 74 (dk dt_own 31 rfl) fl_154 mk_0 ml_0 (by decide) rfl rfl k) ?_
        refine MD_lift (fun G z Q k => T_iload_n 3 (dk dt_own 32 rfl) rfl rfl k) ?_
        refine MD_lift (fun G z Q k => T_aload_n 2 (dk dt_own 33 rfl) rfl rfl k) ?_
        refine MD_lift (fun G z Q k => T_getR 0 60 61 (dk dt_own 34 rfl) fl_124 mk_0 ml_0 (by decide) rfl rfl k) ?_
        refine MD_lift (fun G z Q k => T_iload_n 1 (dk dt_own 35 rfl) rfl rfl k) ?_
        obtain ⟨h9, h⟩ := h
        refine MD_read (fun z => z.1 61 (x.1 74 (l1 : Int32).toNatClampNeg : Int32).toNatClampNeg) (fun G z Q k => T_iald 61 1500 (dk dt_own 36 rfl) mk_61 ml_61 h9 k) (fun z e => e 61 _ (Or.inl (core_a (by decide) h9))) ?_
        obtain ⟨h10, h⟩ := h
        obtain ⟨x11, ex11⟩ : ∃ z, z = si x 74 (l1 : Int32).toNatClampNeg (x.1 61 (x.1 74 (l1 : Int32).toNatClampNeg : Int32).toNatClampNeg) := ⟨_, rfl⟩
        have h := h x11 ex11
        refine MD_wk 74 ((l1 : Int32).toNatClampNeg) (x.1 61 (x.1 74 (l1 : Int32).toNatClampNeg : Int32).toNatClampNeg) (fun G z Q k => T_iast 74 6 (dk dt_own 37 rfl) mk_74 ml_74 h10 k) (hm_a (by decide) _ _) ?_
        rw [← ex11]
        refine MD_lift (fun G z Q k => T_goto 2 (dk dt_own 38 rfl) (by decide) k) ?_
        exact MD_lift (fun G z Q k => T_sub [2, 3, 4] rfl k) h
      · have h := h.1 c8
        refine MD_lift (fun G z Q k => T_icmp_ne 64 (dk dt_own 29 rfl) (by decide) (fun _ => k) (fun q => absurd q c8)) ?_
        refine MD_lift (fun G z Q k => T_iload 0 (dk dt_own 39 rfl) rfl k) ?_
        refine MD_lift (fun G z Q k => T_iconst (v := 5) (dk dt_own 40 rfl) (by decide +kernel) k) ?_
        by_cases c12 : (x.1 54 (x.1 74 (l1 : Int32).toNatClampNeg : Int32).toNatClampNeg) = (5 : Int32)
        · have h := h.2 c12
          refine MD_lift (fun G z Q k => T_icmp_ne 80 (dk dt_own 41 rfl) (by decide) (fun q => absurd c12 q) (fun _ => k)) ?_
          refine MD_lift (fun G z Q k => T_aload_n 2 (dk dt_own 42 rfl) rfl rfl k) ?_
          refine MD_lift (fun G z Q k => T_getR 0 72 73 (dk dt_own 43 rfl) fl_151 mk_0 ml_0 (by decide) rfl rfl k) ?_
          refine MD_lift (fun G z Q k => T_iload_n 3 (dk dt_own 44 rfl) rfl rfl k) ?_
          refine MD_lift (fun G z Q k => T_iconst (v := 2) (dk dt_own 45 rfl) (by decide +kernel) k) ?_
          obtain ⟨h13, h⟩ := h
          obtain ⟨x14, ex14⟩ : ∃ z, z = si x 73 (l1 : Int32).toNatClampNeg 2 := ⟨_, rfl⟩
          have h := h x14 ex14
          refine MD_wk 73 ((l1 : Int32).toNatClampNeg) 2 (fun G z Q k => T_iast 73 6 (dk dt_own 46 rfl) mk_73 ml_73 h13 k) (hm_a (by decide) _ _) ?_
          rw [← ex14]
          refine MD_lift (fun G z Q k => T_goto 2 (dk dt_own 47 rfl) (by decide) k) ?_
          exact MD_lift (fun G z Q k => T_sub [2, 3, 4] rfl k) h
        · have h := h.1 c12
          refine MD_lift (fun G z Q k => T_icmp_ne 80 (dk dt_own 41 rfl) (by decide) (fun _ => k) (fun q => absurd q c12)) ?_
          refine MD_lift (fun G z Q k => T_iinc (v := l2 + 1) (lv2 := [(2, vi (l2 + 1)), (4, vi (x.1 54 (x.1 74 (l1 : Int32).toNatClampNeg : Int32).toNatClampNeg)), (3, vi (x.1 74 (l1 : Int32).toNatClampNeg)), (0, vr 0), (1, vi l1)]) 4 (dk dt_own 48 rfl) rfl rfl (by decide) rfl k) ?_
          refine MD_lift (fun G z Q k => T_iload_n 0 (dk dt_own 49 rfl) rfl rfl k) ?_
          refine MD_lift (fun G z Q k => T_sipush (v := 300) (dk dt_own 50 rfl) (by decide +kernel) k) ?_
          by_cases c15 : (l2 + 1) ≤ (300 : Int32)
          · have h := h.1 c15
            refine MD_lift (fun G z Q k => T_icmp_le 100 (dk dt_own 51 rfl) (by decide) (fun _ => k) (fun q => absurd c15 q)) ?_
            refine MD_lift (fun G z Q k => T_aload_n 3 (dk dt_own 57 rfl) rfl rfl k) ?_
            refine MD_lift (fun G z Q k => T_getR 0 58 59 (dk dt_own 58 rfl) fl_118 mk_0 ml_0 (by decide) rfl rfl k) ?_
            refine MD_lift (fun G z Q k => T_iload_n 2 (dk dt_own 59 rfl) rfl rfl k) ?_
            obtain ⟨h16, h⟩ := h
            refine MD_read (fun z => z.1 59 (x.1 74 (l1 : Int32).toNatClampNeg : Int32).toNatClampNeg) (fun G z Q k => T_iald 59 1500 (dk dt_own 60 rfl) mk_59 ml_59 h16 k) (fun z e => e 59 _ (Or.inl (core_a (by decide) h16))) ?_
            refine MD_lift (fun G z Q k => T_iconst (v := (-1)) (dk dt_own 61 rfl) (by decide +kernel) k) ?_
            by_cases c17 : (x.1 59 (x.1 74 (l1 : Int32).toNatClampNeg : Int32).toNatClampNeg) = (-1 : Int32)
            · have h := h.2 c17
              refine MD_lift (fun G z Q k => T_icmp_ne 114 (dk dt_own 62 rfl) (by decide) (fun q => absurd c17 q) (fun _ => k)) ?_
              refine MD_lift (fun G z Q k => T_iconst (v := 0) (dk dt_own 63 rfl) (by decide +kernel) k) ?_
              refine MD_lift (fun G z Q k => T_goto 125 (dk dt_own 64 rfl) (by decide) k) ?_
              exact MD_lift (fun G z Q k => T_sub [3, 4, 0, 2, 1] rfl k) h
            · have h := h.1 c17
              refine MD_lift (fun G z Q k => T_icmp_ne 114 (dk dt_own 62 rfl) (by decide) (fun _ => k) (fun q => absurd q c17)) ?_
              refine MD_lift (fun G z Q k => T_aload_n 3 (dk dt_own 65 rfl) rfl rfl k) ?_
              refine MD_lift (fun G z Q k => T_aload_n 3 (dk dt_own 66 rfl) rfl rfl k) ?_
              refine MD_lift (fun G z Q k => T_getR 0 58 59 (dk dt_own 67 rfl) fl_118 mk_0 ml_0 (by decide) rfl rfl k) ?_
              refine MD_lift (fun G z Q k => T_iload_n 2 (dk dt_own 68 rfl) rfl rfl k) ?_
              obtain ⟨h18, h⟩ := h
              refine MD_read (fun z => z.1 59 (x.1 74 (l1 : Int32).toNatClampNeg : Int32).toNatClampNeg) (fun G z Q k => T_iald 59 1500 (dk dt_own 69 rfl) mk_59 ml_59 h18 k) (fun z e => e 59 _ (Or.inl (core_a (by decide) h18))) ?_
              refine MD_lift (fun G z Q k => T_iload_n 4 (dk dt_own 70 rfl) rfl rfl k) ?_
              refine MD_calli (fun G z F Q k kk => MT_callVi [vi (x.1 59 (x.1 74 (l1 : Int32).toNatClampNeg : Int32).toNatClampNeg), vi l1] [] rfl (dk dt_own 71 rfl) cv_593 rfl rfl (Nat.le_of_ble_eq_true rfl) (Nat.le_of_ble_eq_true rfl) rfl rfl k kk) h (fun r20 x19 S19 h => ?_)
              exact MD_lift (fun G z Q k => T_sub [3, 4, 0, 2, 1] rfl k) h
          · have h := h.2 c15
            refine MD_lift (fun G z Q k => T_icmp_le 100 (dk dt_own 51 rfl) (by decide) (fun q => absurd q c15) (fun _ => k)) ?_
            refine MD_lift (fun G z Q k => T_aload_n 3 (dk dt_own 52 rfl) rfl rfl k) ?_
            refine MD_lift (fun G z Q k => T_iload_n 4 (dk dt_own 53 rfl) rfl rfl k) ?_
            refine MD_lift (fun G z Q k => T_bipush (v := 6) (dk dt_own 54 rfl) (by decide +kernel) k) ?_
            refine MD_callv (fun G z F Q k kk => MT_callVv [vi l1, vi 6] [] rfl (dk dt_own 55 rfl) cv_590 rfl rfl (Nat.le_of_ble_eq_true rfl) (Nat.le_of_ble_eq_true rfl) rfl rfl k kk) h (fun x21 S21 h => ?_)
            refine MD_lift (fun G z Q k => T_goto 2 (dk dt_own 56 rfl) (by decide) k) ?_
            exact MD_lift (fun G z Q k => T_sub [3, 4, 0] rfl k) h
  · have h := h.1 c2
    refine MD_lift (fun G z Q k => T_icmp_ne 264 (dk dt_own 7 rfl) (by decide) (fun _ => k) (fun q => absurd q c2)) ?_
    exact MD_lift (fun G z Q k => T_sub [0, 1] rfl k) h
set_option maxRecDepth 100000 in
set_option maxHeartbeats 4000000 in
theorem sd_own_125 {d : Nat} {S : gS} {x : gd} {P : Option gv → gd → gS → Prop} (l1 : Int32) (l2 : Int32) (l3 : Int32) (l4 : Int32) (s0 : Int32)
    (h : vp_in l3 1500 ∧ (((x.1 59 (l3 : Int32).toNatClampNeg) = (-1 : Int32) → MD (d + 1) z_own 153 [(0, vr 0), (1, vi l1), (2, vi l2), (3, vi l3), (4, vi l4), (5, vi s0)] [] S x P) ∧ (¬ ((x.1 59 (l3 : Int32).toNatClampNeg) = (-1 : Int32)) → S 0 82 ∧ (((x.1 0 82) ≤ (0 : Int32) → MD (d + 1) z_own 153 [(0, vr 0), (1, vi l1), (2, vi l2), (3, vi l3), (4, vi l4), (5, vi s0)] [] S x P) ∧ (¬ ((x.1 0 82) ≤ (0 : Int32)) → MD d z_failThread 0 [(0, vr 0), (1, vi l1), (2, vi 1)] [] S x (Dv (fun x5 S5 => MD (d + 1) z_own 2 [(0, vr 0), (1, vi l1), (2, vi l2)] [] S5 x5 P))))))) :
    MD (d + 1) z_own 125 [(0, vr 0), (1, vi l1), (2, vi l2), (3, vi l3), (4, vi l4)] [vi s0] S x P := by
  refine MD_lift (fun G z Q k => T_istore (lv2 := [(5, vi s0), (0, vr 0), (1, vi l1), (2, vi l2), (3, vi l3), (4, vi l4)]) (dk dt_own 72 rfl) (by decide) rfl k) ?_
  refine MD_lift (fun G z Q k => T_aload_n 1 (dk dt_own 73 rfl) rfl rfl k) ?_
  refine MD_lift (fun G z Q k => T_getR 0 58 59 (dk dt_own 74 rfl) fl_118 mk_0 ml_0 (by decide) rfl rfl k) ?_
  refine MD_lift (fun G z Q k => T_iload_n 4 (dk dt_own 75 rfl) rfl rfl k) ?_
  obtain ⟨h1, h⟩ := h
  refine MD_read (fun z => z.1 59 (l3 : Int32).toNatClampNeg) (fun G z Q k => T_iald 59 1500 (dk dt_own 76 rfl) mk_59 ml_59 h1 k) (fun z e => e 59 _ (Or.inl (core_a (by decide) h1))) ?_
  refine MD_lift (fun G z Q k => T_iconst (v := (-1)) (dk dt_own 77 rfl) (by decide +kernel) k) ?_
  by_cases c2 : (x.1 59 (l3 : Int32).toNatClampNeg) = (-1 : Int32)
  · have h := h.1 c2
    refine MD_lift (fun G z Q k => T_icmp_eq 153 (dk dt_own 78 rfl) (by decide) (fun _ => k) (fun q => absurd c2 q)) ?_
    exact MD_lift (fun G z Q k => T_sub [1, 2, 3, 4, 5, 0] rfl k) h
  · have h := h.2 c2
    refine MD_lift (fun G z Q k => T_icmp_eq 153 (dk dt_own 78 rfl) (by decide) (fun q => absurd q c2) (fun _ => k)) ?_
    refine MD_lift (fun G z Q k => T_aload_n 1 (dk dt_own 79 rfl) rfl rfl k) ?_
    obtain ⟨h3, h⟩ := h
    refine MD_read (fun z => z.1 0 82) (fun G z Q k => T_getI 0 82 (dk dt_own 80 rfl) fl_581 mk_0 ml_0 (by decide) rfl k) (fun z e => e 0 82 (Or.inr h3)) ?_
    by_cases c4 : (x.1 0 82) ≤ (0 : Int32)
    · have h := h.1 c4
      refine MD_lift (fun G z Q k => T_if_le 153 (dk dt_own 81 rfl) (by decide) (fun _ => k) (fun q => absurd c4 q)) ?_
      exact MD_lift (fun G z Q k => T_sub [1, 2, 3, 4, 5, 0] rfl k) h
    · have h := h.2 c4
      refine MD_lift (fun G z Q k => T_if_le 153 (dk dt_own 81 rfl) (by decide) (fun q => absurd q c4) (fun _ => k)) ?_
      refine MD_lift (fun G z Q k => T_aload_n 1 (dk dt_own 82 rfl) rfl rfl k) ?_
      refine MD_lift (fun G z Q k => T_iload_n 2 (dk dt_own 83 rfl) rfl rfl k) ?_
      refine MD_lift (fun G z Q k => T_iconst (v := 1) (dk dt_own 84 rfl) (by decide +kernel) k) ?_
      refine MD_callv (fun G z F Q k kk => MT_callVv [vi l1, vi 1] [] rfl (dk dt_own 85 rfl) cv_590 rfl rfl (Nat.le_of_ble_eq_true rfl) (Nat.le_of_ble_eq_true rfl) rfl rfl k kk) h (fun x5 S5 h => ?_)
      refine MD_lift (fun G z Q k => T_goto 2 (dk dt_own 86 rfl) (by decide) k) ?_
      exact MD_lift (fun G z Q k => T_sub [1, 2, 3] rfl k) h
set_option maxRecDepth 100000 in
set_option maxHeartbeats 4000000 in
theorem sd_own_153 {d : Nat} {S : gS} {x : gd} {P : Option gv → gd → gS → Prop} (l1 : Int32) (l2 : Int32) (l3 : Int32) (l4 : Int32) (l5 : Int32)
    (h : ((¬ (l4 = (0 : Int32)) → ((¬ (l4 = (2 : Int32)) → ((¬ (l4 = (1 : Int32)) → vp_in l1 6 ∧ (∀ x22 : gd, x22 = si x 73 (l1 : Int32).toNatClampNeg 2 → MD (d + 1) z_own 2 [(0, vr 0), (1, vi l1), (2, vi l2)] [] S x22 P)) ∧ (l4 = (1 : Int32) → ((¬ (l5 = (0 : Int32)) → vp_in l1 6 ∧ vp_in l1 6 ∧ (∀ x20 : gd, x20 = si x 74 (l1 : Int32).toNatClampNeg ((x.1 74 (l1 : Int32).toNatClampNeg) + 1) → MD (d + 1) z_own 2 [(0, vr 0), (1, vi l1), (2, vi l2)] [] S x20 P)) ∧ (l5 = (0 : Int32) → MD d z_failThread 0 [(0, vr 0), (1, vi l1), (2, vi 5)] [] S x (Dv (fun x17 S17 => MD (d + 1) z_own 2 [(0, vr 0), (1, vi l1), (2, vi l2)] [] S17 x17 P))))))) ∧ (l4 = (2 : Int32) → ((l5 = (0 : Int32) → vp_in l3 1500 ∧ vp_in l1 6 ∧ (∀ x12 : gd, x12 = si x 74 (l1 : Int32).toNatClampNeg (x.1 61 (l3 : Int32).toNatClampNeg) → MD (d + 1) z_own 2 [(0, vr 0), (1, vi l1), (2, vi l2)] [] S x12 P)) ∧ (¬ (l5 = (0 : Int32)) → vp_in l1 6 ∧ (∀ x14 : gd, x14 = si x 74 (l1 : Int32).toNatClampNeg (l3 + 1) → MD (d + 1) z_own 2 [(0, vr 0), (1, vi l1), (2, vi l2)] [] S x14 P)))))) ∧ (l4 = (0 : Int32) → vp_in l3 1500 ∧ vp_in ((8 * l1) + (x.1 61 (l3 : Int32).toNatClampNeg)) 48 ∧ (∀ x4 : gd, x4 = si x 76 ((8 * l1) + (x.1 61 (l3 : Int32).toNatClampNeg) : Int32).toNatClampNeg l5 → vp_in l1 6 ∧ vp_in l1 6 ∧ (∀ x7 : gd, x7 = si x4 74 (l1 : Int32).toNatClampNeg ((x4.1 74 (l1 : Int32).toNatClampNeg) + 1) → MD (d + 1) z_own 2 [(0, vr 0), (1, vi l1), (2, vi l2)] [] S x7 P))))) :
    MD (d + 1) z_own 153 [(0, vr 0), (1, vi l1), (2, vi l2), (3, vi l3), (4, vi l4), (5, vi l5)] [] S x P := by
  refine MD_lift (fun G z Q k => T_iload 4 (dk dt_own 87 rfl) rfl k) ?_
  by_cases c1 : l4 = (0 : Int32)
  · have h := h.2 c1
    refine MD_lift (fun G z Q k => T_if_ne 189 (dk dt_own 88 rfl) (by decide) (fun q => absurd c1 q) (fun _ => k)) ?_
    refine MD_lift (fun G z Q k => T_aload_n 0 (dk dt_own 89 rfl) rfl rfl k) ?_
    refine MD_lift (fun G z Q k => T_getR 0 75 76 (dk dt_own 90 rfl) fl_160 mk_0 ml_0 (by decide) rfl rfl k) ?_
    refine MD_lift (fun G z Q k => T_bipush (v := 8) (dk dt_own 91 rfl) (by decide +kernel) k) ?_
    refine MD_lift (fun G z Q k => T_iload_n 1 (dk dt_own 92 rfl) rfl rfl k) ?_
    refine MD_lift (fun G z Q k => T_imul (dk dt_own 93 rfl) k) ?_
    refine MD_lift (fun G z Q k => T_aload_n 0 (dk dt_own 94 rfl) rfl rfl k) ?_
    refine MD_lift (fun G z Q k => T_getR 0 60 61 (dk dt_own 95 rfl) fl_124 mk_0 ml_0 (by decide) rfl rfl k) ?_
    refine MD_lift (fun G z Q k => T_iload_n 3 (dk dt_own 96 rfl) rfl rfl k) ?_
    obtain ⟨h2, h⟩ := h
    refine MD_read (fun z => z.1 61 (l3 : Int32).toNatClampNeg) (fun G z Q k => T_iald 61 1500 (dk dt_own 97 rfl) mk_61 ml_61 h2 k) (fun z e => e 61 _ (Or.inl (core_a (by decide) h2))) ?_
    refine MD_lift (fun G z Q k => T_iadd (dk dt_own 98 rfl) k) ?_
    refine MD_lift (fun G z Q k => T_iload 5 (dk dt_own 99 rfl) rfl k) ?_
    obtain ⟨h3, h⟩ := h
    obtain ⟨x4, ex4⟩ : ∃ z, z = si x 76 ((8 * l1) + (x.1 61 (l3 : Int32).toNatClampNeg) : Int32).toNatClampNeg l5 := ⟨_, rfl⟩
    have h := h x4 ex4
    refine MD_wk 76 (((8 * l1) + (x.1 61 (l3 : Int32).toNatClampNeg) : Int32).toNatClampNeg) l5 (fun G z Q k => T_iast 76 48 (dk dt_own 100 rfl) mk_76 ml_76 h3 k) (hm_a (by decide) _ _) ?_
    rw [← ex4]
    refine MD_lift (fun G z Q k => T_aload_n 0 (dk dt_own 101 rfl) rfl rfl k) ?_
    refine MD_lift (fun G z Q k => T_getR 0 73 74 (dk dt_own 102 rfl) fl_154 mk_0 ml_0 (by decide) rfl rfl k) ?_
    refine MD_lift (fun G z Q k => T_iload_n 1 (dk dt_own 103 rfl) rfl rfl k) ?_
    refine MD_lift (fun G z Q k => T_dup2 (dk dt_own 104 rfl) rfl rfl k) ?_
    obtain ⟨h5, h⟩ := h
    refine MD_read (fun z => z.1 74 (l1 : Int32).toNatClampNeg) (fun G z Q k => T_iald 74 6 (dk dt_own 105 rfl) mk_74 ml_74 h5 k) (fun z e => e 74 _ (Or.inl (core_a (by decide) h5))) ?_
    refine MD_lift (fun G z Q k => T_iconst (v := 1) (dk dt_own 106 rfl) (by decide +kernel) k) ?_
    refine MD_lift (fun G z Q k => T_iadd (dk dt_own 107 rfl) k) ?_
    obtain ⟨h6, h⟩ := h
    obtain ⟨x7, ex7⟩ : ∃ z, z = si x4 74 (l1 : Int32).toNatClampNeg ((x4.1 74 (l1 : Int32).toNatClampNeg) + 1) := ⟨_, rfl⟩
    have h := h x7 ex7
    refine MD_wk 74 ((l1 : Int32).toNatClampNeg) ((x4.1 74 (l1 : Int32).toNatClampNeg) + 1) (fun G z Q k => T_iast 74 6 (dk dt_own 108 rfl) mk_74 ml_74 h6 k) (hm_a (by decide) _ _) ?_
    rw [← ex7]
    refine MD_lift (fun G z Q k => T_goto 261 (dk dt_own 109 rfl) (by decide) k) ?_
    refine MD_lift (fun G z Q k => T_goto 2 (dk dt_own 152 rfl) (by decide) k) ?_
    exact MD_lift (fun G z Q k => T_sub [0, 1, 2] rfl k) h
  · have h := h.1 c1
    refine MD_lift (fun G z Q k => T_if_ne 189 (dk dt_own 88 rfl) (by decide) (fun _ => k) (fun q => absurd q c1)) ?_
    refine MD_lift (fun G z Q k => T_iload 4 (dk dt_own 110 rfl) rfl k) ?_
    refine MD_lift (fun G z Q k => T_iconst (v := 2) (dk dt_own 111 rfl) (by decide +kernel) k) ?_
    by_cases c8 : l4 = (2 : Int32)
    · have h := h.2 c8
      refine MD_lift (fun G z Q k => T_icmp_ne 221 (dk dt_own 112 rfl) (by decide) (fun q => absurd c8 q) (fun _ => k)) ?_
      refine MD_lift (fun G z Q k => T_aload_n 0 (dk dt_own 113 rfl) rfl rfl k) ?_
      refine MD_lift (fun G z Q k => T_getR 0 73 74 (dk dt_own 114 rfl) fl_154 mk_0 ml_0 (by decide) rfl rfl k) ?_
      refine MD_lift (fun G z Q k => T_iload_n 1 (dk dt_own 115 rfl) rfl rfl k) ?_
      refine MD_lift (fun G z Q k => T_iload 5 (dk dt_own 116 rfl) rfl k) ?_
      by_cases c9 : l5 = (0 : Int32)
      · have h := h.1 c9
        refine MD_lift (fun G z Q k => T_if_eq 211 (dk dt_own 117 rfl) (by decide) (fun _ => k) (fun q => absurd c9 q)) ?_
        refine MD_lift (fun G z Q k => T_aload_n 0 (dk dt_own 122 rfl) rfl rfl k) ?_
        refine MD_lift (fun G z Q k => T_getR 0 60 61 (dk dt_own 123 rfl) fl_124 mk_0 ml_0 (by decide) rfl rfl k) ?_
        refine MD_lift (fun G z Q k => T_iload_n 3 (dk dt_own 124 rfl) rfl rfl k) ?_
        obtain ⟨h10, h⟩ := h
        refine MD_read (fun z => z.1 61 (l3 : Int32).toNatClampNeg) (fun G z Q k => T_iald 61 1500 (dk dt_own 125 rfl) mk_61 ml_61 h10 k) (fun z e => e 61 _ (Or.inl (core_a (by decide) h10))) ?_
        obtain ⟨h11, h⟩ := h
        obtain ⟨x12, ex12⟩ : ∃ z, z = si x 74 (l1 : Int32).toNatClampNeg (x.1 61 (l3 : Int32).toNatClampNeg) := ⟨_, rfl⟩
        have h := h x12 ex12
        refine MD_wk 74 ((l1 : Int32).toNatClampNeg) (x.1 61 (l3 : Int32).toNatClampNeg) (fun G z Q k => T_iast 74 6 (dk dt_own 126 rfl) mk_74 ml_74 h11 k) (hm_a (by decide) _ _) ?_
        rw [← ex12]
        refine MD_lift (fun G z Q k => T_goto 261 (dk dt_own 127 rfl) (by decide) k) ?_
        refine MD_lift (fun G z Q k => T_goto 2 (dk dt_own 152 rfl) (by decide) k) ?_
        exact MD_lift (fun G z Q k => T_sub [0, 1, 2] rfl k) h
      · have h := h.2 c9
        refine MD_lift (fun G z Q k => T_if_eq 211 (dk dt_own 117 rfl) (by decide) (fun q => absurd q c9) (fun _ => k)) ?_
        refine MD_lift (fun G z Q k => T_iload_n 3 (dk dt_own 118 rfl) rfl rfl k) ?_
        refine MD_lift (fun G z Q k => T_iconst (v := 1) (dk dt_own 119 rfl) (by decide +kernel) k) ?_
        refine MD_lift (fun G z Q k => T_iadd (dk dt_own 120 rfl) k) ?_
        refine MD_lift (fun G z Q k => T_goto 217 (dk dt_own 121 rfl) (by decide) k) ?_
        obtain ⟨h13, h⟩ := h
        obtain ⟨x14, ex14⟩ : ∃ z, z = si x 74 (l1 : Int32).toNatClampNeg (l3 + 1) := ⟨_, rfl⟩
        have h := h x14 ex14
        refine MD_wk 74 ((l1 : Int32).toNatClampNeg) (l3 + 1) (fun G z Q k => T_iast 74 6 (dk dt_own 126 rfl) mk_74 ml_74 h13 k) (hm_a (by decide) _ _) ?_
        rw [← ex14]
        refine MD_lift (fun G z Q k => T_goto 261 (dk dt_own 127 rfl) (by decide) k) ?_
        refine MD_lift (fun G z Q k => T_goto 2 (dk dt_own 152 rfl) (by decide) k) ?_
        exact MD_lift (fun G z Q k => T_sub [0, 1, 2] rfl k) h
    · have h := h.1 c8
      refine MD_lift (fun G z Q k => T_icmp_ne 221 (dk dt_own 112 rfl) (by decide) (fun _ => k) (fun q => absurd q c8)) ?_
      refine MD_lift (fun G z Q k => T_iload 4 (dk dt_own 128 rfl) rfl k) ?_
      refine MD_lift (fun G z Q k => T_iconst (v := 1) (dk dt_own 129 rfl) (by decide +kernel) k) ?_
      by_cases c15 : l4 = (1 : Int32)
      · have h := h.2 c15
        refine MD_lift (fun G z Q k => T_icmp_ne 254 (dk dt_own 130 rfl) (by decide) (fun q => absurd c15 q) (fun _ => k)) ?_
        refine MD_lift (fun G z Q k => T_iload 5 (dk dt_own 131 rfl) rfl k) ?_
        by_cases c16 : l5 = (0 : Int32)
        · have h := h.2 c16
          refine MD_lift (fun G z Q k => T_if_ne 241 (dk dt_own 132 rfl) (by decide) (fun q => absurd c16 q) (fun _ => k)) ?_
          refine MD_lift (fun G z Q k => T_aload_n 0 (dk dt_own 133 rfl) rfl rfl k) ?_
          refine MD_lift (fun G z Q k => T_iload_n 1 (dk dt_own 134 rfl) rfl rfl k) ?_
          refine MD_lift (fun G z Q k => T_iconst (v := 5) (dk dt_own 135 rfl) (by decide +kernel) k) ?_
          refine MD_callv (fun G z F Q k kk => MT_callVv [vi l1, vi 5] [] rfl (dk dt_own 136 rfl) cv_590 rfl rfl (Nat.le_of_ble_eq_true rfl) (Nat.le_of_ble_eq_true rfl) rfl rfl k kk) h (fun x17 S17 h => ?_)
          refine MD_lift (fun G z Q k => T_goto 261 (dk dt_own 137 rfl) (by decide) k) ?_
          refine MD_lift (fun G z Q k => T_goto 2 (dk dt_own 152 rfl) (by decide) k) ?_
          exact MD_lift (fun G z Q k => T_sub [0, 1, 2] rfl k) h
        · have h := h.1 c16
          refine MD_lift (fun G z Q k => T_if_ne 241 (dk dt_own 132 rfl) (by decide) (fun _ => k) (fun q => absurd q c16)) ?_
          refine MD_lift (fun G z Q k => T_aload_n 0 (dk dt_own 138 rfl) rfl rfl k) ?_
          refine MD_lift (fun G z Q k => T_getR 0 73 74 (dk dt_own 139 rfl) fl_154 mk_0 ml_0 (by decide) rfl rfl k) ?_
          refine MD_lift (fun G z Q k => T_iload_n 1 (dk dt_own 140 rfl) rfl rfl k) ?_
          refine MD_lift (fun G z Q k => T_dup2 (dk dt_own 141 rfl) rfl rfl k) ?_
          obtain ⟨h18, h⟩ := h
          refine MD_read (fun z => z.1 74 (l1 : Int32).toNatClampNeg) (fun G z Q k => T_iald 74 6 (dk dt_own 142 rfl) mk_74 ml_74 h18 k) (fun z e => e 74 _ (Or.inl (core_a (by decide) h18))) ?_
          refine MD_lift (fun G z Q k => T_iconst (v := 1) (dk dt_own 143 rfl) (by decide +kernel) k) ?_
          refine MD_lift (fun G z Q k => T_iadd (dk dt_own 144 rfl) k) ?_
          obtain ⟨h19, h⟩ := h
          obtain ⟨x20, ex20⟩ : ∃ z, z = si x 74 (l1 : Int32).toNatClampNeg ((x.1 74 (l1 : Int32).toNatClampNeg) + 1) := ⟨_, rfl⟩
          have h := h x20 ex20
          refine MD_wk 74 ((l1 : Int32).toNatClampNeg) ((x.1 74 (l1 : Int32).toNatClampNeg) + 1) (fun G z Q k => T_iast 74 6 (dk dt_own 145 rfl) mk_74 ml_74 h19 k) (hm_a (by decide) _ _) ?_
          rw [← ex20]
          refine MD_lift (fun G z Q k => T_goto 261 (dk dt_own 146 rfl) (by decide) k) ?_
          refine MD_lift (fun G z Q k => T_goto 2 (dk dt_own 152 rfl) (by decide) k) ?_
          exact MD_lift (fun G z Q k => T_sub [0, 1, 2] rfl k) h
      · have h := h.1 c15
        refine MD_lift (fun G z Q k => T_icmp_ne 254 (dk dt_own 130 rfl) (by decide) (fun _ => k) (fun q => absurd q c15)) ?_
        refine MD_lift (fun G z Q k => T_aload_n 0 (dk dt_own 147 rfl) rfl rfl k) ?_
        refine MD_lift (fun G z Q k => T_getR 0 72 73 (dk dt_own 148 rfl) fl_151 mk_0 ml_0 (by decide) rfl rfl k) ?_
        refine MD_lift (fun G z Q k => T_iload_n 1 (dk dt_own 149 rfl) rfl rfl k) ?_
        refine MD_lift (fun G z Q k => T_iconst (v := 2) (dk dt_own 150 rfl) (by decide +kernel) k) ?_
        obtain ⟨h21, h⟩ := h
        obtain ⟨x22, ex22⟩ : ∃ z, z = si x 73 (l1 : Int32).toNatClampNeg 2 := ⟨_, rfl⟩
        have h := h x22 ex22
        refine MD_wk 73 ((l1 : Int32).toNatClampNeg) 2 (fun G z Q k => T_iast 73 6 (dk dt_own 151 rfl) mk_73 ml_73 h21 k) (hm_a (by decide) _ _) ?_
        rw [← ex22]
        refine MD_lift (fun G z Q k => T_goto 2 (dk dt_own 152 rfl) (by decide) k) ?_
        exact MD_lift (fun G z Q k => T_sub [0, 1, 2] rfl k) h
set_option maxRecDepth 100000 in
set_option maxHeartbeats 4000000 in
theorem sd_own_264 {d : Nat} {S : gS} {x : gd} {P : Option gv → gd → gS → Prop} (l1 : Int32)
    (h : MD d z_clean 0 [(0, vr 0), (1, vi l1)] [] S x (Dv (fun x1 S1 => P none x1 S1))) :
    MD (d + 1) z_own 264 [(0, vr 0), (1, vi l1)] [] S x P := by
  refine MD_lift (fun G z Q k => T_aload_n 0 (dk dt_own 153 rfl) rfl rfl k) ?_
  refine MD_lift (fun G z Q k => T_iload_n 1 (dk dt_own 154 rfl) rfl rfl k) ?_
  refine MD_callv (fun G z F Q k kk => MT_callVv [vi l1] [] rfl (dk dt_own 155 rfl) cv_596 rfl rfl (Nat.le_of_ble_eq_true rfl) (Nat.le_of_ble_eq_true rfl) rfl rfl k kk) h (fun x1 S1 h => ?_)
  exact MD_ret (fun G z Q k => MT_vret (dk dt_own 156 rfl) rfl k) h
set_option maxRecDepth 100000 in
set_option maxHeartbeats 4000000 in
theorem sd_sortOf_0 {d : Nat} {S : gS} {x : gd} {P : Option gv → gd → gS → Prop} (l1 : Int32)
    (h : vp_in l1 6 ∧ ((¬ ((x.1 77 (l1 : Int32).toNatClampNeg) = (2 : Int32)) → vp_in l1 6 ∧ vp_in (x.1 74 (l1 : Int32).toNatClampNeg) 1500 ∧ P (some (vi (x.1 55 (x.1 74 (l1 : Int32).toNatClampNeg : Int32).toNatClampNeg))) x S) ∧ ((x.1 77 (l1 : Int32).toNatClampNeg) = (2 : Int32) → P (some (vi 15)) x S))) :
    MD d z_sortOf 0 [(0, vr 0), (1, vi l1)] [] S x P := by
  refine MD_lift (fun G z Q k => T_aload_n 0 (dk dt_sortOf 0 rfl) rfl rfl k) ?_
  refine MD_lift (fun G z Q k => T_getR 0 76 77 (dk dt_sortOf 1 rfl) fl_163 mk_0 ml_0 (by decide) rfl rfl k) ?_
  refine MD_lift (fun G z Q k => T_iload_n 1 (dk dt_sortOf 2 rfl) rfl rfl k) ?_
  obtain ⟨h1, h⟩ := h
  refine MD_read (fun z => z.1 77 (l1 : Int32).toNatClampNeg) (fun G z Q k => T_iald 77 6 (dk dt_sortOf 3 rfl) mk_77 ml_77 h1 k) (fun z e => e 77 _ (Or.inl (core_a (by decide) h1))) ?_
  refine MD_lift (fun G z Q k => T_iconst (v := 2) (dk dt_sortOf 4 rfl) (by decide +kernel) k) ?_
  by_cases c2 : (x.1 77 (l1 : Int32).toNatClampNeg) = (2 : Int32)
  · have h := h.2 c2
    refine MD_lift (fun G z Q k => T_icmp_ne 15 (dk dt_sortOf 5 rfl) (by decide) (fun q => absurd c2 q) (fun _ => k)) ?_
    refine MD_lift (fun G z Q k => T_bipush (v := 15) (dk dt_sortOf 6 rfl) (by decide +kernel) k) ?_
    refine MD_lift (fun G z Q k => T_goto 26 (dk dt_sortOf 7 rfl) (by decide) k) ?_
    exact MD_ret (fun G z Q k => MT_iret (dk dt_sortOf 15 rfl) rfl rfl k) h
  · have h := h.1 c2
    refine MD_lift (fun G z Q k => T_icmp_ne 15 (dk dt_sortOf 5 rfl) (by decide) (fun _ => k) (fun q => absurd q c2)) ?_
    refine MD_lift (fun G z Q k => T_aload_n 0 (dk dt_sortOf 8 rfl) rfl rfl k) ?_
    refine MD_lift (fun G z Q k => T_getR 0 54 55 (dk dt_sortOf 9 rfl) fl_106 mk_0 ml_0 (by decide) rfl rfl k) ?_
    refine MD_lift (fun G z Q k => T_aload_n 0 (dk dt_sortOf 10 rfl) rfl rfl k) ?_
    refine MD_lift (fun G z Q k => T_getR 0 73 74 (dk dt_sortOf 11 rfl) fl_154 mk_0 ml_0 (by decide) rfl rfl k) ?_
    refine MD_lift (fun G z Q k => T_iload_n 1 (dk dt_sortOf 12 rfl) rfl rfl k) ?_
    obtain ⟨h3, h⟩ := h
    refine MD_read (fun z => z.1 74 (l1 : Int32).toNatClampNeg) (fun G z Q k => T_iald 74 6 (dk dt_sortOf 13 rfl) mk_74 ml_74 h3 k) (fun z e => e 74 _ (Or.inl (core_a (by decide) h3))) ?_
    obtain ⟨h4, h⟩ := h
    refine MD_read (fun z => z.1 55 (x.1 74 (l1 : Int32).toNatClampNeg : Int32).toNatClampNeg) (fun G z Q k => T_iald 55 1500 (dk dt_sortOf 14 rfl) mk_55 ml_55 h4 k) (fun z e => e 55 _ (Or.inl (core_a (by decide) h4))) ?_
    exact MD_ret (fun G z Q k => MT_iret (dk dt_sortOf 15 rfl) rfl rfl k) h
end
section
set_option maxRecDepth 100000 in
set_option maxHeartbeats 4000000 in
theorem sd_hasAct_0 {d : Nat} {S : gS} {x : gd} {P : Option gv → gd → gS → Prop} (l1 : Int32)
    (h : vp_in l1 6 ∧ ((¬ ((x.1 73 (l1 : Int32).toNatClampNeg) = (1 : Int32)) → P (some (vi 0)) x S) ∧ ((x.1 73 (l1 : Int32).toNatClampNeg) = (1 : Int32) → vp_in l1 6 ∧ ((¬ ((x.1 77 (l1 : Int32).toNatClampNeg) = (1 : Int32)) → vp_in l1 6 ∧ MD d z_sortOf 0 [(0, vr 0), (1, vi l1)] [] S x (Di (fun r7 x6 S6 => MD d z_isAccess 0 [(0, vr 0), (1, vi r7)] [] S6 x6 (Di (fun r9 x8 S8 => ((r9 = (0 : Int32) → MD (d + 1) z_hasAct 62 [(0, vr 0), (1, vi l1), (2, vi (x.1 74 (l1 : Int32).toNatClampNeg)), (3, vi r7)] [vi 0] S8 x8 P) ∧ (¬ (r9 = (0 : Int32)) → vp_in (x.1 74 (l1 : Int32).toNatClampNeg) 1500 ∧ vp_in (x8.1 56 (x.1 74 (l1 : Int32).toNatClampNeg : Int32).toNatClampNeg) 24 ∧ (((x8.1 37 (x8.1 56 (x.1 74 (l1 : Int32).toNatClampNeg : Int32).toNatClampNeg : Int32).toNatClampNeg) = (0 : Int32) → MD (d + 1) z_hasAct 62 [(0, vr 0), (1, vi l1), (2, vi (x.1 74 (l1 : Int32).toNatClampNeg)), (3, vi r7)] [vi 0] S8 x8 P) ∧ (¬ ((x8.1 37 (x8.1 56 (x.1 74 (l1 : Int32).toNatClampNeg : Int32).toNatClampNeg : Int32).toNatClampNeg) = (0 : Int32)) → MD (d + 1) z_hasAct 62 [(0, vr 0), (1, vi l1), (2, vi (x.1 74 (l1 : Int32).toNatClampNeg)), (3, vi r7)] [vi 1] S8 x8 P))))))))) ∧ ((x.1 77 (l1 : Int32).toNatClampNeg) = (1 : Int32) → P (some (vi 0)) x S))))) :
    MD (d + 1) z_hasAct 0 [(0, vr 0), (1, vi l1)] [] S x P := by
  refine MD_lift (fun G z Q k => T_aload_n 0 (dk dt_hasAct 0 rfl) rfl rfl k) ?_
  refine MD_lift (fun G z Q k => T_getR 0 72 73 (dk dt_hasAct 1 rfl) fl_151 mk_0 ml_0 (by decide) rfl rfl k) ?_
  refine MD_lift (fun G z Q k => T_iload_n 1 (dk dt_hasAct 2 rfl) rfl rfl k) ?_
  obtain ⟨h1, h⟩ := h
  refine MD_read (fun z => z.1 73 (l1 : Int32).toNatClampNeg) (fun G z Q k => T_iald 73 6 (dk dt_hasAct 3 rfl) mk_73 ml_73 h1 k) (fun z e => e 73 _ (Or.inl (core_a (by decide) h1))) ?_
  refine MD_lift (fun G z Q k => T_iconst (v := 1) (dk dt_hasAct 4 rfl) (by decide +kernel) k) ?_
  by_cases c2 : (x.1 73 (l1 : Int32).toNatClampNeg) = (1 : Int32)
  · have h := h.2 c2
    refine MD_lift (fun G z Q k => T_icmp_ne 20 (dk dt_hasAct 5 rfl) (by decide) (fun q => absurd c2 q) (fun _ => k)) ?_
    refine MD_lift (fun G z Q k => T_aload_n 0 (dk dt_hasAct 6 rfl) rfl rfl k) ?_
    refine MD_lift (fun G z Q k => T_getR 0 76 77 (dk dt_hasAct 7 rfl) fl_163 mk_0 ml_0 (by decide) rfl rfl k) ?_
    refine MD_lift (fun G z Q k => T_iload_n 1 (dk dt_hasAct 8 rfl) rfl rfl k) ?_
    obtain ⟨h3, h⟩ := h
    refine MD_read (fun z => z.1 77 (l1 : Int32).toNatClampNeg) (fun G z Q k => T_iald 77 6 (dk dt_hasAct 9 rfl) mk_77 ml_77 h3 k) (fun z e => e 77 _ (Or.inl (core_a (by decide) h3))) ?_
    refine MD_lift (fun G z Q k => T_iconst (v := 1) (dk dt_hasAct 10 rfl) (by decide +kernel) k) ?_
    by_cases c4 : (x.1 77 (l1 : Int32).toNatClampNeg) = (1 : Int32)
    · have h := h.2 c4
      refine MD_lift (fun G z Q k => T_icmp_ne 22 (dk dt_hasAct 11 rfl) (by decide) (fun q => absurd c4 q) (fun _ => k)) ?_
      refine MD_lift (fun G z Q k => T_iconst (v := 0) (dk dt_hasAct 12 rfl) (by decide +kernel) k) ?_
      exact MD_ret (fun G z Q k => MT_iret (dk dt_hasAct 13 rfl) rfl rfl k) h
    · have h := h.1 c4
      refine MD_lift (fun G z Q k => T_icmp_ne 22 (dk dt_hasAct 11 rfl) (by decide) (fun _ => k) (fun q => absurd q c4)) ?_
      refine MD_lift (fun G z Q k => T_aload_n 0 (dk dt_hasAct 14 rfl) rfl rfl k) ?_
      refine MD_lift (fun G z Q k => T_getR 0 73 74 (dk dt_hasAct 15 rfl) fl_154 mk_0 ml_0 (by decide) rfl rfl k) ?_
      refine MD_lift (fun G z Q k => T_iload_n 1 (dk dt_hasAct 16 rfl) rfl rfl k) ?_
      obtain ⟨h5, h⟩ := h
      refine MD_read (fun z => z.1 74 (l1 : Int32).toNatClampNeg) (fun G z Q k => T_iald 74 6 (dk dt_hasAct 17 rfl) mk_74 ml_74 h5 k) (fun z e => e 74 _ (Or.inl (core_a (by decide) h5))) ?_
      refine MD_lift (fun G z Q k => T_istore_n (lv2 := [(2, vi (x.1 74 (l1 : Int32).toNatClampNeg)), (0, vr 0), (1, vi l1)]) (dk dt_hasAct 18 rfl) rfl (by decide) rfl k) ?_
      refine MD_lift (fun G z Q k => T_aload_n 1 (dk dt_hasAct 19 rfl) rfl rfl k) ?_
      refine MD_lift (fun G z Q k => T_iload_n 2 (dk dt_hasAct 20 rfl) rfl rfl k) ?_
      refine MD_calli (fun G z F Q k kk => MT_callVi [vi l1] [] rfl (dk dt_hasAct 21 rfl) cv_602 rfl rfl (Nat.le_of_ble_eq_true rfl) (Nat.le_of_ble_eq_true rfl) rfl rfl k kk) h (fun r7 x6 S6 h => ?_)
      refine MD_lift (fun G z Q k => T_istore_n (lv2 := [(3, vi r7), (2, vi (x.1 74 (l1 : Int32).toNatClampNeg)), (0, vr 0), (1, vi l1)]) (dk dt_hasAct 22 rfl) rfl (by decide) rfl k) ?_
      refine MD_lift (fun G z Q k => T_aload_n 2 (dk dt_hasAct 23 rfl) rfl rfl k) ?_
      refine MD_lift (fun G z Q k => T_iload_n 0 (dk dt_hasAct 24 rfl) rfl rfl k) ?_
      refine MD_calli (fun G z F Q k kk => MT_callVi [vi r7] [] rfl (dk dt_hasAct 25 rfl) cv_605 rfl rfl (Nat.le_of_ble_eq_true rfl) (Nat.le_of_ble_eq_true rfl) rfl rfl k kk) h (fun r9 x8 S8 h => ?_)
      by_cases c10 : r9 = (0 : Int32)
      · have h := h.1 c10
        refine MD_lift (fun G z Q k => T_if_eq 61 (dk dt_hasAct 26 rfl) (by decide) (fun _ => k) (fun q => absurd c10 q)) ?_
        refine MD_lift (fun G z Q k => T_iconst (v := 0) (dk dt_hasAct 37 rfl) (by decide +kernel) k) ?_
        exact MD_lift (fun G z Q k => T_sub [2, 3, 1, 0] rfl k) h
      · have h := h.2 c10
        refine MD_lift (fun G z Q k => T_if_eq 61 (dk dt_hasAct 26 rfl) (by decide) (fun q => absurd q c10) (fun _ => k)) ?_
        refine MD_lift (fun G z Q k => T_aload_n 2 (dk dt_hasAct 27 rfl) rfl rfl k) ?_
        refine MD_lift (fun G z Q k => T_getR 0 36 37 (dk dt_hasAct 28 rfl) fl_73 mk_0 ml_0 (by decide) rfl rfl k) ?_
        refine MD_lift (fun G z Q k => T_aload_n 2 (dk dt_hasAct 29 rfl) rfl rfl k) ?_
        refine MD_lift (fun G z Q k => T_getR 0 55 56 (dk dt_hasAct 30 rfl) fl_109 mk_0 ml_0 (by decide) rfl rfl k) ?_
        refine MD_lift (fun G z Q k => T_iload_n 1 (dk dt_hasAct 31 rfl) rfl rfl k) ?_
        obtain ⟨h11, h⟩ := h
        refine MD_read (fun z => z.1 56 (x.1 74 (l1 : Int32).toNatClampNeg : Int32).toNatClampNeg) (fun G z Q k => T_iald 56 1500 (dk dt_hasAct 32 rfl) mk_56 ml_56 h11 k) (fun z e => e 56 _ (Or.inl (core_a (by decide) h11))) ?_
        obtain ⟨h12, h⟩ := h
        refine MD_read (fun z => z.1 37 (x8.1 56 (x.1 74 (l1 : Int32).toNatClampNeg : Int32).toNatClampNeg : Int32).toNatClampNeg) (fun G z Q k => T_zald 37 24 (dk dt_hasAct 33 rfl) mk_37 ml_37 h12 k) (fun z e => e 37 _ (Or.inl (core_a (by decide) h12))) ?_
        by_cases c13 : (x8.1 37 (x8.1 56 (x.1 74 (l1 : Int32).toNatClampNeg : Int32).toNatClampNeg : Int32).toNatClampNeg) = (0 : Int32)
        · have h := h.1 c13
          refine MD_lift (fun G z Q k => T_if_eq 61 (dk dt_hasAct 34 rfl) (by decide) (fun _ => k) (fun q => absurd c13 q)) ?_
          refine MD_lift (fun G z Q k => T_iconst (v := 0) (dk dt_hasAct 37 rfl) (by decide +kernel) k) ?_
          exact MD_lift (fun G z Q k => T_sub [2, 3, 1, 0] rfl k) h
        · have h := h.2 c13
          refine MD_lift (fun G z Q k => T_if_eq 61 (dk dt_hasAct 34 rfl) (by decide) (fun q => absurd q c13) (fun _ => k)) ?_
          refine MD_lift (fun G z Q k => T_iconst (v := 1) (dk dt_hasAct 35 rfl) (by decide +kernel) k) ?_
          refine MD_lift (fun G z Q k => T_goto 62 (dk dt_hasAct 36 rfl) (by decide) k) ?_
          exact MD_lift (fun G z Q k => T_sub [2, 3, 1, 0] rfl k) h
  · have h := h.1 c2
    refine MD_lift (fun G z Q k => T_icmp_ne 20 (dk dt_hasAct 5 rfl) (by decide) (fun _ => k) (fun q => absurd q c2)) ?_
    refine MD_lift (fun G z Q k => T_iconst (v := 0) (dk dt_hasAct 12 rfl) (by decide +kernel) k) ?_
    exact MD_ret (fun G z Q k => MT_iret (dk dt_hasAct 13 rfl) rfl rfl k) h
set_option maxRecDepth 100000 in
set_option maxHeartbeats 4000000 in
theorem sd_hasAct_62 {d : Nat} {S : gS} {x : gd} {P : Option gv → gd → gS → Prop} (l1 : Int32) (l2 : Int32) (l3 : Int32) (s0 : Int32)
    (h : (((x.1 0 68) = (0 : Int32) → MD (d + 1) z_hasAct 85 [(0, vr 0), (1, vi l1), (2, vi l2), (3, vi l3), (4, vi s0)] [vi 1] S x P) ∧ (¬ ((x.1 0 68) = (0 : Int32)) → vp_in l1 6 ∧ ((¬ ((x.1 80 (l1 : Int32).toNatClampNeg) = (0 : Int32)) → MD (d + 1) z_hasAct 85 [(0, vr 0), (1, vi l1), (2, vi l2), (3, vi l3), (4, vi s0)] [vi 0] S x P) ∧ ((x.1 80 (l1 : Int32).toNatClampNeg) = (0 : Int32) → MD (d + 1) z_hasAct 85 [(0, vr 0), (1, vi l1), (2, vi l2), (3, vi l3), (4, vi s0)] [vi 1] S x P))))) :
    MD (d + 1) z_hasAct 62 [(0, vr 0), (1, vi l1), (2, vi l2), (3, vi l3)] [vi s0] S x P := by
  refine MD_lift (fun G z Q k => T_istore (lv2 := [(4, vi s0), (0, vr 0), (1, vi l1), (2, vi l2), (3, vi l3)]) (dk dt_hasAct 38 rfl) (by decide) rfl k) ?_
  refine MD_lift (fun G z Q k => T_aload_n 1 (dk dt_hasAct 39 rfl) rfl rfl k) ?_
  refine MD_read (fun z => z.1 0 68) (fun G z Q k => T_getI 0 68 (dk dt_hasAct 40 rfl) fl_608 mk_0 ml_0 (by decide) rfl k) (fun z e => e 0 68 (Or.inl (core_f (by decide)))) ?_
  by_cases c1 : (x.1 0 68) = (0 : Int32)
  · have h := h.1 c1
    refine MD_lift (fun G z Q k => T_if_eq 80 (dk dt_hasAct 41 rfl) (by decide) (fun _ => k) (fun q => absurd c1 q)) ?_
    refine MD_lift (fun G z Q k => T_iconst (v := 1) (dk dt_hasAct 47 rfl) (by decide +kernel) k) ?_
    refine MD_lift (fun G z Q k => T_goto 85 (dk dt_hasAct 48 rfl) (by decide) k) ?_
    exact MD_lift (fun G z Q k => T_sub [1, 2, 3, 4, 0] rfl k) h
  · have h := h.2 c1
    refine MD_lift (fun G z Q k => T_if_eq 80 (dk dt_hasAct 41 rfl) (by decide) (fun q => absurd q c1) (fun _ => k)) ?_
    refine MD_lift (fun G z Q k => T_aload_n 1 (dk dt_hasAct 42 rfl) rfl rfl k) ?_
    refine MD_lift (fun G z Q k => T_getR 0 79 80 (dk dt_hasAct 43 rfl) fl_172 mk_0 ml_0 (by decide) rfl rfl k) ?_
    refine MD_lift (fun G z Q k => T_iload_n 2 (dk dt_hasAct 44 rfl) rfl rfl k) ?_
    obtain ⟨h2, h⟩ := h
    refine MD_read (fun z => z.1 80 (l1 : Int32).toNatClampNeg) (fun G z Q k => T_iald 80 6 (dk dt_hasAct 45 rfl) mk_80 ml_80 h2 k) (fun z e => e 80 _ (Or.inl (core_a (by decide) h2))) ?_
    by_cases c3 : (x.1 80 (l1 : Int32).toNatClampNeg) = (0 : Int32)
    · have h := h.2 c3
      refine MD_lift (fun G z Q k => T_if_ne 84 (dk dt_hasAct 46 rfl) (by decide) (fun q => absurd c3 q) (fun _ => k)) ?_
      refine MD_lift (fun G z Q k => T_iconst (v := 1) (dk dt_hasAct 47 rfl) (by decide +kernel) k) ?_
      refine MD_lift (fun G z Q k => T_goto 85 (dk dt_hasAct 48 rfl) (by decide) k) ?_
      exact MD_lift (fun G z Q k => T_sub [1, 2, 3, 4, 0] rfl k) h
    · have h := h.1 c3
      refine MD_lift (fun G z Q k => T_if_ne 84 (dk dt_hasAct 46 rfl) (by decide) (fun _ => k) (fun q => absurd q c3)) ?_
      refine MD_lift (fun G z Q k => T_iconst (v := 0) (dk dt_hasAct 49 rfl) (by decide +kernel) k) ?_
      exact MD_lift (fun G z Q k => T_sub [1, 2, 3, 4, 0] rfl k) h
set_option maxRecDepth 100000 in
set_option maxHeartbeats 4000000 in
theorem sd_hasAct_85 {d : Nat} {S : gS} {x : gd} {P : Option gv → gd → gS → Prop} (l1 : Int32) (l2 : Int32) (l3 : Int32) (l4 : Int32) (s0 : Int32)
    (h : ((l3 = (0 : Int32) → MD (d + 1) z_hasAct 124 [(0, vr 0), (1, vi l1), (2, vi l2), (3, vi l3), (5, vi s0)] [vi 0] S x P) ∧ (¬ (l3 = (0 : Int32)) → ((l3 = (12 : Int32) → MD (d + 1) z_hasAct 124 [(0, vr 0), (1, vi l1), (2, vi l2), (3, vi l3), (5, vi s0)] [vi 0] S x P) ∧ (¬ (l3 = (12 : Int32)) → ((l3 = (13 : Int32) → MD (d + 1) z_hasAct 124 [(0, vr 0), (1, vi l1), (2, vi l2), (3, vi l3), (5, vi s0)] [vi 0] S x P) ∧ (¬ (l3 = (13 : Int32)) → ((l3 = (14 : Int32) → MD (d + 1) z_hasAct 124 [(0, vr 0), (1, vi l1), (2, vi l2), (3, vi l3), (5, vi s0)] [vi 0] S x P) ∧ (¬ (l3 = (14 : Int32)) → ((¬ (l3 = (1 : Int32)) → MD (d + 1) z_hasAct 124 [(0, vr 0), (1, vi l1), (2, vi l2), (3, vi l3), (5, vi s0)] [vi 1] S x P) ∧ (l3 = (1 : Int32) → ((l4 = (0 : Int32) → MD (d + 1) z_hasAct 124 [(0, vr 0), (1, vi l1), (2, vi l2), (3, vi l3), (5, vi s0)] [vi 0] S x P) ∧ (¬ (l4 = (0 : Int32)) → MD (d + 1) z_hasAct 124 [(0, vr 0), (1, vi l1), (2, vi l2), (3, vi l3), (5, vi s0)] [vi 1] S x P))))))))))))) :
    MD (d + 1) z_hasAct 85 [(0, vr 0), (1, vi l1), (2, vi l2), (3, vi l3), (4, vi l4)] [vi s0] S x P := by
  refine MD_lift (fun G z Q k => T_istore (lv2 := [(5, vi s0), (0, vr 0), (1, vi l1), (2, vi l2), (3, vi l3), (4, vi l4)]) (dk dt_hasAct 50 rfl) (by decide) rfl k) ?_
  refine MD_lift (fun G z Q k => T_iload_n 4 (dk dt_hasAct 51 rfl) rfl rfl k) ?_
  by_cases c1 : l3 = (0 : Int32)
  · have h := h.1 c1
    refine MD_lift (fun G z Q k => T_if_eq 123 (dk dt_hasAct 52 rfl) (by decide) (fun _ => k) (fun q => absurd c1 q)) ?_
    refine MD_lift (fun G z Q k => T_iconst (v := 0) (dk dt_hasAct 69 rfl) (by decide +kernel) k) ?_
    exact MD_lift (fun G z Q k => T_sub [1, 2, 3, 4, 0] rfl k) h
  · have h := h.2 c1
    refine MD_lift (fun G z Q k => T_if_eq 123 (dk dt_hasAct 52 rfl) (by decide) (fun q => absurd q c1) (fun _ => k)) ?_
    refine MD_lift (fun G z Q k => T_iload_n 4 (dk dt_hasAct 53 rfl) rfl rfl k) ?_
    refine MD_lift (fun G z Q k => T_bipush (v := 12) (dk dt_hasAct 54 rfl) (by decide +kernel) k) ?_
    by_cases c2 : l3 = (12 : Int32)
    · have h := h.1 c2
      refine MD_lift (fun G z Q k => T_icmp_eq 123 (dk dt_hasAct 55 rfl) (by decide) (fun _ => k) (fun q => absurd c2 q)) ?_
      refine MD_lift (fun G z Q k => T_iconst (v := 0) (dk dt_hasAct 69 rfl) (by decide +kernel) k) ?_
      exact MD_lift (fun G z Q k => T_sub [1, 2, 3, 4, 0] rfl k) h
    · have h := h.2 c2
      refine MD_lift (fun G z Q k => T_icmp_eq 123 (dk dt_hasAct 55 rfl) (by decide) (fun q => absurd q c2) (fun _ => k)) ?_
      refine MD_lift (fun G z Q k => T_iload_n 4 (dk dt_hasAct 56 rfl) rfl rfl k) ?_
      refine MD_lift (fun G z Q k => T_bipush (v := 13) (dk dt_hasAct 57 rfl) (by decide +kernel) k) ?_
      by_cases c3 : l3 = (13 : Int32)
      · have h := h.1 c3
        refine MD_lift (fun G z Q k => T_icmp_eq 123 (dk dt_hasAct 58 rfl) (by decide) (fun _ => k) (fun q => absurd c3 q)) ?_
        refine MD_lift (fun G z Q k => T_iconst (v := 0) (dk dt_hasAct 69 rfl) (by decide +kernel) k) ?_
        exact MD_lift (fun G z Q k => T_sub [1, 2, 3, 4, 0] rfl k) h
      · have h := h.2 c3
        refine MD_lift (fun G z Q k => T_icmp_eq 123 (dk dt_hasAct 58 rfl) (by decide) (fun q => absurd q c3) (fun _ => k)) ?_
        refine MD_lift (fun G z Q k => T_iload_n 4 (dk dt_hasAct 59 rfl) rfl rfl k) ?_
        refine MD_lift (fun G z Q k => T_bipush (v := 14) (dk dt_hasAct 60 rfl) (by decide +kernel) k) ?_
        by_cases c4 : l3 = (14 : Int32)
        · have h := h.1 c4
          refine MD_lift (fun G z Q k => T_icmp_eq 123 (dk dt_hasAct 61 rfl) (by decide) (fun _ => k) (fun q => absurd c4 q)) ?_
          refine MD_lift (fun G z Q k => T_iconst (v := 0) (dk dt_hasAct 69 rfl) (by decide +kernel) k) ?_
          exact MD_lift (fun G z Q k => T_sub [1, 2, 3, 4, 0] rfl k) h
        · have h := h.2 c4
          refine MD_lift (fun G z Q k => T_icmp_eq 123 (dk dt_hasAct 61 rfl) (by decide) (fun q => absurd q c4) (fun _ => k)) ?_
          refine MD_lift (fun G z Q k => T_iload_n 4 (dk dt_hasAct 62 rfl) rfl rfl k) ?_
          refine MD_lift (fun G z Q k => T_iconst (v := 1) (dk dt_hasAct 63 rfl) (by decide +kernel) k) ?_
          by_cases c5 : l3 = (1 : Int32)
          · have h := h.2 c5
            refine MD_lift (fun G z Q k => T_icmp_ne 119 (dk dt_hasAct 64 rfl) (by decide) (fun q => absurd c5 q) (fun _ => k)) ?_
            refine MD_lift (fun G z Q k => T_iload 5 (dk dt_hasAct 65 rfl) rfl k) ?_
            by_cases c6 : l4 = (0 : Int32)
            · have h := h.1 c6
              refine MD_lift (fun G z Q k => T_if_eq 123 (dk dt_hasAct 66 rfl) (by decide) (fun _ => k) (fun q => absurd c6 q)) ?_
              refine MD_lift (fun G z Q k => T_iconst (v := 0) (dk dt_hasAct 69 rfl) (by decide +kernel) k) ?_
              exact MD_lift (fun G z Q k => T_sub [1, 2, 3, 4, 0] rfl k) h
            · have h := h.2 c6
              refine MD_lift (fun G z Q k => T_if_eq 123 (dk dt_hasAct 66 rfl) (by decide) (fun q => absurd q c6) (fun _ => k)) ?_
              refine MD_lift (fun G z Q k => T_iconst (v := 1) (dk dt_hasAct 67 rfl) (by decide +kernel) k) ?_
              refine MD_lift (fun G z Q k => T_goto 124 (dk dt_hasAct 68 rfl) (by decide) k) ?_
              exact MD_lift (fun G z Q k => T_sub [1, 2, 3, 4, 0] rfl k) h
          · have h := h.1 c5
            refine MD_lift (fun G z Q k => T_icmp_ne 119 (dk dt_hasAct 64 rfl) (by decide) (fun _ => k) (fun q => absurd q c5)) ?_
            refine MD_lift (fun G z Q k => T_iconst (v := 1) (dk dt_hasAct 67 rfl) (by decide +kernel) k) ?_
            refine MD_lift (fun G z Q k => T_goto 124 (dk dt_hasAct 68 rfl) (by decide) k) ?_
            exact MD_lift (fun G z Q k => T_sub [1, 2, 3, 4, 0] rfl k) h
set_option maxRecDepth 100000 in
set_option maxHeartbeats 4000000 in
theorem sd_hasAct_124 {d : Nat} {S : gS} {x : gd} {P : Option gv → gd → gS → Prop} (l1 : Int32) (l2 : Int32) (l3 : Int32) (l5 : Int32) (s0 : Int32)
    (h : ((s0 = (0 : Int32) → MD (d + 1) z_hasAct 138 [(0, vr 0), (1, vi l1), (2, vi l2), (3, vi l3)] [] S x P) ∧ (¬ (s0 = (0 : Int32)) → ((¬ (l5 = (0 : Int32)) → MD (d + 1) z_hasAct 138 [(0, vr 0), (1, vi l1), (2, vi l2), (3, vi l3)] [] S x P) ∧ (l5 = (0 : Int32) → P (some (vi 0)) x S))))) :
    MD (d + 1) z_hasAct 124 [(0, vr 0), (1, vi l1), (2, vi l2), (3, vi l3), (5, vi l5)] [vi s0] S x P := by
  refine MD_lift (fun G z Q k => T_istore (lv2 := [(6, vi s0), (0, vr 0), (1, vi l1), (2, vi l2), (3, vi l3), (5, vi l5)]) (dk dt_hasAct 70 rfl) (by decide) rfl k) ?_
  refine MD_lift (fun G z Q k => T_iload 0 (dk dt_hasAct 71 rfl) rfl k) ?_
  by_cases c1 : s0 = (0 : Int32)
  · have h := h.1 c1
    refine MD_lift (fun G z Q k => T_if_eq 138 (dk dt_hasAct 72 rfl) (by decide) (fun _ => k) (fun q => absurd c1 q)) ?_
    exact MD_lift (fun G z Q k => T_sub [1, 2, 3, 4] rfl k) h
  · have h := h.2 c1
    refine MD_lift (fun G z Q k => T_if_eq 138 (dk dt_hasAct 72 rfl) (by decide) (fun q => absurd q c1) (fun _ => k)) ?_
    refine MD_lift (fun G z Q k => T_iload 5 (dk dt_hasAct 73 rfl) rfl k) ?_
    by_cases c2 : l5 = (0 : Int32)
    · have h := h.2 c2
      refine MD_lift (fun G z Q k => T_if_ne 138 (dk dt_hasAct 74 rfl) (by decide) (fun q => absurd c2 q) (fun _ => k)) ?_
      refine MD_lift (fun G z Q k => T_iconst (v := 0) (dk dt_hasAct 75 rfl) (by decide +kernel) k) ?_
      exact MD_ret (fun G z Q k => MT_iret (dk dt_hasAct 76 rfl) rfl rfl k) h
    · have h := h.1 c2
      refine MD_lift (fun G z Q k => T_if_ne 138 (dk dt_hasAct 74 rfl) (by decide) (fun _ => k) (fun q => absurd q c2)) ?_
      exact MD_lift (fun G z Q k => T_sub [1, 2, 3, 4] rfl k) h
set_option maxRecDepth 100000 in
set_option maxHeartbeats 4000000 in
theorem sd_hasAct_138 {d : Nat} {S : gS} {x : gd} {P : Option gv → gd → gS → Prop} (l1 : Int32) (l2 : Int32) (l3 : Int32)
    (h : ((l3 = (5 : Int32) → MD (d + 1) z_hasAct 149 [(0, vr 0), (1, vi l1), (2, vi l2)] [] S x P) ∧ (¬ (l3 = (5 : Int32)) → ((¬ (l3 = (15 : Int32)) → ((¬ (l3 = (10 : Int32)) → P (some (vi 1)) x S) ∧ (l3 = (10 : Int32) → vp_in l2 1500 ∧ (((x.1 56 (l2 : Int32).toNatClampNeg) = l1 → P (some (vi 0)) x S) ∧ (¬ ((x.1 56 (l2 : Int32).toNatClampNeg) = l1) → vp_in (x.1 56 (l2 : Int32).toNatClampNeg) 6 ∧ (((x.1 73 (x.1 56 (l2 : Int32).toNatClampNeg : Int32).toNatClampNeg) ≤ (1 : Int32) → P (some (vi 0)) x S) ∧ (¬ ((x.1 73 (x.1 56 (l2 : Int32).toNatClampNeg : Int32).toNatClampNeg) ≤ (1 : Int32)) → vp_in (x.1 56 (l2 : Int32).toNatClampNeg) 6 ∧ ((¬ ((x.1 80 (x.1 56 (l2 : Int32).toNatClampNeg : Int32).toNatClampNeg) = (0 : Int32)) → P (some (vi 0)) x S) ∧ ((x.1 80 (x.1 56 (l2 : Int32).toNatClampNeg : Int32).toNatClampNeg) = (0 : Int32) → P (some (vi 1)) x S))))))))) ∧ (l3 = (15 : Int32) → MD (d + 1) z_hasAct 149 [(0, vr 0), (1, vi l1), (2, vi l2)] [] S x P))))) :
    MD (d + 1) z_hasAct 138 [(0, vr 0), (1, vi l1), (2, vi l2), (3, vi l3)] [] S x P := by
  refine MD_lift (fun G z Q k => T_iload_n 3 (dk dt_hasAct 77 rfl) rfl rfl k) ?_
  refine MD_lift (fun G z Q k => T_iconst (v := 5) (dk dt_hasAct 78 rfl) (by decide +kernel) k) ?_
  by_cases c1 : l3 = (5 : Int32)
  · have h := h.1 c1
    refine MD_lift (fun G z Q k => T_icmp_eq 149 (dk dt_hasAct 79 rfl) (by decide) (fun _ => k) (fun q => absurd c1 q)) ?_
    exact MD_lift (fun G z Q k => T_sub [0, 1, 2] rfl k) h
  · have h := h.2 c1
    refine MD_lift (fun G z Q k => T_icmp_eq 149 (dk dt_hasAct 79 rfl) (by decide) (fun q => absurd q c1) (fun _ => k)) ?_
    refine MD_lift (fun G z Q k => T_iload_n 3 (dk dt_hasAct 80 rfl) rfl rfl k) ?_
    refine MD_lift (fun G z Q k => T_bipush (v := 15) (dk dt_hasAct 81 rfl) (by decide +kernel) k) ?_
    by_cases c2 : l3 = (15 : Int32)
    · have h := h.2 c2
      refine MD_lift (fun G z Q k => T_icmp_ne 185 (dk dt_hasAct 82 rfl) (by decide) (fun q => absurd c2 q) (fun _ => k)) ?_
      exact MD_lift (fun G z Q k => T_sub [0, 1, 2] rfl k) h
    · have h := h.1 c2
      refine MD_lift (fun G z Q k => T_icmp_ne 185 (dk dt_hasAct 82 rfl) (by decide) (fun _ => k) (fun q => absurd q c2)) ?_
      refine MD_lift (fun G z Q k => T_iload_n 3 (dk dt_hasAct 105 rfl) rfl rfl k) ?_
      refine MD_lift (fun G z Q k => T_bipush (v := 10) (dk dt_hasAct 106 rfl) (by decide +kernel) k) ?_
      by_cases c3 : l3 = (10 : Int32)
      · have h := h.2 c3
        refine MD_lift (fun G z Q k => T_icmp_ne 232 (dk dt_hasAct 107 rfl) (by decide) (fun q => absurd c3 q) (fun _ => k)) ?_
        refine MD_lift (fun G z Q k => T_aload_n 0 (dk dt_hasAct 108 rfl) rfl rfl k) ?_
        refine MD_lift (fun G z Q k => T_getR 0 55 56 (dk dt_hasAct 109 rfl) fl_109 mk_0 ml_0 (by decide) rfl rfl k) ?_
        refine MD_lift (fun G z Q k => T_iload_n 2 (dk dt_hasAct 110 rfl) rfl rfl k) ?_
        obtain ⟨h4, h⟩ := h
        refine MD_read (fun z => z.1 56 (l2 : Int32).toNatClampNeg) (fun G z Q k => T_iald 56 1500 (dk dt_hasAct 111 rfl) mk_56 ml_56 h4 k) (fun z e => e 56 _ (Or.inl (core_a (by decide) h4))) ?_
        refine MD_lift (fun G z Q k => T_istore (lv2 := [(7, vi (x.1 56 (l2 : Int32).toNatClampNeg)), (0, vr 0), (1, vi l1), (2, vi l2), (3, vi l3)]) (dk dt_hasAct 112 rfl) (by decide) rfl k) ?_
        refine MD_lift (fun G z Q k => T_iload 0 (dk dt_hasAct 113 rfl) rfl k) ?_
        refine MD_lift (fun G z Q k => T_iload_n 2 (dk dt_hasAct 114 rfl) rfl rfl k) ?_
        by_cases c5 : (x.1 56 (l2 : Int32).toNatClampNeg) = l1
        · have h := h.1 c5
          refine MD_lift (fun G z Q k => T_icmp_eq 230 (dk dt_hasAct 115 rfl) (by decide) (fun _ => k) (fun q => absurd c5 q)) ?_
          refine MD_lift (fun G z Q k => T_iconst (v := 0) (dk dt_hasAct 129 rfl) (by decide +kernel) k) ?_
          exact MD_ret (fun G z Q k => MT_iret (dk dt_hasAct 130 rfl) rfl rfl k) h
        · have h := h.2 c5
          refine MD_lift (fun G z Q k => T_icmp_eq 230 (dk dt_hasAct 115 rfl) (by decide) (fun q => absurd q c5) (fun _ => k)) ?_
          refine MD_lift (fun G z Q k => T_aload_n 1 (dk dt_hasAct 116 rfl) rfl rfl k) ?_
          refine MD_lift (fun G z Q k => T_getR 0 72 73 (dk dt_hasAct 117 rfl) fl_151 mk_0 ml_0 (by decide) rfl rfl k) ?_
          refine MD_lift (fun G z Q k => T_iload 0 (dk dt_hasAct 118 rfl) rfl k) ?_
          obtain ⟨h6, h⟩ := h
          refine MD_read (fun z => z.1 73 (x.1 56 (l2 : Int32).toNatClampNeg : Int32).toNatClampNeg) (fun G z Q k => T_iald 73 6 (dk dt_hasAct 119 rfl) mk_73 ml_73 h6 k) (fun z e => e 73 _ (Or.inl (core_a (by decide) h6))) ?_
          refine MD_lift (fun G z Q k => T_iconst (v := 1) (dk dt_hasAct 120 rfl) (by decide +kernel) k) ?_
          by_cases c7 : (x.1 73 (x.1 56 (l2 : Int32).toNatClampNeg : Int32).toNatClampNeg) ≤ (1 : Int32)
          · have h := h.1 c7
            refine MD_lift (fun G z Q k => T_icmp_le 230 (dk dt_hasAct 121 rfl) (by decide) (fun _ => k) (fun q => absurd c7 q)) ?_
            refine MD_lift (fun G z Q k => T_iconst (v := 0) (dk dt_hasAct 129 rfl) (by decide +kernel) k) ?_
            exact MD_ret (fun G z Q k => MT_iret (dk dt_hasAct 130 rfl) rfl rfl k) h
          · have h := h.2 c7
            refine MD_lift (fun G z Q k => T_icmp_le 230 (dk dt_hasAct 121 rfl) (by decide) (fun q => absurd q c7) (fun _ => k)) ?_
            refine MD_lift (fun G z Q k => T_aload_n 1 (dk dt_hasAct 122 rfl) rfl rfl k) ?_
            refine MD_lift (fun G z Q k => T_getR 0 79 80 (dk dt_hasAct 123 rfl) fl_172 mk_0 ml_0 (by decide) rfl rfl k) ?_
            refine MD_lift (fun G z Q k => T_iload 0 (dk dt_hasAct 124 rfl) rfl k) ?_
            obtain ⟨h8, h⟩ := h
            refine MD_read (fun z => z.1 80 (x.1 56 (l2 : Int32).toNatClampNeg : Int32).toNatClampNeg) (fun G z Q k => T_iald 80 6 (dk dt_hasAct 125 rfl) mk_80 ml_80 h8 k) (fun z e => e 80 _ (Or.inl (core_a (by decide) h8))) ?_
            by_cases c9 : (x.1 80 (x.1 56 (l2 : Int32).toNatClampNeg : Int32).toNatClampNeg) = (0 : Int32)
            · have h := h.2 c9
              refine MD_lift (fun G z Q k => T_if_ne 230 (dk dt_hasAct 126 rfl) (by decide) (fun q => absurd c9 q) (fun _ => k)) ?_
              refine MD_lift (fun G z Q k => T_iconst (v := 1) (dk dt_hasAct 127 rfl) (by decide +kernel) k) ?_
              refine MD_lift (fun G z Q k => T_goto 231 (dk dt_hasAct 128 rfl) (by decide) k) ?_
              exact MD_ret (fun G z Q k => MT_iret (dk dt_hasAct 130 rfl) rfl rfl k) h
            · have h := h.1 c9
              refine MD_lift (fun G z Q k => T_if_ne 230 (dk dt_hasAct 126 rfl) (by decide) (fun _ => k) (fun q => absurd q c9)) ?_
              refine MD_lift (fun G z Q k => T_iconst (v := 0) (dk dt_hasAct 129 rfl) (by decide +kernel) k) ?_
              exact MD_ret (fun G z Q k => MT_iret (dk dt_hasAct 130 rfl) rfl rfl k) h
      · have h := h.1 c3
        refine MD_lift (fun G z Q k => T_icmp_ne 232 (dk dt_hasAct 107 rfl) (by decide) (fun _ => k) (fun q => absurd q c3)) ?_
        refine MD_lift (fun G z Q k => T_iconst (v := 1) (dk dt_hasAct 131 rfl) (by decide +kernel) k) ?_
        exact MD_ret (fun G z Q k => MT_iret (dk dt_hasAct 132 rfl) rfl rfl k) h
set_option maxRecDepth 100000 in
set_option maxHeartbeats 4000000 in
theorem sd_hasAct_149 {d : Nat} {S : gS} {x : gd} {P : Option gv → gd → gS → Prop} (l1 : Int32) (l2 : Int32)
    (h : vp_in l2 1500 ∧ vp_in (x.1 56 (l2 : Int32).toNatClampNeg) 6 ∧ (((x.1 71 (x.1 56 (l2 : Int32).toNatClampNeg : Int32).toNatClampNeg) = (-1 : Int32) → P (some (vi 1)) x S) ∧ (¬ ((x.1 71 (x.1 56 (l2 : Int32).toNatClampNeg : Int32).toNatClampNeg) = (-1 : Int32)) → vp_in l2 1500 ∧ vp_in (x.1 56 (l2 : Int32).toNatClampNeg) 6 ∧ ((¬ ((x.1 71 (x.1 56 (l2 : Int32).toNatClampNeg : Int32).toNatClampNeg) = l1) → P (some (vi 0)) x S) ∧ ((x.1 71 (x.1 56 (l2 : Int32).toNatClampNeg : Int32).toNatClampNeg) = l1 → P (some (vi 1)) x S))))) :
    MD (d + 1) z_hasAct 149 [(0, vr 0), (1, vi l1), (2, vi l2)] [] S x P := by
  refine MD_lift (fun G z Q k => T_aload_n 0 (dk dt_hasAct 83 rfl) rfl rfl k) ?_
  refine MD_lift (fun G z Q k => T_getR 0 70 71 (dk dt_hasAct 84 rfl) fl_145 mk_0 ml_0 (by decide) rfl rfl k) ?_
  refine MD_lift (fun G z Q k => T_aload_n 0 (dk dt_hasAct 85 rfl) rfl rfl k) ?_
  refine MD_lift (fun G z Q k => T_getR 0 55 56 (dk dt_hasAct 86 rfl) fl_109 mk_0 ml_0 (by decide) rfl rfl k) ?_
  refine MD_lift (fun G z Q k => T_iload_n 2 (dk dt_hasAct 87 rfl) rfl rfl k) ?_
  obtain ⟨h1, h⟩ := h
  refine MD_read (fun z => z.1 56 (l2 : Int32).toNatClampNeg) (fun G z Q k => T_iald 56 1500 (dk dt_hasAct 88 rfl) mk_56 ml_56 h1 k) (fun z e => e 56 _ (Or.inl (core_a (by decide) h1))) ?_
  obtain ⟨h2, h⟩ := h
  refine MD_read (fun z => z.1 71 (x.1 56 (l2 : Int32).toNatClampNeg : Int32).toNatClampNeg) (fun G z Q k => T_iald 71 6 (dk dt_hasAct 89 rfl) mk_71 ml_71 h2 k) (fun z e => e 71 _ (Or.inl (core_a (by decide) h2))) ?_
  refine MD_lift (fun G z Q k => T_iconst (v := (-1)) (dk dt_hasAct 90 rfl) (by decide +kernel) k) ?_
  by_cases c3 : (x.1 71 (x.1 56 (l2 : Int32).toNatClampNeg : Int32).toNatClampNeg) = (-1 : Int32)
  · have h := h.1 c3
    refine MD_lift (fun G z Q k => T_icmp_eq 179 (dk dt_hasAct 91 rfl) (by decide) (fun _ => k) (fun q => absurd c3 q)) ?_
    refine MD_lift (fun G z Q k => T_iconst (v := 1) (dk dt_hasAct 101 rfl) (by decide +kernel) k) ?_
    refine MD_lift (fun G z Q k => T_goto 184 (dk dt_hasAct 102 rfl) (by decide) k) ?_
    exact MD_ret (fun G z Q k => MT_iret (dk dt_hasAct 104 rfl) rfl rfl k) h
  · have h := h.2 c3
    refine MD_lift (fun G z Q k => T_icmp_eq 179 (dk dt_hasAct 91 rfl) (by decide) (fun q => absurd q c3) (fun _ => k)) ?_
    refine MD_lift (fun G z Q k => T_aload_n 0 (dk dt_hasAct 92 rfl) rfl rfl k) ?_
    refine MD_lift (fun G z Q k => T_getR 0 70 71 (dk dt_hasAct 93 rfl) fl_145 mk_0 ml_0 (by decide) rfl rfl k) ?_
    refine MD_lift (fun G z Q k => T_aload_n 0 (dk dt_hasAct 94 rfl) rfl rfl k) ?_
    refine MD_lift (fun G z Q k => T_getR 0 55 56 (dk dt_hasAct 95 rfl) fl_109 mk_0 ml_0 (by decide) rfl rfl k) ?_
    refine MD_lift (fun G z Q k => T_iload_n 2 (dk dt_hasAct 96 rfl) rfl rfl k) ?_
    obtain ⟨h4, h⟩ := h
    refine MD_read (fun z => z.1 56 (l2 : Int32).toNatClampNeg) (fun G z Q k => T_iald 56 1500 (dk dt_hasAct 97 rfl) mk_56 ml_56 h4 k) (fun z e => e 56 _ (Or.inl (core_a (by decide) h4))) ?_
    obtain ⟨h5, h⟩ := h
    refine MD_read (fun z => z.1 71 (x.1 56 (l2 : Int32).toNatClampNeg : Int32).toNatClampNeg) (fun G z Q k => T_iald 71 6 (dk dt_hasAct 98 rfl) mk_71 ml_71 h5 k) (fun z e => e 71 _ (Or.inl (core_a (by decide) h5))) ?_
    refine MD_lift (fun G z Q k => T_iload_n 1 (dk dt_hasAct 99 rfl) rfl rfl k) ?_
    by_cases c6 : (x.1 71 (x.1 56 (l2 : Int32).toNatClampNeg : Int32).toNatClampNeg) = l1
    · have h := h.2 c6
      refine MD_lift (fun G z Q k => T_icmp_ne 183 (dk dt_hasAct 100 rfl) (by decide) (fun q => absurd c6 q) (fun _ => k)) ?_
      refine MD_lift (fun G z Q k => T_iconst (v := 1) (dk dt_hasAct 101 rfl) (by decide +kernel) k) ?_
      refine MD_lift (fun G z Q k => T_goto 184 (dk dt_hasAct 102 rfl) (by decide) k) ?_
      exact MD_ret (fun G z Q k => MT_iret (dk dt_hasAct 104 rfl) rfl rfl k) h
    · have h := h.1 c6
      refine MD_lift (fun G z Q k => T_icmp_ne 183 (dk dt_hasAct 100 rfl) (by decide) (fun _ => k) (fun q => absurd q c6)) ?_
      refine MD_lift (fun G z Q k => T_iconst (v := 0) (dk dt_hasAct 103 rfl) (by decide +kernel) k) ?_
      exact MD_ret (fun G z Q k => MT_iret (dk dt_hasAct 104 rfl) rfl rfl k) h
set_option maxRecDepth 100000 in
set_option maxHeartbeats 4000000 in
theorem sd_choose_0 {d : Nat} {S : gS} {x : gd} {P : Option gv → gd → gS → Prop} (l1 : Int32) (l2 : Int32) (l3 : Int32)
    (h : S 0 84 ∧ vp_in (x.1 0 84) 200 ∧ (∀ x3 : gd, x3 = si x 86 (x.1 0 84 : Int32).toNatClampNeg l1 → (sadd S 86 ((x.1 0 84 : Int32).toNatClampNeg)) 0 84 ∧ vp_in (x3.1 0 84) 200 ∧ (∀ x6 : gd, x6 = si x3 87 (x3.1 0 84 : Int32).toNatClampNeg l2 → (sadd (sadd S 86 ((x.1 0 84 : Int32).toNatClampNeg)) 87 ((x3.1 0 84 : Int32).toNatClampNeg)) 0 84 ∧ vp_in (x6.1 0 84) 200 ∧ (∀ x9 : gd, x9 = si x6 88 (x6.1 0 84 : Int32).toNatClampNeg l3 → (sadd (sadd (sadd S 86 ((x.1 0 84 : Int32).toNatClampNeg)) 87 ((x3.1 0 84 : Int32).toNatClampNeg)) 88 ((x6.1 0 84 : Int32).toNatClampNeg)) 0 84 ∧ (∀ x11 : gd, x11 = si x9 0 84 ((x9.1 0 84) + 1) → P none x11 (sadd (sadd (sadd (sadd S 86 ((x.1 0 84 : Int32).toNatClampNeg)) 87 ((x3.1 0 84 : Int32).toNatClampNeg)) 88 ((x6.1 0 84 : Int32).toNatClampNeg)) 0 84)))))) :
    MD d z_choose 0 [(0, vr 0), (1, vi l1), (2, vi l2), (3, vi l3)] [] S x P := by
  refine MD_lift (fun G z Q k => T_aload_n 0 (dk dt_choose 0 rfl) rfl rfl k) ?_
  refine MD_lift (fun G z Q k => T_getR 0 85 86 (dk dt_choose 1 rfl) fl_184 mk_0 ml_0 (by decide) rfl rfl k) ?_
  refine MD_lift (fun G z Q k => T_aload_n 0 (dk dt_choose 2 rfl) rfl rfl k) ?_
  obtain ⟨h1, h⟩ := h
  refine MD_read (fun z => z.1 0 84) (fun G z Q k => T_getI 0 84 (dk dt_choose 3 rfl) fl_611 mk_0 ml_0 (by decide) rfl k) (fun z e => e 0 84 (Or.inr h1)) ?_
  refine MD_lift (fun G z Q k => T_iload_n 1 (dk dt_choose 4 rfl) rfl rfl k) ?_
  obtain ⟨h2, h⟩ := h
  obtain ⟨x3, ex3⟩ : ∃ z, z = si x 86 (x.1 0 84 : Int32).toNatClampNeg l1 := ⟨_, rfl⟩
  have h := h x3 ex3
  refine MD_wr 86 ((x.1 0 84 : Int32).toNatClampNeg) l1 (fun G z Q k => T_iast 86 200 (dk dt_choose 5 rfl) mk_86 ml_86 h2 k) (hm_a (by decide) _ _) ?_
  rw [← ex3]
  refine MD_lift (fun G z Q k => T_aload_n 0 (dk dt_choose 6 rfl) rfl rfl k) ?_
  refine MD_lift (fun G z Q k => T_getR 0 86 87 (dk dt_choose 7 rfl) fl_187 mk_0 ml_0 (by decide) rfl rfl k) ?_
  refine MD_lift (fun G z Q k => T_aload_n 0 (dk dt_choose 8 rfl) rfl rfl k) ?_
  obtain ⟨h4, h⟩ := h
  refine MD_read (fun z => z.1 0 84) (fun G z Q k => T_getI 0 84 (dk dt_choose 9 rfl) fl_611 mk_0 ml_0 (by decide) rfl k) (fun z e => e 0 84 (Or.inr h4)) ?_
  refine MD_lift (fun G z Q k => T_iload_n 2 (dk dt_choose 10 rfl) rfl rfl k) ?_
  obtain ⟨h5, h⟩ := h
  obtain ⟨x6, ex6⟩ : ∃ z, z = si x3 87 (x3.1 0 84 : Int32).toNatClampNeg l2 := ⟨_, rfl⟩
  have h := h x6 ex6
  refine MD_wr 87 ((x3.1 0 84 : Int32).toNatClampNeg) l2 (fun G z Q k => T_iast 87 200 (dk dt_choose 11 rfl) mk_87 ml_87 h5 k) (hm_a (by decide) _ _) ?_
  rw [← ex6]
  refine MD_lift (fun G z Q k => T_aload_n 0 (dk dt_choose 12 rfl) rfl rfl k) ?_
  refine MD_lift (fun G z Q k => T_getR 0 87 88 (dk dt_choose 13 rfl) fl_190 mk_0 ml_0 (by decide) rfl rfl k) ?_
  refine MD_lift (fun G z Q k => T_aload_n 0 (dk dt_choose 14 rfl) rfl rfl k) ?_
  obtain ⟨h7, h⟩ := h
  refine MD_read (fun z => z.1 0 84) (fun G z Q k => T_getI 0 84 (dk dt_choose 15 rfl) fl_611 mk_0 ml_0 (by decide) rfl k) (fun z e => e 0 84 (Or.inr h7)) ?_
  refine MD_lift (fun G z Q k => T_iload_n 3 (dk dt_choose 16 rfl) rfl rfl k) ?_
  obtain ⟨h8, h⟩ := h
  obtain ⟨x9, ex9⟩ : ∃ z, z = si x6 88 (x6.1 0 84 : Int32).toNatClampNeg l3 := ⟨_, rfl⟩
  have h := h x9 ex9
  refine MD_wr 88 ((x6.1 0 84 : Int32).toNatClampNeg) l3 (fun G z Q k => T_iast 88 200 (dk dt_choose 17 rfl) mk_88 ml_88 h8 k) (hm_a (by decide) _ _) ?_
  rw [← ex9]
  refine MD_lift (fun G z Q k => T_aload_n 0 (dk dt_choose 18 rfl) rfl rfl k) ?_
  refine MD_lift (fun G z Q k => T_dup (dk dt_choose 19 rfl) rfl k) ?_
  obtain ⟨h10, h⟩ := h
  refine MD_read (fun z => z.1 0 84) (fun G z Q k => T_getI 0 84 (dk dt_choose 20 rfl) fl_611 mk_0 ml_0 (by decide) rfl k) (fun z e => e 0 84 (Or.inr h10)) ?_
  refine MD_lift (fun G z Q k => T_iconst (v := 1) (dk dt_choose 21 rfl) (by decide +kernel) k) ?_
  refine MD_lift (fun G z Q k => T_iadd (dk dt_choose 22 rfl) k) ?_
  obtain ⟨x11, ex11⟩ : ∃ z, z = si x9 0 84 ((x9.1 0 84) + 1) := ⟨_, rfl⟩
  have h := h x11 ex11
  refine MD_wr 0 84 ((x9.1 0 84) + 1) (fun G z Q k => T_putI 0 84 (dk dt_choose 23 rfl) fl_611 mk_0 ml_0 (by decide) rfl ⟨rfl, rfl⟩ k) (hm_f (by decide) _) ?_
  rw [← ex11]
  exact MD_ret (fun G z Q k => MT_vret (dk dt_choose 24 rfl) rfl k) h
end
