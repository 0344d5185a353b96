set_option maxRecDepth 100000 in
set_option maxHeartbeats 4000000 in
theorem sd_lookAt_0 {d : Nat} {S : gS} {x : gd} {P : Option gv → gd → gS → Prop} (l1 : Int32)
    (h : vp_in l1 6 ∧ MD d z_sortOf 0 [(0, vr 0), (1, vi l1)] [] S x (Di (fun r3 x2 S2 => (∀ x4 : gd, x4 = si x2 0 89 0 → vp_in (x.1 74 (l1 : Int32).toNatClampNeg) 1500 ∧ (∀ x6 : gd, x6 = si x4 0 88 (x4.1 56 (x.1 74 (l1 : Int32).toNatClampNeg : Int32).toNatClampNeg) → (∀ x7 : gd, x7 = si x6 0 90 0 → (∀ x8 : gd, x8 = si x7 0 91 0 → ((¬ (r3 = (15 : Int32)) → vp_in (x.1 74 (l1 : Int32).toNatClampNeg) 1500 ∧ (((x8.1 58 (x.1 74 (l1 : Int32).toNatClampNeg : Int32).toNatClampNeg) = (-1 : Int32) → MD (d + 1) z_lookAt 127 [(0, vr 0), (1, vi l1), (2, vi (x.1 74 (l1 : Int32).toNatClampNeg)), (3, vi r3)] [] (sadd (sadd (sadd (sadd S2 0 89) 0 88) 0 90) 0 91) x8 P) ∧ (¬ ((x8.1 58 (x.1 74 (l1 : Int32).toNatClampNeg : Int32).toNatClampNeg) = (-1 : Int32)) → vp_in (x.1 74 (l1 : Int32).toNatClampNeg) 1500 ∧ MD d z_worked 0 [(0, vr 0), (1, vi (x8.1 58 (x.1 74 (l1 : Int32).toNatClampNeg : Int32).toNatClampNeg)), (2, vi l1)] [] (sadd (sadd (sadd (sadd S2 0 89) 0 88) 0 90) 0 91) x8 (Di (fun r14 x13 S13 => S13 0 82 ∧ (((x13.1 0 82) ≤ (0 : Int32) → vp_in (x.1 74 (l1 : Int32).toNatClampNeg) 1500 ∧ MD d z_in 0 [(0, vi r14), (1, vi 0), (2, vi ((x13.1 57 (x.1 74 (l1 : Int32).toNatClampNeg : Int32).toNatClampNeg) - 1))] [] S13 x13 (Di (fun r19 x18 S18 => ((¬ (r19 = (0 : Int32)) → vp_in (x.1 74 (l1 : Int32).toNatClampNeg) 1500 ∧ (∀ x24 : gd, x24 = si x18 0 88 ((x18.1 56 (x.1 74 (l1 : Int32).toNatClampNeg : Int32).toNatClampNeg) + r14) → MD (d + 1) z_lookAt 127 [(0, vr 0), (1, vi l1), (2, vi (x.1 74 (l1 : Int32).toNatClampNeg)), (3, vi r3)] [] (sadd S18 0 88) x24 P)) ∧ (r19 = (0 : Int32) → (∀ x21 : gd, x21 = si x18 0 89 2 → (∀ x22 : gd, x22 = si x21 0 88 (-1) → P none x22 (sadd (sadd S18 0 89) 0 88)))))))) ∧ (¬ ((x13.1 0 82) ≤ (0 : Int32)) → (∀ x25 : gd, x25 = si x13 0 89 1 → (∀ x26 : gd, x26 = si x25 0 88 (-1) → P none x26 (sadd (sadd S13 0 89) 0 88)))))))))) ∧ (r3 = (15 : Int32) → P none x8 (sadd (sadd (sadd (sadd S2 0 89) 0 88) 0 90) 0 91)))))))))) :
    MD (d + 1) z_lookAt 0 [(0, vr 0), (1, vi l1)] [] S x P := by
  refine MD_lift (fun G z Q k => T_aload_n 0 (dk dt_lookAt 0 rfl) rfl rfl k) ?_
  refine MD_lift (fun G z Q k => T_getR 0 73 74 (dk dt_lookAt 1 rfl) fl_154 mk_0 ml_0 (by decide) rfl rfl k) ?_
  refine MD_lift (fun G z Q k => T_iload_n 1 (dk dt_lookAt 2 rfl) rfl rfl k) ?_
  obtain ⟨h1, h⟩ := h
  refine MD_read (fun z => z.1 74 (l1 : Int32).toNatClampNeg) (fun G z Q k => T_iald 74 6 (dk dt_lookAt 3 rfl) mk_74 ml_74 h1 k) (fun z e => e 74 _ (Or.inl (core_a (by decide) h1))) ?_
  refine MD_lift (fun G z Q k => T_istore_n (lv2 := [(2, vi (x.1 74 (l1 : Int32).toNatClampNeg)), (0, vr 0), (1, vi l1)]) (dk dt_lookAt 4 rfl) rfl (by decide) rfl k) ?_
  refine MD_lift (fun G z Q k => T_aload_n 1 (dk dt_lookAt 5 rfl) rfl rfl k) ?_
  refine MD_lift (fun G z Q k => T_iload_n 2 (dk dt_lookAt 6 rfl) rfl rfl k) ?_
  refine MD_calli (fun G z F Q k kk => MT_callVi [vi l1] [] rfl (dk dt_lookAt 7 rfl) cv_602 rfl rfl (Nat.le_of_ble_eq_true rfl) (Nat.le_of_ble_eq_true rfl) rfl rfl k kk) h (fun r3 x2 S2 h => ?_)
  refine MD_lift (fun G z Q k => T_istore_n (lv2 := [(3, vi r3), (2, vi (x.1 74 (l1 : Int32).toNatClampNeg)), (0, vr 0), (1, vi l1)]) (dk dt_lookAt 8 rfl) rfl (by decide) rfl k) ?_
  refine MD_lift (fun G z Q k => T_aload_n 2 (dk dt_lookAt 9 rfl) rfl rfl k) ?_
  refine MD_lift (fun G z Q k => T_iconst (v := 0) (dk dt_lookAt 10 rfl) (by decide +kernel) k) ?_
  obtain ⟨x4, ex4⟩ : ∃ z, z = si x2 0 89 0 := ⟨_, rfl⟩
  have h := h x4 ex4
  refine MD_wr 0 89 0 (fun G z Q k => T_putI 0 89 (dk dt_lookAt 11 rfl) fl_620 mk_0 ml_0 (by decide) rfl ⟨rfl, rfl⟩ k) (hm_f (by decide) _) ?_
  rw [← ex4]
  refine MD_lift (fun G z Q k => T_aload_n 2 (dk dt_lookAt 12 rfl) rfl rfl k) ?_
  refine MD_lift (fun G z Q k => T_aload_n 2 (dk dt_lookAt 13 rfl) rfl rfl k) ?_
  refine MD_lift (fun G z Q k => T_getR 0 55 56 (dk dt_lookAt 14 rfl) fl_109 mk_0 ml_0 (by decide) rfl rfl k) ?_
  refine MD_lift (fun G z Q k => T_iload_n 1 (dk dt_lookAt 15 rfl) rfl rfl k) ?_
  obtain ⟨h5, h⟩ := h
  refine MD_read (fun z => z.1 56 (x.1 74 (l1 : Int32).toNatClampNeg : Int32).toNatClampNeg) (fun G z Q k => T_iald 56 1500 (dk dt_lookAt 16 rfl) mk_56 ml_56 h5 k) (fun z e => e 56 _ (Or.inl (core_a (by decide) h5))) ?_
  obtain ⟨x6, ex6⟩ : ∃ z, z = si x4 0 88 (x4.1 56 (x.1 74 (l1 : Int32).toNatClampNeg : Int32).toNatClampNeg) := ⟨_, rfl⟩
  have h := h x6 ex6
  refine MD_wr 0 88 (x4.1 56 (x.1 74 (l1 : Int32).toNatClampNeg : Int32).toNatClampNeg) (fun G z Q k => T_putI 0 88 (dk dt_lookAt 17 rfl) fl_623 mk_0 ml_0 (by decide) rfl ⟨rfl, rfl⟩ k) (hm_f (by decide) _) ?_
  rw [← ex6]
  refine MD_lift (fun G z Q k => T_aload_n 2 (dk dt_lookAt 18 rfl) rfl rfl k) ?_
  refine MD_lift (fun G z Q k => T_iconst (v := 0) (dk dt_lookAt 19 rfl) (by decide +kernel) k) ?_
  obtain ⟨x7, ex7⟩ : ∃ z, z = si x6 0 90 0 := ⟨_, rfl⟩
  have h := h x7 ex7
  refine MD_wr 0 90 0 (fun G z Q k => T_putI 0 90 (dk dt_lookAt 20 rfl) fl_626 mk_0 ml_0 (by decide) rfl ⟨rfl, rfl⟩ k) (hm_f (by decide) _) ?_
  rw [← ex7]
  refine MD_lift (fun G z Q k => T_aload_n 2 (dk dt_lookAt 21 rfl) rfl rfl k) ?_
  refine MD_lift (fun G z Q k => T_iconst (v := 0) (dk dt_lookAt 22 rfl) (by decide +kernel) k) ?_
  obtain ⟨x8, ex8⟩ : ∃ z, z = si x7 0 91 0 := ⟨_, rfl⟩
  have h := h x8 ex8
  refine MD_wr 0 91 0 (fun G z Q k => T_putI 0 91 (dk dt_lookAt 23 rfl) fl_629 mk_0 ml_0 (by decide) rfl ⟨rfl, rfl⟩ k) (hm_f (by decide) _) ?_
  rw [← ex8]
  refine MD_lift (fun G z Q k => T_iload_n 0 (dk dt_lookAt 24 rfl) rfl rfl k) ?_
  refine MD_lift (fun G z Q k => T_bipush (v := 15) (dk dt_lookAt 25 rfl) (by decide +kernel) k) ?_
  by_cases c9 : r3 = (15 : Int32)
  · have h := h.2 c9
    refine MD_lift (fun G z Q k => T_icmp_ne 45 (dk dt_lookAt 26 rfl) (by decide) (fun q => absurd c9 q) (fun _ => k)) ?_
    exact MD_ret (fun G z Q k => MT_vret (dk dt_lookAt 27 rfl) rfl k) h
  · have h := h.1 c9
    refine MD_lift (fun G z Q k => T_icmp_ne 45 (dk dt_lookAt 26 rfl) (by decide) (fun _ => k) (fun q => absurd q c9)) ?_
    refine MD_lift (fun G z Q k => T_aload_n 2 (dk dt_lookAt 28 rfl) rfl rfl k) ?_
    refine MD_lift (fun G z Q k => T_getR 0 57 58 (dk dt_lookAt 29 rfl) fl_115 mk_0 ml_0 (by decide) rfl rfl k) ?_
    refine MD_lift (fun G z Q k => T_iload_n 1 (dk dt_lookAt 30 rfl) rfl rfl k) ?_
    obtain ⟨h10, h⟩ := h
    refine MD_read (fun z => z.1 58 (x.1 74 (l1 : Int32).toNatClampNeg : Int32).toNatClampNeg) (fun G z Q k => T_iald 58 1500 (dk dt_lookAt 31 rfl) mk_58 ml_58 h10 k) (fun z e => e 58 _ (Or.inl (core_a (by decide) h10))) ?_
    refine MD_lift (fun G z Q k => T_iconst (v := (-1)) (dk dt_lookAt 32 rfl) (by decide +kernel) k) ?_
    by_cases c11 : (x8.1 58 (x.1 74 (l1 : Int32).toNatClampNeg : Int32).toNatClampNeg) = (-1 : Int32)
    · have h := h.1 c11
      refine MD_lift (fun G z Q k => T_icmp_eq 127 (dk dt_lookAt 33 rfl) (by decide) (fun _ => k) (fun q => absurd c11 q)) ?_
      exact MD_lift (fun G z Q k => T_sub [2, 3, 1, 0] rfl k) h
    · have h := h.2 c11
      refine MD_lift (fun G z Q k => T_icmp_eq 127 (dk dt_lookAt 33 rfl) (by decide) (fun q => absurd q c11) (fun _ => k)) ?_
      refine MD_lift (fun G z Q k => T_aload_n 2 (dk dt_lookAt 34 rfl) rfl rfl k) ?_
      refine MD_lift (fun G z Q k => T_aload_n 2 (dk dt_lookAt 35 rfl) rfl rfl k) ?_
      refine MD_lift (fun G z Q k => T_getR 0 57 58 (dk dt_lookAt 36 rfl) fl_115 mk_0 ml_0 (by decide) rfl rfl k) ?_
      refine MD_lift (fun G z Q k => T_iload_n 1 (dk dt_lookAt 37 rfl) rfl rfl k) ?_
      obtain ⟨h12, h⟩ := h
      refine MD_read (fun z => z.1 58 (x.1 74 (l1 : Int32).toNatClampNeg : Int32).toNatClampNeg) (fun G z Q k => T_iald 58 1500 (dk dt_lookAt 38 rfl) mk_58 ml_58 h12 k) (fun z e => e 58 _ (Or.inl (core_a (by decide) h12))) ?_
      refine MD_lift (fun G z Q k => T_iload_n 3 (dk dt_lookAt 39 rfl) rfl rfl k) ?_
      refine MD_calli (fun G z F Q k kk => MT_callVi [vi (x8.1 58 (x.1 74 (l1 : Int32).toNatClampNeg : Int32).toNatClampNeg), vi l1] [] rfl (dk dt_lookAt 40 rfl) cv_593 rfl rfl (Nat.le_of_ble_eq_true rfl) (Nat.le_of_ble_eq_true rfl) rfl rfl k kk) h (fun r14 x13 S13 h => ?_)
      refine MD_lift (fun G z Q k => T_istore (lv2 := [(4, vi r14), (3, vi r3), (2, vi (x.1 74 (l1 : Int32).toNatClampNeg)), (0, vr 0), (1, vi l1)]) (dk dt_lookAt 41 rfl) (by decide) rfl k) ?_
      refine MD_lift (fun G z Q k => T_aload_n 3 (dk dt_lookAt 42 rfl) rfl rfl k) ?_
      obtain ⟨h15, h⟩ := h
      refine MD_read (fun z => z.1 0 82) (fun G z Q k => T_getI 0 82 (dk dt_lookAt 43 rfl) fl_581 mk_0 ml_0 (by decide) rfl k) (fun z e => e 0 82 (Or.inr h15)) ?_
      by_cases c16 : (x13.1 0 82) ≤ (0 : Int32)
      · have h := h.1 c16
        refine MD_lift (fun G z Q k => T_if_le 86 (dk dt_lookAt 44 rfl) (by decide) (fun _ => k) (fun q => absurd c16 q)) ?_
        refine MD_lift (fun G z Q k => T_iload 0 (dk dt_lookAt 52 rfl) rfl k) ?_
        refine MD_lift (fun G z Q k => T_iconst (v := 0) (dk dt_lookAt 53 rfl) (by decide +kernel) k) ?_
        refine MD_lift (fun G z Q k => T_aload_n 3 (dk dt_lookAt 54 rfl) rfl rfl k) ?_
        refine MD_lift (fun G z Q k => T_getR 0 56 57 (dk dt_lookAt 55 rfl) fl_112 mk_0 ml_0 (by decide) rfl rfl k) ?_
        refine MD_lift (fun G z Q k => T_iload_n 2 (dk dt_lookAt 56 rfl) rfl rfl k) ?_
        obtain ⟨h17, h⟩ := h
        refine MD_read (fun z => z.1 57 (x.1 74 (l1 : Int32).toNatClampNeg : Int32).toNatClampNeg) (fun G z Q k => T_iald 57 1500 (dk dt_lookAt 57 rfl) mk_57 ml_57 h17 k) (fun z e => e 57 _ (Or.inl (core_a (by decide) h17))) ?_
        refine MD_lift (fun G z Q k => T_iconst (v := 1) (dk dt_lookAt 58 rfl) (by decide +kernel) k) ?_
        refine MD_lift (fun G z Q k => T_isub (dk dt_lookAt 59 rfl) k) ?_
        refine MD_calli (fun G z F Q k kk => MT_callSi [vi r14, vi 0, vi ((x13.1 57 (x.1 74 (l1 : Int32).toNatClampNeg : Int32).toNatClampNeg) - 1)] [] rfl (dk dt_lookAt 60 rfl) cs_322 rfl (Nat.le_of_ble_eq_true rfl) (Nat.le_of_ble_eq_true rfl) rfl rfl k kk) h (fun r19 x18 S18 h => ?_)
        by_cases c20 : r19 = (0 : Int32)
        · have h := h.2 c20
          refine MD_lift (fun G z Q k => T_if_ne 114 (dk dt_lookAt 61 rfl) (by decide) (fun q => absurd c20 q) (fun _ => k)) ?_
          refine MD_lift (fun G z Q k => T_aload_n 3 (dk dt_lookAt 62 rfl) rfl rfl k) ?_
          refine MD_lift (fun G z Q k => T_iconst (v := 2) (dk dt_lookAt 63 rfl) (by decide +kernel) k) ?_
          obtain ⟨x21, ex21⟩ : ∃ z, z = si x18 0 89 2 := ⟨_, rfl⟩
          have h := h x21 ex21
          refine MD_wr 0 89 2 (fun G z Q k => T_putI 0 89 (dk dt_lookAt 64 rfl) fl_620 mk_0 ml_0 (by decide) rfl ⟨rfl, rfl⟩ k) (hm_f (by decide) _) ?_
          rw [← ex21]
          refine MD_lift (fun G z Q k => T_aload_n 3 (dk dt_lookAt 65 rfl) rfl rfl k) ?_
          refine MD_lift (fun G z Q k => T_iconst (v := (-1)) (dk dt_lookAt 66 rfl) (by decide +kernel) k) ?_
          obtain ⟨x22, ex22⟩ : ∃ z, z = si x21 0 88 (-1) := ⟨_, rfl⟩
          have h := h x22 ex22
          refine MD_wr 0 88 (-1) (fun G z Q k => T_putI 0 88 (dk dt_lookAt 67 rfl) fl_623 mk_0 ml_0 (by decide) rfl ⟨rfl, rfl⟩ k) (hm_f (by decide) _) ?_
          rw [← ex22]
          exact MD_ret (fun G z Q k => MT_vret (dk dt_lookAt 68 rfl) rfl k) h
        · have h := h.1 c20
          refine MD_lift (fun G z Q k => T_if_ne 114 (dk dt_lookAt 61 rfl) (by decide) (fun _ => k) (fun q => absurd q c20)) ?_
          refine MD_lift (fun G z Q k => T_aload_n 3 (dk dt_lookAt 69 rfl) rfl rfl k) ?_
          refine MD_lift (fun G z Q k => T_aload_n 3 (dk dt_lookAt 70 rfl) rfl rfl k) ?_
          refine MD_lift (fun G z Q k => T_getR 0 55 56 (dk dt_lookAt 71 rfl) fl_109 mk_0 ml_0 (by decide) rfl rfl k) ?_
          refine MD_lift (fun G z Q k => T_iload_n 2 (dk dt_lookAt 72 rfl) rfl rfl k) ?_
          obtain ⟨h23, h⟩ := h
          refine MD_read (fun z => z.1 56 (x.1 74 (l1 : Int32).toNatClampNeg : Int32).toNatClampNeg) (fun G z Q k => T_iald 56 1500 (dk dt_lookAt 73 rfl) mk_56 ml_56 h23 k) (fun z e => e 56 _ (Or.inl (core_a (by decide) h23))) ?_
          refine MD_lift (fun G z Q k => T_iload 0 (dk dt_lookAt 74 rfl) rfl k) ?_
          refine MD_lift (fun G z Q k => T_iadd (dk dt_lookAt 75 rfl) k) ?_
          obtain ⟨x24, ex24⟩ : ∃ z, z = si x18 0 88 ((x18.1 56 (x.1 74 (l1 : Int32).toNatClampNeg : Int32).toNatClampNeg) + r14) := ⟨_, rfl⟩
          have h := h x24 ex24
          refine MD_wr 0 88 ((x18.1 56 (x.1 74 (l1 : Int32).toNatClampNeg : Int32).toNatClampNeg) + r14) (fun G z Q k => T_putI 0 88 (dk dt_lookAt 76 rfl) fl_623 mk_0 ml_0 (by decide) rfl ⟨rfl, rfl⟩ k) (hm_f (by decide) _) ?_
          rw [← ex24]
          exact MD_lift (fun G z Q k => T_sub [3, 4, 2, 1] rfl k) h
      · have h := h.2 c16
        refine MD_lift (fun G z Q k => T_if_le 86 (dk dt_lookAt 44 rfl) (by decide) (fun q => absurd q c16) (fun _ => k)) ?_
        refine MD_lift (fun G z Q k => T_aload_n 3 (dk dt_lookAt 45 rfl) rfl rfl k) ?_
        refine MD_lift (fun G z Q k => T_iconst (v := 1) (dk dt_lookAt 46 rfl) (by decide +kernel) k) ?_
        obtain ⟨x25, ex25⟩ : ∃ z, z = si x13 0 89 1 := ⟨_, rfl⟩
        have h := h x25 ex25
        refine MD_wr 0 89 1 (fun G z Q k => T_putI 0 89 (dk dt_lookAt 47 rfl) fl_620 mk_0 ml_0 (by decide) rfl ⟨rfl, rfl⟩ k) (hm_f (by decide) _) ?_
        rw [← ex25]
        refine MD_lift (fun G z Q k => T_aload_n 3 (dk dt_lookAt 48 rfl) rfl rfl k) ?_
        refine MD_lift (fun G z Q k => T_iconst (v := (-1)) (dk dt_lookAt 49 rfl) (by decide +kernel) k) ?_
        obtain ⟨x26, ex26⟩ : ∃ z, z = si x25 0 88 (-1) := ⟨_, rfl⟩
        have h := h x26 ex26
        refine MD_wr 0 88 (-1) (fun G z Q k => T_putI 0 88 (dk dt_lookAt 50 rfl) fl_623 mk_0 ml_0 (by decide) rfl ⟨rfl, rfl⟩ k) (hm_f (by decide) _) ?_
        rw [← ex26]
        exact MD_ret (fun G z Q k => MT_vret (dk dt_lookAt 51 rfl) rfl k) h
set_option maxRecDepth 100000 in
set_option maxHeartbeats 4000000 in
theorem sd_lookAt_127 {d : Nat} {S : gS} {x : gd} {P : Option gv → gd → gS → Prop} (l1 : Int32) (l2 : Int32) (l3 : Int32)
    (h : vp_in l2 1500 ∧ (((x.1 59 (l2 : Int32).toNatClampNeg) = (-1 : Int32) → MD (d + 1) z_lookAt 160 [(0, vr 0), (1, vi l1), (2, vi l2), (3, vi l3)] [] S x P) ∧ (¬ ((x.1 59 (l2 : Int32).toNatClampNeg) = (-1 : Int32)) → vp_in l2 1500 ∧ MD d z_worked 0 [(0, vr 0), (1, vi (x.1 59 (l2 : Int32).toNatClampNeg)), (2, vi l1)] [] S x (Di (fun r5 x4 S4 => (∀ x6 : gd, x6 = si x4 0 90 r5 → (sadd S4 0 90) 0 82 ∧ (∀ x8 : gd, x8 = si x6 0 89 (x6.1 0 82) → MD (d + 1) z_lookAt 160 [(0, vr 0), (1, vi l1), (2, vi l2), (3, vi l3)] [] (sadd (sadd S4 0 90) 0 89) x8 P))))))) :
    MD (d + 1) z_lookAt 127 [(0, vr 0), (1, vi l1), (2, vi l2), (3, vi l3)] [] S x P := by
  refine MD_lift (fun G z Q k => T_aload_n 0 (dk dt_lookAt 77 rfl) rfl rfl k) ?_
  refine MD_lift (fun G z Q k => T_getR 0 58 59 (dk dt_lookAt 78 rfl) fl_118 mk_0 ml_0 (by decide) rfl rfl k) ?_
  refine MD_lift (fun G z Q k => T_iload_n 2 (dk dt_lookAt 79 rfl) rfl rfl k) ?_
  obtain ⟨h1, h⟩ := h
  refine MD_read (fun z => z.1 59 (l2 : Int32).toNatClampNeg) (fun G z Q k => T_iald 59 1500 (dk dt_lookAt 80 rfl) mk_59 ml_59 h1 k) (fun z e => e 59 _ (Or.inl (core_a (by decide) h1))) ?_
  refine MD_lift (fun G z Q k => T_iconst (v := (-1)) (dk dt_lookAt 81 rfl) (by decide +kernel) k) ?_
  by_cases c2 : (x.1 59 (l2 : Int32).toNatClampNeg) = (-1 : Int32)
  · have h := h.1 c2
    refine MD_lift (fun G z Q k => T_icmp_eq 160 (dk dt_lookAt 82 rfl) (by decide) (fun _ => k) (fun q => absurd c2 q)) ?_
    exact h
  · have h := h.2 c2
    refine MD_lift (fun G z Q k => T_icmp_eq 160 (dk dt_lookAt 82 rfl) (by decide) (fun q => absurd q c2) (fun _ => k)) ?_
    refine MD_lift (fun G z Q k => T_aload_n 0 (dk dt_lookAt 83 rfl) rfl rfl k) ?_
    refine MD_lift (fun G z Q k => T_aload_n 0 (dk dt_lookAt 84 rfl) rfl rfl k) ?_
    refine MD_lift (fun G z Q k => T_aload_n 0 (dk dt_lookAt 85 rfl) rfl rfl k) ?_
    refine MD_lift (fun G z Q k => T_getR 0 58 59 (dk dt_lookAt 86 rfl) fl_118 mk_0 ml_0 (by decide) rfl rfl k) ?_
    refine MD_lift (fun G z Q k => T_iload_n 2 (dk dt_lookAt 87 rfl) rfl rfl k) ?_
    obtain ⟨h3, h⟩ := h
    refine MD_read (fun z => z.1 59 (l2 : Int32).toNatClampNeg) (fun G z Q k => T_iald 59 1500 (dk dt_lookAt 88 rfl) mk_59 ml_59 h3 k) (fun z e => e 59 _ (Or.inl (core_a (by decide) h3))) ?_
    refine MD_lift (fun G z Q k => T_iload_n 1 (dk dt_lookAt 89 rfl) rfl rfl k) ?_
    refine MD_calli (fun G z F Q k kk => MT_callVi [vi (x.1 59 (l2 : Int32).toNatClampNeg), vi l1] [vr 0] rfl (dk dt_lookAt 90 rfl) cv_593 rfl rfl (Nat.le_of_ble_eq_true rfl) (Nat.le_of_ble_eq_true rfl) rfl rfl k kk) h (fun r5 x4 S4 h => ?_)
    obtain ⟨x6, ex6⟩ : ∃ z, z = si x4 0 90 r5 := ⟨_, rfl⟩
    have h := h x6 ex6
    refine MD_wr 0 90 r5 (fun G z Q k => T_putI 0 90 (dk dt_lookAt 91 rfl) fl_626 mk_0 ml_0 (by decide) rfl ⟨rfl, rfl⟩ k) (hm_f (by decide) _) ?_
    rw [← ex6]
    refine MD_lift (fun G z Q k => T_aload_n 0 (dk dt_lookAt 92 rfl) rfl rfl k) ?_
    refine MD_lift (fun G z Q k => T_aload_n 0 (dk dt_lookAt 93 rfl) rfl rfl k) ?_
    obtain ⟨h7, h⟩ := h
    refine MD_read (fun z => z.1 0 82) (fun G z Q k => T_getI 0 82 (dk dt_lookAt 94 rfl) fl_581 mk_0 ml_0 (by decide) rfl k) (fun z e => e 0 82 (Or.inr h7)) ?_
    obtain ⟨x8, ex8⟩ : ∃ z, z = si x6 0 89 (x6.1 0 82) := ⟨_, rfl⟩
    have h := h x8 ex8
    refine MD_wr 0 89 (x6.1 0 82) (fun G z Q k => T_putI 0 89 (dk dt_lookAt 95 rfl) fl_620 mk_0 ml_0 (by decide) rfl ⟨rfl, rfl⟩ k) (hm_f (by decide) _) ?_
    rw [← ex8]
    exact h
set_option maxRecDepth 100000 in
set_option maxHeartbeats 4000000 in
theorem sd_lookAt_160 {d : Nat} {S : gS} {x : gd} {P : Option gv → gd → gS → Prop} (l1 : Int32) (l2 : Int32) (l3 : Int32)
    (h : S 0 89 ∧ ((¬ ((x.1 0 89) = (0 : Int32)) → MD (d + 1) z_lookAt 200 [(0, vr 0), (1, vi l1), (2, vi l2), (3, vi l3)] [] S x P) ∧ ((x.1 0 89) = (0 : Int32) → vp_in l2 1500 ∧ (((x.1 60 (l2 : Int32).toNatClampNeg) = (-1 : Int32) → MD (d + 1) z_lookAt 200 [(0, vr 0), (1, vi l1), (2, vi l2), (3, vi l3)] [] S x P) ∧ (¬ ((x.1 60 (l2 : Int32).toNatClampNeg) = (-1 : Int32)) → vp_in l2 1500 ∧ MD d z_worked 0 [(0, vr 0), (1, vi (x.1 60 (l2 : Int32).toNatClampNeg)), (2, vi l1)] [] S x (Di (fun r7 x6 S6 => (∀ x8 : gd, x8 = si x6 0 91 r7 → (sadd S6 0 91) 0 82 ∧ (∀ x10 : gd, x10 = si x8 0 89 (x8.1 0 82) → MD (d + 1) z_lookAt 200 [(0, vr 0), (1, vi l1), (2, vi l2), (3, vi l3)] [] (sadd (sadd S6 0 91) 0 89) x10 P))))))))) :
    MD (d + 1) z_lookAt 160 [(0, vr 0), (1, vi l1), (2, vi l2), (3, vi l3)] [] S x P := by
  refine MD_lift (fun G z Q k => T_aload_n 0 (dk dt_lookAt 96 rfl) rfl rfl k) ?_
  obtain ⟨h1, h⟩ := h
  refine MD_read (fun z => z.1 0 89) (fun G z Q k => T_getI 0 89 (dk dt_lookAt 97 rfl) fl_620 mk_0 ml_0 (by decide) rfl k) (fun z e => e 0 89 (Or.inr h1)) ?_
  by_cases c2 : (x.1 0 89) = (0 : Int32)
  · have h := h.2 c2
    refine MD_lift (fun G z Q k => T_if_ne 200 (dk dt_lookAt 98 rfl) (by decide) (fun q => absurd c2 q) (fun _ => k)) ?_
    refine MD_lift (fun G z Q k => T_aload_n 0 (dk dt_lookAt 99 rfl) rfl rfl k) ?_
    refine MD_lift (fun G z Q k => T_getR 0 59 60 (dk dt_lookAt 100 rfl) fl_121 mk_0 ml_0 (by decide) rfl rfl k) ?_
    refine MD_lift (fun G z Q k => T_iload_n 2 (dk dt_lookAt 101 rfl) rfl rfl k) ?_
    obtain ⟨h3, h⟩ := h
    refine MD_read (fun z => z.1 60 (l2 : Int32).toNatClampNeg) (fun G z Q k => T_iald 60 1500 (dk dt_lookAt 102 rfl) mk_60 ml_60 h3 k) (fun z e => e 60 _ (Or.inl (core_a (by decide) h3))) ?_
    refine MD_lift (fun G z Q k => T_iconst (v := (-1)) (dk dt_lookAt 103 rfl) (by decide +kernel) k) ?_
    by_cases c4 : (x.1 60 (l2 : Int32).toNatClampNeg) = (-1 : Int32)
    · have h := h.1 c4
      refine MD_lift (fun G z Q k => T_icmp_eq 200 (dk dt_lookAt 104 rfl) (by decide) (fun _ => k) (fun q => absurd c4 q)) ?_
      exact h
    · have h := h.2 c4
      refine MD_lift (fun G z Q k => T_icmp_eq 200 (dk dt_lookAt 104 rfl) (by decide) (fun q => absurd q c4) (fun _ => k)) ?_
      refine MD_lift (fun G z Q k => T_aload_n 0 (dk dt_lookAt 105 rfl) rfl rfl k) ?_
      refine MD_lift (fun G z Q k => T_aload_n 0 (dk dt_lookAt 106 rfl) rfl rfl k) ?_
      refine MD_lift (fun G z Q k => T_aload_n 0 (dk dt_lookAt 107 rfl) rfl rfl k) ?_
      refine MD_lift (fun G z Q k => T_getR 0 59 60 (dk dt_lookAt 108 rfl) fl_121 mk_0 ml_0 (by decide) rfl rfl k) ?_
      refine MD_lift (fun G z Q k => T_iload_n 2 (dk dt_lookAt 109 rfl) rfl rfl k) ?_
      obtain ⟨h5, h⟩ := h
      refine MD_read (fun z => z.1 60 (l2 : Int32).toNatClampNeg) (fun G z Q k => T_iald 60 1500 (dk dt_lookAt 110 rfl) mk_60 ml_60 h5 k) (fun z e => e 60 _ (Or.inl (core_a (by decide) h5))) ?_
      refine MD_lift (fun G z Q k => T_iload_n 1 (dk dt_lookAt 111 rfl) rfl rfl k) ?_
      refine MD_calli (fun G z F Q k kk => MT_callVi [vi (x.1 60 (l2 : Int32).toNatClampNeg), vi l1] [vr 0] rfl (dk dt_lookAt 112 rfl) cv_593 rfl rfl (Nat.le_of_ble_eq_true rfl) (Nat.le_of_ble_eq_true rfl) rfl rfl k kk) h (fun r7 x6 S6 h => ?_)
      obtain ⟨x8, ex8⟩ : ∃ z, z = si x6 0 91 r7 := ⟨_, rfl⟩
      have h := h x8 ex8
      refine MD_wr 0 91 r7 (fun G z Q k => T_putI 0 91 (dk dt_lookAt 113 rfl) fl_629 mk_0 ml_0 (by decide) rfl ⟨rfl, rfl⟩ k) (hm_f (by decide) _) ?_
      rw [← ex8]
      refine MD_lift (fun G z Q k => T_aload_n 0 (dk dt_lookAt 114 rfl) rfl rfl k) ?_
      refine MD_lift (fun G z Q k => T_aload_n 0 (dk dt_lookAt 115 rfl) rfl rfl k) ?_
      obtain ⟨h9, h⟩ := h
      refine MD_read (fun z => z.1 0 82) (fun G z Q k => T_getI 0 82 (dk dt_lookAt 116 rfl) fl_581 mk_0 ml_0 (by decide) rfl k) (fun z e => e 0 82 (Or.inr h9)) ?_
      obtain ⟨x10, ex10⟩ : ∃ z, z = si x8 0 89 (x8.1 0 82) := ⟨_, rfl⟩
      have h := h x10 ex10
      refine MD_wr 0 89 (x8.1 0 82) (fun G z Q k => T_putI 0 89 (dk dt_lookAt 117 rfl) fl_620 mk_0 ml_0 (by decide) rfl ⟨rfl, rfl⟩ k) (hm_f (by decide) _) ?_
      rw [← ex10]
      exact h
  · have h := h.1 c2
    refine MD_lift (fun G z Q k => T_if_ne 200 (dk dt_lookAt 98 rfl) (by decide) (fun _ => k) (fun q => absurd q c2)) ?_
    exact h
set_option maxRecDepth 100000 in
set_option maxHeartbeats 4000000 in
theorem sd_lookAt_200 {d : Nat} {S : gS} {x : gd} {P : Option gv → gd → gS → Prop} (l1 : Int32) (l2 : Int32) (l3 : Int32)
    (h : S 0 89 ∧ (((x.1 0 89) ≤ (0 : Int32) → ((l3 = (6 : Int32) → MD (d + 1) z_lookAt 226 [(0, vr 0), (1, vi l1), (2, vi l2), (3, vi l3)] [] S x P) ∧ (¬ (l3 = (6 : Int32)) → ((l3 = (7 : Int32) → MD (d + 1) z_lookAt 226 [(0, vr 0), (1, vi l1), (2, vi l2), (3, vi l3)] [] S x P) ∧ (¬ (l3 = (7 : Int32)) → ((¬ (l3 = (8 : Int32)) → MD (d + 1) z_lookAt 246 [(0, vr 0), (1, vi l1), (2, vi l2), (3, vi l3)] [vi 0] S x P) ∧ (l3 = (8 : Int32) → MD (d + 1) z_lookAt 226 [(0, vr 0), (1, vi l1), (2, vi l2), (3, vi l3)] [] S x P))))))) ∧ (¬ ((x.1 0 89) ≤ (0 : Int32)) → P none x S))) :
    MD (d + 1) z_lookAt 200 [(0, vr 0), (1, vi l1), (2, vi l2), (3, vi l3)] [] S x P := by
  refine MD_lift (fun G z Q k => T_aload_n 0 (dk dt_lookAt 118 rfl) rfl rfl k) ?_
  obtain ⟨h1, h⟩ := h
  refine MD_read (fun z => z.1 0 89) (fun G z Q k => T_getI 0 89 (dk dt_lookAt 119 rfl) fl_620 mk_0 ml_0 (by decide) rfl k) (fun z e => e 0 89 (Or.inr h1)) ?_
  by_cases c2 : (x.1 0 89) ≤ (0 : Int32)
  · have h := h.1 c2
    refine MD_lift (fun G z Q k => T_if_le 208 (dk dt_lookAt 120 rfl) (by decide) (fun _ => k) (fun q => absurd c2 q)) ?_
    refine MD_lift (fun G z Q k => T_iload_n 3 (dk dt_lookAt 122 rfl) rfl rfl k) ?_
    refine MD_lift (fun G z Q k => T_bipush (v := 6) (dk dt_lookAt 123 rfl) (by decide +kernel) k) ?_
    by_cases c3 : l3 = (6 : Int32)
    · have h := h.1 c3
      refine MD_lift (fun G z Q k => T_icmp_eq 226 (dk dt_lookAt 124 rfl) (by decide) (fun _ => k) (fun q => absurd c3 q)) ?_
      exact h
    · have h := h.2 c3
      refine MD_lift (fun G z Q k => T_icmp_eq 226 (dk dt_lookAt 124 rfl) (by decide) (fun q => absurd q c3) (fun _ => k)) ?_
      refine MD_lift (fun G z Q k => T_iload_n 3 (dk dt_lookAt 125 rfl) rfl rfl k) ?_
      refine MD_lift (fun G z Q k => T_bipush (v := 7) (dk dt_lookAt 126 rfl) (by decide +kernel) k) ?_
      by_cases c4 : l3 = (7 : Int32)
      · have h := h.1 c4
        refine MD_lift (fun G z Q k => T_icmp_eq 226 (dk dt_lookAt 127 rfl) (by decide) (fun _ => k) (fun q => absurd c4 q)) ?_
        exact h
      · have h := h.2 c4
        refine MD_lift (fun G z Q k => T_icmp_eq 226 (dk dt_lookAt 127 rfl) (by decide) (fun q => absurd q c4) (fun _ => k)) ?_
        refine MD_lift (fun G z Q k => T_iload_n 3 (dk dt_lookAt 128 rfl) rfl rfl k) ?_
        refine MD_lift (fun G z Q k => T_bipush (v := 8) (dk dt_lookAt 129 rfl) (by decide +kernel) k) ?_
        by_cases c5 : l3 = (8 : Int32)
        · have h := h.2 c5
          refine MD_lift (fun G z Q k => T_icmp_ne 245 (dk dt_lookAt 130 rfl) (by decide) (fun q => absurd c5 q) (fun _ => k)) ?_
          exact h
        · have h := h.1 c5
          refine MD_lift (fun G z Q k => T_icmp_ne 245 (dk dt_lookAt 130 rfl) (by decide) (fun _ => k) (fun q => absurd q c5)) ?_
          refine MD_lift (fun G z Q k => T_iconst (v := 0) (dk dt_lookAt 142 rfl) (by decide +kernel) k) ?_
          exact h
  · have h := h.2 c2
    refine MD_lift (fun G z Q k => T_if_le 208 (dk dt_lookAt 120 rfl) (by decide) (fun q => absurd q c2) (fun _ => k)) ?_
    exact MD_ret (fun G z Q k => MT_vret (dk dt_lookAt 121 rfl) rfl k) h
set_option maxRecDepth 100000 in
set_option maxHeartbeats 4000000 in
theorem sd_lookAt_226 {d : Nat} {S : gS} {x : gd} {P : Option gv → gd → gS → Prop} (l1 : Int32) (l2 : Int32) (l3 : Int32)
    (h : vp_in l2 1500 ∧ vp_in (x.1 56 (l2 : Int32).toNatClampNeg) 6 ∧ ((¬ ((x.1 71 (x.1 56 (l2 : Int32).toNatClampNeg : Int32).toNatClampNeg) = l1) → MD (d + 1) z_lookAt 246 [(0, vr 0), (1, vi l1), (2, vi l2), (3, vi l3)] [vi 0] S x P) ∧ ((x.1 71 (x.1 56 (l2 : Int32).toNatClampNeg : Int32).toNatClampNeg) = l1 → MD (d + 1) z_lookAt 246 [(0, vr 0), (1, vi l1), (2, vi l2), (3, vi l3)] [vi 1] S x P))) :
    MD (d + 1) z_lookAt 226 [(0, vr 0), (1, vi l1), (2, vi l2), (3, vi l3)] [] S x P := by
  refine MD_lift (fun G z Q k => T_aload_n 0 (dk dt_lookAt 131 rfl) rfl rfl k) ?_
  refine MD_lift (fun G z Q k => T_getR 0 70 71 (dk dt_lookAt 132 rfl) fl_145 mk_0 ml_0 (by decide) rfl rfl k) ?_
  refine MD_lift (fun G z Q k => T_aload_n 0 (dk dt_lookAt 133 rfl) rfl rfl k) ?_
  refine MD_lift (fun G z Q k => T_getR 0 55 56 (dk dt_lookAt 134 rfl) fl_109 mk_0 ml_0 (by decide) rfl rfl k) ?_
  refine MD_lift (fun G z Q k => T_iload_n 2 (dk dt_lookAt 135 rfl) rfl rfl k) ?_
  obtain ⟨h1, h⟩ := h
  refine MD_read (fun z => z.1 56 (l2 : Int32).toNatClampNeg) (fun G z Q k => T_iald 56 1500 (dk dt_lookAt 136 rfl) mk_56 ml_56 h1 k) (fun z e => e 56 _ (Or.inl (core_a (by decide) h1))) ?_
  obtain ⟨h2, h⟩ := h
  refine MD_read (fun z => z.1 71 (x.1 56 (l2 : Int32).toNatClampNeg : Int32).toNatClampNeg) (fun G z Q k => T_iald 71 6 (dk dt_lookAt 137 rfl) mk_71 ml_71 h2 k) (fun z e => e 71 _ (Or.inl (core_a (by decide) h2))) ?_
  refine MD_lift (fun G z Q k => T_iload_n 1 (dk dt_lookAt 138 rfl) rfl rfl k) ?_
  by_cases c3 : (x.1 71 (x.1 56 (l2 : Int32).toNatClampNeg : Int32).toNatClampNeg) = l1
  · have h := h.2 c3
    refine MD_lift (fun G z Q k => T_icmp_ne 245 (dk dt_lookAt 139 rfl) (by decide) (fun q => absurd c3 q) (fun _ => k)) ?_
    refine MD_lift (fun G z Q k => T_iconst (v := 1) (dk dt_lookAt 140 rfl) (by decide +kernel) k) ?_
    refine MD_lift (fun G z Q k => T_goto 246 (dk dt_lookAt 141 rfl) (by decide) k) ?_
    exact h
  · have h := h.1 c3
    refine MD_lift (fun G z Q k => T_icmp_ne 245 (dk dt_lookAt 139 rfl) (by decide) (fun _ => k) (fun q => absurd q c3)) ?_
    refine MD_lift (fun G z Q k => T_iconst (v := 0) (dk dt_lookAt 142 rfl) (by decide +kernel) k) ?_
    exact h
set_option maxRecDepth 100000 in
set_option maxHeartbeats 4000000 in
theorem sd_lookAt_246 {d : Nat} {S : gS} {x : gd} {P : Option gv → gd → gS → Prop} (l1 : Int32) (l2 : Int32) (l3 : Int32) (s0 : Int32)
    (h : ((¬ (l3 = (6 : Int32)) → MD (d + 1) z_lookAt 267 [(0, vr 0), (1, vi l1), (2, vi l2), (3, vi l3), (4, vi s0)] [] S x P) ∧ (l3 = (6 : Int32) → ((¬ (s0 = (0 : Int32)) → MD (d + 1) z_lookAt 267 [(0, vr 0), (1, vi l1), (2, vi l2), (3, vi l3), (4, vi s0)] [] S x P) ∧ (s0 = (0 : Int32) → (∀ x3 : gd, x3 = si x 0 89 3 → P none x3 (sadd S 0 89))))))) :
    MD (d + 1) z_lookAt 246 [(0, vr 0), (1, vi l1), (2, vi l2), (3, vi l3)] [vi s0] S x P := by
  refine MD_lift (fun G z Q k => T_istore (lv2 := [(4, vi s0), (0, vr 0), (1, vi l1), (2, vi l2), (3, vi l3)]) (dk dt_lookAt 143 rfl) (by decide) rfl k) ?_
  refine MD_lift (fun G z Q k => T_iload_n 4 (dk dt_lookAt 144 rfl) rfl rfl k) ?_
  refine MD_lift (fun G z Q k => T_bipush (v := 6) (dk dt_lookAt 145 rfl) (by decide +kernel) k) ?_
  by_cases c1 : l3 = (6 : Int32)
  · have h := h.2 c1
    refine MD_lift (fun G z Q k => T_icmp_ne 267 (dk dt_lookAt 146 rfl) (by decide) (fun q => absurd c1 q) (fun _ => k)) ?_
    refine MD_lift (fun G z Q k => T_iload 0 (dk dt_lookAt 147 rfl) rfl k) ?_
    by_cases c2 : s0 = (0 : Int32)
    · have h := h.2 c2
      refine MD_lift (fun G z Q k => T_if_ne 267 (dk dt_lookAt 148 rfl) (by decide) (fun q => absurd c2 q) (fun _ => k)) ?_
      refine MD_lift (fun G z Q k => T_aload_n 1 (dk dt_lookAt 149 rfl) rfl rfl k) ?_
      refine MD_lift (fun G z Q k => T_iconst (v := 3) (dk dt_lookAt 150 rfl) (by decide +kernel) k) ?_
      obtain ⟨x3, ex3⟩ : ∃ z, z = si x 0 89 3 := ⟨_, rfl⟩
      have h := h x3 ex3
      refine MD_wr 0 89 3 (fun G z Q k => T_putI 0 89 (dk dt_lookAt 151 rfl) fl_620 mk_0 ml_0 (by decide) rfl ⟨rfl, rfl⟩ k) (hm_f (by decide) _) ?_
      rw [← ex3]
      refine MD_lift (fun G z Q k => T_goto 404 (dk dt_lookAt 152 rfl) (by decide) k) ?_
      exact MD_ret (fun G z Q k => MT_vret (dk dt_lookAt 224 rfl) rfl k) h
    · have h := h.1 c2
      refine MD_lift (fun G z Q k => T_if_ne 267 (dk dt_lookAt 148 rfl) (by decide) (fun _ => k) (fun q => absurd q c2)) ?_
      exact MD_lift (fun G z Q k => T_sub [1, 2, 3, 4, 0] rfl k) h
  · have h := h.1 c1
    refine MD_lift (fun G z Q k => T_icmp_ne 267 (dk dt_lookAt 146 rfl) (by decide) (fun _ => k) (fun q => absurd q c1)) ?_
    exact MD_lift (fun G z Q k => T_sub [1, 2, 3, 4, 0] rfl k) h
set_option maxRecDepth 100000 in
set_option maxHeartbeats 4000000 in
theorem sd_lookAt_267 {d : Nat} {S : gS} {x : gd} {P : Option gv → gd → gS → Prop} (l1 : Int32) (l2 : Int32) (l3 : Int32) (l4 : Int32)
    (h : ((l3 = (7 : Int32) → MD (d + 1) z_lookAt 279 [(0, vr 0), (1, vi l1), (2, vi l2), (3, vi l3), (4, vi l4)] [] S x P) ∧ (¬ (l3 = (7 : Int32)) → ((¬ (l3 = (8 : Int32)) → MD (d + 1) z_lookAt 292 [(0, vr 0), (1, vi l1), (2, vi l2), (3, vi l3)] [] S x P) ∧ (l3 = (8 : Int32) → MD (d + 1) z_lookAt 279 [(0, vr 0), (1, vi l1), (2, vi l2), (3, vi l3), (4, vi l4)] [] S x P))))) :
    MD (d + 1) z_lookAt 267 [(0, vr 0), (1, vi l1), (2, vi l2), (3, vi l3), (4, vi l4)] [] S x P := by
  refine MD_lift (fun G z Q k => T_iload_n 3 (dk dt_lookAt 153 rfl) rfl rfl k) ?_
  refine MD_lift (fun G z Q k => T_bipush (v := 7) (dk dt_lookAt 154 rfl) (by decide +kernel) k) ?_
  by_cases c1 : l3 = (7 : Int32)
  · have h := h.1 c1
    refine MD_lift (fun G z Q k => T_icmp_eq 279 (dk dt_lookAt 155 rfl) (by decide) (fun _ => k) (fun q => absurd c1 q)) ?_
    exact h
  · have h := h.2 c1
    refine MD_lift (fun G z Q k => T_icmp_eq 279 (dk dt_lookAt 155 rfl) (by decide) (fun q => absurd q c1) (fun _ => k)) ?_
    refine MD_lift (fun G z Q k => T_iload_n 3 (dk dt_lookAt 156 rfl) rfl rfl k) ?_
    refine MD_lift (fun G z Q k => T_bipush (v := 8) (dk dt_lookAt 157 rfl) (by decide +kernel) k) ?_
    by_cases c2 : l3 = (8 : Int32)
    · have h := h.2 c2
      refine MD_lift (fun G z Q k => T_icmp_ne 292 (dk dt_lookAt 158 rfl) (by decide) (fun q => absurd c2 q) (fun _ => k)) ?_
      exact h
    · have h := h.1 c2
      refine MD_lift (fun G z Q k => T_icmp_ne 292 (dk dt_lookAt 158 rfl) (by decide) (fun _ => k) (fun q => absurd q c2)) ?_
      exact MD_lift (fun G z Q k => T_sub [0, 1, 2, 3] rfl k) h
set_option maxRecDepth 100000 in
set_option maxHeartbeats 4000000 in
theorem sd_lookAt_279 {d : Nat} {S : gS} {x : gd} {P : Option gv → gd → gS → Prop} (l1 : Int32) (l2 : Int32) (l3 : Int32) (l4 : Int32)
    (h : ((¬ (l4 = (0 : Int32)) → MD (d + 1) z_lookAt 292 [(0, vr 0), (1, vi l1), (2, vi l2), (3, vi l3)] [] S x P) ∧ (l4 = (0 : Int32) → (∀ x2 : gd, x2 = si x 0 89 4 → P none x2 (sadd S 0 89))))) :
    MD (d + 1) z_lookAt 279 [(0, vr 0), (1, vi l1), (2, vi l2), (3, vi l3), (4, vi l4)] [] S x P := by
  refine MD_lift (fun G z Q k => T_iload 4 (dk dt_lookAt 159 rfl) rfl k) ?_
  by_cases c1 : l4 = (0 : Int32)
  · have h := h.2 c1
    refine MD_lift (fun G z Q k => T_if_ne 292 (dk dt_lookAt 160 rfl) (by decide) (fun q => absurd c1 q) (fun _ => k)) ?_
    refine MD_lift (fun G z Q k => T_aload_n 0 (dk dt_lookAt 161 rfl) rfl rfl k) ?_
    refine MD_lift (fun G z Q k => T_iconst (v := 4) (dk dt_lookAt 162 rfl) (by decide +kernel) k) ?_
    obtain ⟨x2, ex2⟩ : ∃ z, z = si x 0 89 4 := ⟨_, rfl⟩
    have h := h x2 ex2
    refine MD_wr 0 89 4 (fun G z Q k => T_putI 0 89 (dk dt_lookAt 163 rfl) fl_620 mk_0 ml_0 (by decide) rfl ⟨rfl, rfl⟩ k) (hm_f (by decide) _) ?_
    rw [← ex2]
    refine MD_lift (fun G z Q k => T_goto 404 (dk dt_lookAt 164 rfl) (by decide) k) ?_
    exact MD_ret (fun G z Q k => MT_vret (dk dt_lookAt 224 rfl) rfl k) h
  · have h := h.1 c1
    refine MD_lift (fun G z Q k => T_if_ne 292 (dk dt_lookAt 160 rfl) (by decide) (fun _ => k) (fun q => absurd q c1)) ?_
    exact MD_lift (fun G z Q k => T_sub [0, 1, 2, 3] rfl k) h
set_option maxRecDepth 100000 in
set_option maxHeartbeats 4000000 in
theorem sd_lookAt_292 {d : Nat} {S : gS} {x : gd} {P : Option gv → gd → gS → Prop} (l1 : Int32) (l2 : Int32) (l3 : Int32)
    (h : ((¬ (l3 = (9 : Int32)) → MD (d + 1) z_lookAt 321 [(0, vr 0), (1, vi l1), (3, vi l3)] [] S x P) ∧ (l3 = (9 : Int32) → vp_in l2 1500 ∧ vp_in (x.1 56 (l2 : Int32).toNatClampNeg) 6 ∧ (((x.1 73 (x.1 56 (l2 : Int32).toNatClampNeg : Int32).toNatClampNeg) = (0 : Int32) → MD (d + 1) z_lookAt 321 [(0, vr 0), (1, vi l1), (3, vi l3)] [] S x P) ∧ (¬ ((x.1 73 (x.1 56 (l2 : Int32).toNatClampNeg : Int32).toNatClampNeg) = (0 : Int32)) → (∀ x5 : gd, x5 = si x 0 89 7 → P none x5 (sadd S 0 89))))))) :
    MD (d + 1) z_lookAt 292 [(0, vr 0), (1, vi l1), (2, vi l2), (3, vi l3)] [] S x P := by
  refine MD_lift (fun G z Q k => T_iload_n 3 (dk dt_lookAt 165 rfl) rfl rfl k) ?_
  refine MD_lift (fun G z Q k => T_bipush (v := 9) (dk dt_lookAt 166 rfl) (by decide +kernel) k) ?_
  by_cases c1 : l3 = (9 : Int32)
  · have h := h.2 c1
    refine MD_lift (fun G z Q k => T_icmp_ne 321 (dk dt_lookAt 167 rfl) (by decide) (fun q => absurd c1 q) (fun _ => k)) ?_
    refine MD_lift (fun G z Q k => T_aload_n 0 (dk dt_lookAt 168 rfl) rfl rfl k) ?_
    refine MD_lift (fun G z Q k => T_getR 0 72 73 (dk dt_lookAt 169 rfl) fl_151 mk_0 ml_0 (by decide) rfl rfl k) ?_
    refine MD_lift (fun G z Q k => T_aload_n 0 (dk dt_lookAt 170 rfl) rfl rfl k) ?_
    refine MD_lift (fun G z Q k => T_getR 0 55 56 (dk dt_lookAt 171 rfl) fl_109 mk_0 ml_0 (by decide) rfl rfl k) ?_
    refine MD_lift (fun G z Q k => T_iload_n 2 (dk dt_lookAt 172 rfl) rfl rfl k) ?_
    obtain ⟨h2, h⟩ := h
    refine MD_read (fun z => z.1 56 (l2 : Int32).toNatClampNeg) (fun G z Q k => T_iald 56 1500 (dk dt_lookAt 173 rfl) mk_56 ml_56 h2 k) (fun z e => e 56 _ (Or.inl (core_a (by decide) h2))) ?_
    obtain ⟨h3, h⟩ := h
    refine MD_read (fun z => z.1 73 (x.1 56 (l2 : Int32).toNatClampNeg : Int32).toNatClampNeg) (fun G z Q k => T_iald 73 6 (dk dt_lookAt 174 rfl) mk_73 ml_73 h3 k) (fun z e => e 73 _ (Or.inl (core_a (by decide) h3))) ?_
    by_cases c4 : (x.1 73 (x.1 56 (l2 : Int32).toNatClampNeg : Int32).toNatClampNeg) = (0 : Int32)
    · have h := h.1 c4
      refine MD_lift (fun G z Q k => T_if_eq 321 (dk dt_lookAt 175 rfl) (by decide) (fun _ => k) (fun q => absurd c4 q)) ?_
      exact MD_lift (fun G z Q k => T_sub [0, 1, 3] rfl k) h
    · have h := h.2 c4
      refine MD_lift (fun G z Q k => T_if_eq 321 (dk dt_lookAt 175 rfl) (by decide) (fun q => absurd q c4) (fun _ => k)) ?_
      refine MD_lift (fun G z Q k => T_aload_n 0 (dk dt_lookAt 176 rfl) rfl rfl k) ?_
      refine MD_lift (fun G z Q k => T_bipush (v := 7) (dk dt_lookAt 177 rfl) (by decide +kernel) k) ?_
      obtain ⟨x5, ex5⟩ : ∃ z, z = si x 0 89 7 := ⟨_, rfl⟩
      have h := h x5 ex5
      refine MD_wr 0 89 7 (fun G z Q k => T_putI 0 89 (dk dt_lookAt 178 rfl) fl_620 mk_0 ml_0 (by decide) rfl ⟨rfl, rfl⟩ k) (hm_f (by decide) _) ?_
      rw [← ex5]
      refine MD_lift (fun G z Q k => T_goto 404 (dk dt_lookAt 179 rfl) (by decide) k) ?_
      exact MD_ret (fun G z Q k => MT_vret (dk dt_lookAt 224 rfl) rfl k) h
  · have h := h.1 c1
    refine MD_lift (fun G z Q k => T_icmp_ne 321 (dk dt_lookAt 167 rfl) (by decide) (fun _ => k) (fun q => absurd q c1)) ?_
    exact MD_lift (fun G z Q k => T_sub [0, 1, 3] rfl k) h
set_option maxRecDepth 100000 in
set_option maxHeartbeats 4000000 in
theorem sd_lookAt_321 {d : Nat} {S : gS} {x : gd} {P : Option gv → gd → gS → Prop} (l1 : Int32) (l3 : Int32)
    (h : ((¬ (l3 = (13 : Int32)) → MD (d + 1) z_lookAt 337 [(0, vr 0), (1, vi l1), (3, vi l3)] [] S x P) ∧ (l3 = (13 : Int32) → vp_in l1 6 ∧ ((¬ ((x.1 79 (l1 : Int32).toNatClampNeg) = (-1 : Int32)) → (∀ x4 : gd, x4 = si x 0 89 8 → P none x4 (sadd S 0 89))) ∧ ((x.1 79 (l1 : Int32).toNatClampNeg) = (-1 : Int32) → MD (d + 1) z_lookAt 337 [(0, vr 0), (1, vi l1), (3, vi l3)] [] S x P))))) :
    MD (d + 1) z_lookAt 321 [(0, vr 0), (1, vi l1), (3, vi l3)] [] S x P := by
  refine MD_lift (fun G z Q k => T_iload_n 2 (dk dt_lookAt 180 rfl) rfl rfl k) ?_
  refine MD_lift (fun G z Q k => T_bipush (v := 13) (dk dt_lookAt 181 rfl) (by decide +kernel) k) ?_
  by_cases c1 : l3 = (13 : Int32)
  · have h := h.2 c1
    refine MD_lift (fun G z Q k => T_icmp_ne 337 (dk dt_lookAt 182 rfl) (by decide) (fun q => absurd c1 q) (fun _ => k)) ?_
    refine MD_lift (fun G z Q k => T_aload_n 0 (dk dt_lookAt 183 rfl) rfl rfl k) ?_
    refine MD_lift (fun G z Q k => T_getR 0 78 79 (dk dt_lookAt 184 rfl) fl_169 mk_0 ml_0 (by decide) rfl rfl k) ?_
    refine MD_lift (fun G z Q k => T_iload_n 1 (dk dt_lookAt 185 rfl) rfl rfl k) ?_
    obtain ⟨h2, h⟩ := h
    refine MD_read (fun z => z.1 79 (l1 : Int32).toNatClampNeg) (fun G z Q k => T_iald 79 6 (dk dt_lookAt 186 rfl) mk_79 ml_79 h2 k) (fun z e => e 79 _ (Or.inl (core_a (by decide) h2))) ?_
    refine MD_lift (fun G z Q k => T_iconst (v := (-1)) (dk dt_lookAt 187 rfl) (by decide +kernel) k) ?_
    by_cases c3 : (x.1 79 (l1 : Int32).toNatClampNeg) = (-1 : Int32)
    · have h := h.2 c3
      refine MD_lift (fun G z Q k => T_icmp_ne 353 (dk dt_lookAt 188 rfl) (by decide) (fun q => absurd c3 q) (fun _ => k)) ?_
      exact h
    · have h := h.1 c3
      refine MD_lift (fun G z Q k => T_icmp_ne 353 (dk dt_lookAt 188 rfl) (by decide) (fun _ => k) (fun q => absurd q c3)) ?_
      refine MD_lift (fun G z Q k => T_aload_n 0 (dk dt_lookAt 198 rfl) rfl rfl k) ?_
      refine MD_lift (fun G z Q k => T_bipush (v := 8) (dk dt_lookAt 199 rfl) (by decide +kernel) k) ?_
      obtain ⟨x4, ex4⟩ : ∃ z, z = si x 0 89 8 := ⟨_, rfl⟩
      have h := h x4 ex4
      refine MD_wr 0 89 8 (fun G z Q k => T_putI 0 89 (dk dt_lookAt 200 rfl) fl_620 mk_0 ml_0 (by decide) rfl ⟨rfl, rfl⟩ k) (hm_f (by decide) _) ?_
      rw [← ex4]
      refine MD_lift (fun G z Q k => T_goto 404 (dk dt_lookAt 201 rfl) (by decide) k) ?_
      exact MD_ret (fun G z Q k => MT_vret (dk dt_lookAt 224 rfl) rfl k) h
  · have h := h.1 c1
    refine MD_lift (fun G z Q k => T_icmp_ne 337 (dk dt_lookAt 182 rfl) (by decide) (fun _ => k) (fun q => absurd q c1)) ?_
    exact h
set_option maxRecDepth 100000 in
set_option maxHeartbeats 4000000 in
theorem sd_lookAt_337 {d : Nat} {S : gS} {x : gd} {P : Option gv → gd → gS → Prop} (l1 : Int32) (l3 : Int32)
    (h : ((¬ (l3 = (14 : Int32)) → MD (d + 1) z_lookAt 362 [(0, vr 0), (1, vi l1), (3, vi l3)] [] S x P) ∧ (l3 = (14 : Int32) → vp_in l1 6 ∧ ((¬ ((x.1 79 (l1 : Int32).toNatClampNeg) = (-1 : Int32)) → MD (d + 1) z_lookAt 362 [(0, vr 0), (1, vi l1), (3, vi l3)] [] S x P) ∧ ((x.1 79 (l1 : Int32).toNatClampNeg) = (-1 : Int32) → (∀ x4 : gd, x4 = si x 0 89 8 → P none x4 (sadd S 0 89))))))) :
    MD (d + 1) z_lookAt 337 [(0, vr 0), (1, vi l1), (3, vi l3)] [] S x P := by
  refine MD_lift (fun G z Q k => T_iload_n 2 (dk dt_lookAt 189 rfl) rfl rfl k) ?_
  refine MD_lift (fun G z Q k => T_bipush (v := 14) (dk dt_lookAt 190 rfl) (by decide +kernel) k) ?_
  by_cases c1 : l3 = (14 : Int32)
  · have h := h.2 c1
    refine MD_lift (fun G z Q k => T_icmp_ne 362 (dk dt_lookAt 191 rfl) (by decide) (fun q => absurd c1 q) (fun _ => k)) ?_
    refine MD_lift (fun G z Q k => T_aload_n 0 (dk dt_lookAt 192 rfl) rfl rfl k) ?_
    refine MD_lift (fun G z Q k => T_getR 0 78 79 (dk dt_lookAt 193 rfl) fl_169 mk_0 ml_0 (by decide) rfl rfl k) ?_
    refine MD_lift (fun G z Q k => T_iload_n 1 (dk dt_lookAt 194 rfl) rfl rfl k) ?_
    obtain ⟨h2, h⟩ := h
    refine MD_read (fun z => z.1 79 (l1 : Int32).toNatClampNeg) (fun G z Q k => T_iald 79 6 (dk dt_lookAt 195 rfl) mk_79 ml_79 h2 k) (fun z e => e 79 _ (Or.inl (core_a (by decide) h2))) ?_
    refine MD_lift (fun G z Q k => T_iconst (v := (-1)) (dk dt_lookAt 196 rfl) (by decide +kernel) k) ?_
    by_cases c3 : (x.1 79 (l1 : Int32).toNatClampNeg) = (-1 : Int32)
    · have h := h.2 c3
      refine MD_lift (fun G z Q k => T_icmp_ne 362 (dk dt_lookAt 197 rfl) (by decide) (fun q => absurd c3 q) (fun _ => k)) ?_
      refine MD_lift (fun G z Q k => T_aload_n 0 (dk dt_lookAt 198 rfl) rfl rfl k) ?_
      refine MD_lift (fun G z Q k => T_bipush (v := 8) (dk dt_lookAt 199 rfl) (by decide +kernel) k) ?_
      obtain ⟨x4, ex4⟩ : ∃ z, z = si x 0 89 8 := ⟨_, rfl⟩
      have h := h x4 ex4
      refine MD_wr 0 89 8 (fun G z Q k => T_putI 0 89 (dk dt_lookAt 200 rfl) fl_620 mk_0 ml_0 (by decide) rfl ⟨rfl, rfl⟩ k) (hm_f (by decide) _) ?_
      rw [← ex4]
      refine MD_lift (fun G z Q k => T_goto 404 (dk dt_lookAt 201 rfl) (by decide) k) ?_
      exact MD_ret (fun G z Q k => MT_vret (dk dt_lookAt 224 rfl) rfl k) h
    · have h := h.1 c3
      refine MD_lift (fun G z Q k => T_icmp_ne 362 (dk dt_lookAt 197 rfl) (by decide) (fun _ => k) (fun q => absurd q c3)) ?_
      exact h
  · have h := h.1 c1
    refine MD_lift (fun G z Q k => T_icmp_ne 362 (dk dt_lookAt 191 rfl) (by decide) (fun _ => k) (fun q => absurd q c1)) ?_
    exact h
set_option maxRecDepth 100000 in
set_option maxHeartbeats 4000000 in
theorem sd_lookAt_362 {d : Nat} {S : gS} {x : gd} {P : Option gv → gd → gS → Prop} (l1 : Int32) (l3 : Int32)
    (h : ((¬ (l3 = (1 : Int32)) → P none x S) ∧ (l3 = (1 : Int32) → ((¬ ((x.1 0 68) = (1 : Int32)) → P none x S) ∧ ((x.1 0 68) = (1 : Int32) → S 0 88 ∧ vp_in (x.1 0 88) 24 ∧ ((¬ ((x.1 37 (x.1 0 88 : Int32).toNatClampNeg) = (0 : Int32)) → P none x S) ∧ ((x.1 37 (x.1 0 88 : Int32).toNatClampNeg) = (0 : Int32) → vp_in l1 6 ∧ ((¬ ((x.1 80 (l1 : Int32).toNatClampNeg) = (8 : Int32)) → P none x S) ∧ ((x.1 80 (l1 : Int32).toNatClampNeg) = (8 : Int32) → (∀ x8 : gd, x8 = si x 0 89 9 → P none x8 (sadd S 0 89))))))))))) :
    MD (d + 1) z_lookAt 362 [(0, vr 0), (1, vi l1), (3, vi l3)] [] S x P := by
  refine MD_lift (fun G z Q k => T_iload_n 2 (dk dt_lookAt 202 rfl) rfl rfl k) ?_
  refine MD_lift (fun G z Q k => T_iconst (v := 1) (dk dt_lookAt 203 rfl) (by decide +kernel) k) ?_
  by_cases c1 : l3 = (1 : Int32)
  · have h := h.2 c1
    refine MD_lift (fun G z Q k => T_icmp_ne 404 (dk dt_lookAt 204 rfl) (by decide) (fun q => absurd c1 q) (fun _ => k)) ?_
    refine MD_lift (fun G z Q k => T_aload_n 0 (dk dt_lookAt 205 rfl) rfl rfl k) ?_
    refine MD_read (fun z => z.1 0 68) (fun G z Q k => T_getI 0 68 (dk dt_lookAt 206 rfl) fl_608 mk_0 ml_0 (by decide) rfl k) (fun z e => e 0 68 (Or.inl (core_f (by decide)))) ?_
    refine MD_lift (fun G z Q k => T_iconst (v := 1) (dk dt_lookAt 207 rfl) (by decide +kernel) k) ?_
    by_cases c2 : (x.1 0 68) = (1 : Int32)
    · have h := h.2 c2
      refine MD_lift (fun G z Q k => T_icmp_ne 404 (dk dt_lookAt 208 rfl) (by decide) (fun q => absurd c2 q) (fun _ => k)) ?_
      refine MD_lift (fun G z Q k => T_aload_n 0 (dk dt_lookAt 209 rfl) rfl rfl k) ?_
      refine MD_lift (fun G z Q k => T_getR 0 36 37 (dk dt_lookAt 210 rfl) fl_73 mk_0 ml_0 (by decide) rfl rfl k) ?_
      refine MD_lift (fun G z Q k => T_aload_n 0 (dk dt_lookAt 211 rfl) rfl rfl k) ?_
      obtain ⟨h3, h⟩ := h
      refine MD_read (fun z => z.1 0 88) (fun G z Q k => T_getI 0 88 (dk dt_lookAt 212 rfl) fl_623 mk_0 ml_0 (by decide) rfl k) (fun z e => e 0 88 (Or.inr h3)) ?_
      obtain ⟨h4, h⟩ := h
      refine MD_read (fun z => z.1 37 (x.1 0 88 : Int32).toNatClampNeg) (fun G z Q k => T_zald 37 24 (dk dt_lookAt 213 rfl) mk_37 ml_37 h4 k) (fun z e => e 37 _ (Or.inl (core_a (by decide) h4))) ?_
      by_cases c5 : (x.1 37 (x.1 0 88 : Int32).toNatClampNeg) = (0 : Int32)
      · have h := h.2 c5
        refine MD_lift (fun G z Q k => T_if_ne 404 (dk dt_lookAt 214 rfl) (by decide) (fun q => absurd c5 q) (fun _ => k)) ?_
        refine MD_lift (fun G z Q k => T_aload_n 0 (dk dt_lookAt 215 rfl) rfl rfl k) ?_
        refine MD_lift (fun G z Q k => T_getR 0 79 80 (dk dt_lookAt 216 rfl) fl_172 mk_0 ml_0 (by decide) rfl rfl k) ?_
        refine MD_lift (fun G z Q k => T_iload_n 1 (dk dt_lookAt 217 rfl) rfl rfl k) ?_
        obtain ⟨h6, h⟩ := h
        refine MD_read (fun z => z.1 80 (l1 : Int32).toNatClampNeg) (fun G z Q k => T_iald 80 6 (dk dt_lookAt 218 rfl) mk_80 ml_80 h6 k) (fun z e => e 80 _ (Or.inl (core_a (by decide) h6))) ?_
        refine MD_lift (fun G z Q k => T_bipush (v := 8) (dk dt_lookAt 219 rfl) (by decide +kernel) k) ?_
        by_cases c7 : (x.1 80 (l1 : Int32).toNatClampNeg) = (8 : Int32)
        · have h := h.2 c7
          refine MD_lift (fun G z Q k => T_icmp_ne 404 (dk dt_lookAt 220 rfl) (by decide) (fun q => absurd c7 q) (fun _ => k)) ?_
          refine MD_lift (fun G z Q k => T_aload_n 0 (dk dt_lookAt 221 rfl) rfl rfl k) ?_
          refine MD_lift (fun G z Q k => T_bipush (v := 9) (dk dt_lookAt 222 rfl) (by decide +kernel) k) ?_
          obtain ⟨x8, ex8⟩ : ∃ z, z = si x 0 89 9 := ⟨_, rfl⟩
          have h := h x8 ex8
          refine MD_wr 0 89 9 (fun G z Q k => T_putI 0 89 (dk dt_lookAt 223 rfl) fl_620 mk_0 ml_0 (by decide) rfl ⟨rfl, rfl⟩ k) (hm_f (by decide) _) ?_
          rw [← ex8]
          exact MD_ret (fun G z Q k => MT_vret (dk dt_lookAt 224 rfl) rfl k) h
        · have h := h.1 c7
          refine MD_lift (fun G z Q k => T_icmp_ne 404 (dk dt_lookAt 220 rfl) (by decide) (fun _ => k) (fun q => absurd q c7)) ?_
          exact MD_ret (fun G z Q k => MT_vret (dk dt_lookAt 224 rfl) rfl k) h
      · have h := h.1 c5
        refine MD_lift (fun G z Q k => T_if_ne 404 (dk dt_lookAt 214 rfl) (by decide) (fun _ => k) (fun q => absurd q c5)) ?_
        exact MD_ret (fun G z Q k => MT_vret (dk dt_lookAt 224 rfl) rfl k) h
    · have h := h.1 c2
      refine MD_lift (fun G z Q k => T_icmp_ne 404 (dk dt_lookAt 208 rfl) (by decide) (fun _ => k) (fun q => absurd q c2)) ?_
      exact MD_ret (fun G z Q k => MT_vret (dk dt_lookAt 224 rfl) rfl k) h
  · have h := h.1 c1
    refine MD_lift (fun G z Q k => T_icmp_ne 404 (dk dt_lookAt 204 rfl) (by decide) (fun _ => k) (fun q => absurd q c1)) ?_
    exact MD_ret (fun G z Q k => MT_vret (dk dt_lookAt 224 rfl) rfl k) h
