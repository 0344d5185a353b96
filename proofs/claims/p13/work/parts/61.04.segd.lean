section
set_option maxRecDepth 100000 in
set_option maxHeartbeats 4000000 in
theorem sd_findChoices_0 {d : Nat} {S : gS} {x : gd} {P : Option gv → gd → gS → Prop} 
    (h : (∀ x1 : gd, x1 = si x 0 84 0 → MD (d + 1) z_findChoices 7 [(0, vr 0), (1, vi 0)] [] (sadd S 0 84) x1 P)) :
    MD (d + 1) z_findChoices 0 [(0, vr 0)] [] S x P := by
  refine MD_lift (fun G z Q k => T_aload_n 0 (dk dt_findChoices 0 rfl) rfl rfl k) ?_
  refine MD_lift (fun G z Q k => T_iconst (v := 0) (dk dt_findChoices 1 rfl) (by decide +kernel) k) ?_
  obtain ⟨x1, ex1⟩ : ∃ z, z = si x 0 84 0 := ⟨_, rfl⟩
  have h := h x1 ex1
  refine MD_wr 0 84 0 (fun G z Q k => T_putI 0 84 (dk dt_findChoices 2 rfl) fl_611 mk_0 ml_0 (by decide) rfl ⟨rfl, rfl⟩ k) (hm_f (by decide) _) ?_
  rw [← ex1]
  refine MD_lift (fun G z Q k => T_iconst (v := 0) (dk dt_findChoices 3 rfl) (by decide +kernel) k) ?_
  refine MD_lift (fun G z Q k => T_istore_n (lv2 := [(1, vi 0), (0, vr 0)]) (dk dt_findChoices 4 rfl) rfl (by decide) rfl k) ?_
  exact MD_lift (fun G z Q k => T_sub [1, 0] rfl k) h
set_option maxRecDepth 100000 in
set_option maxHeartbeats 4000000 in
theorem sd_findChoices_7 {d : Nat} {S : gS} {x : gd} {P : Option gv → gd → gS → Prop} (l1 : Int32)
    (h : (((x.1 0 25) ≤ l1 → P none x S) ∧ (¬ ((x.1 0 25) ≤ l1) → MD d z_hasAct 0 [(0, vr 0), (1, vi l1)] [] S x (Di (fun r3 x2 S2 => ((r3 = (0 : Int32) → MD (d + 1) z_findChoices 144 [(0, vr 0), (1, vi l1), (2, vi 0)] [] S2 x2 P) ∧ (¬ (r3 = (0 : Int32)) → vp_in l1 6 ∧ S2 0 84 ∧ MD d z_sortOf 0 [(0, vr 0), (1, vi l1)] [] S2 x2 (Di (fun r8 x7 S7 => ((¬ (r8 = (8 : Int32)) → MD (d + 1) z_findChoices 127 [(0, vr 0), (1, vi l1), (3, vi (x2.1 0 84))] [] S7 x7 P) ∧ (r8 = (8 : Int32) → vp_in (x2.1 74 (l1 : Int32).toNatClampNeg) 1500 ∧ ((¬ ((x7.1 57 (x2.1 74 (l1 : Int32).toNatClampNeg : Int32).toNatClampNeg) = (0 : Int32)) → MD (d + 1) z_findChoices 127 [(0, vr 0), (1, vi l1), (3, vi (x2.1 0 84))] [] S7 x7 P) ∧ ((x7.1 57 (x2.1 74 (l1 : Int32).toNatClampNeg : Int32).toNatClampNeg) = (0 : Int32) → vp_in (x2.1 74 (l1 : Int32).toNatClampNeg) 1500 ∧ vp_in (x7.1 56 (x2.1 74 (l1 : Int32).toNatClampNeg : Int32).toNatClampNeg) 6 ∧ ((¬ ((x7.1 71 (x7.1 56 (x2.1 74 (l1 : Int32).toNatClampNeg : Int32).toNatClampNeg : Int32).toNatClampNeg) = l1) → MD (d + 1) z_findChoices 127 [(0, vr 0), (1, vi l1), (3, vi (x2.1 0 84))] [] S7 x7 P) ∧ ((x7.1 71 (x7.1 56 (x2.1 74 (l1 : Int32).toNatClampNeg : Int32).toNatClampNeg : Int32).toNatClampNeg) = l1 → MD (d + 1) z_findChoices 72 [(0, vr 0), (1, vi l1), (2, vi (x2.1 74 (l1 : Int32).toNatClampNeg)), (3, vi (x2.1 0 84)), (4, vi 0)] [] S7 x7 P))))))))))))))) :
    MD (d + 1) z_findChoices 7 [(0, vr 0), (1, vi l1)] [] S x P := by
  refine MD_lift (fun G z Q k => T_iload_n 1 (dk dt_findChoices 5 rfl) rfl rfl k) ?_
  refine MD_lift (fun G z Q k => T_aload_n 0 (dk dt_findChoices 6 rfl) rfl rfl k) ?_
  refine MD_read (fun z => z.1 0 25) (fun G z Q k => T_getI 0 25 (dk dt_findChoices 7 rfl) fl_461 mk_0 ml_0 (by decide) rfl k) (fun z e => e 0 25 (Or.inl (core_f (by decide)))) ?_
  by_cases c1 : (x.1 0 25) ≤ l1
  · have h := h.1 c1
    refine MD_lift (fun G z Q k => T_icmp_ge 230 (dk dt_findChoices 8 rfl) (by decide) (fun _ => k) (fun q => absurd c1 q)) ?_
    exact MD_ret (fun G z Q k => MT_vret (dk dt_findChoices 131 rfl) rfl k) h
  · have h := h.2 c1
    refine MD_lift (fun G z Q k => T_icmp_ge 230 (dk dt_findChoices 8 rfl) (by decide) (fun q => absurd q c1) (fun _ => k)) ?_
    refine MD_lift (fun G z Q k => T_aload_n 0 (dk dt_findChoices 9 rfl) rfl rfl k) ?_
    refine MD_lift (fun G z Q k => T_iload_n 1 (dk dt_findChoices 10 rfl) rfl rfl k) ?_
    refine MD_calli (fun G z F Q k kk => MT_callVi [vi l1] [] rfl (dk dt_findChoices 11 rfl) cv_614 rfl rfl (Nat.le_of_ble_eq_true rfl) (Nat.le_of_ble_eq_true rfl) rfl rfl k kk) h (fun r3 x2 S2 h => ?_)
    by_cases c4 : r3 = (0 : Int32)
    · have h := h.1 c4
      refine MD_lift (fun G z Q k => T_if_eq 142 (dk dt_findChoices 12 rfl) (by decide) (fun _ => k) (fun q => absurd c4 q)) ?_
      refine MD_lift (fun G z Q k => T_iconst (v := 0) (dk dt_findChoices 80 rfl) (by decide +kernel) k) ?_
      refine MD_lift (fun G z Q k => T_istore_n (lv2 := [(2, vi 0), (0, vr 0), (1, vi l1)]) (dk dt_findChoices 81 rfl) rfl (by decide) rfl k) ?_
      exact MD_lift (fun G z Q k => T_sub [1, 2, 0] rfl k) h
    · have h := h.2 c4
      refine MD_lift (fun G z Q k => T_if_eq 142 (dk dt_findChoices 12 rfl) (by decide) (fun q => absurd q c4) (fun _ => k)) ?_
      refine MD_lift (fun G z Q k => T_aload_n 0 (dk dt_findChoices 13 rfl) rfl rfl k) ?_
      refine MD_lift (fun G z Q k => T_getR 0 73 74 (dk dt_findChoices 14 rfl) fl_154 mk_0 ml_0 (by decide) rfl rfl k) ?_
      refine MD_lift (fun G z Q k => T_iload_n 1 (dk dt_findChoices 15 rfl) rfl rfl k) ?_
      obtain ⟨h5, h⟩ := h
      refine MD_read (fun z => z.1 74 (l1 : Int32).toNatClampNeg) (fun G z Q k => T_iald 74 6 (dk dt_findChoices 16 rfl) mk_74 ml_74 h5 k) (fun z e => e 74 _ (Or.inl (core_a (by decide) h5))) ?_
      refine MD_lift (fun G z Q k => T_istore_n (lv2 := [(2, vi (x2.1 74 (l1 : Int32).toNatClampNeg)), (0, vr 0), (1, vi l1)]) (dk dt_findChoices 17 rfl) rfl (by decide) rfl k) ?_
      refine MD_lift (fun G z Q k => T_aload_n 1 (dk dt_findChoices 18 rfl) rfl rfl k) ?_
      obtain ⟨h6, h⟩ := h
      refine MD_read (fun z => z.1 0 84) (fun G z Q k => T_getI 0 84 (dk dt_findChoices 19 rfl) fl_611 mk_0 ml_0 (by decide) rfl k) (fun z e => e 0 84 (Or.inr h6)) ?_
      refine MD_lift (fun G z Q k => T_istore_n (lv2 := [(3, vi (x2.1 0 84)), (2, vi (x2.1 74 (l1 : Int32).toNatClampNeg)), (0, vr 0), (1, vi l1)]) (dk dt_findChoices 20 rfl) rfl (by decide) rfl k) ?_
      refine MD_lift (fun G z Q k => T_aload_n 2 (dk dt_findChoices 21 rfl) rfl rfl k) ?_
      refine MD_lift (fun G z Q k => T_iload_n 3 (dk dt_findChoices 22 rfl) rfl rfl k) ?_
      refine MD_calli (fun G z F Q k kk => MT_callVi [vi l1] [] rfl (dk dt_findChoices 23 rfl) cv_602 rfl rfl (Nat.le_of_ble_eq_true rfl) (Nat.le_of_ble_eq_true rfl) rfl rfl k kk) h (fun r8 x7 S7 h => ?_)
      refine MD_lift (fun G z Q k => T_bipush (v := 8) (dk dt_findChoices 24 rfl) (by decide +kernel) k) ?_
      by_cases c9 : r8 = (8 : Int32)
      · have h := h.2 c9
        refine MD_lift (fun G z Q k => T_icmp_ne 127 (dk dt_findChoices 25 rfl) (by decide) (fun q => absurd c9 q) (fun _ => k)) ?_
        refine MD_lift (fun G z Q k => T_aload_n 2 (dk dt_findChoices 26 rfl) rfl rfl k) ?_
        refine MD_lift (fun G z Q k => T_getR 0 56 57 (dk dt_findChoices 27 rfl) fl_112 mk_0 ml_0 (by decide) rfl rfl k) ?_
        refine MD_lift (fun G z Q k => T_iload_n 1 (dk dt_findChoices 28 rfl) rfl rfl k) ?_
        obtain ⟨h10, h⟩ := h
        refine MD_read (fun z => z.1 57 (x2.1 74 (l1 : Int32).toNatClampNeg : Int32).toNatClampNeg) (fun G z Q k => T_iald 57 1500 (dk dt_findChoices 29 rfl) mk_57 ml_57 h10 k) (fun z e => e 57 _ (Or.inl (core_a (by decide) h10))) ?_
        by_cases c11 : (x7.1 57 (x2.1 74 (l1 : Int32).toNatClampNeg : Int32).toNatClampNeg) = (0 : Int32)
        · have h := h.2 c11
          refine MD_lift (fun G z Q k => T_if_ne 127 (dk dt_findChoices 30 rfl) (by decide) (fun q => absurd c11 q) (fun _ => k)) ?_
          refine MD_lift (fun G z Q k => T_aload_n 2 (dk dt_findChoices 31 rfl) rfl rfl k) ?_
          refine MD_lift (fun G z Q k => T_getR 0 70 71 (dk dt_findChoices 32 rfl) fl_145 mk_0 ml_0 (by decide) rfl rfl k) ?_
          refine MD_lift (fun G z Q k => T_aload_n 2 (dk dt_findChoices 33 rfl) rfl rfl k) ?_
          refine MD_lift (fun G z Q k => T_getR 0 55 56 (dk dt_findChoices 34 rfl) fl_109 mk_0 ml_0 (by decide) rfl rfl k) ?_
          refine MD_lift (fun G z Q k => T_iload_n 1 (dk dt_findChoices 35 rfl) rfl rfl k) ?_
          obtain ⟨h12, h⟩ := h
          refine MD_read (fun z => z.1 56 (x2.1 74 (l1 : Int32).toNatClampNeg : Int32).toNatClampNeg) (fun G z Q k => T_iald 56 1500 (dk dt_findChoices 36 rfl) mk_56 ml_56 h12 k) (fun z e => e 56 _ (Or.inl (core_a (by decide) h12))) ?_
          obtain ⟨h13, h⟩ := h
          refine MD_read (fun z => z.1 71 (x7.1 56 (x2.1 74 (l1 : Int32).toNatClampNeg : Int32).toNatClampNeg : Int32).toNatClampNeg) (fun G z Q k => T_iald 71 6 (dk dt_findChoices 37 rfl) mk_71 ml_71 h13 k) (fun z e => e 71 _ (Or.inl (core_a (by decide) h13))) ?_
          refine MD_lift (fun G z Q k => T_iload_n 3 (dk dt_findChoices 38 rfl) rfl rfl k) ?_
          by_cases c14 : (x7.1 71 (x7.1 56 (x2.1 74 (l1 : Int32).toNatClampNeg : Int32).toNatClampNeg : Int32).toNatClampNeg) = l1
          · have h := h.2 c14
            refine MD_lift (fun G z Q k => T_icmp_ne 127 (dk dt_findChoices 39 rfl) (by decide) (fun q => absurd c14 q) (fun _ => k)) ?_
            refine MD_lift (fun G z Q k => T_iconst (v := 0) (dk dt_findChoices 40 rfl) (by decide +kernel) k) ?_
            refine MD_lift (fun G z Q k => T_istore (lv2 := [(4, vi 0), (3, vi (x2.1 0 84)), (2, vi (x2.1 74 (l1 : Int32).toNatClampNeg)), (0, vr 0), (1, vi l1)]) (dk dt_findChoices 41 rfl) (by decide) rfl k) ?_
            exact MD_lift (fun G z Q k => T_sub [3, 4, 2, 1, 0] rfl k) h
          · have h := h.1 c14
            refine MD_lift (fun G z Q k => T_icmp_ne 127 (dk dt_findChoices 39 rfl) (by decide) (fun _ => k) (fun q => absurd q c14)) ?_
            exact MD_lift (fun G z Q k => T_sub [2, 3, 0] rfl k) h
        · have h := h.1 c11
          refine MD_lift (fun G z Q k => T_if_ne 127 (dk dt_findChoices 30 rfl) (by decide) (fun _ => k) (fun q => absurd q c11)) ?_
          exact MD_lift (fun G z Q k => T_sub [2, 3, 0] rfl k) h
      · have h := h.1 c9
        refine MD_lift (fun G z Q k => T_icmp_ne 127 (dk dt_findChoices 25 rfl) (by decide) (fun _ => k) (fun q => absurd q c9)) ?_
        exact MD_lift (fun G z Q k => T_sub [2, 3, 0] rfl k) h
set_option maxRecDepth 100000 in
set_option maxHeartbeats 4000000 in
theorem sd_findChoices_72 {d : Nat} {S : gS} {x : gd} {P : Option gv → gd → gS → Prop} (l1 : Int32) (l2 : Int32) (l3 : Int32) (l4 : Int32)
    (h : (((x.1 0 25) ≤ l4 → MD (d + 1) z_findChoices 127 [(0, vr 0), (1, vi l1), (3, vi l3)] [] S x P) ∧ (¬ ((x.1 0 25) ≤ l4) → vp_in l4 6 ∧ ((¬ ((x.1 77 (l4 : Int32).toNatClampNeg) = (1 : Int32)) → MD (d + 1) z_findChoices 72 [(0, vr 0), (1, vi l1), (2, vi l2), (3, vi l3), (4, vi (l4 + 1))] [] S x P) ∧ ((x.1 77 (l4 : Int32).toNatClampNeg) = (1 : Int32) → vp_in l4 6 ∧ vp_in (x.1 74 (l4 : Int32).toNatClampNeg) 1500 ∧ vp_in l2 1500 ∧ ((¬ ((x.1 56 (x.1 74 (l4 : Int32).toNatClampNeg : Int32).toNatClampNeg) = (x.1 56 (l2 : Int32).toNatClampNeg)) → MD (d + 1) z_findChoices 72 [(0, vr 0), (1, vi l1), (2, vi l2), (3, vi l3), (4, vi (l4 + 1))] [] S x P) ∧ ((x.1 56 (x.1 74 (l4 : Int32).toNatClampNeg : Int32).toNatClampNeg) = (x.1 56 (l2 : Int32).toNatClampNeg) → MD d z_choose 0 [(0, vr 0), (1, vi l1), (2, vi (-1)), (3, vi l4)] [] S x (Dv (fun x8 S8 => MD (d + 1) z_findChoices 72 [(0, vr 0), (1, vi l1), (2, vi l2), (3, vi l3), (4, vi (l4 + 1))] [] S8 x8 P))))))))) :
    MD (d + 1) z_findChoices 72 [(0, vr 0), (1, vi l1), (2, vi l2), (3, vi l3), (4, vi l4)] [] S x P := by
  refine MD_lift (fun G z Q k => T_iload 4 (dk dt_findChoices 42 rfl) rfl k) ?_
  refine MD_lift (fun G z Q k => T_aload_n 0 (dk dt_findChoices 43 rfl) rfl rfl k) ?_
  refine MD_read (fun z => z.1 0 25) (fun G z Q k => T_getI 0 25 (dk dt_findChoices 44 rfl) fl_461 mk_0 ml_0 (by decide) rfl k) (fun z e => e 0 25 (Or.inl (core_f (by decide)))) ?_
  by_cases c1 : (x.1 0 25) ≤ l4
  · have h := h.1 c1
    refine MD_lift (fun G z Q k => T_icmp_ge 127 (dk dt_findChoices 45 rfl) (by decide) (fun _ => k) (fun q => absurd c1 q)) ?_
    exact MD_lift (fun G z Q k => T_sub [0, 1, 3] rfl k) h
  · have h := h.2 c1
    refine MD_lift (fun G z Q k => T_icmp_ge 127 (dk dt_findChoices 45 rfl) (by decide) (fun q => absurd q c1) (fun _ => k)) ?_
    refine MD_lift (fun G z Q k => T_aload_n 0 (dk dt_findChoices 46 rfl) rfl rfl k) ?_
    refine MD_lift (fun G z Q k => T_getR 0 76 77 (dk dt_findChoices 47 rfl) fl_163 mk_0 ml_0 (by decide) rfl rfl k) ?_
    refine MD_lift (fun G z Q k => T_iload 4 (dk dt_findChoices 48 rfl) rfl k) ?_
    obtain ⟨h2, h⟩ := h
    refine MD_read (fun z => z.1 77 (l4 : Int32).toNatClampNeg) (fun G z Q k => T_iald 77 6 (dk dt_findChoices 49 rfl) mk_77 ml_77 h2 k) (fun z e => e 77 _ (Or.inl (core_a (by decide) h2))) ?_
    refine MD_lift (fun G z Q k => T_iconst (v := 1) (dk dt_findChoices 50 rfl) (by decide +kernel) k) ?_
    by_cases c3 : (x.1 77 (l4 : Int32).toNatClampNeg) = (1 : Int32)
    · have h := h.2 c3
      refine MD_lift (fun G z Q k => T_icmp_ne 121 (dk dt_findChoices 51 rfl) (by decide) (fun q => absurd c3 q) (fun _ => k)) ?_
      refine MD_lift (fun G z Q k => T_aload_n 0 (dk dt_findChoices 52 rfl) rfl rfl k) ?_
      refine MD_lift (fun G z Q k => T_getR 0 55 56 (dk dt_findChoices 53 rfl) fl_109 mk_0 ml_0 (by decide) rfl rfl k) ?_
      refine MD_lift (fun G z Q k => T_aload_n 0 (dk dt_findChoices 54 rfl) rfl rfl k) ?_
      refine MD_lift (fun G z Q k => T_getR 0 73 74 (dk dt_findChoices 55 rfl) fl_154 mk_0 ml_0 (by decide) rfl rfl k) ?_
      refine MD_lift (fun G z Q k => T_iload 4 (dk dt_findChoices 56 rfl) rfl k) ?_
      obtain ⟨h4, h⟩ := h
      refine MD_read (fun z => z.1 74 (l4 : Int32).toNatClampNeg) (fun G z Q k => T_iald 74 6 (dk dt_findChoices 57 rfl) mk_74 ml_74 h4 k) (fun z e => e 74 _ (Or.inl (core_a (by decide) h4))) ?_
      obtain ⟨h5, h⟩ := h
      refine MD_read (fun z => z.1 56 (x.1 74 (l4 : Int32).toNatClampNeg : Int32).toNatClampNeg) (fun G z Q k => T_iald 56 1500 (dk dt_findChoices 58 rfl) mk_56 ml_56 h5 k) (fun z e => e 56 _ (Or.inl (core_a (by decide) h5))) ?_
      refine MD_lift (fun G z Q k => T_aload_n 0 (dk dt_findChoices 59 rfl) rfl rfl k) ?_
      refine MD_lift (fun G z Q k => T_getR 0 55 56 (dk dt_findChoices 60 rfl) fl_109 mk_0 ml_0 (by decide) rfl rfl k) ?_
      refine MD_lift (fun G z Q k => T_iload_n 2 (dk dt_findChoices 61 rfl) rfl rfl k) ?_
      obtain ⟨h6, h⟩ := h
      refine MD_read (fun z => z.1 56 (l2 : Int32).toNatClampNeg) (fun G z Q k => T_iald 56 1500 (dk dt_findChoices 62 rfl) mk_56 ml_56 h6 k) (fun z e => e 56 _ (Or.inl (core_a (by decide) h6))) ?_
      by_cases c7 : (x.1 56 (x.1 74 (l4 : Int32).toNatClampNeg : Int32).toNatClampNeg) = (x.1 56 (l2 : Int32).toNatClampNeg)
      · have h := h.2 c7
        refine MD_lift (fun G z Q k => T_icmp_ne 121 (dk dt_findChoices 63 rfl) (by decide) (fun q => absurd c7 q) (fun _ => k)) ?_
        refine MD_lift (fun G z Q k => T_aload_n 0 (dk dt_findChoices 64 rfl) rfl rfl k) ?_
        refine MD_lift (fun G z Q k => T_iload_n 1 (dk dt_findChoices 65 rfl) rfl rfl k) ?_
        refine MD_lift (fun G z Q k => T_iconst (v := (-1)) (dk dt_findChoices 66 rfl) (by decide +kernel) k) ?_
        refine MD_lift (fun G z Q k => T_iload 4 (dk dt_findChoices 67 rfl) rfl k) ?_
        refine MD_callv (fun G z F Q k kk => MT_callVv [vi l1, vi (-1), vi l4] [] rfl (dk dt_findChoices 68 rfl) cv_617 rfl rfl (Nat.le_of_ble_eq_true rfl) (Nat.le_of_ble_eq_true rfl) rfl rfl k kk) h (fun x8 S8 h => ?_)
        refine MD_lift (fun G z Q k => T_iinc (v := l4 + 1) (lv2 := [(4, vi (l4 + 1)), (0, vr 0), (1, vi l1), (2, vi l2), (3, vi l3)]) 4 (dk dt_findChoices 69 rfl) rfl rfl (by decide) rfl k) ?_
        refine MD_lift (fun G z Q k => T_goto 72 (dk dt_findChoices 70 rfl) (by decide) k) ?_
        exact MD_lift (fun G z Q k => T_sub [1, 2, 3, 4, 0] rfl k) h
      · have h := h.1 c7
        refine MD_lift (fun G z Q k => T_icmp_ne 121 (dk dt_findChoices 63 rfl) (by decide) (fun _ => k) (fun q => absurd q c7)) ?_
        refine MD_lift (fun G z Q k => T_iinc (v := l4 + 1) (lv2 := [(4, vi (l4 + 1)), (0, vr 0), (1, vi l1), (2, vi l2), (3, vi l3)]) 4 (dk dt_findChoices 69 rfl) rfl rfl (by decide) rfl k) ?_
        refine MD_lift (fun G z Q k => T_goto 72 (dk dt_findChoices 70 rfl) (by decide) k) ?_
        exact MD_lift (fun G z Q k => T_sub [1, 2, 3, 4, 0] rfl k) h
    · have h := h.1 c3
      refine MD_lift (fun G z Q k => T_icmp_ne 121 (dk dt_findChoices 51 rfl) (by decide) (fun _ => k) (fun q => absurd q c3)) ?_
      refine MD_lift (fun G z Q k => T_iinc (v := l4 + 1) (lv2 := [(4, vi (l4 + 1)), (0, vr 0), (1, vi l1), (2, vi l2), (3, vi l3)]) 4 (dk dt_findChoices 69 rfl) rfl rfl (by decide) rfl k) ?_
      refine MD_lift (fun G z Q k => T_goto 72 (dk dt_findChoices 70 rfl) (by decide) k) ?_
      exact MD_lift (fun G z Q k => T_sub [1, 2, 3, 4, 0] rfl k) h
set_option maxRecDepth 100000 in
set_option maxHeartbeats 4000000 in
theorem sd_findChoices_127 {d : Nat} {S : gS} {x : gd} {P : Option gv → gd → gS → Prop} (l1 : Int32) (l3 : Int32)
    (h : S 0 84 ∧ ((¬ ((x.1 0 84) = l3) → MD (d + 1) z_findChoices 144 [(0, vr 0), (1, vi l1), (2, vi 0)] [] S x P) ∧ ((x.1 0 84) = l3 → MD d z_choose 0 [(0, vr 0), (1, vi l1), (2, vi (-1)), (3, vi (-1))] [] S x (Dv (fun x3 S3 => MD (d + 1) z_findChoices 144 [(0, vr 0), (1, vi l1), (2, vi 0)] [] S3 x3 P))))) :
    MD (d + 1) z_findChoices 127 [(0, vr 0), (1, vi l1), (3, vi l3)] [] S x P := by
  refine MD_lift (fun G z Q k => T_aload_n 0 (dk dt_findChoices 71 rfl) rfl rfl k) ?_
  obtain ⟨h1, h⟩ := h
  refine MD_read (fun z => z.1 0 84) (fun G z Q k => T_getI 0 84 (dk dt_findChoices 72 rfl) fl_611 mk_0 ml_0 (by decide) rfl k) (fun z e => e 0 84 (Or.inr h1)) ?_
  refine MD_lift (fun G z Q k => T_iload_n 2 (dk dt_findChoices 73 rfl) rfl rfl k) ?_
  by_cases c2 : (x.1 0 84) = l3
  · have h := h.2 c2
    refine MD_lift (fun G z Q k => T_icmp_ne 142 (dk dt_findChoices 74 rfl) (by decide) (fun q => absurd c2 q) (fun _ => k)) ?_
    refine MD_lift (fun G z Q k => T_aload_n 0 (dk dt_findChoices 75 rfl) rfl rfl k) ?_
    refine MD_lift (fun G z Q k => T_iload_n 1 (dk dt_findChoices 76 rfl) rfl rfl k) ?_
    refine MD_lift (fun G z Q k => T_iconst (v := (-1)) (dk dt_findChoices 77 rfl) (by decide +kernel) k) ?_
    refine MD_lift (fun G z Q k => T_iconst (v := (-1)) (dk dt_findChoices 78 rfl) (by decide +kernel) k) ?_
    refine MD_callv (fun G z F Q k kk => MT_callVv [vi l1, vi (-1), vi (-1)] [] rfl (dk dt_findChoices 79 rfl) cv_617 rfl rfl (Nat.le_of_ble_eq_true rfl) (Nat.le_of_ble_eq_true rfl) rfl rfl k kk) h (fun x3 S3 h => ?_)
    refine MD_lift (fun G z Q k => T_iconst (v := 0) (dk dt_findChoices 80 rfl) (by decide +kernel) k) ?_
    refine MD_lift (fun G z Q k => T_istore_n (lv2 := [(2, vi 0), (0, vr 0), (1, vi l1), (3, vi l3)]) (dk dt_findChoices 81 rfl) rfl (by decide) rfl k) ?_
    exact MD_lift (fun G z Q k => T_sub [1, 2, 0] rfl k) h
  · have h := h.1 c2
    refine MD_lift (fun G z Q k => T_icmp_ne 142 (dk dt_findChoices 74 rfl) (by decide) (fun _ => k) (fun q => absurd q c2)) ?_
    refine MD_lift (fun G z Q k => T_iconst (v := 0) (dk dt_findChoices 80 rfl) (by decide +kernel) k) ?_
    refine MD_lift (fun G z Q k => T_istore_n (lv2 := [(2, vi 0), (0, vr 0), (1, vi l1), (3, vi l3)]) (dk dt_findChoices 81 rfl) rfl (by decide) rfl k) ?_
    exact MD_lift (fun G z Q k => T_sub [1, 2, 0] rfl k) h
set_option maxRecDepth 100000 in
set_option maxHeartbeats 4000000 in
theorem sd_findChoices_144 {d : Nat} {S : gS} {x : gd} {P : Option gv → gd → gS → Prop} (l1 : Int32) (l2 : Int32)
    (h : vp_in l1 6 ∧ (((x.1 80 (l1 : Int32).toNatClampNeg) ≤ l2 → MD (d + 1) z_findChoices 7 [(0, vr 0), (1, vi (l1 + 1))] [] S x P) ∧ (¬ ((x.1 80 (l1 : Int32).toNatClampNeg) ≤ l2) → MD (d + 1) z_findChoices 159 [(0, vr 0), (1, vi l1), (2, vi l2), (3, vi 1), (4, vi 0)] [] S x P))) :
    MD (d + 1) z_findChoices 144 [(0, vr 0), (1, vi l1), (2, vi l2)] [] S x P := by
  refine MD_lift (fun G z Q k => T_iload_n 2 (dk dt_findChoices 82 rfl) rfl rfl k) ?_
  refine MD_lift (fun G z Q k => T_aload_n 0 (dk dt_findChoices 83 rfl) rfl rfl k) ?_
  refine MD_lift (fun G z Q k => T_getR 0 79 80 (dk dt_findChoices 84 rfl) fl_172 mk_0 ml_0 (by decide) rfl rfl k) ?_
  refine MD_lift (fun G z Q k => T_iload_n 1 (dk dt_findChoices 85 rfl) rfl rfl k) ?_
  obtain ⟨h1, h⟩ := h
  refine MD_read (fun z => z.1 80 (l1 : Int32).toNatClampNeg) (fun G z Q k => T_iald 80 6 (dk dt_findChoices 86 rfl) mk_80 ml_80 h1 k) (fun z e => e 80 _ (Or.inl (core_a (by decide) h1))) ?_
  by_cases c2 : (x.1 80 (l1 : Int32).toNatClampNeg) ≤ l2
  · have h := h.1 c2
    refine MD_lift (fun G z Q k => T_icmp_ge 224 (dk dt_findChoices 87 rfl) (by decide) (fun _ => k) (fun q => absurd c2 q)) ?_
    refine MD_lift (fun G z Q k => T_iinc (v := l1 + 1) (lv2 := [(1, vi (l1 + 1)), (0, vr 0), (2, vi l2)]) 1 (dk dt_findChoices 129 rfl) rfl rfl (by decide) rfl k) ?_
    refine MD_lift (fun G z Q k => T_goto 7 (dk dt_findChoices 130 rfl) (by decide) k) ?_
    exact MD_lift (fun G z Q k => T_sub [1, 0] rfl k) h
  · have h := h.2 c2
    refine MD_lift (fun G z Q k => T_icmp_ge 224 (dk dt_findChoices 87 rfl) (by decide) (fun q => absurd q c2) (fun _ => k)) ?_
    refine MD_lift (fun G z Q k => T_iconst (v := 1) (dk dt_findChoices 88 rfl) (by decide +kernel) k) ?_
    refine MD_lift (fun G z Q k => T_istore_n (lv2 := [(3, vi 1), (0, vr 0), (1, vi l1), (2, vi l2)]) (dk dt_findChoices 89 rfl) rfl (by decide) rfl k) ?_
    refine MD_lift (fun G z Q k => T_iconst (v := 0) (dk dt_findChoices 90 rfl) (by decide +kernel) k) ?_
    refine MD_lift (fun G z Q k => T_istore (lv2 := [(4, vi 0), (3, vi 1), (0, vr 0), (1, vi l1), (2, vi l2)]) (dk dt_findChoices 91 rfl) (by decide) rfl k) ?_
    exact MD_lift (fun G z Q k => T_sub [2, 3, 4, 1, 0] rfl k) h
set_option maxRecDepth 100000 in
set_option maxHeartbeats 4000000 in
theorem sd_findChoices_159 {d : Nat} {S : gS} {x : gd} {P : Option gv → gd → gS → Prop} (l1 : Int32) (l2 : Int32) (l3 : Int32) (l4 : Int32)
    (h : ((l2 ≤ l4 → ((l3 = (0 : Int32) → MD (d + 1) z_findChoices 144 [(0, vr 0), (1, vi l1), (2, vi (l2 + 1))] [] S x P) ∧ (¬ (l3 = (0 : Int32)) → MD d z_choose 0 [(0, vr 0), (1, vi l1), (2, vi l2), (3, vi (-1))] [] S x (Dv (fun x3 S3 => MD (d + 1) z_findChoices 144 [(0, vr 0), (1, vi l1), (2, vi (l2 + 1))] [] S3 x3 P))))) ∧ (¬ (l2 ≤ l4) → ((l3 = (0 : Int32) → MD (d + 1) z_findChoices 159 [(0, vr 0), (1, vi l1), (2, vi l2), (3, vi 0), (4, vi (l4 + 1))] [] S x P) ∧ (¬ (l3 = (0 : Int32)) → vp_in ((10 * l1) + l4) 60 ∧ S 81 ((10 * l1) + l4 : Int32).toNatClampNeg ∧ vp_in ((10 * l1) + l2) 60 ∧ S 81 ((10 * l1) + l2 : Int32).toNatClampNeg ∧ (((x.1 81 ((10 * l1) + l4 : Int32).toNatClampNeg) = (x.1 81 ((10 * l1) + l2 : Int32).toNatClampNeg) → MD (d + 1) z_findChoices 159 [(0, vr 0), (1, vi l1), (2, vi l2), (3, vi 0), (4, vi (l4 + 1))] [] S x P) ∧ (¬ ((x.1 81 ((10 * l1) + l4 : Int32).toNatClampNeg) = (x.1 81 ((10 * l1) + l2 : Int32).toNatClampNeg)) → MD (d + 1) z_findChoices 159 [(0, vr 0), (1, vi l1), (2, vi l2), (3, vi 1), (4, vi (l4 + 1))] [] S x P))))))) :
    MD (d + 1) z_findChoices 159 [(0, vr 0), (1, vi l1), (2, vi l2), (3, vi l3), (4, vi l4)] [] S x P := by
  refine MD_lift (fun G z Q k => T_iload 4 (dk dt_findChoices 92 rfl) rfl k) ?_
  refine MD_lift (fun G z Q k => T_iload_n 2 (dk dt_findChoices 93 rfl) rfl rfl k) ?_
  by_cases c1 : l2 ≤ l4
  · have h := h.1 c1
    refine MD_lift (fun G z Q k => T_icmp_ge 207 (dk dt_findChoices 94 rfl) (by decide) (fun _ => k) (fun q => absurd c1 q)) ?_
    refine MD_lift (fun G z Q k => T_iload_n 3 (dk dt_findChoices 120 rfl) rfl rfl k) ?_
    by_cases c2 : l3 = (0 : Int32)
    · have h := h.1 c2
      refine MD_lift (fun G z Q k => T_if_eq 218 (dk dt_findChoices 121 rfl) (by decide) (fun _ => k) (fun q => absurd c2 q)) ?_
      refine MD_lift (fun G z Q k => T_iinc (v := l2 + 1) (lv2 := [(2, vi (l2 + 1)), (0, vr 0), (1, vi l1), (3, vi l3), (4, vi l4)]) 2 (dk dt_findChoices 127 rfl) rfl rfl (by decide) rfl k) ?_
      refine MD_lift (fun G z Q k => T_goto 144 (dk dt_findChoices 128 rfl) (by decide) k) ?_
      exact MD_lift (fun G z Q k => T_sub [1, 2, 0] rfl k) h
    · have h := h.2 c2
      refine MD_lift (fun G z Q k => T_if_eq 218 (dk dt_findChoices 121 rfl) (by decide) (fun q => absurd q c2) (fun _ => k)) ?_
      refine MD_lift (fun G z Q k => T_aload_n 0 (dk dt_findChoices 122 rfl) rfl rfl k) ?_
      refine MD_lift (fun G z Q k => T_iload_n 1 (dk dt_findChoices 123 rfl) rfl rfl k) ?_
      refine MD_lift (fun G z Q k => T_iload_n 2 (dk dt_findChoices 124 rfl) rfl rfl k) ?_
      refine MD_lift (fun G z Q k => T_iconst (v := (-1)) (dk dt_findChoices 125 rfl) (by decide +kernel) k) ?_
      refine MD_callv (fun G z F Q k kk => MT_callVv [vi l1, vi l2, vi (-1)] [] rfl (dk dt_findChoices 126 rfl) cv_617 rfl rfl (Nat.le_of_ble_eq_true rfl) (Nat.le_of_ble_eq_true rfl) rfl rfl k kk) h (fun x3 S3 h => ?_)
      refine MD_lift (fun G z Q k => T_iinc (v := l2 + 1) (lv2 := [(2, vi (l2 + 1)), (0, vr 0), (1, vi l1), (3, vi l3), (4, vi l4)]) 2 (dk dt_findChoices 127 rfl) rfl rfl (by decide) rfl k) ?_
      refine MD_lift (fun G z Q k => T_goto 144 (dk dt_findChoices 128 rfl) (by decide) k) ?_
      exact MD_lift (fun G z Q k => T_sub [1, 2, 0] rfl k) h
  · have h := h.2 c1
    refine MD_lift (fun G z Q k => T_icmp_ge 207 (dk dt_findChoices 94 rfl) (by decide) (fun q => absurd q c1) (fun _ => k)) ?_
    refine MD_lift (fun G z Q k => T_iload_n 3 (dk dt_findChoices 95 rfl) rfl rfl k) ?_
    by_cases c4 : l3 = (0 : Int32)
    · have h := h.1 c4
      refine MD_lift (fun G z Q k => T_if_eq 199 (dk dt_findChoices 96 rfl) (by decide) (fun _ => k) (fun q => absurd c4 q)) ?_
      refine MD_lift (fun G z Q k => T_iconst (v := 0) (dk dt_findChoices 116 rfl) (by decide +kernel) k) ?_
      refine MD_lift (fun G z Q k => T_istore_n (lv2 := [(3, vi 0), (0, vr 0), (1, vi l1), (2, vi l2), (4, vi l4)]) (dk dt_findChoices 117 rfl) rfl (by decide) rfl k) ?_
      refine MD_lift (fun G z Q k => T_iinc (v := l4 + 1) (lv2 := [(4, vi (l4 + 1)), (3, vi 0), (0, vr 0), (1, vi l1), (2, vi l2)]) 4 (dk dt_findChoices 118 rfl) rfl rfl (by decide) rfl k) ?_
      refine MD_lift (fun G z Q k => T_goto 159 (dk dt_findChoices 119 rfl) (by decide) k) ?_
      exact MD_lift (fun G z Q k => T_sub [2, 3, 4, 1, 0] rfl k) h
    · have h := h.2 c4
      refine MD_lift (fun G z Q k => T_if_eq 199 (dk dt_findChoices 96 rfl) (by decide) (fun q => absurd q c4) (fun _ => k)) ?_
      refine MD_lift (fun G z Q k => T_aload_n 0 (dk dt_findChoices 97 rfl) rfl rfl k) ?_
      refine MD_lift (fun G z Q k => T_getR 0 80 81 (dk dt_findChoices 98 rfl) fl_175 mk_0 ml_0 (by decide) rfl rfl k) ?_
      refine MD_lift (fun G z Q k => T_bipush (v := 10) (dk dt_findChoices 99 rfl) (by decide +kernel) k) ?_
      refine MD_lift (fun G z Q k => T_iload_n 1 (dk dt_findChoices 100 rfl) rfl rfl k) ?_
      refine MD_lift (fun G z Q k => T_imul (dk dt_findChoices 101 rfl) k) ?_
      refine MD_lift (fun G z Q k => T_iload 4 (dk dt_findChoices 102 rfl) rfl k) ?_
      refine MD_lift (fun G z Q k => T_iadd (dk dt_findChoices 103 rfl) k) ?_
      obtain ⟨h5, h⟩ := h
      obtain ⟨h6, h⟩ := h
      refine MD_read (fun z => z.1 81 ((10 * l1) + l4 : Int32).toNatClampNeg) (fun G z Q k => T_iald 81 60 (dk dt_findChoices 104 rfl) mk_81 ml_81 h5 k) (fun z e => e 81 _ (Or.inr h6)) ?_
      refine MD_lift (fun G z Q k => T_aload_n 0 (dk dt_findChoices 105 rfl) rfl rfl k) ?_
      refine MD_lift (fun G z Q k => T_getR 0 80 81 (dk dt_findChoices 106 rfl) fl_175 mk_0 ml_0 (by decide) rfl rfl k) ?_
      refine MD_lift (fun G z Q k => T_bipush (v := 10) (dk dt_findChoices 107 rfl) (by decide +kernel) k) ?_
      refine MD_lift (fun G z Q k => T_iload_n 1 (dk dt_findChoices 108 rfl) rfl rfl k) ?_
      refine MD_lift (fun G z Q k => T_imul (dk dt_findChoices 109 rfl) k) ?_
      refine MD_lift (fun G z Q k => T_iload_n 2 (dk dt_findChoices 110 rfl) rfl rfl k) ?_
      refine MD_lift (fun G z Q k => T_iadd (dk dt_findChoices 111 rfl) k) ?_
      obtain ⟨h7, h⟩ := h
      obtain ⟨h8, h⟩ := h
      refine MD_read (fun z => z.1 81 ((10 * l1) + l2 : Int32).toNatClampNeg) (fun G z Q k => T_iald 81 60 (dk dt_findChoices 112 rfl) mk_81 ml_81 h7 k) (fun z e => e 81 _ (Or.inr h8)) ?_
      by_cases c9 : (x.1 81 ((10 * l1) + l4 : Int32).toNatClampNeg) = (x.1 81 ((10 * l1) + l2 : Int32).toNatClampNeg)
      · have h := h.1 c9
        refine MD_lift (fun G z Q k => T_icmp_eq 199 (dk dt_findChoices 113 rfl) (by decide) (fun _ => k) (fun q => absurd c9 q)) ?_
        refine MD_lift (fun G z Q k => T_iconst (v := 0) (dk dt_findChoices 116 rfl) (by decide +kernel) k) ?_
        refine MD_lift (fun G z Q k => T_istore_n (lv2 := [(3, vi 0), (0, vr 0), (1, vi l1), (2, vi l2), (4, vi l4)]) (dk dt_findChoices 117 rfl) rfl (by decide) rfl k) ?_
        refine MD_lift (fun G z Q k => T_iinc (v := l4 + 1) (lv2 := [(4, vi (l4 + 1)), (3, vi 0), (0, vr 0), (1, vi l1), (2, vi l2)]) 4 (dk dt_findChoices 118 rfl) rfl rfl (by decide) rfl k) ?_
        refine MD_lift (fun G z Q k => T_goto 159 (dk dt_findChoices 119 rfl) (by decide) k) ?_
        exact MD_lift (fun G z Q k => T_sub [2, 3, 4, 1, 0] rfl k) h
      · have h := h.2 c9
        refine MD_lift (fun G z Q k => T_icmp_eq 199 (dk dt_findChoices 113 rfl) (by decide) (fun q => absurd q c9) (fun _ => k)) ?_
        refine MD_lift (fun G z Q k => T_iconst (v := 1) (dk dt_findChoices 114 rfl) (by decide +kernel) k) ?_
        refine MD_lift (fun G z Q k => T_goto 200 (dk dt_findChoices 115 rfl) (by decide) k) ?_
        refine MD_lift (fun G z Q k => T_istore_n (lv2 := [(3, vi 1), (0, vr 0), (1, vi l1), (2, vi l2), (4, vi l4)]) (dk dt_findChoices 117 rfl) rfl (by decide) rfl k) ?_
        refine MD_lift (fun G z Q k => T_iinc (v := l4 + 1) (lv2 := [(4, vi (l4 + 1)), (3, vi 1), (0, vr 0), (1, vi l1), (2, vi l2)]) 4 (dk dt_findChoices 118 rfl) rfl rfl (by decide) rfl k) ?_
        refine MD_lift (fun G z Q k => T_goto 159 (dk dt_findChoices 119 rfl) (by decide) k) ?_
        exact MD_lift (fun G z Q k => T_sub [2, 3, 4, 1, 0] rfl k) h
set_option maxRecDepth 100000 in
set_option maxHeartbeats 4000000 in
theorem sd_see_0 {d : Nat} {S : gS} {x : gd} {P : Option gv → gd → gS → Prop} (l1 : Int32) (l2 : Int32)
    (h : vp_in l2 24 ∧ MD d z_see 10 [(0, vr 0), (1, vi l1), (2, vi l2), (3, vi (x.1 70 (l2 : Int32).toNatClampNeg)), (4, vi 0)] [] S x P) :
    MD d z_see 0 [(0, vr 0), (1, vi l1), (2, vi l2)] [] S x P := by
  refine MD_lift (fun G z Q k => T_aload_n 0 (dk dt_see 0 rfl) rfl rfl k) ?_
  refine MD_lift (fun G z Q k => T_getR 0 69 70 (dk dt_see 1 rfl) fl_142 mk_0 ml_0 (by decide) rfl rfl k) ?_
  refine MD_lift (fun G z Q k => T_iload_n 2 (dk dt_see 2 rfl) rfl rfl k) ?_
  obtain ⟨h1, h⟩ := h
  refine MD_read (fun z => z.1 70 (l2 : Int32).toNatClampNeg) (fun G z Q k => T_iald 70 24 (dk dt_see 3 rfl) mk_70 ml_70 h1 k) (fun z e => e 70 _ (Or.inl (core_a (by decide) h1))) ?_
  refine MD_lift (fun G z Q k => T_istore_n (lv2 := [(3, vi (x.1 70 (l2 : Int32).toNatClampNeg)), (0, vr 0), (1, vi l1), (2, vi l2)]) (dk dt_see 4 rfl) rfl (by decide) rfl k) ?_
  refine MD_lift (fun G z Q k => T_iconst (v := 0) (dk dt_see 5 rfl) (by decide +kernel) k) ?_
  refine MD_lift (fun G z Q k => T_istore (lv2 := [(4, vi 0), (3, vi (x.1 70 (l2 : Int32).toNatClampNeg)), (0, vr 0), (1, vi l1), (2, vi l2)]) (dk dt_see 6 rfl) (by decide) rfl k) ?_
  exact MD_lift (fun G z Q k => T_sub [2, 3, 4, 1, 0] rfl k) h
set_option maxRecDepth 100000 in
set_option maxHeartbeats 4000000 in
theorem sd_see_10 {d : Nat} {S : gS} {x : gd} {P : Option gv → gd → gS → Prop} (l1 : Int32) (l2 : Int32) (l3 : Int32) (l4 : Int32)
    (h : vp_in l1 6 ∧ (((x.1 80 (l1 : Int32).toNatClampNeg) ≤ l4 → P (some (vi l3)) x S) ∧ (¬ ((x.1 80 (l1 : Int32).toNatClampNeg) ≤ l4) → vp_in ((10 * l1) + l4) 60 ∧ S 81 ((10 * l1) + l4 : Int32).toNatClampNeg ∧ ((¬ ((x.1 81 ((10 * l1) + l4 : Int32).toNatClampNeg) = l2) → MD d z_see 10 [(0, vr 0), (1, vi l1), (2, vi l2), (3, vi l3), (4, vi (l4 + 1))] [] S x P) ∧ ((x.1 81 ((10 * l1) + l4 : Int32).toNatClampNeg) = l2 → vp_in ((10 * l1) + l4) 60 ∧ S 82 ((10 * l1) + l4 : Int32).toNatClampNeg ∧ MD d z_see 10 [(0, vr 0), (1, vi l1), (2, vi l2), (3, vi (x.1 82 ((10 * l1) + l4 : Int32).toNatClampNeg)), (4, vi (l4 + 1))] [] S x P))))) :
    MD d z_see 10 [(0, vr 0), (1, vi l1), (2, vi l2), (3, vi l3), (4, vi l4)] [] S x P := by
  refine MD_lift (fun G z Q k => T_iload 4 (dk dt_see 7 rfl) rfl k) ?_
  refine MD_lift (fun G z Q k => T_aload_n 0 (dk dt_see 8 rfl) rfl rfl k) ?_
  refine MD_lift (fun G z Q k => T_getR 0 79 80 (dk dt_see 9 rfl) fl_172 mk_0 ml_0 (by decide) rfl rfl k) ?_
  refine MD_lift (fun G z Q k => T_iload_n 1 (dk dt_see 10 rfl) rfl rfl k) ?_
  obtain ⟨h1, h⟩ := h
  refine MD_read (fun z => z.1 80 (l1 : Int32).toNatClampNeg) (fun G z Q k => T_iald 80 6 (dk dt_see 11 rfl) mk_80 ml_80 h1 k) (fun z e => e 80 _ (Or.inl (core_a (by decide) h1))) ?_
  by_cases c2 : (x.1 80 (l1 : Int32).toNatClampNeg) ≤ l4
  · have h := h.1 c2
    refine MD_lift (fun G z Q k => T_icmp_ge 60 (dk dt_see 12 rfl) (by decide) (fun _ => k) (fun q => absurd c2 q)) ?_
    refine MD_lift (fun G z Q k => T_iload_n 3 (dk dt_see 36 rfl) rfl rfl k) ?_
    exact MD_ret (fun G z Q k => MT_iret (dk dt_see 37 rfl) rfl rfl k) h
  · have h := h.2 c2
    refine MD_lift (fun G z Q k => T_icmp_ge 60 (dk dt_see 12 rfl) (by decide) (fun q => absurd q c2) (fun _ => k)) ?_
    refine MD_lift (fun G z Q k => T_aload_n 0 (dk dt_see 13 rfl) rfl rfl k) ?_
    refine MD_lift (fun G z Q k => T_getR 0 80 81 (dk dt_see 14 rfl) fl_175 mk_0 ml_0 (by decide) rfl rfl k) ?_
    refine MD_lift (fun G z Q k => T_bipush (v := 10) (dk dt_see 15 rfl) (by decide +kernel) k) ?_
    refine MD_lift (fun G z Q k => T_iload_n 1 (dk dt_see 16 rfl) rfl rfl k) ?_
    refine MD_lift (fun G z Q k => T_imul (dk dt_see 17 rfl) k) ?_
    refine MD_lift (fun G z Q k => T_iload 4 (dk dt_see 18 rfl) rfl k) ?_
    refine MD_lift (fun G z Q k => T_iadd (dk dt_see 19 rfl) k) ?_
    obtain ⟨h3, h⟩ := h
    obtain ⟨h4, h⟩ := h
    refine MD_read (fun z => z.1 81 ((10 * l1) + l4 : Int32).toNatClampNeg) (fun G z Q k => T_iald 81 60 (dk dt_see 20 rfl) mk_81 ml_81 h3 k) (fun z e => e 81 _ (Or.inr h4)) ?_
    refine MD_lift (fun G z Q k => T_iload_n 2 (dk dt_see 21 rfl) rfl rfl k) ?_
    by_cases c5 : (x.1 81 ((10 * l1) + l4 : Int32).toNatClampNeg) = l2
    · have h := h.2 c5
      refine MD_lift (fun G z Q k => T_icmp_ne 52 (dk dt_see 22 rfl) (by decide) (fun q => absurd c5 q) (fun _ => k)) ?_
      refine MD_lift (fun G z Q k => T_aload_n 0 (dk dt_see 23 rfl) rfl rfl k) ?_
      refine MD_lift (fun G z Q k => T_getR 0 81 82 (dk dt_see 24 rfl) fl_178 mk_0 ml_0 (by decide) rfl rfl k) ?_
      refine MD_lift (fun G z Q k => T_bipush (v := 10) (dk dt_see 25 rfl) (by decide +kernel) k) ?_
      refine MD_lift (fun G z Q k => T_iload_n 1 (dk dt_see 26 rfl) rfl rfl k) ?_
      refine MD_lift (fun G z Q k => T_imul (dk dt_see 27 rfl) k) ?_
      refine MD_lift (fun G z Q k => T_iload 4 (dk dt_see 28 rfl) rfl k) ?_
      refine MD_lift (fun G z Q k => T_iadd (dk dt_see 29 rfl) k) ?_
      obtain ⟨h6, h⟩ := h
      obtain ⟨h7, h⟩ := h
      refine MD_read (fun z => z.1 82 ((10 * l1) + l4 : Int32).toNatClampNeg) (fun G z Q k => T_iald 82 60 (dk dt_see 30 rfl) mk_82 ml_82 h6 k) (fun z e => e 82 _ (Or.inr h7)) ?_
      refine MD_lift (fun G z Q k => T_goto 53 (dk dt_see 31 rfl) (by decide) k) ?_
      refine MD_lift (fun G z Q k => T_istore_n (lv2 := [(3, vi (x.1 82 ((10 * l1) + l4 : Int32).toNatClampNeg)), (0, vr 0), (1, vi l1), (2, vi l2), (4, vi l4)]) (dk dt_see 33 rfl) rfl (by decide) rfl k) ?_
      refine MD_lift (fun G z Q k => T_iinc (v := l4 + 1) (lv2 := [(4, vi (l4 + 1)), (3, vi (x.1 82 ((10 * l1) + l4 : Int32).toNatClampNeg)), (0, vr 0), (1, vi l1), (2, vi l2)]) 4 (dk dt_see 34 rfl) rfl rfl (by decide) rfl k) ?_
      refine MD_lift (fun G z Q k => T_goto 10 (dk dt_see 35 rfl) (by decide) k) ?_
      exact MD_lift (fun G z Q k => T_sub [2, 3, 4, 1, 0] rfl k) h
    · have h := h.1 c5
      refine MD_lift (fun G z Q k => T_icmp_ne 52 (dk dt_see 22 rfl) (by decide) (fun _ => k) (fun q => absurd q c5)) ?_
      refine MD_lift (fun G z Q k => T_iload_n 3 (dk dt_see 32 rfl) rfl rfl k) ?_
      refine MD_lift (fun G z Q k => T_istore_n (lv2 := [(3, vi l3), (0, vr 0), (1, vi l1), (2, vi l2), (4, vi l4)]) (dk dt_see 33 rfl) rfl (by decide) rfl k) ?_
      refine MD_lift (fun G z Q k => T_iinc (v := l4 + 1) (lv2 := [(4, vi (l4 + 1)), (3, vi l3), (0, vr 0), (1, vi l1), (2, vi l2)]) 4 (dk dt_see 34 rfl) rfl rfl (by decide) rfl k) ?_
      refine MD_lift (fun G z Q k => T_goto 10 (dk dt_see 35 rfl) (by decide) k) ?_
      exact MD_lift (fun G z Q k => T_sub [2, 3, 4, 1, 0] rfl k) h
end
section
set_option maxRecDepth 100000 in
set_option maxHeartbeats 4000000 in
theorem sd_lookAt_0 {d : Nat} {S : gS} {x : gd} {P : Option gv → gd → gS → Prop} (l1 : Int32)
    (h : vp_in l1 6 ∧ MD d z_sortOf 0 [(0, vr 0), (1, vi l1)] [] S x (Di (fun r3 x2 S2 => (∀ x4 : gd, x4 = si x2 0 89 0 → vp_in (x.1 74 (l1 : Int32).toNatClampNeg) 1500 ∧ (∀ x6 : gd, x6 = si x4 0 88 (x4.1 56 (x.1 74 (l1 : Int32).toNatClampNeg : Int32).toNatClampNeg) → (∀ x7 : gd, x7 = si x6 0 90 0 → (∀ x8 : gd, x8 = si x7 0 91 0 → ((¬ (r3 = (15 : Int32)) → vp_in (x.1 74 (l1 : Int32).toNatClampNeg) 1500 ∧ (((x8.1 58 (x.1 74 (l1 : Int32).toNatClampNeg : Int32).toNatClampNeg) = (-1 : Int32) → MD (d + 1) z_lookAt 127 [(0, vr 0), (1, vi l1), (2, vi (x.1 74 (l1 : Int32).toNatClampNeg)), (3, vi r3)] [] (sadd (sadd (sadd (sadd S2 0 89) 0 88) 0 90) 0 91) x8 P) ∧ (¬ ((x8.1 58 (x.1 74 (l1 : Int32).toNatClampNeg : Int32).toNatClampNeg) = (-1 : Int32)) → vp_in (x.1 74 (l1 : Int32).toNatClampNeg) 1500 ∧ MD d z_worked 0 [(0, vr 0), (1, vi (x8.1 58 (x.1 74 (l1 : Int32).toNatClampNeg : Int32).toNatClampNeg)), (2, vi l1)] [] (sadd (sadd (sadd (sadd S2 0 89) 0 88) 0 90) 0 91) x8 (Di (fun r14 x13 S13 => S13 0 82 ∧ (((x13.1 0 82) ≤ (0 : Int32) → vp_in (x.1 74 (l1 : Int32).toNatClampNeg) 1500 ∧ MD d z_in 0 [(0, vi r14), (1, vi 0), (2, vi ((x13.1 57 (x.1 74 (l1 : Int32).toNatClampNeg : Int32).toNatClampNeg) - 1))] [] S13 x13 (Di (fun r19 x18 S18 => ((¬ (r19 = (0 : Int32)) → vp_in (x.1 74 (l1 : Int32).toNatClampNeg) 1500 ∧ (∀ x24 : gd, x24 = si x18 0 88 ((x18.1 56 (x.1 74 (l1 : Int32).toNatClampNeg : Int32).toNatClampNeg) + r14) → MD (d + 1) z_lookAt 127 [(0, vr 0), (1, vi l1), (2, vi (x.1 74 (l1 : Int32).toNatClampNeg)), (3, vi r3)] [] (sadd S18 0 88) x24 P)) ∧ (r19 = (0 : Int32) → (∀ x21 : gd, x21 = si x18 0 89 2 → (∀ x22 : gd, x22 = si x21 0 88 (-1) → P none x22 (sadd (sadd S18 0 89) 0 88)))))))) ∧ (¬ ((x13.1 0 82) ≤ (0 : Int32)) → (∀ x25 : gd, x25 = si x13 0 89 1 → (∀ x26 : gd, x26 = si x25 0 88 (-1) → P none x26 (sadd (sadd S13 0 89) 0 88)))))))))) ∧ (r3 = (15 : Int32) → P none x8 (sadd (sadd (sadd (sadd S2 0 89) 0 88) 0 90) 0 91)))))))))) :
    MD (d + 1) z_lookAt 0 [(0, vr 0), (1, vi l1)] [] S x P := by
  refine MD_lift (fun G z Q k => T_aload_n 0 (dk dt_lookAt 0 rfl) rfl rfl k) ?_
  refine MD_lift (fun G z Q k => T_getR 0 73 74 (dk dt_lookAt 1 rfl) fl_154 mk_0 ml_0 (by decide) rfl rfl k) ?_
  refine MD_lift (fun G z Q k => T_iload_n 1 (dk dt_lookAt 2 rfl) rfl rfl k) ?_
  obtain ⟨h1, h⟩ := h
  refine MD_read (fun z => z.1 74 (l1 : Int32).toNatClampNeg) (fun G z Q k => T_iald 74 6 (dk dt_lookAt 3 rfl) mk_74 ml_74 h1 k) (fun z e => e 74 _ (Or.inl (core_a (by decide) h1))) ?_
  refine MD_lift (fun G z Q k => T_istore_n (lv2 := [(2, vi (x.1 74 (l1 : Int32).toNatClampNeg)), (0, vr 0), (1, vi l1)]) (dk dt_lookAt 4 rfl) rfl (by decide) rfl k) ?_
  refine MD_lift (fun G z Q k => T_aload_n 1 (dk dt_lookAt 5 rfl) rfl rfl k) ?_
  refine MD_lift (fun G z Q k => T_iload_n 2 (dk dt_lookAt 6 rfl) rfl rfl k) ?_
  refine MD_calli (fun G z F Q k kk => MT_callVi [vi l1] [] rfl (dk dt_lookAt 7 rfl) cv_602 rfl rfl (Nat.le_of_ble_eq_true rfl) (Nat.le_of_ble_eq_true rfl) rfl rfl k kk) h (fun r3 x2 S2 h => ?_)
  refine MD_lift (fun G z Q k => T_istore_n (lv2 := [(3, vi r3), (2, vi (x.1 74 (l1 : Int32).toNatClampNeg)), (0, vr 0), (1, vi l1)]) (dk dt_lookAt 8 rfl) rfl (by decide) rfl k) ?_
  refine MD_lift (fun G z Q k => T_aload_n 2 (dk dt_lookAt 9 rfl) rfl rfl k) ?_
  refine MD_lift (fun G z Q k => T_iconst (v := 0) (dk dt_lookAt 10 rfl) (by decide +kernel) k) ?_
  obtain ⟨x4, ex4⟩ : ∃ z, z = si x2 0 89 0 := ⟨_, rfl⟩
  have h := h x4 ex4
  refine MD_wr 0 89 0 (fun G z Q k => T_putI 0 89 (dk dt_lookAt 11 rfl) fl_620 mk_0 ml_0 (by decide) rfl ⟨rfl, rfl⟩ k) (hm_f (by decide) _) ?_
  rw [← ex4]
  refine MD_lift (fun G z Q k => T_aload_n 2 (dk dt_lookAt 12 rfl) rfl rfl k) ?_
  refine MD_lift (fun G z Q k => T_aload_n 2 (dk dt_lookAt 13 rfl) rfl rfl k) ?_
  refine MD_lift (fun G z Q k => T_getR 0 55 56 (dk dt_lookAt 14 rfl) fl_109 mk_0 ml_0 (by decide) rfl rfl k) ?_
  refine MD_lift (fun G z Q k => T_iload_n 1 (dk dt_lookAt 15 rfl) rfl rfl k) ?_
  obtain ⟨h5, h⟩ := h
  refine MD_read (fun z => z.1 56 (x.1 74 (l1 : Int32).toNatClampNeg : Int32).toNatClampNeg) (fun G z Q k => T_iald 56 1500 (dk dt_lookAt 16 rfl) mk_56 ml_56 h5 k) (fun z e => e 56 _ (Or.inl (core_a (by decide) h5))) ?_
  obtain ⟨x6, ex6⟩ : ∃ z, z = si x4 0 88 (x4.1 56 (x.1 74 (l1 : Int32).toNatClampNeg : Int32).toNatClampNeg) := ⟨_, rfl⟩
  have h := h x6 ex6
  refine MD_wr 0 88 (x4.1 56 (x.1 74 (l1 : Int32).toNatClampNeg : Int32).toNatClampNeg) (fun G z Q k => T_putI 0 88 (dk dt_lookAt 17 rfl) fl_623 mk_0 ml_0 (by decide) rfl ⟨rfl, rfl⟩ k) (hm_f (by decide) _) ?_
  rw [← ex6]
  refine MD_lift (fun G z Q k => T_aload_n 2 (dk dt_lookAt 18 rfl) rfl rfl k) ?_
  refine MD_lift (fun G z Q k => T_iconst (v := 0) (dk dt_lookAt 19 rfl) (by decide +kernel) k) ?_
  obtain ⟨x7, ex7⟩ : ∃ z, z = si x6 0 90 0 := ⟨_, rfl⟩
  have h := h x7 ex7
  refine MD_wr 0 90 0 (fun G z Q k => T_putI 0 90 (dk dt_lookAt 20 rfl) fl_626 mk_0 ml_0 (by decide) rfl ⟨rfl, rfl⟩ k) (hm_f (by decide) _) ?_
  rw [← ex7]
  refine MD_lift (fun G z Q k => T_aload_n 2 (dk dt_lookAt 21 rfl) rfl rfl k) ?_
  refine MD_lift (fun G z Q k => T_iconst (v := 0) (dk dt_lookAt 22 rfl) (by decide +kernel) k) ?_
  obtain ⟨x8, ex8⟩ : ∃ z, z = si x7 0 91 0 := ⟨_, rfl⟩
  have h := h x8 ex8
  refine MD_wr 0 91 0 (fun G z Q k => T_putI 0 91 (dk dt_lookAt 23 rfl) fl_629 mk_0 ml_0 (by decide) rfl ⟨rfl, rfl⟩ k) (hm_f (by decide) _) ?_
  rw [← ex8]
  refine MD_lift (fun G z Q k => T_iload_n 0 (dk dt_lookAt 24 rfl) rfl rfl k) ?_
  refine MD_lift (fun G z Q k => T_bipush (v := 15) (dk dt_lookAt 25 rfl) (by decide +kernel) k) ?_
  by_cases c9 : r3 = (15 : Int32)
  · have h := h.2 c9
    refine MD_lift (fun G z Q k => T_icmp_ne 45 (dk dt_lookAt 26 rfl) (by decide) (fun q => absurd c9 q) (fun _ => k)) ?_
    exact MD_ret (fun G z Q k => MT_vret (dk dt_lookAt 27 rfl) rfl k) h
  · have h := h.1 c9
    refine MD_lift (fun G z Q k => T_icmp_ne 45 (dk dt_lookAt 26 rfl) (by decide) (fun _ => k) (fun q => absurd q c9)) ?_
    refine MD_lift (fun G z Q k => T_aload_n 2 (dk dt_lookAt 28 rfl) rfl rfl k) ?_
    refine MD_lift (fun G z Q k => T_getR 0 57 58 (dk dt_lookAt 29 rfl) fl_115 mk_0 ml_0 (by decide) rfl rfl k) ?_
    refine MD_lift (fun G z Q k => T_iload_n 1 (dk dt_lookAt 30 rfl) rfl rfl k) ?_
    obtain ⟨h10, h⟩ := h
    refine MD_read (fun z => z.1 58 (x.1 74 (l1 : Int32).toNatClampNeg : Int32).toNatClampNeg) (fun G z Q k => T_iald 58 1500 (dk dt_lookAt 31 rfl) mk_58 ml_58 h10 k) (fun z e => e 58 _ (Or.inl (core_a (by decide) h10))) ?_
    refine MD_lift (fun G z Q k => T_iconst (v := (-1)) (dk dt_lookAt 32 rfl) (by decide +kernel) k) ?_
    by_cases c11 : (x8.1 58 (x.1 74 (l1 : Int32).toNatClampNeg : Int32).toNatClampNeg) = (-1 : Int32)
    · have h := h.1 c11
      refine MD_lift (fun G z Q k => T_icmp_eq 127 (dk dt_lookAt 33 rfl) (by decide) (fun _ => k) (fun q => absurd c11 q)) ?_
      exact MD_lift (fun G z Q k => T_sub [2, 3, 1, 0] rfl k) h
    · have h := h.2 c11
      refine MD_lift (fun G z Q k => T_icmp_eq 127 (dk dt_lookAt 33 rfl) (by decide) (fun q => absurd q c11) (fun _ => k)) ?_
      refine MD_lift (fun G z Q k => T_aload_n 2 (dk dt_lookAt 34 rfl) rfl rfl k) ?_
      refine MD_lift (fun G z Q k => T_aload_n 2 (dk dt_lookAt 35 rfl) rfl rfl k) ?_
      refine MD_lift (fun G z Q k => T_getR 0 57 58 (dk dt_lookAt 36 rfl) fl_115 mk_0 ml_0 (by decide) rfl rfl k) ?_
      refine MD_lift (fun G z Q k => T_iload_n 1 (dk dt_lookAt 37 rfl) rfl rfl k) ?_
      obtain ⟨h12, h⟩ := h
      refine MD_read (fun z => z.1 58 (x.1 74 (l1 : Int32).toNatClampNeg : Int32).toNatClampNeg) (fun G z Q k => T_iald 58 1500 (dk dt_lookAt 38 rfl) mk_58 ml_58 h12 k) (fun z e => e 58 _ (Or.inl (core_a (by decide) h12))) ?_
      refine MD_lift (fun G z Q k => T_iload_n 3 (dk dt_lookAt 39 rfl) rfl rfl k) ?_
      refine MD_calli (fun G z F Q k kk => MT_callVi [vi (x8.1 58 (x.1 74 (l1 : Int32).toNatClampNeg : Int32).toNatClampNeg), vi l1] [] rfl (dk dt_lookAt 40 rfl) cv_593 rfl rfl (Nat.le_of_ble_eq_true rfl) (Nat.le_of_ble_eq_true rfl) rfl rfl k kk) h (fun r14 x13 S13 h => ?_)
      refine MD_lift (fun G z Q k => T_istore (lv2 := [(4, vi r14), (3, vi r3), (2, vi (x.1 74 (l1 : Int32).toNatClampNeg)), (0, vr 0), (1, vi l1)]) (dk dt_lookAt 41 rfl) (by decide) rfl k) ?_
      refine MD_lift (fun G z Q k => T_aload_n 3 (dk dt_lookAt 42 rfl) rfl rfl k) ?_
      obtain ⟨h15, h⟩ := h
      refine MD_read (fun z => z.1 0 82) (fun G z Q k => T_getI 0 82 (dk dt_lookAt 43 rfl) fl_581 mk_0 ml_0 (by decide) rfl k) (fun z e => e 0 82 (Or.inr h15)) ?_
      by_cases c16 : (x13.1 0 82) ≤ (0 : Int32)
      · have h := h.1 c16
        refine MD_lift (fun G z Q k => T_if_le 86 (dk dt_lookAt 44 rfl) (by decide) (fun _ => k) (fun q => absurd c16 q)) ?_
        refine MD_lift (fun G z Q k => T_iload 0 (dk dt_lookAt 52 rfl) rfl k) ?_
        refine MD_lift (fun G z Q k => T_iconst (v := 0) (dk dt_lookAt 53 rfl) (by decide +kernel) k) ?_
        refine MD_lift (fun G z Q k => T_aload_n 3 (dk dt_lookAt 54 rfl) rfl rfl k) ?_
        refine MD_lift (fun G z Q k => T_getR 0 56 57 (dk dt_lookAt 55 rfl) fl_112 mk_0 ml_0 (by decide) rfl rfl k) ?_
        refine MD_lift (fun G z Q k => T_iload_n 2 (dk dt_lookAt 56 rfl) rfl rfl k) ?_
        obtain ⟨h17, h⟩ := h
        refine MD_read (fun z => z.1 57 (x.1 74 (l1 : Int32).toNatClampNeg : Int32).toNatClampNeg) (fun G z Q k => T_iald 57 1500 (dk dt_lookAt 57 rfl) mk_57 ml_57 h17 k) (fun z e => e 57 _ (Or.inl (core_a (by decide) h17))) ?_
        refine MD_lift (fun G z Q k => T_iconst (v := 1) (dk dt_lookAt 58 rfl) (by decide +kernel) k) ?_
        refine MD_lift (fun G z Q k => T_isub (dk dt_lookAt 59 rfl) k) ?_
        refine MD_calli (fun G z F Q k kk => MT_callSi [vi r14, vi 0, vi ((x13.1 57 (x.1 74 (l1 : Int32).toNatClampNeg : Int32).toNatClampNeg) - 1)] [] rfl (dk dt_lookAt 60 rfl) cs_322 rfl (Nat.le_of_ble_eq_true rfl) (Nat.le_of_ble_eq_true rfl) rfl rfl k kk) h (fun r19 x18 S18 h => ?_)
        by_cases c20 : r19 = (0 : Int32)
        · have h := h.2 c20
          refine MD_lift (fun G z Q k => T_if_ne 114 (dk dt_lookAt 61 rfl) (by decide) (fun q => absurd c20 q) (fun _ => k)) ?_
          refine MD_lift (fun G z Q k => T_aload_n 3 (dk dt_lookAt 62 rfl) rfl rfl k) ?_
          refine MD_lift (fun G z Q k => T_iconst (v := 2) (dk dt_lookAt 63 rfl) (by decide +kernel) k) ?_
          obtain ⟨x21, ex21⟩ : ∃ z, z = si x18 0 89 2 := ⟨_, rfl⟩
          have h := h x21 ex21
          refine MD_wr 0 89 2 (fun G z Q k => T_putI 0 89 (dk dt_lookAt 64 rfl) fl_620 mk_0 ml_0 (by decide) rfl ⟨rfl, rfl⟩ k) (hm_f (by decide) _) ?_
          rw [← ex21]
          refine MD_lift (fun G z Q k => T_aload_n 3 (dk dt_lookAt 65 rfl) rfl rfl k) ?_
          refine MD_lift (fun G z Q k => T_iconst (v := (-1)) (dk dt_lookAt 66 rfl) (by decide +kernel) k) ?_
          obtain ⟨x22, ex22⟩ : ∃ z, z = si x21 0 88 (-1) := ⟨_, rfl⟩
          have h := h x22 ex22
          refine MD_wr 0 88 (-1) (fun G z Q k => T_putI 0 88 (dk dt_lookAt 67 rfl) fl_623 mk_0 ml_0 (by decide) rfl ⟨rfl, rfl⟩ k) (hm_f (by decide) _) ?_
          rw [← ex22]
          exact MD_ret (fun G z Q k => MT_vret (dk dt_lookAt 68 rfl) rfl k) h
        · have h := h.1 c20
          refine MD_lift (fun G z Q k => T_if_ne 114 (dk dt_lookAt 61 rfl) (by decide) (fun _ => k) (fun q => absurd q c20)) ?_
          refine MD_lift (fun G z Q k => T_aload_n 3 (dk dt_lookAt 69 rfl) rfl rfl k) ?_
          refine MD_lift (fun G z Q k => T_aload_n 3 (dk dt_lookAt 70 rfl) rfl rfl k) ?_
          refine MD_lift (fun G z Q k => T_getR 0 55 56 (dk dt_lookAt 71 rfl) fl_109 mk_0 ml_0 (by decide) rfl rfl k) ?_
          refine MD_lift (fun G z Q k => T_iload_n 2 (dk dt_lookAt 72 rfl) rfl rfl k) ?_
          obtain ⟨h23, h⟩ := h
          refine MD_read (fun z => z.1 56 (x.1 74 (l1 : Int32).toNatClampNeg : Int32).toNatClampNeg) (fun G z Q k => T_iald 56 1500 (dk dt_lookAt 73 rfl) mk_56 ml_56 h23 k) (fun z e => e 56 _ (Or.inl (core_a (by decide) h23))) ?_
          refine MD_lift (fun G z Q k => T_iload 0 (dk dt_lookAt 74 rfl) rfl k) ?_
          refine MD_lift (fun G z Q k => T_iadd (dk dt_lookAt 75 rfl) k) ?_
          obtain ⟨x24, ex24⟩ : ∃ z, z = si x18 0 88 ((x18.1 56 (x.1 74 (l1 : Int32).toNatClampNeg : Int32).toNatClampNeg) + r14) := ⟨_, rfl⟩
          have h := h x24 ex24
          refine MD_wr 0 88 ((x18.1 56 (x.1 74 (l1 : Int32).toNatClampNeg : Int32).toNatClampNeg) + r14) (fun G z Q k => T_putI 0 88 (dk dt_lookAt 76 rfl) fl_623 mk_0 ml_0 (by decide) rfl ⟨rfl, rfl⟩ k) (hm_f (by decide) _) ?_
          rw [← ex24]
          exact MD_lift (fun G z Q k => T_sub [3, 4, 2, 1] rfl k) h
      · have h := h.2 c16
        refine MD_lift (fun G z Q k => T_if_le 86 (dk dt_lookAt 44 rfl) (by decide) (fun q => absurd q c16) (fun _ => k)) ?_
        refine MD_lift (fun G z Q k => T_aload_n 3 (dk dt_lookAt 45 rfl) rfl rfl k) ?_
        refine MD_lift (fun G z Q k => T_iconst (v := 1) (dk dt_lookAt 46 rfl) (by decide +kernel) k) ?_
        obtain ⟨x25, ex25⟩ : ∃ z, z = si x13 0 89 1 := ⟨_, rfl⟩
        have h := h x25 ex25
        refine MD_wr 0 89 1 (fun G z Q k => T_putI 0 89 (dk dt_lookAt 47 rfl) fl_620 mk_0 ml_0 (by decide) rfl ⟨rfl, rfl⟩ k) (hm_f (by decide) _) ?_
        rw [← ex25]
        refine MD_lift (fun G z Q k => T_aload_n 3 (dk dt_lookAt 48 rfl) rfl rfl k) ?_
        refine MD_lift (fun G z Q k => T_iconst (v := (-1)) (dk dt_lookAt 49 rfl) (by decide +kernel) k) ?_
        obtain ⟨x26, ex26⟩ : ∃ z, z = si x25 0 88 (-1) := ⟨_, rfl⟩
        have h := h x26 ex26
        refine MD_wr 0 88 (-1) (fun G z Q k => T_putI 0 88 (dk dt_lookAt 50 rfl) fl_623 mk_0 ml_0 (by decide) rfl ⟨rfl, rfl⟩ k) (hm_f (by decide) _) ?_
        rw [← ex26]
        exact MD_ret (fun G z Q k => MT_vret (dk dt_lookAt 51 rfl) rfl k) h
set_option maxRecDepth 100000 in
set_option maxHeartbeats 4000000 in
theorem sd_lookAt_127 {d : Nat} {S : gS} {x : gd} {P : Option gv → gd → gS → Prop} (l1 : Int32) (l2 : Int32) (l3 : Int32)
    (h : vp_in l2 1500 ∧ (((x.1 59 (l2 : Int32).toNatClampNeg) = (-1 : Int32) → MD (d + 1) z_lookAt 160 [(0, vr 0), (1, vi l1), (2, vi l2), (3, vi l3)] [] S x P) ∧ (¬ ((x.1 59 (l2 : Int32).toNatClampNeg) = (-1 : Int32)) → vp_in l2 1500 ∧ MD d z_worked 0 [(0, vr 0), (1, vi (x.1 59 (l2 : Int32).toNatClampNeg)), (2, vi l1)] [] S x (Di (fun r5 x4 S4 => (∀ x6 : gd, x6 = si x4 0 90 r5 → (sadd S4 0 90) 0 82 ∧ (∀ x8 : gd, x8 = si x6 0 89 (x6.1 0 82) → MD (d + 1) z_lookAt 160 [(0, vr 0), (1, vi l1), (2, vi l2), (3, vi l3)] [] (sadd (sadd S4 0 90) 0 89) x8 P))))))) :
    MD (d + 1) z_lookAt 127 [(0, vr 0), (1, vi l1), (2, vi l2), (3, vi l3)] [] S x P := by
  refine MD_lift (fun G z Q k => T_aload_n 0 (dk dt_lookAt 77 rfl) rfl rfl k) ?_
  refine MD_lift (fun G z Q k => T_getR 0 58 59 (dk dt_lookAt 78 rfl) fl_118 mk_0 ml_0 (by decide) rfl rfl k) ?_
  refine MD_lift (fun G z Q k => T_iload_n 2 (dk dt_lookAt 79 rfl) rfl rfl k) ?_
  obtain ⟨h1, h⟩ := h
  refine MD_read (fun z => z.1 59 (l2 : Int32).toNatClampNeg) (fun G z Q k => T_iald 59 1500 (dk dt_lookAt 80 rfl) mk_59 ml_59 h1 k) (fun z e => e 59 _ (Or.inl (core_a (by decide) h1))) ?_
  refine MD_lift (fun G z Q k => T_iconst (v := (-1)) (dk dt_lookAt 81 rfl) (by decide +kernel) k) ?_
  by_cases c2 : (x.1 59 (l2 : Int32).toNatClampNeg) = (-1 : Int32)
  · have h := h.1 c2
    refine MD_lift (fun G z Q k => T_icmp_eq 160 (dk dt_lookAt 82 rfl) (by decide) (fun _ => k) (fun q => absurd c2 q)) ?_
    exact h
  · have h := h.2 c2
    refine MD_lift (fun G z Q k => T_icmp_eq 160 (dk dt_lookAt 82 rfl) (by decide) (fun q => absurd q c2) (fun _ => k)) ?_
    refine MD_lift (fun G z Q k => T_aload_n 0 (dk dt_lookAt 83 rfl) rfl rfl k) ?_
    refine MD_lift (fun G z Q k => T_aload_n 0 (dk dt_lookAt 84 rfl) rfl rfl k) ?_
    refine MD_lift (fun G z Q k => T_aload_n 0 (dk dt_lookAt 85 rfl) rfl rfl k) ?_
    refine MD_lift (fun G z Q k => T_getR 0 58 59 (dk dt_lookAt 86 rfl) fl_118 mk_0 ml_0 (by decide) rfl rfl k) ?_
    refine MD_lift (fun G z Q k => T_iload_n 2 (dk dt_lookAt 87 rfl) rfl rfl k) ?_
    obtain ⟨h3, h⟩ := h
    refine MD_read (fun z => z.1 59 (l2 : Int32).toNatClampNeg) (fun G z Q k => T_iald 59 1500 (dk dt_lookAt 88 rfl) mk_59 ml_59 h3 k) (fun z e => e 59 _ (Or.inl (core_a (by decide) h3))) ?_
    refine MD_lift (fun G z Q k => T_iload_n 1 (dk dt_lookAt 89 rfl) rfl rfl k) ?_
    refine MD_calli (fun G z F Q k kk => MT_callVi [vi (x.1 59 (l2 : Int32).toNatClampNeg), vi l1] [vr 0] rfl (dk dt_lookAt 90 rfl) cv_593 rfl rfl (Nat.le_of_ble_eq_true rfl) (Nat.le_of_ble_eq_true rfl) rfl rfl k kk) h (fun r5 x4 S4 h => ?_)
    obtain ⟨x6, ex6⟩ : ∃ z, z = si x4 0 90 r5 := ⟨_, rfl⟩
    have h := h x6 ex6
    refine MD_wr 0 90 r5 (fun G z Q k => T_putI 0 90 (dk dt_lookAt 91 rfl) fl_626 mk_0 ml_0 (by decide) rfl ⟨rfl, rfl⟩ k) (hm_f (by decide) _) ?_
    rw [← ex6]
    refine MD_lift (fun G z Q k => T_aload_n 0 (dk dt_lookAt 92 rfl) rfl rfl k) ?_
    refine MD_lift (fun G z Q k => T_aload_n 0 (dk dt_lookAt 93 rfl) rfl rfl k) ?_
    obtain ⟨h7, h⟩ := h
    refine MD_read (fun z => z.1 0 82) (fun G z Q k => T_getI 0 82 (dk dt_lookAt 94 rfl) fl_581 mk_0 ml_0 (by decide) rfl k) (fun z e => e 0 82 (Or.inr h7)) ?_
    obtain ⟨x8, ex8⟩ : ∃ z, z = si x6 0 89 (x6.1 0 82) := ⟨_, rfl⟩
    have h := h x8 ex8
    refine MD_wr 0 89 (x6.1 0 82) (fun G z Q k => T_putI 0 89 (dk dt_lookAt 95 rfl) fl_620 mk_0 ml_0 (by decide) rfl ⟨rfl, rfl⟩ k) (hm_f (by decide) _) ?_
    rw [← ex8]
    exact h
set_option maxRecDepth 100000 in
set_option maxHeartbeats 4000000 in
theorem sd_lookAt_160 {d : Nat} {S : gS} {x : gd} {P : Option gv → gd → gS → Prop} (l1 : Int32) (l2 : Int32) (l3 : Int32)
    (h : S 0 89 ∧ ((¬ ((x.1 0 89) = (0 : Int32)) → MD (d + 1) z_lookAt 200 [(0, vr 0), (1, vi l1), (2, vi l2), (3, vi l3)] [] S x P) ∧ ((x.1 0 89) = (0 : Int32) → vp_in l2 1500 ∧ (((x.1 60 (l2 : Int32).toNatClampNeg) = (-1 : Int32) → MD (d + 1) z_lookAt 200 [(0, vr 0), (1, vi l1), (2, vi l2), (3, vi l3)] [] S x P) ∧ (¬ ((x.1 60 (l2 : Int32).toNatClampNeg) = (-1 : Int32)) → vp_in l2 1500 ∧ MD d z_worked 0 [(0, vr 0), (1, vi (x.1 60 (l2 : Int32).toNatClampNeg)), (2, vi l1)] [] S x (Di (fun r7 x6 S6 => (∀ x8 : gd, x8 = si x6 0 91 r7 → (sadd S6 0 91) 0 82 ∧ (∀ x10 : gd, x10 = si x8 0 89 (x8.1 0 82) → MD (d + 1) z_lookAt 200 [(0, vr 0), (1, vi l1), (2, vi l2), (3, vi l3)] [] (sadd (sadd S6 0 91) 0 89) x10 P))))))))) :
    MD (d + 1) z_lookAt 160 [(0, vr 0), (1, vi l1), (2, vi l2), (3, vi l3)] [] S x P := by
  refine MD_lift (fun G z Q k => T_aload_n 0 (dk dt_lookAt 96 rfl) rfl rfl k) ?_
  obtain ⟨h1, h⟩ := h
  refine MD_read (fun z => z.1 0 89) (fun G z Q k => T_getI 0 89 (dk dt_lookAt 97 rfl) fl_620 mk_0 ml_0 (by decide) rfl k) (fun z e => e 0 89 (Or.inr h1)) ?_
  by_cases c2 : (x.1 0 89) = (0 : Int32)
  · have h := h.2 c2
    refine MD_lift (fun G z Q k => T_if_ne 200 (dk dt_lookAt 98 rfl) (by decide) (fun q => absurd c2 q) (fun _ => k)) ?_
    refine MD_lift (fun G z Q k => T_aload_n 0 (dk dt_lookAt 99 rfl) rfl rfl k) ?_
    refine MD_lift (fun G z Q k => T_getR 0 59 60 (dk dt_lookAt 100 rfl) fl_121 mk_0 ml_0 (by decide) rfl rfl k) ?_
    refine MD_lift (fun G z Q k => T_iload_n 2 (dk dt_lookAt 101 rfl) rfl rfl k) ?_
    obtain ⟨h3, h⟩ := h
    refine MD_read (fun z => z.1 60 (l2 : Int32).toNatClampNeg) (fun G z Q k => T_iald 60 1500 (dk dt_lookAt 102 rfl) mk_60 ml_60 h3 k) (fun z e => e 60 _ (Or.inl (core_a (by decide) h3))) ?_
    refine MD_lift (fun G z Q k => T_iconst (v := (-1)) (dk dt_lookAt 103 rfl) (by decide +kernel) k) ?_
    by_cases c4 : (x.1 60 (l2 : Int32).toNatClampNeg) = (-1 : Int32)
    · have h := h.1 c4
      refine MD_lift (fun G z Q k => T_icmp_eq 200 (dk dt_lookAt 104 rfl) (by decide) (fun _ => k) (fun q => absurd c4 q)) ?_
      exact h
    · have h := h.2 c4
      refine MD_lift (fun G z Q k => T_icmp_eq 200 (dk dt_lookAt 104 rfl) (by decide) (fun q => absurd q c4) (fun _ => k)) ?_
      refine MD_lift (fun G z Q k => T_aload_n 0 (dk dt_lookAt 105 rfl) rfl rfl k) ?_
      refine MD_lift (fun G z Q k => T_aload_n 0 (dk dt_lookAt 106 rfl) rfl rfl k) ?_
      refine MD_lift (fun G z Q k => T_aload_n 0 (dk dt_lookAt 107 rfl) rfl rfl k) ?_
      refine MD_lift (fun G z Q k => T_getR 0 59 60 (dk dt_lookAt 108 rfl) fl_121 mk_0 ml_0 (by decide) rfl rfl k) ?_
      refine MD_lift (fun G z Q k => T_iload_n 2 (dk dt_lookAt 109 rfl) rfl rfl k) ?_
      obtain ⟨h5, h⟩ := h
      refine MD_read (fun z => z.1 60 (l2 : Int32).toNatClampNeg) (fun G z Q k => T_iald 60 1500 (dk dt_lookAt 110 rfl) mk_60 ml_60 h5 k) (fun z e => e 60 _ (Or.inl (core_a (by decide) h5))) ?_
      refine MD_lift (fun G z Q k => T_iload_n 1 (dk dt_lookAt 111 rfl) rfl rfl k) ?_
      refine MD_calli (fun G z F Q k kk => MT_callVi [vi (x.1 60 (l2 : Int32).toNatClampNeg), vi l1] [vr 0] rfl (dk dt_lookAt 112 rfl) cv_593 rfl rfl (Nat.le_of_ble_eq_true rfl) (Nat.le_of_ble_eq_true rfl) rfl rfl k kk) h (fun r7 x6 S6 h => ?_)
      obtain ⟨x8, ex8⟩ : ∃ z, z = si x6 0 91 r7 := ⟨_, rfl⟩
      have h := h x8 ex8
      refine MD_wr 0 91 r7 (fun G z Q k => T_putI 0 91 (dk dt_lookAt 113 rfl) fl_629 mk_0 ml_0 (by decide) rfl ⟨rfl, rfl⟩ k) (hm_f (by decide) _) ?_
      rw [← ex8]
      refine MD_lift (fun G z Q k => T_aload_n 0 (dk dt_lookAt 114 rfl) rfl rfl k) ?_
      refine MD_lift (fun G z Q k => T_aload_n 0 (dk dt_lookAt 115 rfl) rfl rfl k) ?_
      obtain ⟨h9, h⟩ := h
      refine MD_read (fun z => z.1 0 82) (fun G z Q k => T_getI 0 82 (dk dt_lookAt 116 rfl) fl_581 mk_0 ml_0 (by decide) rfl k) (fun z e => e 0 82 (Or.inr h9)) ?_
      obtain ⟨x10, ex10⟩ : ∃ z, z = si x8 0 89 (x8.1 0 82) := ⟨_, rfl⟩
      have h := h x10 ex10
      refine MD_wr 0 89 (x8.1 0 82) (fun G z Q k => T_putI 0 89 (dk dt_lookAt 117 rfl) fl_620 mk_0 ml_0 (by decide) rfl ⟨rfl, rfl⟩ k) (hm_f (by decide) _) ?_
      rw [← ex10]
      exact h
  · have h := h.1 c2
    refine MD_lift (fun G z Q k => T_if_ne 200 (dk dt_lookAt 98 rfl) (by decide) (fun _ => k) (fun q => absurd q c2)) ?_
    exact h
set_option maxRecDepth 100000 in
set_option maxHeartbeats 4000000 in
theorem sd_lookAt_200 {d : Nat} {S : gS} {x : gd} {P : Option gv → gd → gS → Prop} (l1 : Int32) (l2 : Int32) (l3 : Int32)
    (h : S 0 89 ∧ (((x.1 0 89) ≤ (0 : Int32) → ((l3 = (6 : Int32) → MD (d + 1) z_lookAt 226 [(0, vr 0), (1, vi l1), (2, vi l2), (3, vi l3)] [] S x P) ∧ (¬ (l3 = (6 : Int32)) → ((l3 = (7 : Int32) → MD (d + 1) z_lookAt 226 [(0, vr 0), (1, vi l1), (2, vi l2), (3, vi l3)] [] S x P) ∧ (¬ (l3 = (7 : Int32)) → ((¬ (l3 = (8 : Int32)) → MD (d + 1) z_lookAt 246 [(0, vr 0), (1, vi l1), (2, vi l2), (3, vi l3)] [vi 0] S x P) ∧ (l3 = (8 : Int32) → MD (d + 1) z_lookAt 226 [(0, vr 0), (1, vi l1), (2, vi l2), (3, vi l3)] [] S x P))))))) ∧ (¬ ((x.1 0 89) ≤ (0 : Int32)) → P none x S))) :
    MD (d + 1) z_lookAt 200 [(0, vr 0), (1, vi l1), (2, vi l2), (3, vi l3)] [] S x P := by
  refine MD_lift (fun G z Q k => T_aload_n 0 (dk dt_lookAt 118 rfl) rfl rfl k) ?_
  obtain ⟨h1, h⟩ := h
  refine MD_read (fun z => z.1 0 89) (fun G z Q k => T_getI 0 89 (dk dt_lookAt 119 rfl) fl_620 mk_0 ml_0 (by decide) rfl k) (fun z e => e 0 89 (Or.inr h1)) ?_
  by_cases c2 : (x.1 0 89) ≤ (0 : Int32)
  · have h := h.1 c2
    refine MD_lift (fun G z Q k => T_if_le 208 (dk dt_lookAt 120 rfl) (by decide) (fun _ => k) (fun q => absurd c2 q)) ?_
    refine MD_lift (fun G z Q k => T_iload_n 3 (dk dt_lookAt 122 rfl) rfl rfl k) ?_
    refine MD_lift (fun G z Q k => T_bipush (v := 6) (dk dt_lookAt 123 rfl) (by decide +kernel) k) ?_
    by_cases c3 : l3 = (6 : Int32)
    · have h := h.1 c3
      refine MD_lift (fun G z Q k => T_icmp_eq 226 (dk dt_lookAt 124 rfl) (by decide) (fun _ => k) (fun q => absurd c3 q)) ?_
      exact h
    · have h := h.2 c3
      refine MD_lift (fun G z Q k => T_icmp_eq 226 (dk dt_lookAt 124 rfl) (by decide) (fun q => absurd q c3) (fun _ => k)) ?_
      refine MD_lift (fun G z Q k => T_iload_n 3 (dk dt_lookAt 125 rfl) rfl rfl k) ?_
      refine MD_lift (fun G z Q k => T_bipush (v := 7) (dk dt_lookAt 126 rfl) (by decide +kernel) k) ?_
      by_cases c4 : l3 = (7 : Int32)
      · have h := h.1 c4
        refine MD_lift (fun G z Q k => T_icmp_eq 226 (dk dt_lookAt 127 rfl) (by decide) (fun _ => k) (fun q => absurd c4 q)) ?_
        exact h
      · have h := h.2 c4
        refine MD_lift (fun G z Q k => T_icmp_eq 226 (dk dt_lookAt 127 rfl) (by decide) (fun q => absurd q c4) (fun _ => k)) ?_
        refine MD_lift (fun G z Q k => T_iload_n 3 (dk dt_lookAt 128 rfl) rfl rfl k) ?_
        refine MD_lift (fun G z Q k => T_bipush (v := 8) (dk dt_lookAt 129 rfl) (by decide +kernel) k) ?_
        by_cases c5 : l3 = (8 : Int32)
        · have h := h.2 c5
          refine MD_lift (fun G z Q k => T_icmp_ne 245 (dk dt_lookAt 130 rfl) (by decide) (fun q => absurd c5 q) (fun _ => k)) ?_
          exact h
        · have h := h.1 c5
          refine MD_lift (fun G z Q k => T_icmp_ne 245 (dk dt_lookAt 130 rfl) (by decide) (fun _ => k) (fun q => absurd q c5)) ?_
          refine MD_lift (fun G z Q k => T_iconst (v := 0) (dk dt_lookAt 142 rfl) (by decide +kernel) k) ?_
          exact h
  · have h := h.2 c2
    refine MD_lift (fun G z Q k => T_if_le 208 (dk dt_lookAt 120 rfl) (by decide) (fun q => absurd q c2) (fun _ => k)) ?_
    exact MD_ret (fun G z Q k => MT_vret (dk dt_lookAt 121 rfl) rfl k) h
set_option maxRecDepth 100000 in
set_option maxHeartbeats 4000000 in
theorem sd_lookAt_226 {d : Nat} {S : gS} {x : gd} {P : Option gv → gd → gS → Prop} (l1 : Int32) (l2 : Int32) (l3 : Int32)
    (h : vp_in l2 1500 ∧ vp_in (x.1 56 (l2 : Int32).toNatClampNeg) 6 ∧ ((¬ ((x.1 71 (x.1 56 (l2 : Int32).toNatClampNeg : Int32).toNatClampNeg) = l1) → MD (d + 1) z_lookAt 246 [(0, vr 0), (1, vi l1), (2, vi l2), (3, vi l3)] [vi 0] S x P) ∧ ((x.1 71 (x.1 56 (l2 : Int32).toNatClampNeg : Int32).toNatClampNeg) = l1 → MD (d + 1) z_lookAt 246 [(0, vr 0), (1, vi l1), (2, vi l2), (3, vi l3)] [vi 1] S x P))) :
    MD (d + 1) z_lookAt 226 [(0, vr 0), (1, vi l1), (2, vi l2), (3, vi l3)] [] S x P := by
  refine MD_lift (fun G z Q k => T_aload_n 0 (dk dt_lookAt 131 rfl) rfl rfl k) ?_
  refine MD_lift (fun G z Q k => T_getR 0 70 71 (dk dt_lookAt 132 rfl) fl_145 mk_0 ml_0 (by decide) rfl rfl k) ?_
  refine MD_lift (fun G z Q k => T_aload_n 0 (dk dt_lookAt 133 rfl) rfl rfl k) ?_
  refine MD_lift (fun G z Q k => T_getR 0 55 56 (dk dt_lookAt 134 rfl) fl_109 mk_0 ml_0 (by decide) rfl rfl k) ?_
  refine MD_lift (fun G z Q k => T_iload_n 2 (dk dt_lookAt 135 rfl) rfl rfl k) ?_
  obtain ⟨h1, h⟩ := h
  refine MD_read (fun z => z.1 56 (l2 : Int32).toNatClampNeg) (fun G z Q k => T_iald 56 1500 (dk dt_lookAt 136 rfl) mk_56 ml_56 h1 k) (fun z e => e 56 _ (Or.inl (core_a (by decide) h1))) ?_
  obtain ⟨h2, h⟩ := h
  refine MD_read (fun z => z.1 71 (x.1 56 (l2 : Int32).toNatClampNeg : Int32).toNatClampNeg) (fun G z Q k => T_iald 71 6 (dk dt_lookAt 137 rfl) mk_71 ml_71 h2 k) (fun z e => e 71 _ (Or.inl (core_a (by decide) h2))) ?_
  refine MD_lift (fun G z Q k => T_iload_n 1 (dk dt_lookAt 138 rfl) rfl rfl k) ?_
  by_cases c3 : (x.1 71 (x.1 56 (l2 : Int32).toNatClampNeg : Int32).toNatClampNeg) = l1
  · have h := h.2 c3
    refine MD_lift (fun G z Q k => T_icmp_ne 245 (dk dt_lookAt 139 rfl) (by decide) (fun q => absurd c3 q) (fun _ => k)) ?_
    refine MD_lift (fun G z Q k => T_iconst (v := 1) (dk dt_lookAt 140 rfl) (by decide +kernel) k) ?_
    refine MD_lift (fun G z Q k => T_goto 246 (dk dt_lookAt 141 rfl) (by decide) k) ?_
    exact h
  · have h := h.1 c3
    refine MD_lift (fun G z Q k => T_icmp_ne 245 (dk dt_lookAt 139 rfl) (by decide) (fun _ => k) (fun q => absurd q c3)) ?_
    refine MD_lift (fun G z Q k => T_iconst (v := 0) (dk dt_lookAt 142 rfl) (by decide +kernel) k) ?_
    exact h
set_option maxRecDepth 100000 in
set_option maxHeartbeats 4000000 in
theorem sd_lookAt_246 {d : Nat} {S : gS} {x : gd} {P : Option gv → gd → gS → Prop} (l1 : Int32) (l2 : Int32) (l3 : Int32) (s0 : Int32)
    (h : ((¬ (l3 = (6 : Int32)) → MD (d + 1) z_lookAt 267 [(0, vr 0), (1, vi l1), (2, vi l2), (3, vi l3), (4, vi s0)] [] S x P) ∧ (l3 = (6 : Int32) → ((¬ (s0 = (0 : Int32)) → MD (d + 1) z_lookAt 267 [(0, vr 0), (1, vi l1), (2, vi l2), (3, vi l3), (4, vi s0)] [] S x P) ∧ (s0 = (0 : Int32) → (∀ x3 : gd, x3 = si x 0 89 3 → P none x3 (sadd S 0 89))))))) :
    MD (d + 1) z_lookAt 246 [(0, vr 0), (1, vi l1), (2, vi l2), (3, vi l3)] [vi s0] S x P := by
  refine MD_lift (fun G z Q k => T_istore (lv2 := [(4, vi s0), (0, vr 0), (1, vi l1), (2, vi l2), (3, vi l3)]) (dk dt_lookAt 143 rfl) (by decide) rfl k) ?_
  refine MD_lift (fun G z Q k => T_iload_n 4 (dk dt_lookAt 144 rfl) rfl rfl k) ?_
  refine MD_lift (fun G z Q k => T_bipush (v := 6) (dk dt_lookAt 145 rfl) (by decide +kernel) k) ?_
  by_cases c1 : l3 = (6 : Int32)
  · have h := h.2 c1
    refine MD_lift (fun G z Q k => T_icmp_ne 267 (dk dt_lookAt 146 rfl) (by decide) (fun q => absurd c1 q) (fun _ => k)) ?_
    refine MD_lift (fun G z Q k => T_iload 0 (dk dt_lookAt 147 rfl) rfl k) ?_
    by_cases c2 : s0 = (0 : Int32)
    · have h := h.2 c2
      refine MD_lift (fun G z Q k => T_if_ne 267 (dk dt_lookAt 148 rfl) (by decide) (fun q => absurd c2 q) (fun _ => k)) ?_
      refine MD_lift (fun G z Q k => T_aload_n 1 (dk dt_lookAt 149 rfl) rfl rfl k) ?_
      refine MD_lift (fun G z Q k => T_iconst (v := 3) (dk dt_lookAt 150 rfl) (by decide +kernel) k) ?_
      obtain ⟨x3, ex3⟩ : ∃ z, z = si x 0 89 3 := ⟨_, rfl⟩
      have h := h x3 ex3
      refine MD_wr 0 89 3 (fun G z Q k => T_putI 0 89 (dk dt_lookAt 151 rfl) fl_620 mk_0 ml_0 (by decide) rfl ⟨rfl, rfl⟩ k) (hm_f (by decide) _) ?_
      rw [← ex3]
      refine MD_lift (fun G z Q k => T_goto 404 (dk dt_lookAt 152 rfl) (by decide) k) ?_
      exact MD_ret (fun G z Q k => MT_vret (dk dt_lookAt 224 rfl) rfl k) h
    · have h := h.1 c2
      refine MD_lift (fun G z Q k => T_if_ne 267 (dk dt_lookAt 148 rfl) (by decide) (fun _ => k) (fun q => absurd q c2)) ?_
      exact MD_lift (fun G z Q k => T_sub [1, 2, 3, 4, 0] rfl k) h
  · have h := h.1 c1
    refine MD_lift (fun G z Q k => T_icmp_ne 267 (dk dt_lookAt 146 rfl) (by decide) (fun _ => k) (fun q => absurd q c1)) ?_
    exact MD_lift (fun G z Q k => T_sub [1, 2, 3, 4, 0] rfl k) h
set_option maxRecDepth 100000 in
set_option maxHeartbeats 4000000 in
theorem sd_lookAt_267 {d : Nat} {S : gS} {x : gd} {P : Option gv → gd → gS → Prop} (l1 : Int32) (l2 : Int32) (l3 : Int32) (l4 : Int32)
    (h : ((l3 = (7 : Int32) → MD (d + 1) z_lookAt 279 [(0, vr 0), (1, vi l1), (2, vi l2), (3, vi l3), (4, vi l4)] [] S x P) ∧ (¬ (l3 = (7 : Int32)) → ((¬ (l3 = (8 : Int32)) → MD (d + 1) z_lookAt 292 [(0, vr 0), (1, vi l1), (2, vi l2), (3, vi l3)] [] S x P) ∧ (l3 = (8 : Int32) → MD (d + 1) z_lookAt 279 [(0, vr 0), (1, vi l1), (2, vi l2), (3, vi l3), (4, vi l4)] [] S x P))))) :
    MD (d + 1) z_lookAt 267 [(0, vr 0), (1, vi l1), (2, vi l2), (3, vi l3), (4, vi l4)] [] S x P := by
  refine MD_lift (fun G z Q k => T_iload_n 3 (dk dt_lookAt 153 rfl) rfl rfl k) ?_
  refine MD_lift (fun G z Q k => T_bipush (v := 7) (dk dt_lookAt 154 rfl) (by decide +kernel) k) ?_
  by_cases c1 : l3 = (7 : Int32)
  · have h := h.1 c1
    refine MD_lift (fun G z Q k => T_icmp_eq 279 (dk dt_lookAt 155 rfl) (by decide) (fun _ => k) (fun q => absurd c1 q)) ?_
    exact h
  · have h := h.2 c1
    refine MD_lift (fun G z Q k => T_icmp_eq 279 (dk dt_lookAt 155 rfl) (by decide) (fun q => absurd q c1) (fun _ => k)) ?_
    refine MD_lift (fun G z Q k => T_iload_n 3 (dk dt_lookAt 156 rfl) rfl rfl k) ?_
    refine MD_lift (fun G z Q k => T_bipush (v := 8) (dk dt_lookAt 157 rfl) (by decide +kernel) k) ?_
    by_cases c2 : l3 = (8 : Int32)
    · have h := h.2 c2
      refine MD_lift (fun G z Q k => T_icmp_ne 292 (dk dt_lookAt 158 rfl) (by decide) (fun q => absurd c2 q) (fun _ => k)) ?_
      exact h
    · have h := h.1 c2
      refine MD_lift (fun G z Q k => T_icmp_ne 292 (dk dt_lookAt 158 rfl) (by decide) (fun _ => k) (fun q => absurd q c2)) ?_
      exact MD_lift (fun G z Q k => T_sub [0, 1, 2, 3] rfl k) h
set_option maxRecDepth 100000 in
set_option maxHeartbeats 4000000 in
theorem sd_lookAt_279 {d : Nat} {S : gS} {x : gd} {P : Option gv → gd → gS → Prop} (l1 : Int32) (l2 : Int32) (l3 : Int32) (l4 : Int32)
    (h : ((¬ (l4 = (0 : Int32)) → MD (d + 1) z_lookAt 292 [(0, vr 0), (1, vi l1), (2, vi l2), (3, vi l3)] [] S x P) ∧ (l4 = (0 : Int32) → (∀ x2 : gd, x2 = si x 0 89 4 → P none x2 (sadd S 0 89))))) :
    MD (d + 1) z_lookAt 279 [(0, vr 0), (1, vi l1), (2, vi l2), (3, vi l3), (4, vi l4)] [] S x P := by
  refine MD_lift (fun G z Q k => T_iload 4 (dk dt_lookAt 159 rfl) rfl k) ?_
  by_cases c1 : l4 = (0 : Int32)
  · have h := h.2 c1
    refine MD_lift (fun G z Q k => T_if_ne 292 (dk dt_lookAt 160 rfl) (by decide) (fun q => absurd c1 q) (fun _ => k)) ?_
    refine MD_lift (fun G z Q k => T_aload_n 0 (dk dt_lookAt 161 rfl) rfl rfl k) ?_
    refine MD_lift (fun G z Q k => T_iconst (v := 4) (dk dt_lookAt 162 rfl) (by decide +kernel) k) ?_
    obtain ⟨x2, ex2⟩ : ∃ z, z = si x 0 89 4 := ⟨_, rfl⟩
    have h := h x2 ex2
    refine MD_wr 0 89 4 (fun G z Q k => T_putI 0 89 (dk dt_lookAt 163 rfl) fl_620 mk_0 ml_0 (by decide) rfl ⟨rfl, rfl⟩ k) (hm_f (by decide) _) ?_
    rw [← ex2]
    refine MD_lift (fun G z Q k => T_goto 404 (dk dt_lookAt 164 rfl) (by decide) k) ?_
    exact MD_ret (fun G z Q k => MT_vret (dk dt_lookAt 224 rfl) rfl k) h
  · have h := h.1 c1
    refine MD_lift (fun G z Q k => T_if_ne 292 (dk dt_lookAt 160 rfl) (by decide) (fun _ => k) (fun q => absurd q c1)) ?_
    exact MD_lift (fun G z Q k => T_sub [0, 1, 2, 3] rfl k) h
set_option maxRecDepth 100000 in
set_option maxHeartbeats 4000000 in
theorem sd_lookAt_292 {d : Nat} {S : gS} {x : gd} {P : Option gv → gd → gS → Prop} (l1 : Int32) (l2 : Int32) (l3 : Int32)
    (h : ((¬ (l3 = (9 : Int32)) → MD (d + 1) z_lookAt 321 [(0, vr 0), (1, vi l1), (3, vi l3)] [] S x P) ∧ (l3 = (9 : Int32) → vp_in l2 1500 ∧ vp_in (x.1 56 (l2 : Int32).toNatClampNeg) 6 ∧ (((x.1 73 (x.1 56 (l2 : Int32).toNatClampNeg : Int32).toNatClampNeg) = (0 : Int32) → MD (d + 1) z_lookAt 321 [(0, vr 0), (1, vi l1), (3, vi l3)] [] S x P) ∧ (¬ ((x.1 73 (x.1 56 (l2 : Int32).toNatClampNeg : Int32).toNatClampNeg) = (0 : Int32)) → (∀ x5 : gd, x5 = si x 0 89 7 → P none x5 (sadd S 0 89))))))) :
    MD (d + 1) z_lookAt 292 [(0, vr 0), (1, vi l1), (2, vi l2), (3, vi l3)] [] S x P := by
  refine MD_lift (fun G z Q k => T_iload_n 3 (dk dt_lookAt 165 rfl) rfl rfl k) ?_
  refine MD_lift (fun G z Q k => T_bipush (v := 9) (dk dt_lookAt 166 rfl) (by decide +kernel) k) ?_
  by_cases c1 : l3 = (9 : Int32)
  · have h := h.2 c1
    refine MD_lift (fun G z Q k => T_icmp_ne 321 (dk dt_lookAt 167 rfl) (by decide) (fun q => absurd c1 q) (fun _ => k)) ?_
    refine MD_lift (fun G z Q k => T_aload_n 0 (dk dt_lookAt 168 rfl) rfl rfl k) ?_
    refine MD_lift (fun G z Q k => T_getR 0 72 73 (dk dt_lookAt 169 rfl) fl_151 mk_0 ml_0 (by decide) rfl rfl k) ?_
    refine MD_lift (fun G z Q k => T_aload_n 0 (dk dt_lookAt 170 rfl) rfl rfl k) ?_
    refine MD_lift (fun G z Q k => T_getR 0 55 56 (dk dt_lookAt 171 rfl) fl_109 mk_0 ml_0 (by decide) rfl rfl k) ?_
    refine MD_lift (fun G z Q k => T_iload_n 2 (dk dt_lookAt 172 rfl) rfl rfl k) ?_
    obtain ⟨h2, h⟩ := h
    refine MD_read (fun z => z.1 56 (l2 : Int32).toNatClampNeg) (fun G z Q k => T_iald 56 1500 (dk dt_lookAt 173 rfl) mk_56 ml_56 h2 k) (fun z e => e 56 _ (Or.inl (core_a (by decide) h2))) ?_
    obtain ⟨h3, h⟩ := h
    refine MD_read (fun z => z.1 73 (x.1 56 (l2 : Int32).toNatClampNeg : Int32).toNatClampNeg) (fun G z Q k => T_iald 73 6 (dk dt_lookAt 174 rfl) mk_73 ml_73 h3 k) (fun z e => e 73 _ (Or.inl (core_a (by decide) h3))) ?_
    by_cases c4 : (x.1 73 (x.1 56 (l2 : Int32).toNatClampNeg : Int32).toNatClampNeg) = (0 : Int32)
    · have h := h.1 c4
      refine MD_lift (fun G z Q k => T_if_eq 321 (dk dt_lookAt 175 rfl) (by decide) (fun _ => k) (fun q => absurd c4 q)) ?_
      exact MD_lift (fun G z Q k => T_sub [0, 1, 3] rfl k) h
    · have h := h.2 c4
      refine MD_lift (fun G z Q k => T_if_eq 321 (dk dt_lookAt 175 rfl) (by decide) (fun q => absurd q c4) (fun _ => k)) ?_
      refine MD_lift (fun G z Q k => T_aload_n 0 (dk dt_lookAt 176 rfl) rfl rfl k) ?_
      refine MD_lift (fun G z Q k => T_bipush (v := 7) (dk dt_lookAt 177 rfl) (by decide +kernel) k) ?_
      obtain ⟨x5, ex5⟩ : ∃ z, z = si x 0 89 7 := ⟨_, rfl⟩
      have h := h x5 ex5
      refine MD_wr 0 89 7 (fun G z Q k => T_putI 0 89 (dk dt_lookAt 178 rfl) fl_620 mk_0 ml_0 (by decide) rfl ⟨rfl, rfl⟩ k) (hm_f (by decide) _) ?_
      rw [← ex5]
      refine MD_lift (fun G z Q k => T_goto 404 (dk dt_lookAt 179 rfl) (by decide) k) ?_
      exact MD_ret (fun G z Q k => MT_vret (dk dt_lookAt 224 rfl) rfl k) h
  · have h := h.1 c1
    refine MD_lift (fun G z Q k => T_icmp_ne 321 (dk dt_lookAt 167 rfl) (by decide) (fun _ => k) (fun q => absurd q c1)) ?_
    exact MD_lift (fun G z Q k => T_sub [0, 1, 3] rfl k) h
set_option maxRecDepth 100000 in
set_option maxHeartbeats 4000000 in
theorem sd_lookAt_321 {d : Nat} {S : gS} {x : gd} {P : Option gv → gd → gS → Prop} (l1 : Int32) (l3 : Int32)
    (h : ((¬ (l3 = (13 : Int32)) → MD (d + 1) z_lookAt 337 [(0, vr 0), (1, vi l1), (3, vi l3)] [] S x P) ∧ (l3 = (13 : Int32) → vp_in l1 6 ∧ ((¬ ((x.1 79 (l1 : Int32).toNatClampNeg) = (-1 : Int32)) → (∀ x4 : gd, x4 = si x 0 89 8 → P none x4 (sadd S 0 89))) ∧ ((x.1 79 (l1 : Int32).toNatClampNeg) = (-1 : Int32) → MD (d + 1) z_lookAt 337 [(0, vr 0), (1, vi l1), (3, vi l3)] [] S x P))))) :
    MD (d + 1) z_lookAt 321 [(0, vr 0), (1, vi l1), (3, vi l3)] [] S x P := by
  refine MD_lift (fun G z Q k => T_iload_n 2 (dk dt_lookAt 180 rfl) rfl rfl k) ?_
  refine MD_lift (fun G z Q k => T_bipush (v := 13) (dk dt_lookAt 181 rfl) (by decide +kernel) k) ?_
  by_cases c1 : l3 = (13 : Int32)
  · have h := h.2 c1
    refine MD_lift (fun G z Q k => T_icmp_ne 337 (dk dt_lookAt 182 rfl) (by decide) (fun q => absurd c1 q) (fun _ => k)) ?_
    refine MD_lift (fun G z Q k => T_aload_n 0 (dk dt_lookAt 183 rfl) rfl rfl k) ?_
    refine MD_lift (fun G z Q k => T_getR 0 78 79 (dk dt_lookAt 184 rfl) fl_169 mk_0 ml_0 (by decide) rfl rfl k) ?_
    refine MD_lift (fun G z Q k => T_iload_n 1 (dk dt_lookAt 185 rfl) rfl rfl k) ?_
    obtain ⟨h2, h⟩ := h
    refine MD_read (fun z => z.1 79 (l1 : Int32).toNatClampNeg) (fun G z Q k => T_iald 79 6 (dk dt_lookAt 186 rfl) mk_79 ml_79 h2 k) (fun z e => e 79 _ (Or.inl (core_a (by decide) h2))) ?_
    refine MD_lift (fun G z Q k => T_iconst (v := (-1)) (dk dt_lookAt 187 rfl) (by decide +kernel) k) ?_
    by_cases c3 : (x.1 79 (l1 : Int32).toNatClampNeg) = (-1 : Int32)
    · have h := h.2 c3
      refine MD_lift (fun G z Q k => T_icmp_ne 353 (dk dt_lookAt 188 rfl) (by decide) (fun q => absurd c3 q) (fun _ => k)) ?_
      exact h
    · have h := h.1 c3
      refine MD_lift (fun G z Q k => T_icmp_ne 353 (dk dt_lookAt 188 rfl) (by decide) (fun _ => k) (fun q => absurd q c3)) ?_
      refine MD_lift (fun G z Q k => T_aload_n 0 (dk dt_lookAt 198 rfl) rfl rfl k) ?_
      refine MD_lift (fun G z Q k => T_bipush (v := 8) (dk dt_lookAt 199 rfl) (by decide +kernel) k) ?_
      obtain ⟨x4, ex4⟩ : ∃ z, z = si x 0 89 8 := ⟨_, rfl⟩
      have h := h x4 ex4
      refine MD_wr 0 89 8 (fun G z Q k => T_putI 0 89 (dk dt_lookAt 200 rfl) fl_620 mk_0 ml_0 (by decide) rfl ⟨rfl, rfl⟩ k) (hm_f (by decide) _) ?_
      rw [← ex4]
      refine MD_lift (fun G z Q k => T_goto 404 (dk dt_lookAt 201 rfl) (by decide) k) ?_
      exact MD_ret (fun G z Q k => MT_vret (dk dt_lookAt 224 rfl) rfl k) h
  · have h := h.1 c1
    refine MD_lift (fun G z Q k => T_icmp_ne 337 (dk dt_lookAt 182 rfl) (by decide) (fun _ => k) (fun q => absurd q c1)) ?_
    exact h
set_option maxRecDepth 100000 in
set_option maxHeartbeats 4000000 in
theorem sd_lookAt_337 {d : Nat} {S : gS} {x : gd} {P : Option gv → gd → gS → Prop} (l1 : Int32) (l3 : Int32)
    (h : ((¬ (l3 = (14 : Int32)) → MD (d + 1) z_lookAt 362 [(0, vr 0), (1, vi l1), (3, vi l3)] [] S x P) ∧ (l3 = (14 : Int32) → vp_in l1 6 ∧ ((¬ ((x.1 79 (l1 : Int32).toNatClampNeg) = (-1 : Int32)) → MD (d + 1) z_lookAt 362 [(0, vr 0), (1, vi l1), (3, vi l3)] [] S x P) ∧ ((x.1 79 (l1 : Int32).toNatClampNeg) = (-1 : Int32) → (∀ x4 : gd, x4 = si x 0 89 8 → P none x4 (sadd S 0 89))))))) :
    MD (d + 1) z_lookAt 337 [(0, vr 0), (1, vi l1), (3, vi l3)] [] S x P := by
  refine MD_lift (fun G z Q k => T_iload_n 2 (dk dt_lookAt 189 rfl) rfl rfl k) ?_
  refine MD_lift (fun G z Q k => T_bipush (v := 14) (dk dt_lookAt 190 rfl) (by decide +kernel) k) ?_
  by_cases c1 : l3 = (14 : Int32)
  · have h := h.2 c1
    refine MD_lift (fun G z Q k => T_icmp_ne 362 (dk dt_lookAt 191 rfl) (by decide) (fun q => absurd c1 q) (fun _ => k)) ?_
    refine MD_lift (fun G z Q k => T_aload_n 0 (dk dt_lookAt 192 rfl) rfl rfl k) ?_
    refine MD_lift (fun G z Q k => T_getR 0 78 79 (dk dt_lookAt 193 rfl) fl_169 mk_0 ml_0 (by decide) rfl rfl k) ?_
    refine MD_lift (fun G z Q k => T_iload_n 1 (dk dt_lookAt 194 rfl) rfl rfl k) ?_
    obtain ⟨h2, h⟩ := h
    refine MD_read (fun z => z.1 79 (l1 : Int32).toNatClampNeg) (fun G z Q k => T_iald 79 6 (dk dt_lookAt 195 rfl) mk_79 ml_79 h2 k) (fun z e => e 79 _ (Or.inl (core_a (by decide) h2))) ?_
    refine MD_lift (fun G z Q k => T_iconst (v := (-1)) (dk dt_lookAt 196 rfl) (by decide +kernel) k) ?_
    by_cases c3 : (x.1 79 (l1 : Int32).toNatClampNeg) = (-1 : Int32)
    · have h := h.2 c3
      refine MD_lift (fun G z Q k => T_icmp_ne 362 (dk dt_lookAt 197 rfl) (by decide) (fun q => absurd c3 q) (fun _ => k)) ?_
      refine MD_lift (fun G z Q k => T_aload_n 0 (dk dt_lookAt 198 rfl) rfl rfl k) ?_
      refine MD_lift (fun G z Q k => T_bipush (v := 8) (dk dt_lookAt 199 rfl) (by decide +kernel) k) ?_
      obtain ⟨x4, ex4⟩ : ∃ z, z = si x 0 89 8 := ⟨_, rfl⟩
      have h := h x4 ex4
      refine MD_wr 0 89 8 (fun G z Q k => T_putI 0 89 (dk dt_lookAt 200 rfl) fl_620 mk_0 ml_0 (by decide) rfl ⟨rfl, rfl⟩ k) (hm_f (by decide) _) ?_
      rw [← ex4]
      refine MD_lift (fun G z Q k => T_goto 404 (dk dt_lookAt 201 rfl) (by decide) k) ?_
      exact MD_ret (fun G z Q k => MT_vret (dk dt_lookAt 224 rfl) rfl k) h
    · have h := h.1 c3
      refine MD_lift (fun G z Q k => T_icmp_ne 362 (dk dt_lookAt 197 rfl) (by decide) (fun _ => k) (fun q => absurd q c3)) ?_
      exact h
  · have h := h.1 c1
    refine MD_lift (fun G z Q k => T_icmp_ne 362 (dk dt_lookAt 191 rfl) (by decide) (fun _ => k) (fun q => absurd q c1)) ?_
    exact h
set_option maxRecDepth 100000 in
set_option maxHeartbeats 4000000 in
theorem sd_lookAt_362 {d : Nat} {S : gS} {x : gd} {P : Option gv → gd → gS → Prop} (l1 : Int32) (l3 : Int32)
    (h : ((¬ (l3 = (1 : Int32)) → P none x S) ∧ (l3 = (1 : Int32) → ((¬ ((x.1 0 68) = (1 : Int32)) → P none x S) ∧ ((x.1 0 68) = (1 : Int32) → S 0 88 ∧ vp_in (x.1 0 88) 24 ∧ ((¬ ((x.1 37 (x.1 0 88 : Int32).toNatClampNeg) = (0 : Int32)) → P none x S) ∧ ((x.1 37 (x.1 0 88 : Int32).toNatClampNeg) = (0 : Int32) → vp_in l1 6 ∧ ((¬ ((x.1 80 (l1 : Int32).toNatClampNeg) = (8 : Int32)) → P none x S) ∧ ((x.1 80 (l1 : Int32).toNatClampNeg) = (8 : Int32) → (∀ x8 : gd, x8 = si x 0 89 9 → P none x8 (sadd S 0 89))))))))))) :
    MD (d + 1) z_lookAt 362 [(0, vr 0), (1, vi l1), (3, vi l3)] [] S x P := by
  refine MD_lift (fun G z Q k => T_iload_n 2 (dk dt_lookAt 202 rfl) rfl rfl k) ?_
  refine MD_lift (fun G z Q k => T_iconst (v := 1) (dk dt_lookAt 203 rfl) (by decide +kernel) k) ?_
  by_cases c1 : l3 = (1 : Int32)
  · have h := h.2 c1
    refine MD_lift (fun G z Q k => T_icmp_ne 404 (dk dt_lookAt 204 rfl) (by decide) (fun q => absurd c1 q) (fun _ => k)) ?_
    refine MD_lift (fun G z Q k => T_aload_n 0 (dk dt_lookAt 205 rfl) rfl rfl k) ?_
    refine MD_read (fun z => z.1 0 68) (fun G z Q k => T_getI 0 68 (dk dt_lookAt 206 rfl) fl_608 mk_0 ml_0 (by decide) rfl k) (fun z e => e 0 68 (Or.inl (core_f (by decide)))) ?_
    refine MD_lift (fun G z Q k => T_iconst (v := 1) (dk dt_lookAt 207 rfl) (by decide +kernel) k) ?_
    by_cases c2 : (x.1 0 68) = (1 : Int32)
    · have h := h.2 c2
      refine MD_lift (fun G z Q k => T_icmp_ne 404 (dk dt_lookAt 208 rfl) (by decide) (fun q => absurd c2 q) (fun _ => k)) ?_
      refine MD_lift (fun G z Q k => T_aload_n 0 (dk dt_lookAt 209 rfl) rfl rfl k) ?_
      refine MD_lift (fun G z Q k => T_getR 0 36 37 (dk dt_lookAt 210 rfl) fl_73 mk_0 ml_0 (by decide) rfl rfl k) ?_
      refine MD_lift (fun G z Q k => T_aload_n 0 (dk dt_lookAt 211 rfl) rfl rfl k) ?_
      obtain ⟨h3, h⟩ := h
      refine MD_read (fun z => z.1 0 88) (fun G z Q k => T_getI 0 88 (dk dt_lookAt 212 rfl) fl_623 mk_0 ml_0 (by decide) rfl k) (fun z e => e 0 88 (Or.inr h3)) ?_
      obtain ⟨h4, h⟩ := h
      refine MD_read (fun z => z.1 37 (x.1 0 88 : Int32).toNatClampNeg) (fun G z Q k => T_zald 37 24 (dk dt_lookAt 213 rfl) mk_37 ml_37 h4 k) (fun z e => e 37 _ (Or.inl (core_a (by decide) h4))) ?_
      by_cases c5 : (x.1 37 (x.1 0 88 : Int32).toNatClampNeg) = (0 : Int32)
      · have h := h.2 c5
        refine MD_lift (fun G z Q k => T_if_ne 404 (dk dt_lookAt 214 rfl) (by decide) (fun q => absurd c5 q) (fun _ => k)) ?_
        refine MD_lift (fun G z Q k => T_aload_n 0 (dk dt_lookAt 215 rfl) rfl rfl k) ?_
        refine MD_lift (fun G z Q k => T_getR 0 79 80 (dk dt_lookAt 216 rfl) fl_172 mk_0 ml_0 (by decide) rfl rfl k) ?_
        refine MD_lift (fun G z Q k => T_iload_n 1 (dk dt_lookAt 217 rfl) rfl rfl k) ?_
        obtain ⟨h6, h⟩ := h
        refine MD_read (fun z => z.1 80 (l1 : Int32).toNatClampNeg) (fun G z Q k => T_iald 80 6 (dk dt_lookAt 218 rfl) mk_80 ml_80 h6 k) (fun z e => e 80 _ (Or.inl (core_a (by decide) h6))) ?_
        refine MD_lift (fun G z Q k => T_bipush (v := 8) (dk dt_lookAt 219 rfl) (by decide +kernel) k) ?_
        by_cases c7 : (x.1 80 (l1 : Int32).toNatClampNeg) = (8 : Int32)
        · have h := h.2 c7
          refine MD_lift (fun G z Q k => T_icmp_ne 404 (dk dt_lookAt 220 rfl) (by decide) (fun q => absurd c7 q) (fun _ => k)) ?_
          refine MD_lift (fun G z Q k => T_aload_n 0 (dk dt_lookAt 221 rfl) rfl rfl k) ?_
          refine MD_lift (fun G z Q k => T_bipush (v := 9) (dk dt_lookAt 222 rfl) (by decide +kernel) k) ?_
          obtain ⟨x8, ex8⟩ : ∃ z, z = si x 0 89 9 := ⟨_, rfl⟩
          have h := h x8 ex8
          refine MD_wr 0 89 9 (fun G z Q k => T_putI 0 89 (dk dt_lookAt 223 rfl) fl_620 mk_0 ml_0 (by decide) rfl ⟨rfl, rfl⟩ k) (hm_f (by decide) _) ?_
          rw [← ex8]
          exact MD_ret (fun G z Q k => MT_vret (dk dt_lookAt 224 rfl) rfl k) h
        · have h := h.1 c7
          refine MD_lift (fun G z Q k => T_icmp_ne 404 (dk dt_lookAt 220 rfl) (by decide) (fun _ => k) (fun q => absurd q c7)) ?_
          exact MD_ret (fun G z Q k => MT_vret (dk dt_lookAt 224 rfl) rfl k) h
      · have h := h.1 c5
        refine MD_lift (fun G z Q k => T_if_ne 404 (dk dt_lookAt 214 rfl) (by decide) (fun _ => k) (fun q => absurd q c5)) ?_
        exact MD_ret (fun G z Q k => MT_vret (dk dt_lookAt 224 rfl) rfl k) h
    · have h := h.1 c2
      refine MD_lift (fun G z Q k => T_icmp_ne 404 (dk dt_lookAt 208 rfl) (by decide) (fun _ => k) (fun q => absurd q c2)) ?_
      exact MD_ret (fun G z Q k => MT_vret (dk dt_lookAt 224 rfl) rfl k) h
  · have h := h.1 c1
    refine MD_lift (fun G z Q k => T_icmp_ne 404 (dk dt_lookAt 204 rfl) (by decide) (fun _ => k) (fun q => absurd q c1)) ?_
    exact MD_ret (fun G z Q k => MT_vret (dk dt_lookAt 224 rfl) rfl k) h
end
