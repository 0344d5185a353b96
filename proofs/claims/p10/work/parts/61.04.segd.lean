set_option maxRecDepth 100000 in
set_option maxHeartbeats 4000000 in
theorem sd_findChoices_0 {d : Nat} {S : gS} {x : gd} {P : Option gv → gd → gS → Prop} 
    (h : (∀ x1 : gd, x1 = si x 0 84 0 → MD (d + 1) z_findChoices 7 [(0, vr 0), (1, vi 0)] [] (sadd S 0 84) x1 P)) :
    MD (d + 1) z_findChoices 0 [(0, vr 0)] [] S x P := by
  refine MD_lift (fun G z Q k => T_aload_n 0 (dk dt_findChoices 0 rfl) rfl rfl k) ?_
  refine MD_lift (fun G z Q k => T_iconst (v := 0) (dk dt_findChoices 1 rfl) (by decide +kernel) k) ?_
  obtain ⟨x1, ex1⟩ : ∃ z, z = si x 0 84 0 := ⟨_, rfl⟩
  have h := h x1 ex1
  refine MD_wr 0 84 0 (fun G z Q k => T_putI 0 84 (dk dt_findChoices 2 rfl) fl_611 mk_0 ml_0 (by decide) rfl ⟨rfl, rfl⟩ k) (hm_f (by decide) _) ?_
  rw [← ex1]
  refine MD_lift (fun G z Q k => T_iconst (v := 0) (dk dt_findChoices 3 rfl) (by decide +kernel) k) ?_
  refine MD_lift (fun G z Q k => T_istore_n (lv2 := [(1, vi 0), (0, vr 0)]) (dk dt_findChoices 4 rfl) rfl (by decide) rfl k) ?_
  exact MD_lift (fun G z Q k => T_sub [1, 0] rfl k) h
set_option maxRecDepth 100000 in
set_option maxHeartbeats 4000000 in
theorem sd_findChoices_7 {d : Nat} {S : gS} {x : gd} {P : Option gv → gd → gS → Prop} (l1 : Int32)
    (h : (((x.1 0 25) ≤ l1 → P none x S) ∧ (¬ ((x.1 0 25) ≤ l1) → MD d z_hasAct 0 [(0, vr 0), (1, vi l1)] [] S x (Di (fun r3 x2 S2 => ((r3 = (0 : Int32) → MD (d + 1) z_findChoices 144 [(0, vr 0), (1, vi l1), (2, vi 0)] [] S2 x2 P) ∧ (¬ (r3 = (0 : Int32)) → vp_in l1 6 ∧ S2 0 84 ∧ MD d z_sortOf 0 [(0, vr 0), (1, vi l1)] [] S2 x2 (Di (fun r8 x7 S7 => ((¬ (r8 = (8 : Int32)) → MD (d + 1) z_findChoices 127 [(0, vr 0), (1, vi l1), (3, vi (x2.1 0 84))] [] S7 x7 P) ∧ (r8 = (8 : Int32) → vp_in (x2.1 74 (l1 : Int32).toNatClampNeg) 1500 ∧ ((¬ ((x7.1 57 (x2.1 74 (l1 : Int32).toNatClampNeg : Int32).toNatClampNeg) = (0 : Int32)) → MD (d + 1) z_findChoices 127 [(0, vr 0), (1, vi l1), (3, vi (x2.1 0 84))] [] S7 x7 P) ∧ ((x7.1 57 (x2.1 74 (l1 : Int32).toNatClampNeg : Int32).toNatClampNeg) = (0 : Int32) → vp_in (x2.1 74 (l1 : Int32).toNatClampNeg) 1500 ∧ vp_in (x7.1 56 (x2.1 74 (l1 : Int32).toNatClampNeg : Int32).toNatClampNeg) 6 ∧ ((¬ ((x7.1 71 (x7.1 56 (x2.1 74 (l1 : Int32).toNatClampNeg : Int32).toNatClampNeg : Int32).toNatClampNeg) = l1) → MD (d + 1) z_findChoices 127 [(0, vr 0), (1, vi l1), (3, vi (x2.1 0 84))] [] S7 x7 P) ∧ ((x7.1 71 (x7.1 56 (x2.1 74 (l1 : Int32).toNatClampNeg : Int32).toNatClampNeg : Int32).toNatClampNeg) = l1 → MD (d + 1) z_findChoices 72 [(0, vr 0), (1, vi l1), (2, vi (x2.1 74 (l1 : Int32).toNatClampNeg)), (3, vi (x2.1 0 84)), (4, vi 0)] [] S7 x7 P))))))))))))))) :
    MD (d + 1) z_findChoices 7 [(0, vr 0), (1, vi l1)] [] S x P := by
  refine MD_lift (fun G z Q k => T_iload_n 1 (dk dt_findChoices 5 rfl) rfl rfl k) ?_
  refine MD_lift (fun G z Q k => T_aload_n 0 (dk dt_findChoices 6 rfl) rfl rfl k) ?_
  refine MD_read (fun z => z.1 0 25) (fun G z Q k => T_getI 0 25 (dk dt_findChoices 7 rfl) fl_461 mk_0 ml_0 (by decide) rfl k) (fun z e => e 0 25 (Or.inl (core_f (by decide)))) ?_
  by_cases c1 : (x.1 0 25) ≤ l1
  · have h := h.1 c1
    refine MD_lift (fun G z Q k => T_icmp_ge 230 (dk dt_findChoices 8 rfl) (by decide) (fun _ => k) (fun q => absurd c1 q)) ?_
    exact MD_ret (fun G z Q k => MT_vret (dk dt_findChoices 131 rfl) rfl k) h
  · have h := h.2 c1
    refine MD_lift (fun G z Q k => T_icmp_ge 230 (dk dt_findChoices 8 rfl) (by decide) (fun q => absurd q c1) (fun _ => k)) ?_
    refine MD_lift (fun G z Q k => T_aload_n 0 (dk dt_findChoices 9 rfl) rfl rfl k) ?_
    refine MD_lift (fun G z Q k => T_iload_n 1 (dk dt_findChoices 10 rfl) rfl rfl k) ?_
    refine MD_calli (fun G z F Q k kk => MT_callVi [vi l1] [] rfl (dk dt_findChoices 11 rfl) cv_614 rfl rfl (Nat.le_of_ble_eq_true rfl) (Nat.le_of_ble_eq_true rfl) rfl rfl k kk) h (fun r3 x2 S2 h => ?_)
    by_cases c4 : r3 = (0 : Int32)
    · have h := h.1 c4
      refine MD_lift (fun G z Q k => T_if_eq 142 (dk dt_findChoices 12 rfl) (by decide) (fun _ => k) (fun q => absurd c4 q)) ?_
      refine MD_lift (fun G z Q k => T_iconst (v := 0) (dk dt_findChoices 80 rfl) (by decide +kernel) k) ?_
      refine MD_lift (fun G z Q k => T_istore_n (lv2 := [(2, vi 0), (0, vr 0), (1, vi l1)]) (dk dt_findChoices 81 rfl) rfl (by decide) rfl k) ?_
      exact MD_lift (fun G z Q k => T_sub [1, 2, 0] rfl k) h
    · have h := h.2 c4
      refine MD_lift (fun G z Q k => T_if_eq 142 (dk dt_findChoices 12 rfl) (by decide) (fun q => absurd q c4) (fun _ => k)) ?_
      refine MD_lift (fun G z Q k => T_aload_n 0 (dk dt_findChoices 13 rfl) rfl rfl k) ?_
      refine MD_lift (fun G z Q k => T_getR 0 73 74 (dk dt_findChoices 14 rfl) fl_154 mk_0 ml_0 (by decide) rfl rfl k) ?_
      refine MD_lift (fun G z Q k => T_iload_n 1 (dk dt_findChoices 15 rfl) rfl rfl k) ?_
      obtain ⟨h5, h⟩ := h
      refine MD_read (fun z => z.1 74 (l1 : Int32).toNatClampNeg) (fun G z Q k => T_iald 74 6 (dk dt_findChoices 16 rfl) mk_74 ml_74 h5 k) (fun z e => e 74 _ (Or.inl (core_a (by decide) h5))) ?_
      refine MD_lift (fun G z Q k => T_istore_n (lv2 := [(2, vi (x2.1 74 (l1 : Int32).toNatClampNeg)), (0, vr 0), (1, vi l1)]) (dk dt_findChoices 17 rfl) rfl (by decide) rfl k) ?_
      refine MD_lift (fun G z Q k => T_aload_n 1 (dk dt_findChoices 18 rfl) rfl rfl k) ?_
      obtain ⟨h6, h⟩ := h
      refine MD_read (fun z => z.1 0 84) (fun G z Q k => T_getI 0 84 (dk dt_findChoices 19 rfl) fl_611 mk_0 ml_0 (by decide) rfl k) (fun z e => e 0 84 (Or.inr h6)) ?_
      refine MD_lift (fun G z Q k => T_istore_n (lv2 := [(3, vi (x2.1 0 84)), (2, vi (x2.1 74 (l1 : Int32).toNatClampNeg)), (0, vr 0), (1, vi l1)]) (dk dt_findChoices 20 rfl) rfl (by decide) rfl k) ?_
      refine MD_lift (fun G z Q k => T_aload_n 2 (dk dt_findChoices 21 rfl) rfl rfl k) ?_
      refine MD_lift (fun G z Q k => T_iload_n 3 (dk dt_findChoices 22 rfl) rfl rfl k) ?_
      refine MD_calli (fun G z F Q k kk => MT_callVi [vi l1] [] rfl (dk dt_findChoices 23 rfl) cv_602 rfl rfl (Nat.le_of_ble_eq_true rfl) (Nat.le_of_ble_eq_true rfl) rfl rfl k kk) h (fun r8 x7 S7 h => ?_)
      refine MD_lift (fun G z Q k => T_bipush (v := 8) (dk dt_findChoices 24 rfl) (by decide +kernel) k) ?_
      by_cases c9 : r8 = (8 : Int32)
      · have h := h.2 c9
        refine MD_lift (fun G z Q k => T_icmp_ne 127 (dk dt_findChoices 25 rfl) (by decide) (fun q => absurd c9 q) (fun _ => k)) ?_
        refine MD_lift (fun G z Q k => T_aload_n 2 (dk dt_findChoices 26 rfl) rfl rfl k) ?_
        refine MD_lift (fun G z Q k => T_getR 0 56 57 (dk dt_findChoices 27 rfl) fl_112 mk_0 ml_0 (by decide) rfl rfl k) ?_
        refine MD_lift (fun G z Q k => T_iload_n 1 (dk dt_findChoices 28 rfl) rfl rfl k) ?_
        obtain ⟨h10, h⟩ := h
        refine MD_read (fun z => z.1 57 (x2.1 74 (l1 : Int32).toNatClampNeg : Int32).toNatClampNeg) (fun G z Q k => T_iald 57 1500 (dk dt_findChoices 29 rfl) mk_57 ml_57 h10 k) (fun z e => e 57 _ (Or.inl (core_a (by decide) h10))) ?_
        by_cases c11 : (x7.1 57 (x2.1 74 (l1 : Int32).toNatClampNeg : Int32).toNatClampNeg) = (0 : Int32)
        · have h := h.2 c11
          refine MD_lift (fun G z Q k => T_if_ne 127 (dk dt_findChoices 30 rfl) (by decide) (fun q => absurd c11 q) (fun _ => k)) ?_
          refine MD_lift (fun G z Q k => T_aload_n 2 (dk dt_findChoices 31 rfl) rfl rfl k) ?_
          refine MD_lift (fun G z Q k => T_getR 0 70 71 (dk dt_findChoices 32 rfl) fl_145 mk_0 ml_0 (by decide) rfl rfl k) ?_
          refine MD_lift (fun G z Q k => T_aload_n 2 (dk dt_findChoices 33 rfl) rfl rfl k) ?_
          refine MD_lift (fun G z Q k => T_getR 0 55 56 (dk dt_findChoices 34 rfl) fl_109 mk_0 ml_0 (by decide) rfl rfl k) ?_
          refine MD_lift (fun G z Q k => T_iload_n 1 (dk dt_findChoices 35 rfl) rfl rfl k) ?_
          obtain ⟨h12, h⟩ := h
          refine MD_read (fun z => z.1 56 (x2.1 74 (l1 : Int32).toNatClampNeg : Int32).toNatClampNeg) (fun G z Q k => T_iald 56 1500 (dk dt_findChoices 36 rfl) mk_56 ml_56 h12 k) (fun z e => e 56 _ (Or.inl (core_a (by decide) h12))) ?_
          obtain ⟨h13, h⟩ := h
          refine MD_read (fun z => z.1 71 (x7.1 56 (x2.1 74 (l1 : Int32).toNatClampNeg : Int32).toNatClampNeg : Int32).toNatClampNeg) (fun G z Q k => T_iald 71 6 (dk dt_findChoices 37 rfl) mk_71 ml_71 h13 k) (fun z e => e 71 _ (Or.inl (core_a (by decide) h13))) ?_
          refine MD_lift (fun G z Q k => T_iload_n 3 (dk dt_findChoices 38 rfl) rfl rfl k) ?_
          by_cases c14 : (x7.1 71 (x7.1 56 (x2.1 74 (l1 : Int32).toNatClampNeg : Int32).toNatClampNeg : Int32).toNatClampNeg) = l1
          · have h := h.2 c14
            refine MD_lift (fun G z Q k => T_icmp_ne 127 (dk dt_findChoices 39 rfl) (by decide) (fun q => absurd c14 q) (fun _ => k)) ?_
            refine MD_lift (fun G z Q k => T_iconst (v := 0) (dk dt_findChoices 40 rfl) (by decide +kernel) k) ?_
            refine MD_lift (fun G z Q k => T_istore (lv2 := [(4, vi 0), (3, vi (x2.1 0 84)), (2, vi (x2.1 74 (l1 : Int32).toNatClampNeg)), (0, vr 0), (1, vi l1)]) (dk dt_findChoices 41 rfl) (by decide) rfl k) ?_
            exact MD_lift (fun G z Q k => T_sub [3, 4, 2, 1, 0] rfl k) h
          · have h := h.1 c14
            refine MD_lift (fun G z Q k => T_icmp_ne 127 (dk dt_findChoices 39 rfl) (by decide) (fun _ => k) (fun q => absurd q c14)) ?_
            exact MD_lift (fun G z Q k => T_sub [2, 3, 0] rfl k) h
        · have h := h.1 c11
          refine MD_lift (fun G z Q k => T_if_ne 127 (dk dt_findChoices 30 rfl) (by decide) (fun _ => k) (fun q => absurd q c11)) ?_
          exact MD_lift (fun G z Q k => T_sub [2, 3, 0] rfl k) h
      · have h := h.1 c9
        refine MD_lift (fun G z Q k => T_icmp_ne 127 (dk dt_findChoices 25 rfl) (by decide) (fun _ => k) (fun q => absurd q c9)) ?_
        exact MD_lift (fun G z Q k => T_sub [2, 3, 0] rfl k) h
set_option maxRecDepth 100000 in
set_option maxHeartbeats 4000000 in
theorem sd_findChoices_72 {d : Nat} {S : gS} {x : gd} {P : Option gv → gd → gS → Prop} (l1 : Int32) (l2 : Int32) (l3 : Int32) (l4 : Int32)
    (h : (((x.1 0 25) ≤ l4 → MD (d + 1) z_findChoices 127 [(0, vr 0), (1, vi l1), (3, vi l3)] [] S x P) ∧ (¬ ((x.1 0 25) ≤ l4) → vp_in l4 6 ∧ ((¬ ((x.1 77 (l4 : Int32).toNatClampNeg) = (1 : Int32)) → MD (d + 1) z_findChoices 72 [(0, vr 0), (1, vi l1), (2, vi l2), (3, vi l3), (4, vi (l4 + 1))] [] S x P) ∧ ((x.1 77 (l4 : Int32).toNatClampNeg) = (1 : Int32) → vp_in l4 6 ∧ vp_in (x.1 74 (l4 : Int32).toNatClampNeg) 1500 ∧ vp_in l2 1500 ∧ ((¬ ((x.1 56 (x.1 74 (l4 : Int32).toNatClampNeg : Int32).toNatClampNeg) = (x.1 56 (l2 : Int32).toNatClampNeg)) → MD (d + 1) z_findChoices 72 [(0, vr 0), (1, vi l1), (2, vi l2), (3, vi l3), (4, vi (l4 + 1))] [] S x P) ∧ ((x.1 56 (x.1 74 (l4 : Int32).toNatClampNeg : Int32).toNatClampNeg) = (x.1 56 (l2 : Int32).toNatClampNeg) → MD d z_choose 0 [(0, vr 0), (1, vi l1), (2, vi (-1)), (3, vi l4)] [] S x (Dv (fun x8 S8 => MD (d + 1) z_findChoices 72 [(0, vr 0), (1, vi l1), (2, vi l2), (3, vi l3), (4, vi (l4 + 1))] [] S8 x8 P))))))))) :
    MD (d + 1) z_findChoices 72 [(0, vr 0), (1, vi l1), (2, vi l2), (3, vi l3), (4, vi l4)] [] S x P := by
  refine MD_lift (fun G z Q k => T_iload 4 (dk dt_findChoices 42 rfl) rfl k) ?_
  refine MD_lift (fun G z Q k => T_aload_n 0 (dk dt_findChoices 43 rfl) rfl rfl k) ?_
  refine MD_read (fun z => z.1 0 25) (fun G z Q k => T_getI 0 25 (dk dt_findChoices 44 rfl) fl_461 mk_0 ml_0 (by decide) rfl k) (fun z e => e 0 25 (Or.inl (core_f (by decide)))) ?_
  by_cases c1 : (x.1 0 25) ≤ l4
  · have h := h.1 c1
    refine MD_lift (fun G z Q k => T_icmp_ge 127 (dk dt_findChoices 45 rfl) (by decide) (fun _ => k) (fun q => absurd c1 q)) ?_
    exact MD_lift (fun G z Q k => T_sub [0, 1, 3] rfl k) h
  · have h := h.2 c1
    refine MD_lift (fun G z Q k => T_icmp_ge 127 (dk dt_findChoices 45 rfl) (by decide) (fun q => absurd q c1) (fun _ => k)) ?_
    refine MD_lift (fun G z Q k => T_aload_n 0 (dk dt_findChoices 46 rfl) rfl rfl k) ?_
    refine MD_lift (fun G z Q k => T_getR 0 76 77 (dk dt_findChoices 47 rfl) fl_163 mk_0 ml_0 (by decide) rfl rfl k) ?_
    refine MD_lift (fun G z Q k => T_iload 4 (dk dt_findChoices 48 rfl) rfl k) ?_
    obtain ⟨h2, h⟩ := h
    refine MD_read (fun z => z.1 77 (l4 : Int32).toNatClampNeg) (fun G z Q k => T_iald 77 6 (dk dt_findChoices 49 rfl) mk_77 ml_77 h2 k) (fun z e => e 77 _ (Or.inl (core_a (by decide) h2))) ?_
    refine MD_lift (fun G z Q k => T_iconst (v := 1) (dk dt_findChoices 50 rfl) (by decide +kernel) k) ?_
    by_cases c3 : (x.1 77 (l4 : Int32).toNatClampNeg) = (1 : Int32)
    · have h := h.2 c3
      refine MD_lift (fun G z Q k => T_icmp_ne 121 (dk dt_findChoices 51 rfl) (by decide) (fun q => absurd c3 q) (fun _ => k)) ?_
      refine MD_lift (fun G z Q k => T_aload_n 0 (dk dt_findChoices 52 rfl) rfl rfl k) ?_
      refine MD_lift (fun G z Q k => T_getR 0 55 56 (dk dt_findChoices 53 rfl) fl_109 mk_0 ml_0 (by decide) rfl rfl k) ?_
      refine MD_lift (fun G z Q k => T_aload_n 0 (dk dt_findChoices 54 rfl) rfl rfl k) ?_
      refine MD_lift (fun G z Q k => T_getR 0 73 74 (dk dt_findChoices 55 rfl) fl_154 mk_0 ml_0 (by decide) rfl rfl k) ?_
      refine MD_lift (fun G z Q k => T_iload 4 (dk dt_findChoices 56 rfl) rfl k) ?_
      obtain ⟨h4, h⟩ := h
      refine MD_read (fun z => z.1 74 (l4 : Int32).toNatClampNeg) (fun G z Q k => T_iald 74 6 (dk dt_findChoices 57 rfl) mk_74 ml_74 h4 k) (fun z e => e 74 _ (Or.inl (core_a (by decide) h4))) ?_
      obtain ⟨h5, h⟩ := h
      refine MD_read (fun z => z.1 56 (x.1 74 (l4 : Int32).toNatClampNeg : Int32).toNatClampNeg) (fun G z Q k => T_iald 56 1500 (dk dt_findChoices 58 rfl) mk_56 ml_56 h5 k) (fun z e => e 56 _ (Or.inl (core_a (by decide) h5))) ?_
      refine MD_lift (fun G z Q k => T_aload_n 0 (dk dt_findChoices 59 rfl) rfl rfl k) ?_
      refine MD_lift (fun G z Q k => T_getR 0 55 56 (dk dt_findChoices 60 rfl) fl_109 mk_0 ml_0 (by decide) rfl rfl k) ?_
      refine MD_lift (fun G z Q k => T_iload_n 2 (dk dt_findChoices 61 rfl) rfl rfl k) ?_
      obtain ⟨h6, h⟩ := h
      refine MD_read (fun z => z.1 56 (l2 : Int32).toNatClampNeg) (fun G z Q k => T_iald 56 1500 (dk dt_findChoices 62 rfl) mk_56 ml_56 h6 k) (fun z e => e 56 _ (Or.inl (core_a (by decide) h6))) ?_
      by_cases c7 : (x.1 56 (x.1 74 (l4 : Int32).toNatClampNeg : Int32).toNatClampNeg) = (x.1 56 (l2 : Int32).toNatClampNeg)
      · have h := h.2 c7
        refine MD_lift (fun G z Q k => T_icmp_ne 121 (dk dt_findChoices 63 rfl) (by decide) (fun q => absurd c7 q) (fun _ => k)) ?_
        refine MD_lift (fun G z Q k => T_aload_n 0 (dk dt_findChoices 64 rfl) rfl rfl k) ?_
        refine MD_lift (fun G z Q k => T_iload_n 1 (dk dt_findChoices 65 rfl) rfl rfl k) ?_
        refine MD_lift (fun G z Q k => T_iconst (v := (-1)) (dk dt_findChoices 66 rfl) (by decide +kernel) k) ?_
        refine MD_lift (fun G z Q k => T_iload 4 (dk dt_findChoices 67 rfl) rfl k) ?_
        refine MD_callv (fun G z F Q k kk => MT_callVv [vi l1, vi (-1), vi l4] [] rfl (dk dt_findChoices 68 rfl) cv_617 rfl rfl (Nat.le_of_ble_eq_true rfl) (Nat.le_of_ble_eq_true rfl) rfl rfl k kk) h (fun x8 S8 h => ?_)
        refine MD_lift (fun G z Q k => T_iinc (v := l4 + 1) (lv2 := [(4, vi (l4 + 1)), (0, vr 0), (1, vi l1), (2, vi l2), (3, vi l3)]) 4 (dk dt_findChoices 69 rfl) rfl rfl (by decide) rfl k) ?_
        refine MD_lift (fun G z Q k => T_goto 72 (dk dt_findChoices 70 rfl) (by decide) k) ?_
        exact MD_lift (fun G z Q k => T_sub [1, 2, 3, 4, 0] rfl k) h
      · have h := h.1 c7
        refine MD_lift (fun G z Q k => T_icmp_ne 121 (dk dt_findChoices 63 rfl) (by decide) (fun _ => k) (fun q => absurd q c7)) ?_
        refine MD_lift (fun G z Q k => T_iinc (v := l4 + 1) (lv2 := [(4, vi (l4 + 1)), (0, vr 0), (1, vi l1), (2, vi l2), (3, vi l3)]) 4 (dk dt_findChoices 69 rfl) rfl rfl (by decide) rfl k) ?_
        refine MD_lift (fun G z Q k => T_goto 72 (dk dt_findChoices 70 rfl) (by decide) k) ?_
        exact MD_lift (fun G z Q k => T_sub [1, 2, 3, 4, 0] rfl k) h
    · have h := h.1 c3
      refine MD_lift (fun G z Q k => T_icmp_ne 121 (dk dt_findChoices 51 rfl) (by decide) (fun _ => k) (fun q => absurd q c3)) ?_
      refine MD_lift (fun G z Q k => T_iinc (v := l4 + 1) (lv2 := [(4, vi (l4 + 1)), (0, vr 0), (1, vi l1), (2, vi l2), (3, vi l3)]) 4 (dk dt_findChoices 69 rfl) rfl rfl (by decide) rfl k) ?_
      refine MD_lift (fun G z Q k => T_goto 72 (dk dt_findChoices 70 rfl) (by decide) k) ?_
      exact MD_lift (fun G z Q k => T_sub [1, 2, 3, 4, 0] rfl k) h
set_option maxRecDepth 100000 in
set_option maxHeartbeats 4000000 in
theorem sd_findChoices_127 {d : Nat} {S : gS} {x : gd} {P : Option gv → gd → gS → Prop} (l1 : Int32) (l3 : Int32)
    (h : S 0 84 ∧ ((¬ ((x.1 0 84) = l3) → MD (d + 1) z_findChoices 144 [(0, vr 0), (1, vi l1), (2, vi 0)] [] S x P) ∧ ((x.1 0 84) = l3 → MD d z_choose 0 [(0, vr 0), (1, vi l1), (2, vi (-1)), (3, vi (-1))] [] S x (Dv (fun x3 S3 => MD (d + 1) z_findChoices 144 [(0, vr 0), (1, vi l1), (2, vi 0)] [] S3 x3 P))))) :
    MD (d + 1) z_findChoices 127 [(0, vr 0), (1, vi l1), (3, vi l3)] [] S x P := by
  refine MD_lift (fun G z Q k => T_aload_n 0 (dk dt_findChoices 71 rfl) rfl rfl k) ?_
  obtain ⟨h1, h⟩ := h
  refine MD_read (fun z => z.1 0 84) (fun G z Q k => T_getI 0 84 (dk dt_findChoices 72 rfl) fl_611 mk_0 ml_0 (by decide) rfl k) (fun z e => e 0 84 (Or.inr h1)) ?_
  refine MD_lift (fun G z Q k => T_iload_n 2 (dk dt_findChoices 73 rfl) rfl rfl k) ?_
  by_cases c2 : (x.1 0 84) = l3
  · have h := h.2 c2
    refine MD_lift (fun G z Q k => T_icmp_ne 142 (dk dt_findChoices 74 rfl) (by decide) (fun q => absurd c2 q) (fun _ => k)) ?_
    refine MD_lift (fun G z Q k => T_aload_n 0 (dk dt_findChoices 75 rfl) rfl rfl k) ?_
    refine MD_lift (fun G z Q k => T_iload_n 1 (dk dt_findChoices 76 rfl) rfl rfl k) ?_
    refine MD_lift (fun G z Q k => T_iconst (v := (-1)) (dk dt_findChoices 77 rfl) (by decide +kernel) k) ?_
    refine MD_lift (fun G z Q k => T_iconst (v := (-1)) (dk dt_findChoices 78 rfl) (by decide +kernel) k) ?_
    refine MD_callv (fun G z F Q k kk => MT_callVv [vi l1, vi (-1), vi (-1)] [] rfl (dk dt_findChoices 79 rfl) cv_617 rfl rfl (Nat.le_of_ble_eq_true rfl) (Nat.le_of_ble_eq_true rfl) rfl rfl k kk) h (fun x3 S3 h => ?_)
    refine MD_lift (fun G z Q k => T_iconst (v := 0) (dk dt_findChoices 80 rfl) (by decide +kernel) k) ?_
    refine MD_lift (fun G z Q k => T_istore_n (lv2 := [(2, vi 0), (0, vr 0), (1, vi l1), (3, vi l3)]) (dk dt_findChoices 81 rfl) rfl (by decide) rfl k) ?_
    exact MD_lift (fun G z Q k => T_sub [1, 2, 0] rfl k) h
  · have h := h.1 c2
    refine MD_lift (fun G z Q k => T_icmp_ne 142 (dk dt_findChoices 74 rfl) (by decide) (fun _ => k) (fun q => absurd q c2)) ?_
    refine MD_lift (fun G z Q k => T_iconst (v := 0) (dk dt_findChoices 80 rfl) (by decide +kernel) k) ?_
    refine MD_lift (fun G z Q k => T_istore_n (lv2 := [(2, vi 0), (0, vr 0), (1, vi l1), (3, vi l3)]) (dk dt_findChoices 81 rfl) rfl (by decide) rfl k) ?_
    exact MD_lift (fun G z Q k => T_sub [1, 2, 0] rfl k) h
set_option maxRecDepth 100000 in
set_option maxHeartbeats 4000000 in
theorem sd_findChoices_144 {d : Nat} {S : gS} {x : gd} {P : Option gv → gd → gS → Prop} (l1 : Int32) (l2 : Int32)
    (h : vp_in l1 6 ∧ (((x.1 80 (l1 : Int32).toNatClampNeg) ≤ l2 → MD (d + 1) z_findChoices 7 [(0, vr 0), (1, vi (l1 + 1))] [] S x P) ∧ (¬ ((x.1 80 (l1 : Int32).toNatClampNeg) ≤ l2) → MD (d + 1) z_findChoices 159 [(0, vr 0), (1, vi l1), (2, vi l2), (3, vi 1), (4, vi 0)] [] S x P))) :
    MD (d + 1) z_findChoices 144 [(0, vr 0), (1, vi l1), (2, vi l2)] [] S x P := by
  refine MD_lift (fun G z Q k => T_iload_n 2 (dk dt_findChoices 82 rfl) rfl rfl k) ?_
  refine MD_lift (fun G z Q k => T_aload_n 0 (dk dt_findChoices 83 rfl) rfl rfl k) ?_
  refine MD_lift (fun G z Q k => T_getR 0 79 80 (dk dt_findChoices 84 rfl) fl_172 mk_0 ml_0 (by decide) rfl rfl k) ?_
  refine MD_lift (fun G z Q k => T_iload_n 1 (dk dt_findChoices 85 rfl) rfl rfl k) ?_
  obtain ⟨h1, h⟩ := h
  refine MD_read (fun z => z.1 80 (l1 : Int32).toNatClampNeg) (fun G z Q k => T_iald 80 6 (dk dt_findChoices 86 rfl) mk_80 ml_80 h1 k) (fun z e => e 80 _ (Or.inl (core_a (by decide) h1))) ?_
  by_cases c2 : (x.1 80 (l1 : Int32).toNatClampNeg) ≤ l2
  · have h := h.1 c2
    refine MD_lift (fun G z Q k => T_icmp_ge 224 (dk dt_findChoices 87 rfl) (by decide) (fun _ => k) (fun q => absurd c2 q)) ?_
    refine MD_lift (fun G z Q k => T_iinc (v := l1 + 1) (lv2 := [(1, vi (l1 + 1)), (0, vr 0), (2, vi l2)]) 1 (dk dt_findChoices 129 rfl) rfl rfl (by decide) rfl k) ?_
    refine MD_lift (fun G z Q k => T_goto 7 (dk dt_findChoices 130 rfl) (by decide) k) ?_
    exact MD_lift (fun G z Q k => T_sub [1, 0] rfl k) h
  · have h := h.2 c2
    refine MD_lift (fun G z Q k => T_icmp_ge 224 (dk dt_findChoices 87 rfl) (by decide) (fun q => absurd q c2) (fun _ => k)) ?_
    refine MD_lift (fun G z Q k => T_iconst (v := 1) (dk dt_findChoices 88 rfl) (by decide +kernel) k) ?_
    refine MD_lift (fun G z Q k => T_istore_n (lv2 := [(3, vi 1), (0, vr 0), (1, vi l1), (2, vi l2)]) (dk dt_findChoices 89 rfl) rfl (by decide) rfl k) ?_
    refine MD_lift (fun G z Q k => T_iconst (v := 0) (dk dt_findChoices 90 rfl) (by decide +kernel) k) ?_
    refine MD_lift (fun G z Q k => T_istore (lv2 := [(4, vi 0), (3, vi 1), (0, vr 0), (1, vi l1), (2, vi l2)]) (dk dt_findChoices 91 rfl) (by decide) rfl k) ?_
    exact MD_lift (fun G z Q k => T_sub [2, 3, 4, 1, 0] rfl k) h
set_option maxRecDepth 100000 in
set_option maxHeartbeats 4000000 in
theorem sd_findChoices_159 {d : Nat} {S : gS} {x : gd} {P : Option gv → gd → gS → Prop} (l1 : Int32) (l2 : Int32) (l3 : Int32) (l4 : Int32)
    (h : ((l2 ≤ l4 → ((l3 = (0 : Int32) → MD (d + 1) z_findChoices 144 [(0, vr 0), (1, vi l1), (2, vi (l2 + 1))] [] S x P) ∧ (¬ (l3 = (0 : Int32)) → MD d z_choose 0 [(0, vr 0), (1, vi l1), (2, vi l2), (3, vi (-1))] [] S x (Dv (fun x3 S3 => MD (d + 1) z_findChoices 144 [(0, vr 0), (1, vi l1), (2, vi (l2 + 1))] [] S3 x3 P))))) ∧ (¬ (l2 ≤ l4) → ((l3 = (0 : Int32) → MD (d + 1) z_findChoices 159 [(0, vr 0), (1, vi l1), (2, vi l2), (3, vi 0), (4, vi (l4 + 1))] [] S x P) ∧ (¬ (l3 = (0 : Int32)) → vp_in ((10 * l1) + l4) 60 ∧ S 81 ((10 * l1) + l4 : Int32).toNatClampNeg ∧ vp_in ((10 * l1) + l2) 60 ∧ S 81 ((10 * l1) + l2 : Int32).toNatClampNeg ∧ (((x.1 81 ((10 * l1) + l4 : Int32).toNatClampNeg) = (x.1 81 ((10 * l1) + l2 : Int32).toNatClampNeg) → MD (d + 1) z_findChoices 159 [(0, vr 0), (1, vi l1), (2, vi l2), (3, vi 0), (4, vi (l4 + 1))] [] S x P) ∧ (¬ ((x.1 81 ((10 * l1) + l4 : Int32).toNatClampNeg) = (x.1 81 ((10 * l1) + l2 : Int32).toNatClampNeg)) → MD (d + 1) z_findChoices 159 [(0, vr 0), (1, vi l1), (2, vi l2), (3, vi 1), (4, vi (l4 + 1))] [] S x P))))))) :
    MD (d + 1) z_findChoices 159 [(0, vr 0), (1, vi l1), (2, vi l2), (3, vi l3), (4, vi l4)] [] S x P := by
  refine MD_lift (fun G z Q k => T_iload 4 (dk dt_findChoices 92 rfl) rfl k) ?_
  refine MD_lift (fun G z Q k => T_iload_n 2 (dk dt_findChoices 93 rfl) rfl rfl k) ?_
  by_cases c1 : l2 ≤ l4
  · have h := h.1 c1
    refine MD_lift (fun G z Q k => T_icmp_ge 207 (dk dt_findChoices 94 rfl) (by decide) (fun _ => k) (fun q => absurd c1 q)) ?_
    refine MD_lift (fun G z Q k => T_iload_n 3 (dk dt_findChoices 120 rfl) rfl rfl k) ?_
    by_cases c2 : l3 = (0 : Int32)
    · have h := h.1 c2
      refine MD_lift (fun G z Q k => T_if_eq 218 (dk dt_findChoices 121 rfl) (by decide) (fun _ => k) (fun q => absurd c2 q)) ?_
      refine MD_lift (fun G z Q k => T_iinc (v := l2 + 1) (lv2 := [(2, vi (l2 + 1)), (0, vr 0), (1, vi l1), (3, vi l3), (4, vi l4)]) 2 (dk dt_findChoices 127 rfl) rfl rfl (by decide) rfl k) ?_
      refine MD_lift (fun G z Q k => T_goto 144 (dk dt_findChoices 128 rfl) (by decide) k) ?_
      exact MD_lift (fun G z Q k => T_sub [1, 2, 0] rfl k) h
    · have h := h.2 c2
      refine MD_lift (fun G z Q k => T_if_eq 218 (dk dt_findChoices 121 rfl) (by decide) (fun q => absurd q c2) (fun _ => k)) ?_
      refine MD_lift (fun G z Q k => T_aload_n 0 (dk dt_findChoices 122 rfl) rfl rfl k) ?_
      refine MD_lift (fun G z Q k => T_iload_n 1 (dk dt_findChoices 123 rfl) rfl rfl k) ?_
      refine MD_lift (fun G z Q k => T_iload_n 2 (dk dt_findChoices 124 rfl) rfl rfl k) ?_
      refine MD_lift (fun G z Q k => T_iconst (v := (-1)) (dk dt_findChoices 125 rfl) (by decide +kernel) k) ?_
      refine MD_callv (fun G z F Q k kk => MT_callVv [vi l1, vi l2, vi (-1)] [] rfl (dk dt_findChoices 126 rfl) cv_617 rfl rfl (Nat.le_of_ble_eq_true rfl) (Nat.le_of_ble_eq_true rfl) rfl rfl k kk) h (fun x3 S3 h => ?_)
      refine MD_lift (fun G z Q k => T_iinc (v := l2 + 1) (lv2 := [(2, vi (l2 + 1)), (0, vr 0), (1, vi l1), (3, vi l3), (4, vi l4)]) 2 (dk dt_findChoices 127 rfl) rfl rfl (by decide) rfl k) ?_
      refine MD_lift (fun G z Q k => T_goto 144 (dk dt_findChoices 128 rfl) (by decide) k) ?_
      exact MD_lift (fun G z Q k => T_sub [1, 2, 0] rfl k) h
  · have h := h.2 c1
    refine MD_lift (fun G z Q k => T_icmp_ge 207 (dk dt_findChoices 94 rfl) (by decide) (fun q => absurd q c1) (fun _ => k)) ?_
    refine MD_lift (fun G z Q k => T_iload_n 3 (dk dt_findChoices 95 rfl) rfl rfl k) ?_
    by_cases c4 : l3 = (0 : Int32)
    · have h := h.1 c4
      refine MD_lift (fun G z Q k => T_if_eq 199 (dk dt_findChoices 96 rfl) (by decide) (fun _ => k) (fun q => absurd c4 q)) ?_
      refine MD_lift (fun G z Q k => T_iconst (v := 0) (dk dt_findChoices 116 rfl) (by decide +kernel) k) ?_
      refine MD_lift (fun G z Q k => T_istore_n (lv2 := [(3, vi 0), (0, vr 0), (1, vi l1), (2, vi l2), (4, vi l4)]) (dk dt_findChoices 117 rfl) rfl (by decide) rfl k) ?_
      refine MD_lift (fun G z Q k => T_iinc (v := l4 + 1) (lv2 := [(4, vi (l4 + 1)), (3, vi 0), (0, vr 0), (1, vi l1), (2, vi l2)]) 4 (dk dt_findChoices 118 rfl) rfl rfl (by decide) rfl k) ?_
      refine MD_lift (fun G z Q k => T_goto 159 (dk dt_findChoices 119 rfl) (by decide) k) ?_
      exact MD_lift (fun G z Q k => T_sub [2, 3, 4, 1, 0] rfl k) h
    · have h := h.2 c4
      refine MD_lift (fun G z Q k => T_if_eq 199 (dk dt_findChoices 96 rfl) (by decide) (fun q => absurd q c4) (fun _ => k)) ?_
      refine MD_lift (fun G z Q k => T_aload_n 0 (dk dt_findChoices 97 rfl) rfl rfl k) ?_
      refine MD_lift (fun G z Q k => T_getR 0 80 81 (dk dt_findChoices 98 rfl) fl_175 mk_0 ml_0 (by decide) rfl rfl k) ?_
      refine MD_lift (fun G z Q k => T_bipush (v := 10) (dk dt_findChoices 99 rfl) (by decide +kernel) k) ?_
      refine MD_lift (fun G z Q k => T_iload_n 1 (dk dt_findChoices 100 rfl) rfl rfl k) ?_
      refine MD_lift (fun G z Q k => T_imul (dk dt_findChoices 101 rfl) k) ?_
      refine MD_lift (fun G z Q k => T_iload 4 (dk dt_findChoices 102 rfl) rfl k) ?_
      refine MD_lift (fun G z Q k => T_iadd (dk dt_findChoices 103 rfl) k) ?_
      obtain ⟨h5, h⟩ := h
      obtain ⟨h6, h⟩ := h
      refine MD_read (fun z => z.1 81 ((10 * l1) + l4 : Int32).toNatClampNeg) (fun G z Q k => T_iald 81 60 (dk dt_findChoices 104 rfl) mk_81 ml_81 h5 k) (fun z e => e 81 _ (Or.inr h6)) ?_
      refine MD_lift (fun G z Q k => T_aload_n 0 (dk dt_findChoices 105 rfl) rfl rfl k) ?_
      refine MD_lift (fun G z Q k => T_getR 0 80 81 (dk dt_findChoices 106 rfl) fl_175 mk_0 ml_0 (by decide) rfl rfl k) ?_
      refine MD_lift (fun G z Q k => T_bipush (v := 10) (dk dt_findChoices 107 rfl) (by decide +kernel) k) ?_
      refine MD_lift (fun G z Q k => T_iload_n 1 (dk dt_findChoices 108 rfl) rfl rfl k) ?_
      refine MD_lift (fun G z Q k => T_imul (dk dt_findChoices 109 rfl) k) ?_
      refine MD_lift (fun G z Q k => T_iload_n 2 (dk dt_findChoices 110 rfl) rfl rfl k) ?_
      refine MD_lift (fun G z Q k => T_iadd (dk dt_findChoices 111 rfl) k) ?_
      obtain ⟨h7, h⟩ := h
      obtain ⟨h8, h⟩ := h
      refine MD_read (fun z => z.1 81 ((10 * l1) + l2 : Int32).toNatClampNeg) (fun G z Q k => T_iald 81 60 (dk dt_findChoices 112 rfl) mk_81 ml_81 h7 k) (fun z e => e 81 _ (Or.inr h8)) ?_
      by_cases c9 : (x.1 81 ((10 * l1) + l4 : Int32).toNatClampNeg) = (x.1 81 ((10 * l1) + l2 : Int32).toNatClampNeg)
      · have h := h.1 c9
        refine MD_lift (fun G z Q k => T_icmp_eq 199 (dk dt_findChoices 113 rfl) (by decide) (fun _ => k) (fun q => absurd c9 q)) ?_
        refine MD_lift (fun G z Q k => T_iconst (v := 0) (dk dt_findChoices 116 rfl) (by decide +kernel) k) ?_
        refine MD_lift (fun G z Q k => T_istore_n (lv2 := [(3, vi 0), (0, vr 0), (1, vi l1), (2, vi l2), (4, vi l4)]) (dk dt_findChoices 117 rfl) rfl (by decide) rfl k) ?_
        refine MD_lift (fun G z Q k => T_iinc (v := l4 + 1) (lv2 := [(4, vi (l4 + 1)), (3, vi 0), (0, vr 0), (1, vi l1), (2, vi l2)]) 4 (dk dt_findChoices 118 rfl) rfl rfl (by decide) rfl k) ?_
        refine MD_lift (fun G z Q k => T_goto 159 (dk dt_findChoices 119 rfl) (by decide) k) ?_
        exact MD_lift (fun G z Q k => T_sub [2, 3, 4, 1, 0] rfl k) h
      · have h := h.2 c9
        refine MD_lift (fun G z Q k => T_icmp_eq 199 (dk dt_findChoices 113 rfl) (by decide) (fun q => absurd q c9) (fun _ => k)) ?_
        refine MD_lift (fun G z Q k => T_iconst (v := 1) (dk dt_findChoices 114 rfl) (by decide +kernel) k) ?_
        refine MD_lift (fun G z Q k => T_goto 200 (dk dt_findChoices 115 rfl) (by decide) k) ?_
        refine MD_lift (fun G z Q k => T_istore_n (lv2 := [(3, vi 1), (0, vr 0), (1, vi l1), (2, vi l2), (4, vi l4)]) (dk dt_findChoices 117 rfl) rfl (by decide) rfl k) ?_
        refine MD_lift (fun G z Q k => T_iinc (v := l4 + 1) (lv2 := [(4, vi (l4 + 1)), (3, vi 1), (0, vr 0), (1, vi l1), (2, vi l2)]) 4 (dk dt_findChoices 118 rfl) rfl rfl (by decide) rfl k) ?_
        refine MD_lift (fun G z Q k => T_goto 159 (dk dt_findChoices 119 rfl) (by decide) k) ?_
        exact MD_lift (fun G z Q k => T_sub [2, 3, 4, 1, 0] rfl k) h
set_option maxRecDepth 100000 in
set_option maxHeartbeats 4000000 in
theorem sd_see_0 {d : Nat} {S : gS} {x : gd} {P : Option gv → gd → gS → Prop} (l1 : Int32) (l2 : Int32)
    (h : vp_in l2 24 ∧ MD d z_see 10 [(0, vr 0), (1, vi l1), (2, vi l2), (3, vi (x.1 70 (l2 : Int32).toNatClampNeg)), (4, vi 0)] [] S x P) :
    MD d z_see 0 [(0, vr 0), (1, vi l1), (2, vi l2)] [] S x P := by
  refine MD_lift (fun G z Q k => T_aload_n 0 (dk dt_see 0 rfl) rfl rfl k) ?_
  refine MD_lift (fun G z Q k => T_getR 0 69 70 (dk dt_see 1 rfl) fl_142 mk_0 ml_0 (by decide) rfl rfl k) ?_
  refine MD_lift (fun G z Q k => T_iload_n 2 (dk dt_see 2 rfl) rfl rfl k) ?_
  obtain ⟨h1, h⟩ := h
  refine MD_read (fun z => z.1 70 (l2 : Int32).toNatClampNeg) (fun G z Q k => T_iald 70 24 (dk dt_see 3 rfl) mk_70 ml_70 h1 k) (fun z e => e 70 _ (Or.inl (core_a (by decide) h1))) ?_
  refine MD_lift (fun G z Q k => T_istore_n (lv2 := [(3, vi (x.1 70 (l2 : Int32).toNatClampNeg)), (0, vr 0), (1, vi l1), (2, vi l2)]) (dk dt_see 4 rfl) rfl (by decide) rfl k) ?_
  refine MD_lift (fun G z Q k => T_iconst (v := 0) (dk dt_see 5 rfl) (by decide +kernel) k) ?_
  refine MD_lift (fun G z Q k => T_istore (lv2 := [(4, vi 0), (3, vi (x.1 70 (l2 : Int32).toNatClampNeg)), (0, vr 0), (1, vi l1), (2, vi l2)]) (dk dt_see 6 rfl) (by decide) rfl k) ?_
  exact MD_lift (fun G z Q k => T_sub [2, 3, 4, 1, 0] rfl k) h
set_option maxRecDepth 100000 in
set_option maxHeartbeats 4000000 in
theorem sd_see_10 {d : Nat} {S : gS} {x : gd} {P : Option gv → gd → gS → Prop} (l1 : Int32) (l2 : Int32) (l3 : Int32) (l4 : Int32)
    (h : vp_in l1 6 ∧ (((x.1 80 (l1 : Int32).toNatClampNeg) ≤ l4 → P (some (vi l3)) x S) ∧ (¬ ((x.1 80 (l1 : Int32).toNatClampNeg) ≤ l4) → vp_in ((10 * l1) + l4) 60 ∧ S 81 ((10 * l1) + l4 : Int32).toNatClampNeg ∧ ((¬ ((x.1 81 ((10 * l1) + l4 : Int32).toNatClampNeg) = l2) → MD d z_see 10 [(0, vr 0), (1, vi l1), (2, vi l2), (3, vi l3), (4, vi (l4 + 1))] [] S x P) ∧ ((x.1 81 ((10 * l1) + l4 : Int32).toNatClampNeg) = l2 → vp_in ((10 * l1) + l4) 60 ∧ S 82 ((10 * l1) + l4 : Int32).toNatClampNeg ∧ MD d z_see 10 [(0, vr 0), (1, vi l1), (2, vi l2), (3, vi (x.1 82 ((10 * l1) + l4 : Int32).toNatClampNeg)), (4, vi (l4 + 1))] [] S x P))))) :
    MD d z_see 10 [(0, vr 0), (1, vi l1), (2, vi l2), (3, vi l3), (4, vi l4)] [] S x P := by
  refine MD_lift (fun G z Q k => T_iload 4 (dk dt_see 7 rfl) rfl k) ?_
  refine MD_lift (fun G z Q k => T_aload_n 0 (dk dt_see 8 rfl) rfl rfl k) ?_
  refine MD_lift (fun G z Q k => T_getR 0 79 80 (dk dt_see 9 rfl) fl_172 mk_0 ml_0 (by decide) rfl rfl k) ?_
  refine MD_lift (fun G z Q k => T_iload_n 1 (dk dt_see 10 rfl) rfl rfl k) ?_
  obtain ⟨h1, h⟩ := h
  refine MD_read (fun z => z.1 80 (l1 : Int32).toNatClampNeg) (fun G z Q k => T_iald 80 6 (dk dt_see 11 rfl) mk_80 ml_80 h1 k) (fun z e => e 80 _ (Or.inl (core_a (by decide) h1))) ?_
  by_cases c2 : (x.1 80 (l1 : Int32).toNatClampNeg) ≤ l4
  · have h := h.1 c2
    refine MD_lift (fun G z Q k => T_icmp_ge 60 (dk dt_see 12 rfl) (by decide) (fun _ => k) (fun q => absurd c2 q)) ?_
    refine MD_lift (fun G z Q k => T_iload_n 3 (dk dt_see 36 rfl) rfl rfl k) ?_
    exact MD_ret (fun G z Q k => MT_iret (dk dt_see 37 rfl) rfl rfl k) h
  · have h := h.2 c2
    refine MD_lift (fun G z Q k => T_icmp_ge 60 (dk dt_see 12 rfl) (by decide) (fun q => absurd q c2) (fun _ => k)) ?_
    refine MD_lift (fun G z Q k => T_aload_n 0 (dk dt_see 13 rfl) rfl rfl k) ?_
    refine MD_lift (fun G z Q k => T_getR 0 80 81 (dk dt_see 14 rfl) fl_175 mk_0 ml_0 (by decide) rfl rfl k) ?_
    refine MD_lift (fun G z Q k => T_bipush (v := 10) (dk dt_see 15 rfl) (by decide +kernel) k) ?_
    refine MD_lift (fun G z Q k => T_iload_n 1 (dk dt_see 16 rfl) rfl rfl k) ?_
    refine MD_lift (fun G z Q k => T_imul (dk dt_see 17 rfl) k) ?_
    refine MD_lift (fun G z Q k => T_iload 4 (dk dt_see 18 rfl) rfl k) ?_
    refine MD_lift (fun G z Q k => T_iadd (dk dt_see 19 rfl) k) ?_
    obtain ⟨h3, h⟩ := h
    obtain ⟨h4, h⟩ := h
    refine MD_read (fun z => z.1 81 ((10 * l1) + l4 : Int32).toNatClampNeg) (fun G z Q k => T_iald 81 60 (dk dt_see 20 rfl) mk_81 ml_81 h3 k) (fun z e => e 81 _ (Or.inr h4)) ?_
    refine MD_lift (fun G z Q k => T_iload_n 2 (dk dt_see 21 rfl) rfl rfl k) ?_
    by_cases c5 : (x.1 81 ((10 * l1) + l4 : Int32).toNatClampNeg) = l2
    · have h := h.2 c5
      refine MD_lift (fun G z Q k => T_icmp_ne 52 (dk dt_see 22 rfl) (by decide) (fun q => absurd c5 q) (fun _ => k)) ?_
      refine MD_lift (fun G z Q k => T_aload_n 0 (dk dt_see 23 rfl) rfl rfl k) ?_
      refine MD_lift (fun G z Q k => T_getR 0 81 82 (dk dt_see 24 rfl) fl_178 mk_0 ml_0 (by decide) rfl rfl k) ?_
      refine MD_lift (fun G z Q k => T_bipush (v := 10) (dk dt_see 25 rfl) (by decide +kernel) k) ?_
      refine MD_lift (fun G z Q k => T_iload_n 1 (dk dt_see 26 rfl) rfl rfl k) ?_
      refine MD_lift (fun G z Q k => T_imul (dk dt_see 27 rfl) k) ?_
      refine MD_lift (fun G z Q k => T_iload 4 (dk dt_see 28 rfl) rfl k) ?_
      refine MD_lift (fun G z Q k => T_iadd (dk dt_see 29 rfl) k) ?_
      obtain ⟨h6, h⟩ := h
      obtain ⟨h7, h⟩ := h
      refine MD_read (fun z => z.1 82 ((10 * l1) + l4 : Int32).toNatClampNeg) (fun G z Q k => T_iald 82 60 (dk dt_see 30 rfl) mk_82 ml_82 h6 k) (fun z e => e 82 _ (Or.inr h7)) ?_
      refine MD_lift (fun G z Q k => T_goto 53 (dk dt_see 31 rfl) (by decide) k) ?_
      refine MD_lift (fun G z Q k => T_istore_n (lv2 := [(3, vi (x.1 82 ((10 * l1) + l4 : Int32).toNatClampNeg)), (0, vr 0), (1, vi l1), (2, vi l2), (4, vi l4)]) (dk dt_see 33 rfl) rfl (by decide) rfl k) ?_
      refine MD_lift (fun G z Q k => T_iinc (v := l4 + 1) (lv2 := [(4, vi (l4 + 1)), (3, vi (x.1 82 ((10 * l1) + l4 : Int32).toNatClampNeg)), (0, vr 0), (1, vi l1), (2, vi l2)]) 4 (dk dt_see 34 rfl) rfl rfl (by decide) rfl k) ?_
      refine MD_lift (fun G z Q k => T_goto 10 (dk dt_see 35 rfl) (by decide) k) ?_
      exact MD_lift (fun G z Q k => T_sub [2, 3, 4, 1, 0] rfl k) h
    · have h := h.1 c5
      refine MD_lift (fun G z Q k => T_icmp_ne 52 (dk dt_see 22 rfl) (by decide) (fun _ => k) (fun q => absurd q c5)) ?_
      refine MD_lift (fun G z Q k => T_iload_n 3 (dk dt_see 32 rfl) rfl rfl k) ?_
      refine MD_lift (fun G z Q k => T_istore_n (lv2 := [(3, vi l3), (0, vr 0), (1, vi l1), (2, vi l2), (4, vi l4)]) (dk dt_see 33 rfl) rfl (by decide) rfl k) ?_
      refine MD_lift (fun G z Q k => T_iinc (v := l4 + 1) (lv2 := [(4, vi (l4 + 1)), (3, vi l3), (0, vr 0), (1, vi l1), (2, vi l2)]) 4 (dk dt_see 34 rfl) rfl rfl (by decide) rfl k) ?_
      refine MD_lift (fun G z Q k => T_goto 10 (dk dt_see 35 rfl) (by decide) k) ?_
      exact MD_lift (fun G z Q k => T_sub [2, 3, 4, 1, 0] rfl k) h
