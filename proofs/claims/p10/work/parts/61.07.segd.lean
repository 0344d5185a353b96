set_option maxRecDepth 100000 in
set_option maxHeartbeats 4000000 in
theorem sd_doLate_0 {d : Nat} {S : gS} {x : gd} {P : Option gv → gd → gS → Prop} (l1 : Int32) (l2 : Int32)
    (h : vp_in ((10 * l1) + l2) 60 ∧ S 81 ((10 * l1) + l2 : Int32).toNatClampNeg ∧ vp_in ((10 * l1) + l2) 60 ∧ S 82 ((10 * l1) + l2 : Int32).toNatClampNeg ∧ vp_in (x.1 81 ((10 * l1) + l2 : Int32).toNatClampNeg) 24 ∧ (∀ x6 : gd, x6 = si x 70 (x.1 81 ((10 * l1) + l2 : Int32).toNatClampNeg : Int32).toNatClampNeg (x.1 82 ((10 * l1) + l2 : Int32).toNatClampNeg) → vp_in l1 6 ∧ vp_in l1 6 ∧ (∀ x9 : gd, x9 = si x6 80 (l1 : Int32).toNatClampNeg ((x6.1 80 (l1 : Int32).toNatClampNeg) - 1) → MD d z_doLate 39 [(0, vr 0), (1, vi l1), (3, vi l2)] [] S x9 P))) :
    MD d z_doLate 0 [(0, vr 0), (1, vi l1), (2, vi l2)] [] S x P := by
  refine MD_lift (fun G z Q k => T_aload_n 0 (dk dt_doLate 0 rfl) rfl rfl k) ?_
  refine MD_lift (fun G z Q k => T_getR 0 69 70 (dk dt_doLate 1 rfl) fl_142 mk_0 ml_0 (by decide) rfl rfl k) ?_
  refine MD_lift (fun G z Q k => T_aload_n 0 (dk dt_doLate 2 rfl) rfl rfl k) ?_
  refine MD_lift (fun G z Q k => T_getR 0 80 81 (dk dt_doLate 3 rfl) fl_175 mk_0 ml_0 (by decide) rfl rfl k) ?_
  refine MD_lift (fun G z Q k => T_bipush (v := 10) (dk dt_doLate 4 rfl) (by decide +kernel) k) ?_
  refine MD_lift (fun G z Q k => T_iload_n 1 (dk dt_doLate 5 rfl) rfl rfl k) ?_
  refine MD_lift (fun G z Q k => T_imul (dk dt_doLate 6 rfl) k) ?_
  refine MD_lift (fun G z Q k => T_iload_n 2 (dk dt_doLate 7 rfl) rfl rfl k) ?_
  refine MD_lift (fun G z Q k => T_iadd (dk dt_doLate 8 rfl) k) ?_
  obtain ⟨h1, h⟩ := h
  obtain ⟨h2, h⟩ := h
  refine MD_read (fun z => z.1 81 ((10 * l1) + l2 : Int32).toNatClampNeg) (fun G z Q k => T_iald 81 60 (dk dt_doLate 9 rfl) mk_81 ml_81 h1 k) (fun z e => e 81 _ (Or.inr h2)) ?_
  refine MD_lift (fun G z Q k => T_aload_n 0 (dk dt_doLate 10 rfl) rfl rfl k) ?_
  refine MD_lift (fun G z Q k => T_getR 0 81 82 (dk dt_doLate 11 rfl) fl_178 mk_0 ml_0 (by decide) rfl rfl k) ?_
  refine MD_lift (fun G z Q k => T_bipush (v := 10) (dk dt_doLate 12 rfl) (by decide +kernel) k) ?_
  refine MD_lift (fun G z Q k => T_iload_n 1 (dk dt_doLate 13 rfl) rfl rfl k) ?_
  refine MD_lift (fun G z Q k => T_imul (dk dt_doLate 14 rfl) k) ?_
  refine MD_lift (fun G z Q k => T_iload_n 2 (dk dt_doLate 15 rfl) rfl rfl k) ?_
  refine MD_lift (fun G z Q k => T_iadd (dk dt_doLate 16 rfl) k) ?_
  obtain ⟨h3, h⟩ := h
  obtain ⟨h4, h⟩ := h
  refine MD_read (fun z => z.1 82 ((10 * l1) + l2 : Int32).toNatClampNeg) (fun G z Q k => T_iald 82 60 (dk dt_doLate 17 rfl) mk_82 ml_82 h3 k) (fun z e => e 82 _ (Or.inr h4)) ?_
  obtain ⟨h5, h⟩ := h
  obtain ⟨x6, ex6⟩ : ∃ z, z = si x 70 (x.1 81 ((10 * l1) + l2 : Int32).toNatClampNeg : Int32).toNatClampNeg (x.1 82 ((10 * l1) + l2 : Int32).toNatClampNeg) := ⟨_, rfl⟩
  have h := h x6 ex6
  refine MD_wk 70 ((x.1 81 ((10 * l1) + l2 : Int32).toNatClampNeg : Int32).toNatClampNeg) (x.1 82 ((10 * l1) + l2 : Int32).toNatClampNeg) (fun G z Q k => T_iast 70 24 (dk dt_doLate 18 rfl) mk_70 ml_70 h5 k) (hm_a (by decide) _ _) ?_
  rw [← ex6]
  refine MD_lift (fun G z Q k => T_aload_n 0 (dk dt_doLate 19 rfl) rfl rfl k) ?_
  refine MD_lift (fun G z Q k => T_getR 0 79 80 (dk dt_doLate 20 rfl) fl_172 mk_0 ml_0 (by decide) rfl rfl k) ?_
  refine MD_lift (fun G z Q k => T_iload_n 1 (dk dt_doLate 21 rfl) rfl rfl k) ?_
  refine MD_lift (fun G z Q k => T_dup2 (dk dt_doLate 22 rfl) rfl rfl k) ?_
  obtain ⟨h7, h⟩ := h
  refine MD_read (fun z => z.1 80 (l1 : Int32).toNatClampNeg) (fun G z Q k => T_iald 80 6 (dk dt_doLate 23 rfl) mk_80 ml_80 h7 k) (fun z e => e 80 _ (Or.inl (core_a (by decide) h7))) ?_
  refine MD_lift (fun G z Q k => T_iconst (v := 1) (dk dt_doLate 24 rfl) (by decide +kernel) k) ?_
  refine MD_lift (fun G z Q k => T_isub (dk dt_doLate 25 rfl) k) ?_
  obtain ⟨h8, h⟩ := h
  obtain ⟨x9, ex9⟩ : ∃ z, z = si x6 80 (l1 : Int32).toNatClampNeg ((x6.1 80 (l1 : Int32).toNatClampNeg) - 1) := ⟨_, rfl⟩
  have h := h x9 ex9
  refine MD_wk 80 ((l1 : Int32).toNatClampNeg) ((x6.1 80 (l1 : Int32).toNatClampNeg) - 1) (fun G z Q k => T_iast 80 6 (dk dt_doLate 26 rfl) mk_80 ml_80 h8 k) (hm_a (by decide) _ _) ?_
  rw [← ex9]
  refine MD_lift (fun G z Q k => T_iload_n 2 (dk dt_doLate 27 rfl) rfl rfl k) ?_
  refine MD_lift (fun G z Q k => T_istore_n (lv2 := [(3, vi l2), (0, vr 0), (1, vi l1), (2, vi l2)]) (dk dt_doLate 28 rfl) rfl (by decide) rfl k) ?_
  exact MD_lift (fun G z Q k => T_sub [1, 2, 0] rfl k) h
set_option maxRecDepth 100000 in
set_option maxHeartbeats 4000000 in
theorem sd_doLate_39 {d : Nat} {S : gS} {x : gd} {P : Option gv → gd → gS → Prop} (l1 : Int32) (l3 : Int32)
    (h : vp_in l1 6 ∧ (((x.1 80 (l1 : Int32).toNatClampNeg) ≤ l3 → P none x S) ∧ (¬ ((x.1 80 (l1 : Int32).toNatClampNeg) ≤ l3) → vp_in (((10 * l1) + l3) + 1) 60 ∧ S 81 (((10 * l1) + l3) + 1 : Int32).toNatClampNeg ∧ vp_in ((10 * l1) + l3) 60 ∧ (∀ x6 : gd, x6 = si x 81 ((10 * l1) + l3 : Int32).toNatClampNeg (x.1 81 (((10 * l1) + l3) + 1 : Int32).toNatClampNeg) → vp_in (((10 * l1) + l3) + 1) 60 ∧ (sadd S 81 (((10 * l1) + l3 : Int32).toNatClampNeg)) 82 (((10 * l1) + l3) + 1 : Int32).toNatClampNeg ∧ vp_in ((10 * l1) + l3) 60 ∧ (∀ x10 : gd, x10 = si x6 82 ((10 * l1) + l3 : Int32).toNatClampNeg (x6.1 82 (((10 * l1) + l3) + 1 : Int32).toNatClampNeg) → MD d z_doLate 39 [(0, vr 0), (1, vi l1), (3, vi (l3 + 1))] [] (sadd (sadd S 81 (((10 * l1) + l3 : Int32).toNatClampNeg)) 82 (((10 * l1) + l3 : Int32).toNatClampNeg)) x10 P))))) :
    MD d z_doLate 39 [(0, vr 0), (1, vi l1), (3, vi l3)] [] S x P := by
  refine MD_lift (fun G z Q k => T_iload_n 2 (dk dt_doLate 29 rfl) rfl rfl k) ?_
  refine MD_lift (fun G z Q k => T_aload_n 0 (dk dt_doLate 30 rfl) rfl rfl k) ?_
  refine MD_lift (fun G z Q k => T_getR 0 79 80 (dk dt_doLate 31 rfl) fl_172 mk_0 ml_0 (by decide) rfl rfl k) ?_
  refine MD_lift (fun G z Q k => T_iload_n 1 (dk dt_doLate 32 rfl) rfl rfl k) ?_
  obtain ⟨h1, h⟩ := h
  refine MD_read (fun z => z.1 80 (l1 : Int32).toNatClampNeg) (fun G z Q k => T_iald 80 6 (dk dt_doLate 33 rfl) mk_80 ml_80 h1 k) (fun z e => e 80 _ (Or.inl (core_a (by decide) h1))) ?_
  by_cases c2 : (x.1 80 (l1 : Int32).toNatClampNeg) ≤ l3
  · have h := h.1 c2
    refine MD_lift (fun G z Q k => T_icmp_ge 103 (dk dt_doLate 34 rfl) (by decide) (fun _ => k) (fun q => absurd c2 q)) ?_
    exact MD_ret (fun G z Q k => MT_vret (dk dt_doLate 73 rfl) rfl k) h
  · have h := h.2 c2
    refine MD_lift (fun G z Q k => T_icmp_ge 103 (dk dt_doLate 34 rfl) (by decide) (fun q => absurd q c2) (fun _ => k)) ?_
    refine MD_lift (fun G z Q k => T_aload_n 0 (dk dt_doLate 35 rfl) rfl rfl k) ?_
    refine MD_lift (fun G z Q k => T_getR 0 80 81 (dk dt_doLate 36 rfl) fl_175 mk_0 ml_0 (by decide) rfl rfl k) ?_
    refine MD_lift (fun G z Q k => T_bipush (v := 10) (dk dt_doLate 37 rfl) (by decide +kernel) k) ?_
    refine MD_lift (fun G z Q k => T_iload_n 1 (dk dt_doLate 38 rfl) rfl rfl k) ?_
    refine MD_lift (fun G z Q k => T_imul (dk dt_doLate 39 rfl) k) ?_
    refine MD_lift (fun G z Q k => T_iload_n 2 (dk dt_doLate 40 rfl) rfl rfl k) ?_
    refine MD_lift (fun G z Q k => T_iadd (dk dt_doLate 41 rfl) k) ?_
    refine MD_lift (fun G z Q k => T_aload_n 0 (dk dt_doLate 42 rfl) rfl rfl k) ?_
    refine MD_lift (fun G z Q k => T_getR 0 80 81 (dk dt_doLate 43 rfl) fl_175 mk_0 ml_0 (by decide) rfl rfl k) ?_
    refine MD_lift (fun G z Q k => T_bipush (v := 10) (dk dt_doLate 44 rfl) (by decide +kernel) k) ?_
    refine MD_lift (fun G z Q k => T_iload_n 1 (dk dt_doLate 45 rfl) rfl rfl k) ?_
    refine MD_lift (fun G z Q k => T_imul (dk dt_doLate 46 rfl) k) ?_
    refine MD_lift (fun G z Q k => T_iload_n 2 (dk dt_doLate 47 rfl) rfl rfl k) ?_
    refine MD_lift (fun G z Q k => T_iadd (dk dt_doLate 48 rfl) k) ?_
    refine MD_lift (fun G z Q k => T_iconst (v := 1) (dk dt_doLate 49 rfl) (by decide +kernel) k) ?_
    refine MD_lift (fun G z Q k => T_iadd (dk dt_doLate 50 rfl) k) ?_
    obtain ⟨h3, h⟩ := h
    obtain ⟨h4, h⟩ := h
    refine MD_read (fun z => z.1 81 (((10 * l1) + l3) + 1 : Int32).toNatClampNeg) (fun G z Q k => T_iald 81 60 (dk dt_doLate 51 rfl) mk_81 ml_81 h3 k) (fun z e => e 81 _ (Or.inr h4)) ?_
    obtain ⟨h5, h⟩ := h
    obtain ⟨x6, ex6⟩ : ∃ z, z = si x 81 ((10 * l1) + l3 : Int32).toNatClampNeg (x.1 81 (((10 * l1) + l3) + 1 : Int32).toNatClampNeg) := ⟨_, rfl⟩
    have h := h x6 ex6
    refine MD_wr 81 (((10 * l1) + l3 : Int32).toNatClampNeg) (x.1 81 (((10 * l1) + l3) + 1 : Int32).toNatClampNeg) (fun G z Q k => T_iast 81 60 (dk dt_doLate 52 rfl) mk_81 ml_81 h5 k) (hm_a (by decide) _ _) ?_
    rw [← ex6]
    refine MD_lift (fun G z Q k => T_aload_n 0 (dk dt_doLate 53 rfl) rfl rfl k) ?_
    refine MD_lift (fun G z Q k => T_getR 0 81 82 (dk dt_doLate 54 rfl) fl_178 mk_0 ml_0 (by decide) rfl rfl k) ?_
    refine MD_lift (fun G z Q k => T_bipush (v := 10) (dk dt_doLate 55 rfl) (by decide +kernel) k) ?_
    refine MD_lift (fun G z Q k => T_iload_n 1 (dk dt_doLate 56 rfl) rfl rfl k) ?_
    refine MD_lift (fun G z Q k => T_imul (dk dt_doLate 57 rfl) k) ?_
    refine MD_lift (fun G z Q k => T_iload_n 2 (dk dt_doLate 58 rfl) rfl rfl k) ?_
    refine MD_lift (fun G z Q k => T_iadd (dk dt_doLate 59 rfl) k) ?_
    refine MD_lift (fun G z Q k => T_aload_n 0 (dk dt_doLate 60 rfl) rfl rfl k) ?_
    refine MD_lift (fun G z Q k => T_getR 0 81 82 (dk dt_doLate 61 rfl) fl_178 mk_0 ml_0 (by decide) rfl rfl k) ?_
    refine MD_lift (fun G z Q k => T_bipush (v := 10) (dk dt_doLate 62 rfl) (by decide +kernel) k) ?_
    refine MD_lift (fun G z Q k => T_iload_n 1 (dk dt_doLate 63 rfl) rfl rfl k) ?_
    refine MD_lift (fun G z Q k => T_imul (dk dt_doLate 64 rfl) k) ?_
    refine MD_lift (fun G z Q k => T_iload_n 2 (dk dt_doLate 65 rfl) rfl rfl k) ?_
    refine MD_lift (fun G z Q k => T_iadd (dk dt_doLate 66 rfl) k) ?_
    refine MD_lift (fun G z Q k => T_iconst (v := 1) (dk dt_doLate 67 rfl) (by decide +kernel) k) ?_
    refine MD_lift (fun G z Q k => T_iadd (dk dt_doLate 68 rfl) k) ?_
    obtain ⟨h7, h⟩ := h
    obtain ⟨h8, h⟩ := h
    refine MD_read (fun z => z.1 82 (((10 * l1) + l3) + 1 : Int32).toNatClampNeg) (fun G z Q k => T_iald 82 60 (dk dt_doLate 69 rfl) mk_82 ml_82 h7 k) (fun z e => e 82 _ (Or.inr h8)) ?_
    obtain ⟨h9, h⟩ := h
    obtain ⟨x10, ex10⟩ : ∃ z, z = si x6 82 ((10 * l1) + l3 : Int32).toNatClampNeg (x6.1 82 (((10 * l1) + l3) + 1 : Int32).toNatClampNeg) := ⟨_, rfl⟩
    have h := h x10 ex10
    refine MD_wr 82 (((10 * l1) + l3 : Int32).toNatClampNeg) (x6.1 82 (((10 * l1) + l3) + 1 : Int32).toNatClampNeg) (fun G z Q k => T_iast 82 60 (dk dt_doLate 70 rfl) mk_82 ml_82 h9 k) (hm_a (by decide) _ _) ?_
    rw [← ex10]
    refine MD_lift (fun G z Q k => T_iinc (v := l3 + 1) (lv2 := [(3, vi (l3 + 1)), (0, vr 0), (1, vi l1)]) 2 (dk dt_doLate 71 rfl) rfl rfl (by decide) rfl k) ?_
    refine MD_lift (fun G z Q k => T_goto 39 (dk dt_doLate 72 rfl) (by decide) k) ?_
    exact MD_lift (fun G z Q k => T_sub [1, 2, 0] rfl k) h
set_option maxRecDepth 100000 in
set_option maxHeartbeats 4000000 in
theorem sd_setFirst_0 {d : Nat} {S : gS} {x : gd} {P : Option gv → gd → gS → Prop} 
    (h : MD (d + 1) z_setFirst 2 [(0, vr 0), (1, vi 0)] [] S x P) :
    MD (d + 1) z_setFirst 0 [(0, vr 0)] [] S x P := by
  refine MD_lift (fun G z Q k => T_iconst (v := 0) (dk dt_setFirst 0 rfl) (by decide +kernel) k) ?_
  refine MD_lift (fun G z Q k => T_istore_n (lv2 := [(1, vi 0), (0, vr 0)]) (dk dt_setFirst 1 rfl) rfl (by decide) rfl k) ?_
  exact MD_lift (fun G z Q k => T_sub [1, 0] rfl k) h
set_option maxRecDepth 100000 in
set_option maxHeartbeats 4000000 in
theorem sd_setFirst_2 {d : Nat} {S : gS} {x : gd} {P : Option gv → gd → gS → Prop} (l1 : Int32)
    (h : (((24 : Int32) ≤ l1 → MD (d + 1) z_setFirst 40 [(0, vr 0), (1, vi 0)] [] S x P) ∧ (¬ ((24 : Int32) ≤ l1) → (((x.1 0 23) ≤ l1 → vp_in l1 24 ∧ (∀ x4 : gd, x4 = si x 70 (l1 : Int32).toNatClampNeg 0 → MD (d + 1) z_setFirst 2 [(0, vr 0), (1, vi (l1 + 1))] [] S x4 P)) ∧ (¬ ((x.1 0 23) ≤ l1) → vp_in l1 24 ∧ vp_in l1 24 ∧ (∀ x7 : gd, x7 = si x 70 (l1 : Int32).toNatClampNeg (x.1 36 (l1 : Int32).toNatClampNeg) → MD (d + 1) z_setFirst 2 [(0, vr 0), (1, vi (l1 + 1))] [] S x7 P)))))) :
    MD (d + 1) z_setFirst 2 [(0, vr 0), (1, vi l1)] [] S x P := by
  refine MD_lift (fun G z Q k => T_iload_n 1 (dk dt_setFirst 2 rfl) rfl rfl k) ?_
  refine MD_lift (fun G z Q k => T_bipush (v := 24) (dk dt_setFirst 3 rfl) (by decide +kernel) k) ?_
  by_cases c1 : (24 : Int32) ≤ l1
  · have h := h.1 c1
    refine MD_lift (fun G z Q k => T_icmp_ge 38 (dk dt_setFirst 4 rfl) (by decide) (fun _ => k) (fun q => absurd c1 q)) ?_
    refine MD_lift (fun G z Q k => T_iconst (v := 0) (dk dt_setFirst 21 rfl) (by decide +kernel) k) ?_
    refine MD_lift (fun G z Q k => T_istore_n (lv2 := [(1, vi 0), (0, vr 0)]) (dk dt_setFirst 22 rfl) rfl (by decide) rfl k) ?_
    exact MD_lift (fun G z Q k => T_sub [1, 0] rfl k) h
  · have h := h.2 c1
    refine MD_lift (fun G z Q k => T_icmp_ge 38 (dk dt_setFirst 4 rfl) (by decide) (fun q => absurd q c1) (fun _ => k)) ?_
    refine MD_lift (fun G z Q k => T_aload_n 0 (dk dt_setFirst 5 rfl) rfl rfl k) ?_
    refine MD_lift (fun G z Q k => T_getR 0 69 70 (dk dt_setFirst 6 rfl) fl_142 mk_0 ml_0 (by decide) rfl rfl k) ?_
    refine MD_lift (fun G z Q k => T_iload_n 1 (dk dt_setFirst 7 rfl) rfl rfl k) ?_
    refine MD_lift (fun G z Q k => T_iload_n 1 (dk dt_setFirst 8 rfl) rfl rfl k) ?_
    refine MD_lift (fun G z Q k => T_aload_n 0 (dk dt_setFirst 9 rfl) rfl rfl k) ?_
    refine MD_read (fun z => z.1 0 23) (fun G z Q k => T_getI 0 23 (dk dt_setFirst 10 rfl) fl_448 mk_0 ml_0 (by decide) rfl k) (fun z e => e 0 23 (Or.inl (core_f (by decide)))) ?_
    by_cases c2 : (x.1 0 23) ≤ l1
    · have h := h.1 c2
      refine MD_lift (fun G z Q k => T_icmp_ge 30 (dk dt_setFirst 11 rfl) (by decide) (fun _ => k) (fun q => absurd c2 q)) ?_
      refine MD_lift (fun G z Q k => T_iconst (v := 0) (dk dt_setFirst 17 rfl) (by decide +kernel) k) ?_
      obtain ⟨h3, h⟩ := h
      obtain ⟨x4, ex4⟩ : ∃ z, z = si x 70 (l1 : Int32).toNatClampNeg 0 := ⟨_, rfl⟩
      have h := h x4 ex4
      refine MD_wk 70 ((l1 : Int32).toNatClampNeg) 0 (fun G z Q k => T_iast 70 24 (dk dt_setFirst 18 rfl) mk_70 ml_70 h3 k) (hm_a (by decide) _ _) ?_
      rw [← ex4]
      refine MD_lift (fun G z Q k => T_iinc (v := l1 + 1) (lv2 := [(1, vi (l1 + 1)), (0, vr 0)]) 1 (dk dt_setFirst 19 rfl) rfl rfl (by decide) rfl k) ?_
      refine MD_lift (fun G z Q k => T_goto 2 (dk dt_setFirst 20 rfl) (by decide) k) ?_
      exact MD_lift (fun G z Q k => T_sub [1, 0] rfl k) h
    · have h := h.2 c2
      refine MD_lift (fun G z Q k => T_icmp_ge 30 (dk dt_setFirst 11 rfl) (by decide) (fun q => absurd q c2) (fun _ => k)) ?_
      refine MD_lift (fun G z Q k => T_aload_n 0 (dk dt_setFirst 12 rfl) rfl rfl k) ?_
      refine MD_lift (fun G z Q k => T_getR 0 35 36 (dk dt_setFirst 13 rfl) fl_70 mk_0 ml_0 (by decide) rfl rfl k) ?_
      refine MD_lift (fun G z Q k => T_iload_n 1 (dk dt_setFirst 14 rfl) rfl rfl k) ?_
      obtain ⟨h5, h⟩ := h
      refine MD_read (fun z => z.1 36 (l1 : Int32).toNatClampNeg) (fun G z Q k => T_iald 36 24 (dk dt_setFirst 15 rfl) mk_36 ml_36 h5 k) (fun z e => e 36 _ (Or.inl (core_a (by decide) h5))) ?_
      refine MD_lift (fun G z Q k => T_goto 31 (dk dt_setFirst 16 rfl) (by decide) k) ?_
      obtain ⟨h6, h⟩ := h
      obtain ⟨x7, ex7⟩ : ∃ z, z = si x 70 (l1 : Int32).toNatClampNeg (x.1 36 (l1 : Int32).toNatClampNeg) := ⟨_, rfl⟩
      have h := h x7 ex7
      refine MD_wk 70 ((l1 : Int32).toNatClampNeg) (x.1 36 (l1 : Int32).toNatClampNeg) (fun G z Q k => T_iast 70 24 (dk dt_setFirst 18 rfl) mk_70 ml_70 h6 k) (hm_a (by decide) _ _) ?_
      rw [← ex7]
      refine MD_lift (fun G z Q k => T_iinc (v := l1 + 1) (lv2 := [(1, vi (l1 + 1)), (0, vr 0)]) 1 (dk dt_setFirst 19 rfl) rfl rfl (by decide) rfl k) ?_
      refine MD_lift (fun G z Q k => T_goto 2 (dk dt_setFirst 20 rfl) (by decide) k) ?_
      exact MD_lift (fun G z Q k => T_sub [1, 0] rfl k) h
set_option maxRecDepth 100000 in
set_option maxHeartbeats 4000000 in
theorem sd_setFirst_40 {d : Nat} {S : gS} {x : gd} {P : Option gv → gd → gS → Prop} (l1 : Int32)
    (h : (((6 : Int32) ≤ l1 → MD (d + 1) z_setFirst 68 [(0, vr 0), (1, vi 0)] [] S x P) ∧ (¬ ((6 : Int32) ≤ l1) → vp_in l1 6 ∧ (∀ x3 : gd, x3 = si x 71 (l1 : Int32).toNatClampNeg (-1) → vp_in l1 6 ∧ (∀ x5 : gd, x5 = si x3 72 (l1 : Int32).toNatClampNeg 0 → MD (d + 1) z_setFirst 40 [(0, vr 0), (1, vi (l1 + 1))] [] S x5 P))))) :
    MD (d + 1) z_setFirst 40 [(0, vr 0), (1, vi l1)] [] S x P := by
  refine MD_lift (fun G z Q k => T_iload_n 1 (dk dt_setFirst 23 rfl) rfl rfl k) ?_
  refine MD_lift (fun G z Q k => T_bipush (v := 6) (dk dt_setFirst 24 rfl) (by decide +kernel) k) ?_
  by_cases c1 : (6 : Int32) ≤ l1
  · have h := h.1 c1
    refine MD_lift (fun G z Q k => T_icmp_ge 66 (dk dt_setFirst 25 rfl) (by decide) (fun _ => k) (fun q => absurd c1 q)) ?_
    refine MD_lift (fun G z Q k => T_iconst (v := 0) (dk dt_setFirst 38 rfl) (by decide +kernel) k) ?_
    refine MD_lift (fun G z Q k => T_istore_n (lv2 := [(1, vi 0), (0, vr 0)]) (dk dt_setFirst 39 rfl) rfl (by decide) rfl k) ?_
    exact MD_lift (fun G z Q k => T_sub [1, 0] rfl k) h
  · have h := h.2 c1
    refine MD_lift (fun G z Q k => T_icmp_ge 66 (dk dt_setFirst 25 rfl) (by decide) (fun q => absurd q c1) (fun _ => k)) ?_
    refine MD_lift (fun G z Q k => T_aload_n 0 (dk dt_setFirst 26 rfl) rfl rfl k) ?_
    refine MD_lift (fun G z Q k => T_getR 0 70 71 (dk dt_setFirst 27 rfl) fl_145 mk_0 ml_0 (by decide) rfl rfl k) ?_
    refine MD_lift (fun G z Q k => T_iload_n 1 (dk dt_setFirst 28 rfl) rfl rfl k) ?_
    refine MD_lift (fun G z Q k => T_iconst (v := (-1)) (dk dt_setFirst 29 rfl) (by decide +kernel) k) ?_
    obtain ⟨h2, h⟩ := h
    obtain ⟨x3, ex3⟩ : ∃ z, z = si x 71 (l1 : Int32).toNatClampNeg (-1) := ⟨_, rfl⟩
    have h := h x3 ex3
    refine MD_wk 71 ((l1 : Int32).toNatClampNeg) (-1) (fun G z Q k => T_iast 71 6 (dk dt_setFirst 30 rfl) mk_71 ml_71 h2 k) (hm_a (by decide) _ _) ?_
    rw [← ex3]
    refine MD_lift (fun G z Q k => T_aload_n 0 (dk dt_setFirst 31 rfl) rfl rfl k) ?_
    refine MD_lift (fun G z Q k => T_getR 0 71 72 (dk dt_setFirst 32 rfl) fl_148 mk_0 ml_0 (by decide) rfl rfl k) ?_
    refine MD_lift (fun G z Q k => T_iload_n 1 (dk dt_setFirst 33 rfl) rfl rfl k) ?_
    refine MD_lift (fun G z Q k => T_iconst (v := 0) (dk dt_setFirst 34 rfl) (by decide +kernel) k) ?_
    obtain ⟨h4, h⟩ := h
    obtain ⟨x5, ex5⟩ : ∃ z, z = si x3 72 (l1 : Int32).toNatClampNeg 0 := ⟨_, rfl⟩
    have h := h x5 ex5
    refine MD_wk 72 ((l1 : Int32).toNatClampNeg) 0 (fun G z Q k => T_iast 72 6 (dk dt_setFirst 35 rfl) mk_72 ml_72 h4 k) (hm_a (by decide) _ _) ?_
    rw [← ex5]
    refine MD_lift (fun G z Q k => T_iinc (v := l1 + 1) (lv2 := [(1, vi (l1 + 1)), (0, vr 0)]) 1 (dk dt_setFirst 36 rfl) rfl rfl (by decide) rfl k) ?_
    refine MD_lift (fun G z Q k => T_goto 40 (dk dt_setFirst 37 rfl) (by decide) k) ?_
    exact MD_lift (fun G z Q k => T_sub [1, 0] rfl k) h
set_option maxRecDepth 100000 in
set_option maxHeartbeats 4000000 in
theorem sd_setFirst_68 {d : Nat} {S : gS} {x : gd} {P : Option gv → gd → gS → Prop} (l1 : Int32)
    (h : (((6 : Int32) ≤ l1 → MD (d + 1) z_setFirst 157 [(0, vr 0), (1, vi 0)] [] S x P) ∧ (¬ ((6 : Int32) ≤ l1) → vp_in l1 6 ∧ (∀ x3 : gd, x3 = si x 73 (l1 : Int32).toNatClampNeg 0 → vp_in l1 6 ∧ (∀ x5 : gd, x5 = si x3 74 (l1 : Int32).toNatClampNeg 0 → vp_in l1 6 ∧ (∀ x7 : gd, x7 = si x5 75 (l1 : Int32).toNatClampNeg 0 → vp_in l1 6 ∧ (∀ x9 : gd, x9 = si x7 77 (l1 : Int32).toNatClampNeg 0 → vp_in l1 6 ∧ (∀ x11 : gd, x11 = si x9 78 (l1 : Int32).toNatClampNeg 0 → vp_in l1 6 ∧ (∀ x13 : gd, x13 = si x11 79 (l1 : Int32).toNatClampNeg (-1) → vp_in l1 6 ∧ (∀ x15 : gd, x15 = si x13 80 (l1 : Int32).toNatClampNeg 0 → MD (d + 1) z_setFirst 125 [(0, vr 0), (1, vi l1), (2, vi 0)] [] S x15 P)))))))))) :
    MD (d + 1) z_setFirst 68 [(0, vr 0), (1, vi l1)] [] S x P := by
  refine MD_lift (fun G z Q k => T_iload_n 1 (dk dt_setFirst 40 rfl) rfl rfl k) ?_
  refine MD_lift (fun G z Q k => T_bipush (v := 6) (dk dt_setFirst 41 rfl) (by decide +kernel) k) ?_
  by_cases c1 : (6 : Int32) ≤ l1
  · have h := h.1 c1
    refine MD_lift (fun G z Q k => T_icmp_ge 155 (dk dt_setFirst 42 rfl) (by decide) (fun _ => k) (fun q => absurd c1 q)) ?_
    refine MD_lift (fun G z Q k => T_iconst (v := 0) (dk dt_setFirst 96 rfl) (by decide +kernel) k) ?_
    refine MD_lift (fun G z Q k => T_istore_n (lv2 := [(1, vi 0), (0, vr 0)]) (dk dt_setFirst 97 rfl) rfl (by decide) rfl k) ?_
    exact MD_lift (fun G z Q k => T_sub [1, 0] rfl k) h
  · have h := h.2 c1
    refine MD_lift (fun G z Q k => T_icmp_ge 155 (dk dt_setFirst 42 rfl) (by decide) (fun q => absurd q c1) (fun _ => k)) ?_
    refine MD_lift (fun G z Q k => T_aload_n 0 (dk dt_setFirst 43 rfl) rfl rfl k) ?_
    refine MD_lift (fun G z Q k => T_getR 0 72 73 (dk dt_setFirst 44 rfl) fl_151 mk_0 ml_0 (by decide) rfl rfl k) ?_
    refine MD_lift (fun G z Q k => T_iload_n 1 (dk dt_setFirst 45 rfl) rfl rfl k) ?_
    refine MD_lift (fun G z Q k => T_iconst (v := 0) (dk dt_setFirst 46 rfl) (by decide +kernel) k) ?_
    obtain ⟨h2, h⟩ := h
    obtain ⟨x3, ex3⟩ : ∃ z, z = si x 73 (l1 : Int32).toNatClampNeg 0 := ⟨_, rfl⟩
    have h := h x3 ex3
    refine MD_wk 73 ((l1 : Int32).toNatClampNeg) 0 (fun G z Q k => T_iast 73 6 (dk dt_setFirst 47 rfl) mk_73 ml_73 h2 k) (hm_a (by decide) _ _) ?_
    rw [← ex3]
    refine MD_lift (fun G z Q k => T_aload_n 0 (dk dt_setFirst 48 rfl) rfl rfl k) ?_
    refine MD_lift (fun G z Q k => T_getR 0 73 74 (dk dt_setFirst 49 rfl) fl_154 mk_0 ml_0 (by decide) rfl rfl k) ?_
    refine MD_lift (fun G z Q k => T_iload_n 1 (dk dt_setFirst 50 rfl) rfl rfl k) ?_
    refine MD_lift (fun G z Q k => T_iconst (v := 0) (dk dt_setFirst 51 rfl) (by decide +kernel) k) ?_
    obtain ⟨h4, h⟩ := h
    obtain ⟨x5, ex5⟩ : ∃ z, z = si x3 74 (l1 : Int32).toNatClampNeg 0 := ⟨_, rfl⟩
    have h := h x5 ex5
    refine MD_wk 74 ((l1 : Int32).toNatClampNeg) 0 (fun G z Q k => T_iast 74 6 (dk dt_setFirst 52 rfl) mk_74 ml_74 h4 k) (hm_a (by decide) _ _) ?_
    rw [← ex5]
    refine MD_lift (fun G z Q k => T_aload_n 0 (dk dt_setFirst 53 rfl) rfl rfl k) ?_
    refine MD_lift (fun G z Q k => T_getR 0 74 75 (dk dt_setFirst 54 rfl) fl_157 mk_0 ml_0 (by decide) rfl rfl k) ?_
    refine MD_lift (fun G z Q k => T_iload_n 1 (dk dt_setFirst 55 rfl) rfl rfl k) ?_
    refine MD_lift (fun G z Q k => T_iconst (v := 0) (dk dt_setFirst 56 rfl) (by decide +kernel) k) ?_
    obtain ⟨h6, h⟩ := h
    obtain ⟨x7, ex7⟩ : ∃ z, z = si x5 75 (l1 : Int32).toNatClampNeg 0 := ⟨_, rfl⟩
    have h := h x7 ex7
    refine MD_wk 75 ((l1 : Int32).toNatClampNeg) 0 (fun G z Q k => T_iast 75 6 (dk dt_setFirst 57 rfl) mk_75 ml_75 h6 k) (hm_a (by decide) _ _) ?_
    rw [← ex7]
    refine MD_lift (fun G z Q k => T_aload_n 0 (dk dt_setFirst 58 rfl) rfl rfl k) ?_
    refine MD_lift (fun G z Q k => T_getR 0 76 77 (dk dt_setFirst 59 rfl) fl_163 mk_0 ml_0 (by decide) rfl rfl k) ?_
    refine MD_lift (fun G z Q k => T_iload_n 1 (dk dt_setFirst 60 rfl) rfl rfl k) ?_
    refine MD_lift (fun G z Q k => T_iconst (v := 0) (dk dt_setFirst 61 rfl) (by decide +kernel) k) ?_
    obtain ⟨h8, h⟩ := h
    obtain ⟨x9, ex9⟩ : ∃ z, z = si x7 77 (l1 : Int32).toNatClampNeg 0 := ⟨_, rfl⟩
    have h := h x9 ex9
    refine MD_wk 77 ((l1 : Int32).toNatClampNeg) 0 (fun G z Q k => T_iast 77 6 (dk dt_setFirst 62 rfl) mk_77 ml_77 h8 k) (hm_a (by decide) _ _) ?_
    rw [← ex9]
    refine MD_lift (fun G z Q k => T_aload_n 0 (dk dt_setFirst 63 rfl) rfl rfl k) ?_
    refine MD_lift (fun G z Q k => T_getR 0 77 78 (dk dt_setFirst 64 rfl) fl_166 mk_0 ml_0 (by decide) rfl rfl k) ?_
    refine MD_lift (fun G z Q k => T_iload_n 1 (dk dt_setFirst 65 rfl) rfl rfl k) ?_
    refine MD_lift (fun G z Q k => T_iconst (v := 0) (dk dt_setFirst 66 rfl) (by decide +kernel) k) ?_
    obtain ⟨h10, h⟩ := h
    obtain ⟨x11, ex11⟩ : ∃ z, z = si x9 78 (l1 : Int32).toNatClampNeg 0 := ⟨_, rfl⟩
    have h := h x11 ex11
    refine MD_wk 78 ((l1 : Int32).toNatClampNeg) 0 (fun G z Q k => T_iast 78 6 (dk dt_setFirst 67 rfl) mk_78 ml_78 h10 k) (hm_a (by decide) _ _) ?_
    rw [← ex11]
    refine MD_lift (fun G z Q k => T_aload_n 0 (dk dt_setFirst 68 rfl) rfl rfl k) ?_
    refine MD_lift (fun G z Q k => T_getR 0 78 79 (dk dt_setFirst 69 rfl) fl_169 mk_0 ml_0 (by decide) rfl rfl k) ?_
    refine MD_lift (fun G z Q k => T_iload_n 1 (dk dt_setFirst 70 rfl) rfl rfl k) ?_
    refine MD_lift (fun G z Q k => T_iconst (v := (-1)) (dk dt_setFirst 71 rfl) (by decide +kernel) k) ?_
    obtain ⟨h12, h⟩ := h
    obtain ⟨x13, ex13⟩ : ∃ z, z = si x11 79 (l1 : Int32).toNatClampNeg (-1) := ⟨_, rfl⟩
    have h := h x13 ex13
    refine MD_wk 79 ((l1 : Int32).toNatClampNeg) (-1) (fun G z Q k => T_iast 79 6 (dk dt_setFirst 72 rfl) mk_79 ml_79 h12 k) (hm_a (by decide) _ _) ?_
    rw [← ex13]
    refine MD_lift (fun G z Q k => T_aload_n 0 (dk dt_setFirst 73 rfl) rfl rfl k) ?_
    refine MD_lift (fun G z Q k => T_getR 0 79 80 (dk dt_setFirst 74 rfl) fl_172 mk_0 ml_0 (by decide) rfl rfl k) ?_
    refine MD_lift (fun G z Q k => T_iload_n 1 (dk dt_setFirst 75 rfl) rfl rfl k) ?_
    refine MD_lift (fun G z Q k => T_iconst (v := 0) (dk dt_setFirst 76 rfl) (by decide +kernel) k) ?_
    obtain ⟨h14, h⟩ := h
    obtain ⟨x15, ex15⟩ : ∃ z, z = si x13 80 (l1 : Int32).toNatClampNeg 0 := ⟨_, rfl⟩
    have h := h x15 ex15
    refine MD_wk 80 ((l1 : Int32).toNatClampNeg) 0 (fun G z Q k => T_iast 80 6 (dk dt_setFirst 77 rfl) mk_80 ml_80 h14 k) (hm_a (by decide) _ _) ?_
    rw [← ex15]
    refine MD_lift (fun G z Q k => T_iconst (v := 0) (dk dt_setFirst 78 rfl) (by decide +kernel) k) ?_
    refine MD_lift (fun G z Q k => T_istore_n (lv2 := [(2, vi 0), (0, vr 0), (1, vi l1)]) (dk dt_setFirst 79 rfl) rfl (by decide) rfl k) ?_
    exact MD_lift (fun G z Q k => T_sub [1, 2, 0] rfl k) h
set_option maxRecDepth 100000 in
set_option maxHeartbeats 4000000 in
theorem sd_setFirst_125 {d : Nat} {S : gS} {x : gd} {P : Option gv → gd → gS → Prop} (l1 : Int32) (l2 : Int32)
    (h : (((8 : Int32) ≤ l2 → MD (d + 1) z_setFirst 68 [(0, vr 0), (1, vi (l1 + 1))] [] S x P) ∧ (¬ ((8 : Int32) ≤ l2) → vp_in ((8 * l1) + l2) 48 ∧ (∀ x3 : gd, x3 = si x 76 ((8 * l1) + l2 : Int32).toNatClampNeg 0 → MD (d + 1) z_setFirst 125 [(0, vr 0), (1, vi l1), (2, vi (l2 + 1))] [] S x3 P)))) :
    MD (d + 1) z_setFirst 125 [(0, vr 0), (1, vi l1), (2, vi l2)] [] S x P := by
  refine MD_lift (fun G z Q k => T_iload_n 2 (dk dt_setFirst 80 rfl) rfl rfl k) ?_
  refine MD_lift (fun G z Q k => T_bipush (v := 8) (dk dt_setFirst 81 rfl) (by decide +kernel) k) ?_
  by_cases c1 : (8 : Int32) ≤ l2
  · have h := h.1 c1
    refine MD_lift (fun G z Q k => T_icmp_ge 149 (dk dt_setFirst 82 rfl) (by decide) (fun _ => k) (fun q => absurd c1 q)) ?_
    refine MD_lift (fun G z Q k => T_iinc (v := l1 + 1) (lv2 := [(1, vi (l1 + 1)), (0, vr 0), (2, vi l2)]) 1 (dk dt_setFirst 94 rfl) rfl rfl (by decide) rfl k) ?_
    refine MD_lift (fun G z Q k => T_goto 68 (dk dt_setFirst 95 rfl) (by decide) k) ?_
    exact MD_lift (fun G z Q k => T_sub [1, 0] rfl k) h
  · have h := h.2 c1
    refine MD_lift (fun G z Q k => T_icmp_ge 149 (dk dt_setFirst 82 rfl) (by decide) (fun q => absurd q c1) (fun _ => k)) ?_
    refine MD_lift (fun G z Q k => T_aload_n 0 (dk dt_setFirst 83 rfl) rfl rfl k) ?_
    refine MD_lift (fun G z Q k => T_getR 0 75 76 (dk dt_setFirst 84 rfl) fl_160 mk_0 ml_0 (by decide) rfl rfl k) ?_
    refine MD_lift (fun G z Q k => T_bipush (v := 8) (dk dt_setFirst 85 rfl) (by decide +kernel) k) ?_
    refine MD_lift (fun G z Q k => T_iload_n 1 (dk dt_setFirst 86 rfl) rfl rfl k) ?_
    refine MD_lift (fun G z Q k => T_imul (dk dt_setFirst 87 rfl) k) ?_
    refine MD_lift (fun G z Q k => T_iload_n 2 (dk dt_setFirst 88 rfl) rfl rfl k) ?_
    refine MD_lift (fun G z Q k => T_iadd (dk dt_setFirst 89 rfl) k) ?_
    refine MD_lift (fun G z Q k => T_iconst (v := 0) (dk dt_setFirst 90 rfl) (by decide +kernel) k) ?_
    obtain ⟨h2, h⟩ := h
    obtain ⟨x3, ex3⟩ : ∃ z, z = si x 76 ((8 * l1) + l2 : Int32).toNatClampNeg 0 := ⟨_, rfl⟩
    have h := h x3 ex3
    refine MD_wk 76 (((8 * l1) + l2 : Int32).toNatClampNeg) 0 (fun G z Q k => T_iast 76 48 (dk dt_setFirst 91 rfl) mk_76 ml_76 h2 k) (hm_a (by decide) _ _) ?_
    rw [← ex3]
    refine MD_lift (fun G z Q k => T_iinc (v := l2 + 1) (lv2 := [(2, vi (l2 + 1)), (0, vr 0), (1, vi l1)]) 2 (dk dt_setFirst 92 rfl) rfl rfl (by decide) rfl k) ?_
    refine MD_lift (fun G z Q k => T_goto 125 (dk dt_setFirst 93 rfl) (by decide) k) ?_
    exact MD_lift (fun G z Q k => T_sub [1, 2, 0] rfl k) h
set_option maxRecDepth 100000 in
set_option maxHeartbeats 4000000 in
theorem sd_setFirst_157 {d : Nat} {S : gS} {x : gd} {P : Option gv → gd → gS → Prop} (l1 : Int32)
    (h : (((x.1 0 25) ≤ l1 → P none x S) ∧ (¬ ((x.1 0 25) ≤ l1) → vp_in l1 6 ∧ ((¬ ((x.1 38 (l1 : Int32).toNatClampNeg) = (0 : Int32)) → MD (d + 1) z_setFirst 157 [(0, vr 0), (1, vi (l1 + 1))] [] S x P) ∧ ((x.1 38 (l1 : Int32).toNatClampNeg) = (0 : Int32) → vp_in l1 6 ∧ (∀ x5 : gd, x5 = si x 73 (l1 : Int32).toNatClampNeg 1 → vp_in l1 6 ∧ vp_in l1 6 ∧ (∀ x8 : gd, x8 = si x5 74 (l1 : Int32).toNatClampNeg (x5.1 64 (l1 : Int32).toNatClampNeg) → MD d z_own 0 [(0, vr 0), (1, vi l1)] [] S x8 (Dv (fun x9 S9 => MD (d + 1) z_setFirst 157 [(0, vr 0), (1, vi (l1 + 1))] [] S9 x9 P))))))))) :
    MD (d + 1) z_setFirst 157 [(0, vr 0), (1, vi l1)] [] S x P := by
  refine MD_lift (fun G z Q k => T_iload_n 1 (dk dt_setFirst 98 rfl) rfl rfl k) ?_
  refine MD_lift (fun G z Q k => T_aload_n 0 (dk dt_setFirst 99 rfl) rfl rfl k) ?_
  refine MD_read (fun z => z.1 0 25) (fun G z Q k => T_getI 0 25 (dk dt_setFirst 100 rfl) fl_461 mk_0 ml_0 (by decide) rfl k) (fun z e => e 0 25 (Or.inl (core_f (by decide)))) ?_
  by_cases c1 : (x.1 0 25) ≤ l1
  · have h := h.1 c1
    refine MD_lift (fun G z Q k => T_icmp_ge 204 (dk dt_setFirst 101 rfl) (by decide) (fun _ => k) (fun q => absurd c1 q)) ?_
    exact MD_ret (fun G z Q k => MT_vret (dk dt_setFirst 125 rfl) rfl k) h
  · have h := h.2 c1
    refine MD_lift (fun G z Q k => T_icmp_ge 204 (dk dt_setFirst 101 rfl) (by decide) (fun q => absurd q c1) (fun _ => k)) ?_
    refine MD_lift (fun G z Q k => T_aload_n 0 (dk dt_setFirst 102 rfl) rfl rfl k) ?_
    refine MD_lift (fun G z Q k => T_getR 0 37 38 (dk dt_setFirst 103 rfl) fl_76 mk_0 ml_0 (by decide) rfl rfl k) ?_
    refine MD_lift (fun G z Q k => T_iload_n 1 (dk dt_setFirst 104 rfl) rfl rfl k) ?_
    obtain ⟨h2, h⟩ := h
    refine MD_read (fun z => z.1 38 (l1 : Int32).toNatClampNeg) (fun G z Q k => T_zald 38 6 (dk dt_setFirst 105 rfl) mk_38 ml_38 h2 k) (fun z e => e 38 _ (Or.inl (core_a (by decide) h2))) ?_
    by_cases c3 : (x.1 38 (l1 : Int32).toNatClampNeg) = (0 : Int32)
    · have h := h.2 c3
      refine MD_lift (fun G z Q k => T_if_ne 198 (dk dt_setFirst 106 rfl) (by decide) (fun q => absurd c3 q) (fun _ => k)) ?_
      refine MD_lift (fun G z Q k => T_aload_n 0 (dk dt_setFirst 107 rfl) rfl rfl k) ?_
      refine MD_lift (fun G z Q k => T_getR 0 72 73 (dk dt_setFirst 108 rfl) fl_151 mk_0 ml_0 (by decide) rfl rfl k) ?_
      refine MD_lift (fun G z Q k => T_iload_n 1 (dk dt_setFirst 109 rfl) rfl rfl k) ?_
      refine MD_lift (fun G z Q k => T_iconst (v := 1) (dk dt_setFirst 110 rfl) (by decide +kernel) k) ?_
      obtain ⟨h4, h⟩ := h
      obtain ⟨x5, ex5⟩ : ∃ z, z = si x 73 (l1 : Int32).toNatClampNeg 1 := ⟨_, rfl⟩
      have h := h x5 ex5
      refine MD_wk 73 ((l1 : Int32).toNatClampNeg) 1 (fun G z Q k => T_iast 73 6 (dk dt_setFirst 111 rfl) mk_73 ml_73 h4 k) (hm_a (by decide) _ _) ?_
      rw [← ex5]
      refine MD_lift (fun G z Q k => T_aload_n 0 (dk dt_setFirst 112 rfl) rfl rfl k) ?_
      refine MD_lift (fun G z Q k => T_getR 0 73 74 (dk dt_setFirst 113 rfl) fl_154 mk_0 ml_0 (by decide) rfl rfl k) ?_
      refine MD_lift (fun G z Q k => T_iload_n 1 (dk dt_setFirst 114 rfl) rfl rfl k) ?_
      refine MD_lift (fun G z Q k => T_aload_n 0 (dk dt_setFirst 115 rfl) rfl rfl k) ?_
      refine MD_lift (fun G z Q k => T_getR 0 63 64 (dk dt_setFirst 116 rfl) fl_133 mk_0 ml_0 (by decide) rfl rfl k) ?_
      refine MD_lift (fun G z Q k => T_iload_n 1 (dk dt_setFirst 117 rfl) rfl rfl k) ?_
      obtain ⟨h6, h⟩ := h
      refine MD_read (fun z => z.1 64 (l1 : Int32).toNatClampNeg) (fun G z Q k => T_iald 64 6 (dk dt_setFirst 118 rfl) mk_64 ml_64 h6 k) (fun z e => e 64 _ (Or.inl (core_a (by decide) h6))) ?_
      obtain ⟨h7, h⟩ := h
      obtain ⟨x8, ex8⟩ : ∃ z, z = si x5 74 (l1 : Int32).toNatClampNeg (x5.1 64 (l1 : Int32).toNatClampNeg) := ⟨_, rfl⟩
      have h := h x8 ex8
      refine MD_wk 74 ((l1 : Int32).toNatClampNeg) (x5.1 64 (l1 : Int32).toNatClampNeg) (fun G z Q k => T_iast 74 6 (dk dt_setFirst 119 rfl) mk_74 ml_74 h7 k) (hm_a (by decide) _ _) ?_
      rw [← ex8]
      refine MD_lift (fun G z Q k => T_aload_n 0 (dk dt_setFirst 120 rfl) rfl rfl k) ?_
      refine MD_lift (fun G z Q k => T_iload_n 1 (dk dt_setFirst 121 rfl) rfl rfl k) ?_
      refine MD_callv (fun G z F Q k kk => MT_callVv [vi l1] [] rfl (dk dt_setFirst 122 rfl) cv_599 rfl rfl (Nat.le_of_ble_eq_true rfl) (Nat.le_of_ble_eq_true rfl) rfl rfl k kk) h (fun x9 S9 h => ?_)
      refine MD_lift (fun G z Q k => T_iinc (v := l1 + 1) (lv2 := [(1, vi (l1 + 1)), (0, vr 0)]) 1 (dk dt_setFirst 123 rfl) rfl rfl (by decide) rfl k) ?_
      refine MD_lift (fun G z Q k => T_goto 157 (dk dt_setFirst 124 rfl) (by decide) k) ?_
      exact MD_lift (fun G z Q k => T_sub [1, 0] rfl k) h
    · have h := h.1 c3
      refine MD_lift (fun G z Q k => T_if_ne 198 (dk dt_setFirst 106 rfl) (by decide) (fun _ => k) (fun q => absurd q c3)) ?_
      refine MD_lift (fun G z Q k => T_iinc (v := l1 + 1) (lv2 := [(1, vi (l1 + 1)), (0, vr 0)]) 1 (dk dt_setFirst 123 rfl) rfl rfl (by decide) rfl k) ?_
      refine MD_lift (fun G z Q k => T_goto 157 (dk dt_setFirst 124 rfl) (by decide) k) ?_
      exact MD_lift (fun G z Q k => T_sub [1, 0] rfl k) h
