set_option maxRecDepth 100000 in
set_option maxHeartbeats 4000000 in
theorem sd_doLate_0 {G : mG} {d : Nat} {S : gS} {x : gd} {P : Option gv → gd → gS → Prop} (l1 : Int32) (l2 : Int32)
    (h : vp_in ((10 * l1) + l2) 60 ∧ S 81 ((10 * l1) + l2 : Int32).toNatClampNeg ∧ vp_in ((10 * l1) + l2) 60 ∧ S 82 ((10 * l1) + l2 : Int32).toNatClampNeg ∧ vp_in (x.1 81 ((10 * l1) + l2 : Int32).toNatClampNeg) 24 ∧ (∀ x6 : gd, x6 = si x 70 (x.1 81 ((10 * l1) + l2 : Int32).toNatClampNeg : Int32).toNatClampNeg (x.1 82 ((10 * l1) + l2 : Int32).toNatClampNeg) → vp_in l1 6 ∧ vp_in l1 6 ∧ (∀ x9 : gd, x9 = si x6 80 (l1 : Int32).toNatClampNeg ((x6.1 80 (l1 : Int32).toNatClampNeg) - 1) → MD G d z_doLate 39 [(0, vr 0), (1, vi l1), (3, vi l2)] [] S x9 P))) :
    MD G d z_doLate 0 [(0, vr 0), (1, vi l1), (2, vi l2)] [] S x P := by
  refine MD_lift (fun z Q k => T_aload_n 0 (dk dt_doLate 0 rfl) rfl rfl k) ?_
  refine MD_lift (fun z Q k => T_getR 0 69 70 (dk dt_doLate 1 rfl) fl_142 mk_0 ml_0 (by decide) rfl rfl k) ?_
  refine MD_lift (fun z Q k => T_aload_n 0 (dk dt_doLate 2 rfl) rfl rfl k) ?_
  refine MD_lift (fun z Q k => T_getR 0 80 81 (dk dt_doLate 3 rfl) fl_175 mk_0 ml_0 (by decide) rfl rfl k) ?_
  refine MD_lift (fun z Q k => T_bipush (v := 10) (dk dt_doLate 4 rfl) (by decide +kernel) k) ?_
  refine MD_lift (fun z Q k => T_iload_n 1 (dk dt_doLate 5 rfl) rfl rfl k) ?_
  refine MD_lift (fun z Q k => T_imul (dk dt_doLate 6 rfl) k) ?_
  refine MD_lift (fun z Q k => T_iload_n 2 (dk dt_doLate 7 rfl) rfl rfl k) ?_
  refine MD_lift (fun z Q k => T_iadd (dk dt_doLate 8 rfl) k) ?_
  obtain ⟨h1, h⟩ := h
  obtain ⟨h2, h⟩ := h
  refine MD_read (fun z => z.1 81 ((10 * l1) + l2 : Int32).toNatClampNeg) (fun z Q k => T_iald 81 60 (dk dt_doLate 9 rfl) mk_81 ml_81 h1 k) (fun z e => e 81 _ (Or.inr h2)) ?_
  refine MD_lift (fun z Q k => T_aload_n 0 (dk dt_doLate 10 rfl) rfl rfl k) ?_
  refine MD_lift (fun z Q k => T_getR 0 81 82 (dk dt_doLate 11 rfl) fl_178 mk_0 ml_0 (by decide) rfl rfl k) ?_
  refine MD_lift (fun z Q k => T_bipush (v := 10) (dk dt_doLate 12 rfl) (by decide +kernel) k) ?_
  refine MD_lift (fun z Q k => T_iload_n 1 (dk dt_doLate 13 rfl) rfl rfl k) ?_
  refine MD_lift (fun z Q k => T_imul (dk dt_doLate 14 rfl) k) ?_
  refine MD_lift (fun z Q k => T_iload_n 2 (dk dt_doLate 15 rfl) rfl rfl k) ?_
  refine MD_lift (fun z Q k => T_iadd (dk dt_doLate 16 rfl) k) ?_
  obtain ⟨h3, h⟩ := h
  obtain ⟨h4, h⟩ := h
  refine MD_read (fun z => z.1 82 ((10 * l1) + l2 : Int32).toNatClampNeg) (fun z Q k => T_iald 82 60 (dk dt_doLate 17 rfl) mk_82 ml_82 h3 k) (fun z e => e 82 _ (Or.inr h4)) ?_
  obtain ⟨h5, h⟩ := h
  obtain ⟨x6, ex6⟩ : ∃ z, z = si x 70 (x.1 81 ((10 * l1) + l2 : Int32).toNatClampNeg : Int32).toNatClampNeg (x.1 82 ((10 * l1) + l2 : Int32).toNatClampNeg) := ⟨_, rfl⟩
  have h := h x6 ex6
  refine MD_wk 70 ((x.1 81 ((10 * l1) + l2 : Int32).toNatClampNeg : Int32).toNatClampNeg) (x.1 82 ((10 * l1) + l2 : Int32).toNatClampNeg) (fun z Q k => T_iast 70 24 (dk dt_doLate 18 rfl) mk_70 ml_70 h5 k) (hm_a (by decide) _ _) ?_
  rw [← ex6]
  refine MD_lift (fun z Q k => T_aload_n 0 (dk dt_doLate 19 rfl) rfl rfl k) ?_
  refine MD_lift (fun z Q k => T_getR 0 79 80 (dk dt_doLate 20 rfl) fl_172 mk_0 ml_0 (by decide) rfl rfl k) ?_
  refine MD_lift (fun z Q k => T_iload_n 1 (dk dt_doLate 21 rfl) rfl rfl k) ?_
  refine MD_lift (fun z Q k => T_dup2 (dk dt_doLate 22 rfl) rfl rfl k) ?_
  obtain ⟨h7, h⟩ := h
  refine MD_read (fun z => z.1 80 (l1 : Int32).toNatClampNeg) (fun z Q k => T_iald 80 6 (dk dt_doLate 23 rfl) mk_80 ml_80 h7 k) (fun z e => e 80 _ (Or.inl (core_a (by decide) h7))) ?_
  refine MD_lift (fun z Q k => T_iconst (v := 1) (dk dt_doLate 24 rfl) (by decide +kernel) k) ?_
  refine MD_lift (fun z Q k => T_isub (dk dt_doLate 25 rfl) k) ?_
  obtain ⟨h8, h⟩ := h
  obtain ⟨x9, ex9⟩ : ∃ z, z = si x6 80 (l1 : Int32).toNatClampNeg ((x6.1 80 (l1 : Int32).toNatClampNeg) - 1) := ⟨_, rfl⟩
  have h := h x9 ex9
  refine MD_wk 80 ((l1 : Int32).toNatClampNeg) ((x6.1 80 (l1 : Int32).toNatClampNeg) - 1) (fun z Q k => T_iast 80 6 (dk dt_doLate 26 rfl) mk_80 ml_80 h8 k) (hm_a (by decide) _ _) ?_
  rw [← ex9]
  refine MD_lift (fun z Q k => T_iload_n 2 (dk dt_doLate 27 rfl) rfl rfl k) ?_
  refine MD_lift (fun z Q k => T_istore_n (lv2 := [(3, vi l2), (0, vr 0), (1, vi l1), (2, vi l2)]) (dk dt_doLate 28 rfl) rfl (by decide) rfl k) ?_
  exact MD_lift (fun z Q k => T_sub [1, 2, 0] rfl k) h
set_option maxRecDepth 100000 in
set_option maxHeartbeats 4000000 in
theorem sd_doLate_39 {G : mG} {d : Nat} {S : gS} {x : gd} {P : Option gv → gd → gS → Prop} (l1 : Int32) (l3 : Int32)
    (h : vp_in l1 6 ∧ (((x.1 80 (l1 : Int32).toNatClampNeg) ≤ l3 → P none x S) ∧ (¬ ((x.1 80 (l1 : Int32).toNatClampNeg) ≤ l3) → vp_in (((10 * l1) + l3) + 1) 60 ∧ S 81 (((10 * l1) + l3) + 1 : Int32).toNatClampNeg ∧ vp_in ((10 * l1) + l3) 60 ∧ (∀ x6 : gd, x6 = si x 81 ((10 * l1) + l3 : Int32).toNatClampNeg (x.1 81 (((10 * l1) + l3) + 1 : Int32).toNatClampNeg) → vp_in (((10 * l1) + l3) + 1) 60 ∧ (sadd S 81 (((10 * l1) + l3 : Int32).toNatClampNeg)) 82 (((10 * l1) + l3) + 1 : Int32).toNatClampNeg ∧ vp_in ((10 * l1) + l3) 60 ∧ (∀ x10 : gd, x10 = si x6 82 ((10 * l1) + l3 : Int32).toNatClampNeg (x6.1 82 (((10 * l1) + l3) + 1 : Int32).toNatClampNeg) → MD G d z_doLate 39 [(0, vr 0), (1, vi l1), (3, vi (l3 + 1))] [] (sadd (sadd S 81 (((10 * l1) + l3 : Int32).toNatClampNeg)) 82 (((10 * l1) + l3 : Int32).toNatClampNeg)) x10 P))))) :
    MD G d z_doLate 39 [(0, vr 0), (1, vi l1), (3, vi l3)] [] S x P := by
  refine MD_lift (fun z Q k => T_iload_n 2 (dk dt_doLate 29 rfl) rfl rfl k) ?_
  refine MD_lift (fun z Q k => T_aload_n 0 (dk dt_doLate 30 rfl) rfl rfl k) ?_
  refine MD_lift (fun z Q k => T_getR 0 79 80 (dk dt_doLate 31 rfl) fl_172 mk_0 ml_0 (by decide) rfl rfl k) ?_
  refine MD_lift (fun z Q k => T_iload_n 1 (dk dt_doLate 32 rfl) rfl rfl k) ?_
  obtain ⟨h1, h⟩ := h
  refine MD_read (fun z => z.1 80 (l1 : Int32).toNatClampNeg) (fun z Q k => T_iald 80 6 (dk dt_doLate 33 rfl) mk_80 ml_80 h1 k) (fun z e => e 80 _ (Or.inl (core_a (by decide) h1))) ?_
  by_cases c2 : (x.1 80 (l1 : Int32).toNatClampNeg) ≤ l3
  · have h := h.1 c2
    refine MD_lift (fun z Q k => T_icmp_ge 103 (dk dt_doLate 34 rfl) (by decide) (fun _ => k) (fun q => absurd c2 q)) ?_
    exact MD_ret (fun z Q k => MT_vret (dk dt_doLate 73 rfl) rfl k) h
  · have h := h.2 c2
    refine MD_lift (fun z Q k => T_icmp_ge 103 (dk dt_doLate 34 rfl) (by decide) (fun q => absurd q c2) (fun _ => k)) ?_
    refine MD_lift (fun z Q k => T_aload_n 0 (dk dt_doLate 35 rfl) rfl rfl k) ?_
    refine MD_lift (fun z Q k => T_getR 0 80 81 (dk dt_doLate 36 rfl) fl_175 mk_0 ml_0 (by decide) rfl rfl k) ?_
    refine MD_lift (fun z Q k => T_bipush (v := 10) (dk dt_doLate 37 rfl) (by decide +kernel) k) ?_
    refine MD_lift (fun z Q k => T_iload_n 1 (dk dt_doLate 38 rfl) rfl rfl k) ?_
    refine MD_lift (fun z Q k => T_imul (dk dt_doLate 39 rfl) k) ?_
    refine MD_lift (fun z Q k => T_iload_n 2 (dk dt_doLate 40 rfl) rfl rfl k) ?_
    refine MD_lift (fun z Q k => T_iadd (dk dt_doLate 41 rfl) k) ?_
    refine MD_lift (fun z Q k => T_aload_n 0 (dk dt_doLate 42 rfl) rfl rfl k) ?_
    refine MD_lift (fun z Q k => T_getR 0 80 81 (dk dt_doLate 43 rfl) fl_175 mk_0 ml_0 (by decide) rfl rfl k) ?_
    refine MD_lift (fun z Q k => T_bipush (v := 10) (dk dt_doLate 44 rfl) (by decide +kernel) k) ?_
    refine MD_lift (fun z Q k => T_iload_n 1 (dk dt_doLate 45 rfl) rfl rfl k) ?_
    refine MD_lift (fun z Q k => T_imul (dk dt_doLate 46 rfl) k) ?_
    refine MD_lift (fun z Q k => T_iload_n 2 (dk dt_doLate 47 rfl) rfl rfl k) ?_
    refine MD_lift (fun z Q k => T_iadd (dk dt_doLate 48 rfl) k) ?_
    refine MD_lift (fun z Q k => T_iconst (v := 1) (dk dt_doLate 49 rfl) (by decide +kernel) k) ?_
    refine MD_lift (fun z Q k => T_iadd (dk dt_doLate 50 rfl) k) ?_
    obtain ⟨h3, h⟩ := h
    obtain ⟨h4, h⟩ := h
    refine MD_read (fun z => z.1 81 (((10 * l1) + l3) + 1 : Int32).toNatClampNeg) (fun z Q k => T_iald 81 60 (dk dt_doLate 51 rfl) mk_81 ml_81 h3 k) (fun z e => e 81 _ (Or.inr h4)) ?_
    obtain ⟨h5, h⟩ := h
    obtain ⟨x6, ex6⟩ : ∃ z, z = si x 81 ((10 * l1) + l3 : Int32).toNatClampNeg (x.1 81 (((10 * l1) + l3) + 1 : Int32).toNatClampNeg) := ⟨_, rfl⟩
    have h := h x6 ex6
    refine MD_wr 81 (((10 * l1) + l3 : Int32).toNatClampNeg) (x.1 81 (((10 * l1) + l3) + 1 : Int32).toNatClampNeg) (fun z Q k => T_iast 81 60 (dk dt_doLate 52 rfl) mk_81 ml_81 h5 k) (hm_a (by decide) _ _) ?_
    rw [← ex6]
    refine MD_lift (fun z Q k => T_aload_n 0 (dk dt_doLate 53 rfl) rfl rfl k) ?_
    refine MD_lift (fun z Q k => T_getR 0 81 82 (dk dt_doLate 54 rfl) fl_178 mk_0 ml_0 (by decide) rfl rfl k) ?_
    refine MD_lift (fun z Q k => T_bipush (v := 10) (dk dt_doLate 55 rfl) (by decide +kernel) k) ?_
    refine MD_lift (fun z Q k => T_iload_n 1 (dk dt_doLate 56 rfl) rfl rfl k) ?_
    refine MD_lift (fun z Q k => T_imul (dk dt_doLate 57 rfl) k) ?_
    refine MD_lift (fun z Q k => T_iload_n 2 (dk dt_doLate 58 rfl) rfl rfl k) ?_
    refine MD_lift (fun z Q k => T_iadd (dk dt_doLate 59 rfl) k) ?_
    refine MD_lift (fun z Q k => T_aload_n 0 (dk dt_doLate 60 rfl) rfl rfl k) ?_
    refine MD_lift (fun z Q k => T_getR 0 81 82 (dk dt_doLate 61 rfl) fl_178 mk_0 ml_0 (by decide) rfl rfl k) ?_
    refine MD_lift (fun z Q k => T_bipush (v := 10) (dk dt_doLate 62 rfl) (by decide +kernel) k) ?_
    refine MD_lift (fun z Q k => T_iload_n 1 (dk dt_doLate 63 rfl) rfl rfl k) ?_
    refine MD_lift (fun z Q k => T_imul (dk dt_doLate 64 rfl) k) ?_
    refine MD_lift (fun z Q k => T_iload_n 2 (dk dt_doLate 65 rfl) rfl rfl k) ?_
    refine MD_lift (fun z Q k => T_iadd (dk dt_doLate 66 rfl) k) ?_
    refine MD_lift (fun z Q k => T_iconst (v := 1) (dk dt_doLate 67 rfl) (by decide +kernel) k) ?_
    refine MD_lift (fun z Q k => T_iadd (dk dt_doLate 68 rfl) k) ?_
    obtain ⟨h7, h⟩ := h
    obtain ⟨h8, h⟩ := h
    refine MD_read (fun z => z.1 82 (((10 * l1) + l3) + 1 : Int32).toNatClampNeg) (fun z Q k => T_iald 82 60 (dk dt_doLate 69 rfl) mk_82 ml_82 h7 k) (fun z e => e 82 _ (Or.inr h8)) ?_
    obtain ⟨h9, h⟩ := h
    obtain ⟨x10, ex10⟩ : ∃ z, z = si x6 82 ((10 * l1) + l3 : Int32).toNatClampNeg (x6.1 82 (((10 * l1) + l3) + 1 : Int32).toNatClampNeg) := ⟨_, rfl⟩
    have h := h x10 ex10
    refine MD_wr 82 (((10 * l1) + l3 : Int32).toNatClampNeg) (x6.1 82 (((10 * l1) + l3) + 1 : Int32).toNatClampNeg) (fun z Q k => T_iast 82 60 (dk dt_doLate 70 rfl) mk_82 ml_82 h9 k) (hm_a (by decide) _ _) ?_
    rw [← ex10]
    refine MD_lift (fun z Q k => T_iinc (v := l3 + 1) (lv2 := [(3, vi (l3 + 1)), (0, vr 0), (1, vi l1)]) 2 (dk dt_doLate 71 rfl) rfl rfl (by decide) rfl k) ?_
    refine MD_lift (fun z Q k => T_goto 39 (dk dt_doLate 72 rfl) (by decide) k) ?_
    exact MD_lift (fun z Q k => T_sub [1, 2, 0] rfl k) h
