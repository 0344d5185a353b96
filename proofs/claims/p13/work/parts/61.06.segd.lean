section
set_option maxRecDepth 100000 in
set_option maxHeartbeats 4000000 in
theorem sd_doAct_0 {d : Nat} {S : gS} {x : gd} {P : Option gv → gd → gS → Prop} (l1 : Int32) (l2 : Int32)
    (h : vp_in l1 6 ∧ MD d z_sortOf 0 [(0, vr 0), (1, vi l1)] [] S x (Di (fun r3 x2 S2 => MD d z_lookAt 0 [(0, vr 0), (1, vi l1)] [] S2 x2 (Dv (fun x4 S4 => (∀ x5 : gd, x5 = si x4 0 92 0 → (∀ x6 : gd, x6 = si x5 0 93 0 → (sadd (sadd S4 0 92) 0 93) 0 89 ∧ (((x6.1 0 89) ≤ (0 : Int32) → (sadd (sadd S4 0 92) 0 93) 0 88 ∧ (((r3 = 0) → MD d z_see 0 [(0, vr 0), (1, vi l1), (2, vi (x6.1 0 88))] [] (sadd (sadd S4 0 92) 0 93) x6 (Di (fun r12 x11 S11 => (∀ x13 : gd, x13 = si x11 0 92 r12 → MD (d + 1) z_doAct 667 [(0, vr 0), (1, vi l1), (3, vi (x.1 74 (l1 : Int32).toNatClampNeg)), (4, vi r3), (5, vi (x6.1 0 88)), (6, vi r12)] [] (sadd S11 0 92) x13 P)))) ∧ ((r3 = 1) → (sadd (sadd S4 0 92) 0 93) 0 90 ∧ (∀ x16 : gd, x16 = si x6 0 93 (x6.1 0 90) → (((x16.1 0 68) = (0 : Int32) → (sadd (sadd (sadd S4 0 92) 0 93) 0 93) 0 90 ∧ vp_in (x6.1 0 88) 24 ∧ (∀ x20 : gd, x20 = si x16 70 (x6.1 0 88 : Int32).toNatClampNeg (x16.1 0 90) → MD (d + 1) z_doAct 667 [(0, vr 0), (1, vi l1), (3, vi (x.1 74 (l1 : Int32).toNatClampNeg)), (4, vi r3), (5, vi (x6.1 0 88)), (6, vi 0)] [] (sadd (sadd (sadd S4 0 92) 0 93) 0 93) x20 P)) ∧ (¬ ((x16.1 0 68) = (0 : Int32)) → vp_in (x6.1 0 88) 24 ∧ (((x16.1 37 (x6.1 0 88 : Int32).toNatClampNeg) = (0 : Int32) → vp_in l1 6 ∧ vp_in ((10 * l1) + (x16.1 80 (l1 : Int32).toNatClampNeg)) 60 ∧ (∀ x25 : gd, x25 = si x16 81 ((10 * l1) + (x16.1 80 (l1 : Int32).toNatClampNeg) : Int32).toNatClampNeg (x6.1 0 88) → vp_in l1 6 ∧ (sadd (sadd (sadd (sadd S4 0 92) 0 93) 0 93) 81 (((10 * l1) + (x16.1 80 (l1 : Int32).toNatClampNeg) : Int32).toNatClampNeg)) 0 90 ∧ vp_in ((10 * l1) + (x25.1 80 (l1 : Int32).toNatClampNeg)) 60 ∧ (∀ x29 : gd, x29 = si x25 82 ((10 * l1) + (x25.1 80 (l1 : Int32).toNatClampNeg) : Int32).toNatClampNeg (x25.1 0 90) → vp_in l1 6 ∧ vp_in l1 6 ∧ (∀ x32 : gd, x32 = si x29 80 (l1 : Int32).toNatClampNeg ((x29.1 80 (l1 : Int32).toNatClampNeg) + 1) → MD (d + 1) z_doAct 667 [(0, vr 0), (1, vi l1), (3, vi (x.1 74 (l1 : Int32).toNatClampNeg)), (4, vi r3), (5, vi (x6.1 0 88)), (6, vi 0)] [] (sadd (sadd (sadd (sadd (sadd S4 0 92) 0 93) 0 93) 81 (((10 * l1) + (x16.1 80 (l1 : Int32).toNatClampNeg) : Int32).toNatClampNeg)) 82 (((10 * l1) + (x25.1 80 (l1 : Int32).toNatClampNeg) : Int32).toNatClampNeg)) x32 P)))) ∧ (¬ ((x16.1 37 (x6.1 0 88 : Int32).toNatClampNeg) = (0 : Int32)) → (sadd (sadd (sadd S4 0 92) 0 93) 0 93) 0 90 ∧ vp_in (x6.1 0 88) 24 ∧ (∀ x35 : gd, x35 = si x16 70 (x6.1 0 88 : Int32).toNatClampNeg (x16.1 0 90) → MD (d + 1) z_doAct 667 [(0, vr 0), (1, vi l1), (3, vi (x.1 74 (l1 : Int32).toNatClampNeg)), (4, vi r3), (5, vi (x6.1 0 88)), (6, vi 0)] [] (sadd (sadd (sadd S4 0 92) 0 93) 0 93) x35 P))))))) ∧ ((r3 = 2 ∨ r3 = 3 ∨ r3 = 4) → vp_in (x6.1 0 88) 24 ∧ (∀ x38 : gd, x38 = si x6 0 92 (x6.1 70 (x6.1 0 88 : Int32).toNatClampNeg) → vp_in (x6.1 0 88) 24 ∧ (sadd (sadd (sadd S4 0 92) 0 93) 0 92) 0 90 ∧ ((¬ ((x38.1 70 (x6.1 0 88 : Int32).toNatClampNeg) = (x38.1 0 90)) → MD (d + 1) z_doAct 278 [(0, vr 0), (1, vi l1), (3, vi (x.1 74 (l1 : Int32).toNatClampNeg)), (4, vi r3), (5, vi (x6.1 0 88))] [vi 0] (sadd (sadd (sadd S4 0 92) 0 93) 0 92) x38 P) ∧ ((x38.1 70 (x6.1 0 88 : Int32).toNatClampNeg) = (x38.1 0 90) → MD (d + 1) z_doAct 278 [(0, vr 0), (1, vi l1), (3, vi (x.1 74 (l1 : Int32).toNatClampNeg)), (4, vi r3), (5, vi (x6.1 0 88))] [vi 1] (sadd (sadd (sadd S4 0 92) 0 93) 0 92) x38 P)))) ∧ ((r3 = 5) → vp_in (x6.1 0 88) 6 ∧ (∀ x44 : gd, x44 = si x6 71 (x6.1 0 88 : Int32).toNatClampNeg l1 → vp_in (x6.1 0 88) 6 ∧ vp_in (x6.1 0 88) 6 ∧ (∀ x47 : gd, x47 = si x44 72 (x6.1 0 88 : Int32).toNatClampNeg ((x44.1 72 (x6.1 0 88 : Int32).toNatClampNeg) + 1) → MD (d + 1) z_doAct 667 [(0, vr 0), (1, vi l1), (3, vi (x.1 74 (l1 : Int32).toNatClampNeg)), (4, vi r3), (5, vi (x6.1 0 88)), (6, vi 0)] [] (sadd (sadd S4 0 92) 0 93) x47 P))) ∧ ((r3 = 15) → vp_in (x6.1 0 88) 6 ∧ (∀ x50 : gd, x50 = si x6 71 (x6.1 0 88 : Int32).toNatClampNeg l1 → vp_in l1 6 ∧ vp_in (x6.1 0 88) 6 ∧ (∀ x53 : gd, x53 = si x50 72 (x6.1 0 88 : Int32).toNatClampNeg (x50.1 78 (l1 : Int32).toNatClampNeg) → vp_in l1 6 ∧ (∀ x55 : gd, x55 = si x53 77 (l1 : Int32).toNatClampNeg 0 → vp_in l1 6 ∧ (∀ x57 : gd, x57 = si x55 78 (l1 : Int32).toNatClampNeg 0 → MD (d + 1) z_doAct 667 [(0, vr 0), (1, vi l1), (3, vi (x.1 74 (l1 : Int32).toNatClampNeg)), (4, vi r3), (5, vi (x6.1 0 88)), (6, vi 0)] [] (sadd (sadd S4 0 92) 0 93) x57 P))))) ∧ ((r3 = 6) → vp_in (x6.1 0 88) 6 ∧ vp_in (x6.1 0 88) 6 ∧ (∀ x61 : gd, x61 = si x6 72 (x6.1 0 88 : Int32).toNatClampNeg ((x6.1 72 (x6.1 0 88 : Int32).toNatClampNeg) - 1) → vp_in (x6.1 0 88) 6 ∧ ((¬ ((x61.1 72 (x6.1 0 88 : Int32).toNatClampNeg) = (0 : Int32)) → vp_in (x6.1 0 88) 6 ∧ (∀ x67 : gd, x67 = si x61 71 (x6.1 0 88 : Int32).toNatClampNeg l1 → MD (d + 1) z_doAct 667 [(0, vr 0), (1, vi l1), (3, vi (x.1 74 (l1 : Int32).toNatClampNeg)), (4, vi r3), (5, vi (x6.1 0 88)), (6, vi 0)] [] (sadd (sadd S4 0 92) 0 93) x67 P)) ∧ ((x61.1 72 (x6.1 0 88 : Int32).toNatClampNeg) = (0 : Int32) → vp_in (x6.1 0 88) 6 ∧ (∀ x65 : gd, x65 = si x61 71 (x6.1 0 88 : Int32).toNatClampNeg (-1) → MD (d + 1) z_doAct 667 [(0, vr 0), (1, vi l1), (3, vi (x.1 74 (l1 : Int32).toNatClampNeg)), (4, vi r3), (5, vi (x6.1 0 88)), (6, vi 0)] [] (sadd (sadd S4 0 92) 0 93) x65 P))))) ∧ ((r3 = 7) → vp_in (x6.1 0 88) 6 ∧ vp_in l1 6 ∧ (∀ x71 : gd, x71 = si x6 78 (l1 : Int32).toNatClampNeg (x6.1 72 (x6.1 0 88 : Int32).toNatClampNeg) → vp_in (x6.1 0 88) 6 ∧ (∀ x73 : gd, x73 = si x71 72 (x6.1 0 88 : Int32).toNatClampNeg 0 → vp_in (x6.1 0 88) 6 ∧ (∀ x75 : gd, x75 = si x73 71 (x6.1 0 88 : Int32).toNatClampNeg (-1) → vp_in l1 6 ∧ (∀ x77 : gd, x77 = si x75 77 (l1 : Int32).toNatClampNeg 1 → P none x77 (sadd (sadd S4 0 92) 0 93)))))) ∧ ((r3 = 8) → MD (d + 1) z_doAct 513 [(0, vr 0), (1, vi l1), (2, vi l2), (3, vi (x.1 74 (l1 : Int32).toNatClampNeg)), (4, vi r3), (5, vi (x6.1 0 88)), (6, vi 0), (8, vi 0)] [] (sadd (sadd S4 0 92) 0 93) x6 P) ∧ ((r3 = 9) → vp_in (x6.1 0 88) 6 ∧ (∀ x81 : gd, x81 = si x6 73 (x6.1 0 88 : Int32).toNatClampNeg 1 → vp_in (x6.1 0 88) 6 ∧ vp_in (x6.1 0 88) 6 ∧ (∀ x84 : gd, x84 = si x81 74 (x6.1 0 88 : Int32).toNatClampNeg (x81.1 64 (x6.1 0 88 : Int32).toNatClampNeg) → MD (d + 1) z_doAct 667 [(0, vr 0), (1, vi l1), (3, vi (x.1 74 (l1 : Int32).toNatClampNeg)), (4, vi r3), (5, vi (x6.1 0 88)), (6, vi 0)] [] (sadd (sadd S4 0 92) 0 93) x84 P))) ∧ ((r3 = 13) → vp_in l1 6 ∧ (∀ x87 : gd, x87 = si x6 79 (l1 : Int32).toNatClampNeg (x6.1 0 88) → (sadd (sadd S4 0 92) 0 93) 0 90 ∧ (∀ x89 : gd, x89 = si x87 0 93 (x87.1 0 90) → MD (d + 1) z_doAct 667 [(0, vr 0), (1, vi l1), (3, vi (x.1 74 (l1 : Int32).toNatClampNeg)), (4, vi r3), (5, vi (x6.1 0 88)), (6, vi 0)] [] (sadd (sadd (sadd S4 0 92) 0 93) 0 93) x89 P))) ∧ ((r3 = 14) → vp_in l1 6 ∧ (∀ x92 : gd, x92 = si x6 79 (l1 : Int32).toNatClampNeg (-1) → (sadd (sadd S4 0 92) 0 93) 0 90 ∧ (∀ x94 : gd, x94 = si x92 0 93 (x92.1 0 90) → MD (d + 1) z_doAct 667 [(0, vr 0), (1, vi l1), (3, vi (x.1 74 (l1 : Int32).toNatClampNeg)), (4, vi r3), (5, vi (x6.1 0 88)), (6, vi 0)] [] (sadd (sadd (sadd S4 0 92) 0 93) 0 93) x94 P))) ∧ ((∀ k ∈ [(0 : Int32), (1 : Int32), (2 : Int32), (3 : Int32), (4 : Int32), (5 : Int32), (15 : Int32), (6 : Int32), (7 : Int32), (8 : Int32), (9 : Int32), (13 : Int32), (14 : Int32)], ¬ r3 = k) → MD (d + 1) z_doAct 667 [(0, vr 0), (1, vi l1), (3, vi (x.1 74 (l1 : Int32).toNatClampNeg)), (4, vi r3), (5, vi (x6.1 0 88)), (6, vi 0)] [] (sadd (sadd S4 0 92) 0 93) x6 P))) ∧ (¬ ((x6.1 0 89) ≤ (0 : Int32)) → (sadd (sadd S4 0 92) 0 93) 0 89 ∧ MD d z_failThread 0 [(0, vr 0), (1, vi l1), (2, vi (x6.1 0 89))] [] (sadd (sadd S4 0 92) 0 93) x6 (Dv (fun x97 S97 => MD d z_clean 0 [(0, vr 0), (1, vi l1)] [] S97 x97 (Dv (fun x98 S98 => P none x98 S98))))))))))))) :
    MD (d + 1) z_doAct 0 [(0, vr 0), (1, vi l1), (2, vi l2)] [] S x P := by
  refine MD_lift (fun G z Q k => T_aload_n 0 (dk dt_doAct 0 rfl) rfl rfl k) ?_
  refine MD_lift (fun G z Q k => T_getR 0 73 74 (dk dt_doAct 1 rfl) fl_154 mk_0 ml_0 (by decide) rfl rfl k) ?_
  refine MD_lift (fun G z Q k => T_iload_n 1 (dk dt_doAct 2 rfl) rfl rfl k) ?_
  obtain ⟨h1, h⟩ := h
  refine MD_read (fun z => z.1 74 (l1 : Int32).toNatClampNeg) (fun G z Q k => T_iald 74 6 (dk dt_doAct 3 rfl) mk_74 ml_74 h1 k) (fun z e => e 74 _ (Or.inl (core_a (by decide) h1))) ?_
  refine MD_lift (fun G z Q k => T_istore_n (lv2 := [(3, vi (x.1 74 (l1 : Int32).toNatClampNeg)), (0, vr 0), (1, vi l1), (2, vi l2)]) (dk dt_doAct 4 rfl) rfl (by decide) rfl k) ?_
  refine MD_lift (fun G z Q k => T_aload_n 1 (dk dt_doAct 5 rfl) rfl rfl k) ?_
  refine MD_lift (fun G z Q k => T_iload_n 2 (dk dt_doAct 6 rfl) rfl rfl k) ?_
  refine MD_calli (fun G z F Q k kk => MT_callVi [vi l1] [] rfl (dk dt_doAct 7 rfl) cv_602 rfl rfl (Nat.le_of_ble_eq_true rfl) (Nat.le_of_ble_eq_true rfl) rfl rfl k kk) h (fun r3 x2 S2 h => ?_)
  refine MD_lift (fun G z Q k => T_istore (lv2 := [(4, vi r3), (3, vi (x.1 74 (l1 : Int32).toNatClampNeg)), (0, vr 0), (1, vi l1), (2, vi l2)]) (dk dt_doAct 8 rfl) (by decide) rfl k) ?_
  refine MD_lift (fun G z Q k => T_aload_n 2 (dk dt_doAct 9 rfl) rfl rfl k) ?_
  refine MD_lift (fun G z Q k => T_iload_n 3 (dk dt_doAct 10 rfl) rfl rfl k) ?_
  refine MD_callv (fun G z F Q k kk => MT_callVv [vi l1] [] rfl (dk dt_doAct 11 rfl) cv_632 rfl rfl (Nat.le_of_ble_eq_true rfl) (Nat.le_of_ble_eq_true rfl) rfl rfl k kk) h (fun x4 S4 h => ?_)
  refine MD_lift (fun G z Q k => T_aload_n 2 (dk dt_doAct 12 rfl) rfl rfl k) ?_
  refine MD_lift (fun G z Q k => T_iconst (v := 0) (dk dt_doAct 13 rfl) (by decide +kernel) k) ?_
  obtain ⟨x5, ex5⟩ : ∃ z, z = si x4 0 92 0 := ⟨_, rfl⟩
  have h := h x5 ex5
  refine MD_wr 0 92 0 (fun G z Q k => T_putI 0 92 (dk dt_doAct 14 rfl) fl_635 mk_0 ml_0 (by decide) rfl ⟨rfl, rfl⟩ k) (hm_f (by decide) _) ?_
  rw [← ex5]
  refine MD_lift (fun G z Q k => T_aload_n 2 (dk dt_doAct 15 rfl) rfl rfl k) ?_
  refine MD_lift (fun G z Q k => T_iconst (v := 0) (dk dt_doAct 16 rfl) (by decide +kernel) k) ?_
  obtain ⟨x6, ex6⟩ : ∃ z, z = si x5 0 93 0 := ⟨_, rfl⟩
  have h := h x6 ex6
  refine MD_wr 0 93 0 (fun G z Q k => T_putI 0 93 (dk dt_doAct 17 rfl) fl_638 mk_0 ml_0 (by decide) rfl ⟨rfl, rfl⟩ k) (hm_f (by decide) _) ?_
  rw [← ex6]
  refine MD_lift (fun G z Q k => T_aload_n 2 (dk dt_doAct 18 rfl) rfl rfl k) ?_
  obtain ⟨h7, h⟩ := h
  refine MD_read (fun z => z.1 0 89) (fun G z Q k => T_getI 0 89 (dk dt_doAct 19 rfl) fl_620 mk_0 ml_0 (by decide) rfl k) (fun z e => e 0 89 (Or.inr h7)) ?_
  by_cases c8 : (x6.1 0 89) ≤ (0 : Int32)
  · have h := h.1 c8
    refine MD_lift (fun G z Q k => T_if_le 51 (dk dt_doAct 20 rfl) (by decide) (fun _ => k) (fun q => absurd c8 q)) ?_
    refine MD_lift (fun G z Q k => T_aload_n 2 (dk dt_doAct 30 rfl) rfl rfl k) ?_
    obtain ⟨h9, h⟩ := h
    refine MD_read (fun z => z.1 0 88) (fun G z Q k => T_getI 0 88 (dk dt_doAct 31 rfl) fl_623 mk_0 ml_0 (by decide) rfl k) (fun z e => e 0 88 (Or.inr h9)) ?_
    refine MD_lift (fun G z Q k => T_istore (lv2 := [(5, vi (x6.1 0 88)), (4, vi r3), (3, vi (x.1 74 (l1 : Int32).toNatClampNeg)), (0, vr 0), (1, vi l1), (2, vi l2)]) (dk dt_doAct 32 rfl) (by decide) rfl k) ?_
    refine MD_lift (fun G z Q k => T_iconst (v := 0) (dk dt_doAct 33 rfl) (by decide +kernel) k) ?_
    refine MD_lift (fun G z Q k => T_istore (lv2 := [(6, vi 0), (5, vi (x6.1 0 88)), (4, vi r3), (3, vi (x.1 74 (l1 : Int32).toNatClampNeg)), (0, vr 0), (1, vi l1), (2, vi l2)]) (dk dt_doAct 34 rfl) (by decide) rfl k) ?_
    refine MD_lift (fun G z Q k => T_iload 2 (dk dt_doAct 35 rfl) rfl k) ?_
    by_cases c10 : r3 = 0
    · have h := h.1 c10
      refine MD_lift (fun G z Q k => T_table 78 140 (dk dt_doAct 36 rfl) (by decide) (by rw [c10]; decide +kernel) (by decide) k) ?_
      refine MD_lift (fun G z Q k => T_aload_n 4 (dk dt_doAct 37 rfl) rfl rfl k) ?_
      refine MD_lift (fun G z Q k => T_iload_n 5 (dk dt_doAct 38 rfl) rfl rfl k) ?_
      refine MD_lift (fun G z Q k => T_iload 1 (dk dt_doAct 39 rfl) rfl k) ?_
      refine MD_calli (fun G z F Q k kk => MT_callVi [vi l1, vi (x6.1 0 88)] [] rfl (dk dt_doAct 40 rfl) cv_641 rfl rfl (Nat.le_of_ble_eq_true rfl) (Nat.le_of_ble_eq_true rfl) rfl rfl k kk) h (fun r12 x11 S11 h => ?_)
      refine MD_lift (fun G z Q k => T_istore (lv2 := [(6, vi r12), (5, vi (x6.1 0 88)), (4, vi r3), (3, vi (x.1 74 (l1 : Int32).toNatClampNeg)), (0, vr 0), (1, vi l1), (2, vi l2)]) (dk dt_doAct 41 rfl) (by decide) rfl k) ?_
      refine MD_lift (fun G z Q k => T_aload_n 4 (dk dt_doAct 42 rfl) rfl rfl k) ?_
      refine MD_lift (fun G z Q k => T_iload 0 (dk dt_doAct 43 rfl) rfl k) ?_
      obtain ⟨x13, ex13⟩ : ∃ z, z = si x11 0 92 r12 := ⟨_, rfl⟩
      have h := h x13 ex13
      refine MD_wr 0 92 r12 (fun G z Q k => T_putI 0 92 (dk dt_doAct 44 rfl) fl_635 mk_0 ml_0 (by decide) rfl ⟨rfl, rfl⟩ k) (hm_f (by decide) _) ?_
      rw [← ex13]
      refine MD_lift (fun G z Q k => T_goto 667 (dk dt_doAct 45 rfl) (by decide) k) ?_
      exact MD_lift (fun G z Q k => T_sub [4, 5, 3, 2, 1, 0] rfl k) h
    · have h := h.2
      by_cases c14 : r3 = 1
      · have h := h.1 c14
        refine MD_lift (fun G z Q k => T_table 96 158 (dk dt_doAct 36 rfl) (by decide) (by rw [c14]; decide +kernel) (by decide) k) ?_
        refine MD_lift (fun G z Q k => T_aload_n 4 (dk dt_doAct 46 rfl) rfl rfl k) ?_
        refine MD_lift (fun G z Q k => T_aload_n 4 (dk dt_doAct 47 rfl) rfl rfl k) ?_
        obtain ⟨h15, h⟩ := h
        refine MD_read (fun z => z.1 0 90) (fun G z Q k => T_getI 0 90 (dk dt_doAct 48 rfl) fl_626 mk_0 ml_0 (by decide) rfl k) (fun z e => e 0 90 (Or.inr h15)) ?_
        obtain ⟨x16, ex16⟩ : ∃ z, z = si x6 0 93 (x6.1 0 90) := ⟨_, rfl⟩
        have h := h x16 ex16
        refine MD_wr 0 93 (x6.1 0 90) (fun G z Q k => T_putI 0 93 (dk dt_doAct 49 rfl) fl_638 mk_0 ml_0 (by decide) rfl ⟨rfl, rfl⟩ k) (hm_f (by decide) _) ?_
        rw [← ex16]
        refine MD_lift (fun G z Q k => T_aload_n 4 (dk dt_doAct 50 rfl) rfl rfl k) ?_
        refine MD_read (fun z => z.1 0 68) (fun G z Q k => T_getI 0 68 (dk dt_doAct 51 rfl) fl_608 mk_0 ml_0 (by decide) rfl k) (fun z e => e 0 68 (Or.inl (core_f (by decide)))) ?_
        by_cases c17 : (x16.1 0 68) = (0 : Int32)
        · have h := h.1 c17
          refine MD_lift (fun G z Q k => T_if_eq 183 (dk dt_doAct 52 rfl) (by decide) (fun _ => k) (fun q => absurd c17 q)) ?_
          refine MD_lift (fun G z Q k => T_aload_n 4 (dk dt_doAct 58 rfl) rfl rfl k) ?_
          refine MD_lift (fun G z Q k => T_getR 0 69 70 (dk dt_doAct 59 rfl) fl_142 mk_0 ml_0 (by decide) rfl rfl k) ?_
          refine MD_lift (fun G z Q k => T_iload 1 (dk dt_doAct 60 rfl) rfl k) ?_
          refine MD_lift (fun G z Q k => T_aload_n 4 (dk dt_doAct 61 rfl) rfl rfl k) ?_
          obtain ⟨h18, h⟩ := h
          refine MD_read (fun z => z.1 0 90) (fun G z Q k => T_getI 0 90 (dk dt_doAct 62 rfl) fl_626 mk_0 ml_0 (by decide) rfl k) (fun z e => e 0 90 (Or.inr h18)) ?_
          obtain ⟨h19, h⟩ := h
          obtain ⟨x20, ex20⟩ : ∃ z, z = si x16 70 (x6.1 0 88 : Int32).toNatClampNeg (x16.1 0 90) := ⟨_, rfl⟩
          have h := h x20 ex20
          refine MD_wk 70 ((x6.1 0 88 : Int32).toNatClampNeg) (x16.1 0 90) (fun G z Q k => T_iast 70 24 (dk dt_doAct 63 rfl) mk_70 ml_70 h19 k) (hm_a (by decide) _ _) ?_
          rw [← ex20]
          refine MD_lift (fun G z Q k => T_goto 667 (dk dt_doAct 64 rfl) (by decide) k) ?_
          exact MD_lift (fun G z Q k => T_sub [4, 5, 3, 2, 1, 0] rfl k) h
        · have h := h.2 c17
          refine MD_lift (fun G z Q k => T_if_eq 183 (dk dt_doAct 52 rfl) (by decide) (fun q => absurd q c17) (fun _ => k)) ?_
          refine MD_lift (fun G z Q k => T_aload_n 4 (dk dt_doAct 53 rfl) rfl rfl k) ?_
          refine MD_lift (fun G z Q k => T_getR 0 36 37 (dk dt_doAct 54 rfl) fl_73 mk_0 ml_0 (by decide) rfl rfl k) ?_
          refine MD_lift (fun G z Q k => T_iload 1 (dk dt_doAct 55 rfl) rfl k) ?_
          obtain ⟨h21, h⟩ := h
          refine MD_read (fun z => z.1 37 (x6.1 0 88 : Int32).toNatClampNeg) (fun G z Q k => T_zald 37 24 (dk dt_doAct 56 rfl) mk_37 ml_37 h21 k) (fun z e => e 37 _ (Or.inl (core_a (by decide) h21))) ?_
          by_cases c22 : (x16.1 37 (x6.1 0 88 : Int32).toNatClampNeg) = (0 : Int32)
          · have h := h.1 c22
            refine MD_lift (fun G z Q k => T_if_eq 197 (dk dt_doAct 57 rfl) (by decide) (fun _ => k) (fun q => absurd c22 q)) ?_
            refine MD_lift (fun G z Q k => T_aload_n 4 (dk dt_doAct 65 rfl) rfl rfl k) ?_
            refine MD_lift (fun G z Q k => T_getR 0 80 81 (dk dt_doAct 66 rfl) fl_175 mk_0 ml_0 (by decide) rfl rfl k) ?_
            refine MD_lift (fun G z Q k => T_bipush (v := 10) (dk dt_doAct 67 rfl) (by decide +kernel) k) ?_
            refine MD_lift (fun G z Q k => T_iload_n 5 (dk dt_doAct 68 rfl) rfl rfl k) ?_
            refine MD_lift (fun G z Q k => T_imul (dk dt_doAct 69 rfl) k) ?_
            refine MD_lift (fun G z Q k => T_aload_n 4 (dk dt_doAct 70 rfl) rfl rfl k) ?_
            refine MD_lift (fun G z Q k => T_getR 0 79 80 (dk dt_doAct 71 rfl) fl_172 mk_0 ml_0 (by decide) rfl rfl k) ?_
            refine MD_lift (fun G z Q k => T_iload_n 5 (dk dt_doAct 72 rfl) rfl rfl k) ?_
            obtain ⟨h23, h⟩ := h
            refine MD_read (fun z => z.1 80 (l1 : Int32).toNatClampNeg) (fun G z Q k => T_iald 80 6 (dk dt_doAct 73 rfl) mk_80 ml_80 h23 k) (fun z e => e 80 _ (Or.inl (core_a (by decide) h23))) ?_
            refine MD_lift (fun G z Q k => T_iadd (dk dt_doAct 74 rfl) k) ?_
            refine MD_lift (fun G z Q k => T_iload 1 (dk dt_doAct 75 rfl) rfl k) ?_
            obtain ⟨h24, h⟩ := h
            obtain ⟨x25, ex25⟩ : ∃ z, z = si x16 81 ((10 * l1) + (x16.1 80 (l1 : Int32).toNatClampNeg) : Int32).toNatClampNeg (x6.1 0 88) := ⟨_, rfl⟩
            have h := h x25 ex25
            refine MD_wr 81 (((10 * l1) + (x16.1 80 (l1 : Int32).toNatClampNeg) : Int32).toNatClampNeg) (x6.1 0 88) (fun G z Q k => T_iast 81 60 (dk dt_doAct 76 rfl) mk_81 ml_81 h24 k) (hm_a (by decide) _ _) ?_
            rw [← ex25]
            refine MD_lift (fun G z Q k => T_aload_n 4 (dk dt_doAct 77 rfl) rfl rfl k) ?_
            refine MD_lift (fun G z Q k => T_getR 0 81 82 (dk dt_doAct 78 rfl) fl_178 mk_0 ml_0 (by decide) rfl rfl k) ?_
            refine MD_lift (fun G z Q k => T_bipush (v := 10) (dk dt_doAct 79 rfl) (by decide +kernel) k) ?_
            refine MD_lift (fun G z Q k => T_iload_n 5 (dk dt_doAct 80 rfl) rfl rfl k) ?_
            refine MD_lift (fun G z Q k => T_imul (dk dt_doAct 81 rfl) k) ?_
            refine MD_lift (fun G z Q k => T_aload_n 4 (dk dt_doAct 82 rfl) rfl rfl k) ?_
            refine MD_lift (fun G z Q k => T_getR 0 79 80 (dk dt_doAct 83 rfl) fl_172 mk_0 ml_0 (by decide) rfl rfl k) ?_
            refine MD_lift (fun G z Q k => T_iload_n 5 (dk dt_doAct 84 rfl) rfl rfl k) ?_
            obtain ⟨h26, h⟩ := h
            refine MD_read (fun z => z.1 80 (l1 : Int32).toNatClampNeg) (fun G z Q k => T_iald 80 6 (dk dt_doAct 85 rfl) mk_80 ml_80 h26 k) (fun z e => e 80 _ (Or.inl (core_a (by decide) h26))) ?_
            refine MD_lift (fun G z Q k => T_iadd (dk dt_doAct 86 rfl) k) ?_
            refine MD_lift (fun G z Q k => T_aload_n 4 (dk dt_doAct 87 rfl) rfl rfl k) ?_
            obtain ⟨h27, h⟩ := h
            refine MD_read (fun z => z.1 0 90) (fun G z Q k => T_getI 0 90 (dk dt_doAct 88 rfl) fl_626 mk_0 ml_0 (by decide) rfl k) (fun z e => e 0 90 (Or.inr h27)) ?_
            obtain ⟨h28, h⟩ := h
            obtain ⟨x29, ex29⟩ : ∃ z, z = si x25 82 ((10 * l1) + (x25.1 80 (l1 : Int32).toNatClampNeg) : Int32).toNatClampNeg (x25.1 0 90) := ⟨_, rfl⟩
            have h := h x29 ex29
            refine MD_wr 82 (((10 * l1) + (x25.1 80 (l1 : Int32).toNatClampNeg) : Int32).toNatClampNeg) (x25.1 0 90) (fun G z Q k => T_iast 82 60 (dk dt_doAct 89 rfl) mk_82 ml_82 h28 k) (hm_a (by decide) _ _) ?_
            rw [← ex29]
            refine MD_lift (fun G z Q k => T_aload_n 4 (dk dt_doAct 90 rfl) rfl rfl k) ?_
            refine MD_lift (fun G z Q k => T_getR 0 79 80 (dk dt_doAct 91 rfl) fl_172 mk_0 ml_0 (by decide) rfl rfl k) ?_
            refine MD_lift (fun G z Q k => T_iload_n 5 (dk dt_doAct 92 rfl) rfl rfl k) ?_
            refine MD_lift (fun G z Q k => T_dup2 (dk dt_doAct 93 rfl) rfl rfl k) ?_
            obtain ⟨h30, h⟩ := h
            refine MD_read (fun z => z.1 80 (l1 : Int32).toNatClampNeg) (fun G z Q k => T_iald 80 6 (dk dt_doAct 94 rfl) mk_80 ml_80 h30 k) (fun z e => e 80 _ (Or.inl (core_a (by decide) h30))) ?_
            refine MD_lift (fun G z Q k => T_iconst (v := 1) (dk dt_doAct 95 rfl) (by decide +kernel) k) ?_
            refine MD_lift (fun G z Q k => T_iadd (dk dt_doAct 96 rfl) k) ?_
            obtain ⟨h31, h⟩ := h
            obtain ⟨x32, ex32⟩ : ∃ z, z = si x29 80 (l1 : Int32).toNatClampNeg ((x29.1 80 (l1 : Int32).toNatClampNeg) + 1) := ⟨_, rfl⟩
            have h := h x32 ex32
            refine MD_wk 80 ((l1 : Int32).toNatClampNeg) ((x29.1 80 (l1 : Int32).toNatClampNeg) + 1) (fun G z Q k => T_iast 80 6 (dk dt_doAct 97 rfl) mk_80 ml_80 h31 k) (hm_a (by decide) _ _) ?_
            rw [← ex32]
            refine MD_lift (fun G z Q k => T_goto 667 (dk dt_doAct 98 rfl) (by decide) k) ?_
            exact MD_lift (fun G z Q k => T_sub [4, 5, 3, 2, 1, 0] rfl k) h
          · have h := h.2 c22
            refine MD_lift (fun G z Q k => T_if_eq 197 (dk dt_doAct 57 rfl) (by decide) (fun q => absurd q c22) (fun _ => k)) ?_
            refine MD_lift (fun G z Q k => T_aload_n 4 (dk dt_doAct 58 rfl) rfl rfl k) ?_
            refine MD_lift (fun G z Q k => T_getR 0 69 70 (dk dt_doAct 59 rfl) fl_142 mk_0 ml_0 (by decide) rfl rfl k) ?_
            refine MD_lift (fun G z Q k => T_iload 1 (dk dt_doAct 60 rfl) rfl k) ?_
            refine MD_lift (fun G z Q k => T_aload_n 4 (dk dt_doAct 61 rfl) rfl rfl k) ?_
            obtain ⟨h33, h⟩ := h
            refine MD_read (fun z => z.1 0 90) (fun G z Q k => T_getI 0 90 (dk dt_doAct 62 rfl) fl_626 mk_0 ml_0 (by decide) rfl k) (fun z e => e 0 90 (Or.inr h33)) ?_
            obtain ⟨h34, h⟩ := h
            obtain ⟨x35, ex35⟩ : ∃ z, z = si x16 70 (x6.1 0 88 : Int32).toNatClampNeg (x16.1 0 90) := ⟨_, rfl⟩
            have h := h x35 ex35
            refine MD_wk 70 ((x6.1 0 88 : Int32).toNatClampNeg) (x16.1 0 90) (fun G z Q k => T_iast 70 24 (dk dt_doAct 63 rfl) mk_70 ml_70 h34 k) (hm_a (by decide) _ _) ?_
            rw [← ex35]
            refine MD_lift (fun G z Q k => T_goto 667 (dk dt_doAct 64 rfl) (by decide) k) ?_
            exact MD_lift (fun G z Q k => T_sub [4, 5, 3, 2, 1, 0] rfl k) h
      · have h := h.2
        by_cases c36 : r3 = 2 ∨ r3 = 3 ∨ r3 = 4
        · have h := h.1 c36
          refine MD_lift (fun G z Q k => T_table 186 248 (dk dt_doAct 36 rfl) (by decide) (by rcases c36 with q9 | q9 | q9 <;> rw [q9] <;> decide +kernel) (by decide) k) ?_
          refine MD_lift (fun G z Q k => T_aload_n 4 (dk dt_doAct 99 rfl) rfl rfl k) ?_
          refine MD_lift (fun G z Q k => T_aload_n 4 (dk dt_doAct 100 rfl) rfl rfl k) ?_
          refine MD_lift (fun G z Q k => T_getR 0 69 70 (dk dt_doAct 101 rfl) fl_142 mk_0 ml_0 (by decide) rfl rfl k) ?_
          refine MD_lift (fun G z Q k => T_iload 1 (dk dt_doAct 102 rfl) rfl k) ?_
          obtain ⟨h37, h⟩ := h
          refine MD_read (fun z => z.1 70 (x6.1 0 88 : Int32).toNatClampNeg) (fun G z Q k => T_iald 70 24 (dk dt_doAct 103 rfl) mk_70 ml_70 h37 k) (fun z e => e 70 _ (Or.inl (core_a (by decide) h37))) ?_
          obtain ⟨x38, ex38⟩ : ∃ z, z = si x6 0 92 (x6.1 70 (x6.1 0 88 : Int32).toNatClampNeg) := ⟨_, rfl⟩
          have h := h x38 ex38
          refine MD_wr 0 92 (x6.1 70 (x6.1 0 88 : Int32).toNatClampNeg) (fun G z Q k => T_putI 0 92 (dk dt_doAct 104 rfl) fl_635 mk_0 ml_0 (by decide) rfl ⟨rfl, rfl⟩ k) (hm_f (by decide) _) ?_
          rw [← ex38]
          refine MD_lift (fun G z Q k => T_aload_n 4 (dk dt_doAct 105 rfl) rfl rfl k) ?_
          refine MD_lift (fun G z Q k => T_getR 0 69 70 (dk dt_doAct 106 rfl) fl_142 mk_0 ml_0 (by decide) rfl rfl k) ?_
          refine MD_lift (fun G z Q k => T_iload 1 (dk dt_doAct 107 rfl) rfl k) ?_
          obtain ⟨h39, h⟩ := h
          refine MD_read (fun z => z.1 70 (x6.1 0 88 : Int32).toNatClampNeg) (fun G z Q k => T_iald 70 24 (dk dt_doAct 108 rfl) mk_70 ml_70 h39 k) (fun z e => e 70 _ (Or.inl (core_a (by decide) h39))) ?_
          refine MD_lift (fun G z Q k => T_aload_n 4 (dk dt_doAct 109 rfl) rfl rfl k) ?_
          obtain ⟨h40, h⟩ := h
          refine MD_read (fun z => z.1 0 90) (fun G z Q k => T_getI 0 90 (dk dt_doAct 110 rfl) fl_626 mk_0 ml_0 (by decide) rfl k) (fun z e => e 0 90 (Or.inr h40)) ?_
          by_cases c41 : (x38.1 70 (x6.1 0 88 : Int32).toNatClampNeg) = (x38.1 0 90)
          · have h := h.2 c41
            refine MD_lift (fun G z Q k => T_icmp_ne 277 (dk dt_doAct 111 rfl) (by decide) (fun q => absurd c41 q) (fun _ => k)) ?_
            refine MD_lift (fun G z Q k => T_iconst (v := 1) (dk dt_doAct 112 rfl) (by decide +kernel) k) ?_
            refine MD_lift (fun G z Q k => T_goto 278 (dk dt_doAct 113 rfl) (by decide) k) ?_
            exact MD_lift (fun G z Q k => T_sub [4, 5, 3, 2, 1] rfl k) h
          · have h := h.1 c41
            refine MD_lift (fun G z Q k => T_icmp_ne 277 (dk dt_doAct 111 rfl) (by decide) (fun _ => k) (fun q => absurd q c41)) ?_
            refine MD_lift (fun G z Q k => T_iconst (v := 0) (dk dt_doAct 114 rfl) (by decide +kernel) k) ?_
            exact MD_lift (fun G z Q k => T_sub [4, 5, 3, 2, 1] rfl k) h
        · have h := h.2
          by_cases c42 : r3 = 5
          · have h := h.1 c42
            refine MD_lift (fun G z Q k => T_table 315 377 (dk dt_doAct 36 rfl) (by decide) (by rw [c42]; decide +kernel) (by decide) k) ?_
            refine MD_lift (fun G z Q k => T_aload_n 4 (dk dt_doAct 164 rfl) rfl rfl k) ?_
            refine MD_lift (fun G z Q k => T_getR 0 70 71 (dk dt_doAct 165 rfl) fl_145 mk_0 ml_0 (by decide) rfl rfl k) ?_
            refine MD_lift (fun G z Q k => T_iload 1 (dk dt_doAct 166 rfl) rfl k) ?_
            refine MD_lift (fun G z Q k => T_iload_n 5 (dk dt_doAct 167 rfl) rfl rfl k) ?_
            obtain ⟨h43, h⟩ := h
            obtain ⟨x44, ex44⟩ : ∃ z, z = si x6 71 (x6.1 0 88 : Int32).toNatClampNeg l1 := ⟨_, rfl⟩
            have h := h x44 ex44
            refine MD_wk 71 ((x6.1 0 88 : Int32).toNatClampNeg) l1 (fun G z Q k => T_iast 71 6 (dk dt_doAct 168 rfl) mk_71 ml_71 h43 k) (hm_a (by decide) _ _) ?_
            rw [← ex44]
            refine MD_lift (fun G z Q k => T_aload_n 4 (dk dt_doAct 169 rfl) rfl rfl k) ?_
            refine MD_lift (fun G z Q k => T_getR 0 71 72 (dk dt_doAct 170 rfl) fl_148 mk_0 ml_0 (by decide) rfl rfl k) ?_
            refine MD_lift (fun G z Q k => T_iload 1 (dk dt_doAct 171 rfl) rfl k) ?_
            refine MD_lift (fun G z Q k => T_dup2 (dk dt_doAct 172 rfl) rfl rfl k) ?_
            obtain ⟨h45, h⟩ := h
            refine MD_read (fun z => z.1 72 (x6.1 0 88 : Int32).toNatClampNeg) (fun G z Q k => T_iald 72 6 (dk dt_doAct 173 rfl) mk_72 ml_72 h45 k) (fun z e => e 72 _ (Or.inl (core_a (by decide) h45))) ?_
            refine MD_lift (fun G z Q k => T_iconst (v := 1) (dk dt_doAct 174 rfl) (by decide +kernel) k) ?_
            refine MD_lift (fun G z Q k => T_iadd (dk dt_doAct 175 rfl) k) ?_
            obtain ⟨h46, h⟩ := h
            obtain ⟨x47, ex47⟩ : ∃ z, z = si x44 72 (x6.1 0 88 : Int32).toNatClampNeg ((x44.1 72 (x6.1 0 88 : Int32).toNatClampNeg) + 1) := ⟨_, rfl⟩
            have h := h x47 ex47
            refine MD_wk 72 ((x6.1 0 88 : Int32).toNatClampNeg) ((x44.1 72 (x6.1 0 88 : Int32).toNatClampNeg) + 1) (fun G z Q k => T_iast 72 6 (dk dt_doAct 176 rfl) mk_72 ml_72 h46 k) (hm_a (by decide) _ _) ?_
            rw [← ex47]
            refine MD_lift (fun G z Q k => T_goto 667 (dk dt_doAct 177 rfl) (by decide) k) ?_
            exact MD_lift (fun G z Q k => T_sub [4, 5, 3, 2, 1, 0] rfl k) h
          · have h := h.2
            by_cases c48 : r3 = 15
            · have h := h.1 c48
              refine MD_lift (fun G z Q k => T_table 337 399 (dk dt_doAct 36 rfl) (by decide) (by rw [c48]; decide +kernel) (by decide) k) ?_
              refine MD_lift (fun G z Q k => T_aload_n 4 (dk dt_doAct 178 rfl) rfl rfl k) ?_
              refine MD_lift (fun G z Q k => T_getR 0 70 71 (dk dt_doAct 179 rfl) fl_145 mk_0 ml_0 (by decide) rfl rfl k) ?_
              refine MD_lift (fun G z Q k => T_iload 1 (dk dt_doAct 180 rfl) rfl k) ?_
              refine MD_lift (fun G z Q k => T_iload_n 5 (dk dt_doAct 181 rfl) rfl rfl k) ?_
              obtain ⟨h49, h⟩ := h
              obtain ⟨x50, ex50⟩ : ∃ z, z = si x6 71 (x6.1 0 88 : Int32).toNatClampNeg l1 := ⟨_, rfl⟩
              have h := h x50 ex50
              refine MD_wk 71 ((x6.1 0 88 : Int32).toNatClampNeg) l1 (fun G z Q k => T_iast 71 6 (dk dt_doAct 182 rfl) mk_71 ml_71 h49 k) (hm_a (by decide) _ _) ?_
              rw [← ex50]
              refine MD_lift (fun G z Q k => T_aload_n 4 (dk dt_doAct 183 rfl) rfl rfl k) ?_
              refine MD_lift (fun G z Q k => T_getR 0 71 72 (dk dt_doAct 184 rfl) fl_148 mk_0 ml_0 (by decide) rfl rfl k) ?_
              refine MD_lift (fun G z Q k => T_iload 1 (dk dt_doAct 185 rfl) rfl k) ?_
              refine MD_lift (fun G z Q k => T_aload_n 4 (dk dt_doAct 186 rfl) rfl rfl k) ?_
              refine MD_lift (fun G z Q k => T_getR 0 77 78 (dk dt_doAct 187 rfl) fl_166 mk_0 ml_0 (by decide) rfl rfl k) ?_
              refine MD_lift (fun G z Q k => T_iload_n 5 (dk dt_doAct 188 rfl) rfl rfl k) ?_
              obtain ⟨h51, h⟩ := h
              refine MD_read (fun z => z.1 78 (l1 : Int32).toNatClampNeg) (fun G z Q k => T_iald 78 6 (dk dt_doAct 189 rfl) mk_78 ml_78 h51 k) (fun z e => e 78 _ (Or.inl (core_a (by decide) h51))) ?_
              obtain ⟨h52, h⟩ := h
              obtain ⟨x53, ex53⟩ : ∃ z, z = si x50 72 (x6.1 0 88 : Int32).toNatClampNeg (x50.1 78 (l1 : Int32).toNatClampNeg) := ⟨_, rfl⟩
              have h := h x53 ex53
              refine MD_wk 72 ((x6.1 0 88 : Int32).toNatClampNeg) (x50.1 78 (l1 : Int32).toNatClampNeg) (fun G z Q k => T_iast 72 6 (dk dt_doAct 190 rfl) mk_72 ml_72 h52 k) (hm_a (by decide) _ _) ?_
              rw [← ex53]
              refine MD_lift (fun G z Q k => T_aload_n 4 (dk dt_doAct 191 rfl) rfl rfl k) ?_
              refine MD_lift (fun G z Q k => T_getR 0 76 77 (dk dt_doAct 192 rfl) fl_163 mk_0 ml_0 (by decide) rfl rfl k) ?_
              refine MD_lift (fun G z Q k => T_iload_n 5 (dk dt_doAct 193 rfl) rfl rfl k) ?_
              refine MD_lift (fun G z Q k => T_iconst (v := 0) (dk dt_doAct 194 rfl) (by decide +kernel) k) ?_
              obtain ⟨h54, h⟩ := h
              obtain ⟨x55, ex55⟩ : ∃ z, z = si x53 77 (l1 : Int32).toNatClampNeg 0 := ⟨_, rfl⟩
              have h := h x55 ex55
              refine MD_wk 77 ((l1 : Int32).toNatClampNeg) 0 (fun G z Q k => T_iast 77 6 (dk dt_doAct 195 rfl) mk_77 ml_77 h54 k) (hm_a (by decide) _ _) ?_
              rw [← ex55]
              refine MD_lift (fun G z Q k => T_aload_n 4 (dk dt_doAct 196 rfl) rfl rfl k) ?_
              refine MD_lift (fun G z Q k => T_getR 0 77 78 (dk dt_doAct 197 rfl) fl_166 mk_0 ml_0 (by decide) rfl rfl k) ?_
              refine MD_lift (fun G z Q k => T_iload_n 5 (dk dt_doAct 198 rfl) rfl rfl k) ?_
              refine MD_lift (fun G z Q k => T_iconst (v := 0) (dk dt_doAct 199 rfl) (by decide +kernel) k) ?_
              obtain ⟨h56, h⟩ := h
              obtain ⟨x57, ex57⟩ : ∃ z, z = si x55 78 (l1 : Int32).toNatClampNeg 0 := ⟨_, rfl⟩
              have h := h x57 ex57
              refine MD_wk 78 ((l1 : Int32).toNatClampNeg) 0 (fun G z Q k => T_iast 78 6 (dk dt_doAct 200 rfl) mk_78 ml_78 h56 k) (hm_a (by decide) _ _) ?_
              rw [← ex57]
              refine MD_lift (fun G z Q k => T_goto 667 (dk dt_doAct 201 rfl) (by decide) k) ?_
              exact MD_lift (fun G z Q k => T_sub [4, 5, 3, 2, 1, 0] rfl k) h
            · have h := h.2
              by_cases c58 : r3 = 6
              · have h := h.1 c58
                refine MD_lift (fun G z Q k => T_table 375 437 (dk dt_doAct 36 rfl) (by decide) (by rw [c58]; decide +kernel) (by decide) k) ?_
                refine MD_lift (fun G z Q k => T_aload_n 4 (dk dt_doAct 202 rfl) rfl rfl k) ?_
                refine MD_lift (fun G z Q k => T_getR 0 71 72 (dk dt_doAct 203 rfl) fl_148 mk_0 ml_0 (by decide) rfl rfl k) ?_
                refine MD_lift (fun G z Q k => T_iload 1 (dk dt_doAct 204 rfl) rfl k) ?_
                refine MD_lift (fun G z Q k => T_dup2 (dk dt_doAct 205 rfl) rfl rfl k) ?_
                obtain ⟨h59, h⟩ := h
                refine MD_read (fun z => z.1 72 (x6.1 0 88 : Int32).toNatClampNeg) (fun G z Q k => T_iald 72 6 (dk dt_doAct 206 rfl) mk_72 ml_72 h59 k) (fun z e => e 72 _ (Or.inl (core_a (by decide) h59))) ?_
                refine MD_lift (fun G z Q k => T_iconst (v := 1) (dk dt_doAct 207 rfl) (by decide +kernel) k) ?_
                refine MD_lift (fun G z Q k => T_isub (dk dt_doAct 208 rfl) k) ?_
                obtain ⟨h60, h⟩ := h
                obtain ⟨x61, ex61⟩ : ∃ z, z = si x6 72 (x6.1 0 88 : Int32).toNatClampNeg ((x6.1 72 (x6.1 0 88 : Int32).toNatClampNeg) - 1) := ⟨_, rfl⟩
                have h := h x61 ex61
                refine MD_wk 72 ((x6.1 0 88 : Int32).toNatClampNeg) ((x6.1 72 (x6.1 0 88 : Int32).toNatClampNeg) - 1) (fun G z Q k => T_iast 72 6 (dk dt_doAct 209 rfl) mk_72 ml_72 h60 k) (hm_a (by decide) _ _) ?_
                rw [← ex61]
                refine MD_lift (fun G z Q k => T_aload_n 4 (dk dt_doAct 210 rfl) rfl rfl k) ?_
                refine MD_lift (fun G z Q k => T_getR 0 70 71 (dk dt_doAct 211 rfl) fl_145 mk_0 ml_0 (by decide) rfl rfl k) ?_
                refine MD_lift (fun G z Q k => T_iload 1 (dk dt_doAct 212 rfl) rfl k) ?_
                refine MD_lift (fun G z Q k => T_aload_n 4 (dk dt_doAct 213 rfl) rfl rfl k) ?_
                refine MD_lift (fun G z Q k => T_getR 0 71 72 (dk dt_doAct 214 rfl) fl_148 mk_0 ml_0 (by decide) rfl rfl k) ?_
                refine MD_lift (fun G z Q k => T_iload 1 (dk dt_doAct 215 rfl) rfl k) ?_
                obtain ⟨h62, h⟩ := h
                refine MD_read (fun z => z.1 72 (x6.1 0 88 : Int32).toNatClampNeg) (fun G z Q k => T_iald 72 6 (dk dt_doAct 216 rfl) mk_72 ml_72 h62 k) (fun z e => e 72 _ (Or.inl (core_a (by decide) h62))) ?_
                by_cases c63 : (x61.1 72 (x6.1 0 88 : Int32).toNatClampNeg) = (0 : Int32)
                · have h := h.2 c63
                  refine MD_lift (fun G z Q k => T_if_ne 468 (dk dt_doAct 217 rfl) (by decide) (fun q => absurd c63 q) (fun _ => k)) ?_
                  refine MD_lift (fun G z Q k => T_iconst (v := (-1)) (dk dt_doAct 218 rfl) (by decide +kernel) k) ?_
                  refine MD_lift (fun G z Q k => T_goto 469 (dk dt_doAct 219 rfl) (by decide) k) ?_
                  obtain ⟨h64, h⟩ := h
                  obtain ⟨x65, ex65⟩ : ∃ z, z = si x61 71 (x6.1 0 88 : Int32).toNatClampNeg (-1) := ⟨_, rfl⟩
                  have h := h x65 ex65
                  refine MD_wk 71 ((x6.1 0 88 : Int32).toNatClampNeg) (-1) (fun G z Q k => T_iast 71 6 (dk dt_doAct 221 rfl) mk_71 ml_71 h64 k) (hm_a (by decide) _ _) ?_
                  rw [← ex65]
                  refine MD_lift (fun G z Q k => T_goto 667 (dk dt_doAct 222 rfl) (by decide) k) ?_
                  exact MD_lift (fun G z Q k => T_sub [4, 5, 3, 2, 1, 0] rfl k) h
                · have h := h.1 c63
                  refine MD_lift (fun G z Q k => T_if_ne 468 (dk dt_doAct 217 rfl) (by decide) (fun _ => k) (fun q => absurd q c63)) ?_
                  refine MD_lift (fun G z Q k => T_iload_n 5 (dk dt_doAct 220 rfl) rfl rfl k) ?_
                  obtain ⟨h66, h⟩ := h
                  obtain ⟨x67, ex67⟩ : ∃ z, z = si x61 71 (x6.1 0 88 : Int32).toNatClampNeg l1 := ⟨_, rfl⟩
                  have h := h x67 ex67
                  refine MD_wk 71 ((x6.1 0 88 : Int32).toNatClampNeg) l1 (fun G z Q k => T_iast 71 6 (dk dt_doAct 221 rfl) mk_71 ml_71 h66 k) (hm_a (by decide) _ _) ?_
                  rw [← ex67]
                  refine MD_lift (fun G z Q k => T_goto 667 (dk dt_doAct 222 rfl) (by decide) k) ?_
                  exact MD_lift (fun G z Q k => T_sub [4, 5, 3, 2, 1, 0] rfl k) h
              · have h := h.2
                by_cases c68 : r3 = 7
                · have h := h.1 c68
                  refine MD_lift (fun G z Q k => T_table 411 473 (dk dt_doAct 36 rfl) (by decide) (by rw [c68]; decide +kernel) (by decide) k) ?_
                  refine MD_lift (fun G z Q k => T_aload_n 4 (dk dt_doAct 223 rfl) rfl rfl k) ?_
                  refine MD_lift (fun G z Q k => T_getR 0 77 78 (dk dt_doAct 224 rfl) fl_166 mk_0 ml_0 (by decide) rfl rfl k) ?_
                  refine MD_lift (fun G z Q k => T_iload_n 5 (dk dt_doAct 225 rfl) rfl rfl k) ?_
                  refine MD_lift (fun G z Q k => T_aload_n 4 (dk dt_doAct 226 rfl) rfl rfl k) ?_
                  refine MD_lift (fun G z Q k => T_getR 0 71 72 (dk dt_doAct 227 rfl) fl_148 mk_0 ml_0 (by decide) rfl rfl k) ?_
                  refine MD_lift (fun G z Q k => T_iload 1 (dk dt_doAct 228 rfl) rfl k) ?_
                  obtain ⟨h69, h⟩ := h
                  refine MD_read (fun z => z.1 72 (x6.1 0 88 : Int32).toNatClampNeg) (fun G z Q k => T_iald 72 6 (dk dt_doAct 229 rfl) mk_72 ml_72 h69 k) (fun z e => e 72 _ (Or.inl (core_a (by decide) h69))) ?_
                  obtain ⟨h70, h⟩ := h
                  obtain ⟨x71, ex71⟩ : ∃ z, z = si x6 78 (l1 : Int32).toNatClampNeg (x6.1 72 (x6.1 0 88 : Int32).toNatClampNeg) := ⟨_, rfl⟩
                  have h := h x71 ex71
                  refine MD_wk 78 ((l1 : Int32).toNatClampNeg) (x6.1 72 (x6.1 0 88 : Int32).toNatClampNeg) (fun G z Q k => T_iast 78 6 (dk dt_doAct 230 rfl) mk_78 ml_78 h70 k) (hm_a (by decide) _ _) ?_
                  rw [← ex71]
                  refine MD_lift (fun G z Q k => T_aload_n 4 (dk dt_doAct 231 rfl) rfl rfl k) ?_
                  refine MD_lift (fun G z Q k => T_getR 0 71 72 (dk dt_doAct 232 rfl) fl_148 mk_0 ml_0 (by decide) rfl rfl k) ?_
                  refine MD_lift (fun G z Q k => T_iload 1 (dk dt_doAct 233 rfl) rfl k) ?_
                  refine MD_lift (fun G z Q k => T_iconst (v := 0) (dk dt_doAct 234 rfl) (by decide +kernel) k) ?_
                  obtain ⟨h72, h⟩ := h
                  obtain ⟨x73, ex73⟩ : ∃ z, z = si x71 72 (x6.1 0 88 : Int32).toNatClampNeg 0 := ⟨_, rfl⟩
                  have h := h x73 ex73
                  refine MD_wk 72 ((x6.1 0 88 : Int32).toNatClampNeg) 0 (fun G z Q k => T_iast 72 6 (dk dt_doAct 235 rfl) mk_72 ml_72 h72 k) (hm_a (by decide) _ _) ?_
                  rw [← ex73]
                  refine MD_lift (fun G z Q k => T_aload_n 4 (dk dt_doAct 236 rfl) rfl rfl k) ?_
                  refine MD_lift (fun G z Q k => T_getR 0 70 71 (dk dt_doAct 237 rfl) fl_145 mk_0 ml_0 (by decide) rfl rfl k) ?_
                  refine MD_lift (fun G z Q k => T_iload 1 (dk dt_doAct 238 rfl) rfl k) ?_
                  refine MD_lift (fun G z Q k => T_iconst (v := (-1)) (dk dt_doAct 239 rfl) (by decide +kernel) k) ?_
                  obtain ⟨h74, h⟩ := h
                  obtain ⟨x75, ex75⟩ : ∃ z, z = si x73 71 (x6.1 0 88 : Int32).toNatClampNeg (-1) := ⟨_, rfl⟩
                  have h := h x75 ex75
                  refine MD_wk 71 ((x6.1 0 88 : Int32).toNatClampNeg) (-1) (fun G z Q k => T_iast 71 6 (dk dt_doAct 240 rfl) mk_71 ml_71 h74 k) (hm_a (by decide) _ _) ?_
                  rw [← ex75]
                  refine MD_lift (fun G z Q k => T_aload_n 4 (dk dt_doAct 241 rfl) rfl rfl k) ?_
                  refine MD_lift (fun G z Q k => T_getR 0 76 77 (dk dt_doAct 242 rfl) fl_163 mk_0 ml_0 (by decide) rfl rfl k) ?_
                  refine MD_lift (fun G z Q k => T_iload_n 5 (dk dt_doAct 243 rfl) rfl rfl k) ?_
                  refine MD_lift (fun G z Q k => T_iconst (v := 1) (dk dt_doAct 244 rfl) (by decide +kernel) k) ?_
                  obtain ⟨h76, h⟩ := h
                  obtain ⟨x77, ex77⟩ : ∃ z, z = si x75 77 (l1 : Int32).toNatClampNeg 1 := ⟨_, rfl⟩
                  have h := h x77 ex77
                  refine MD_wk 77 ((l1 : Int32).toNatClampNeg) 1 (fun G z Q k => T_iast 77 6 (dk dt_doAct 245 rfl) mk_77 ml_77 h76 k) (hm_a (by decide) _ _) ?_
                  rw [← ex77]
                  exact MD_ret (fun G z Q k => MT_vret (dk dt_doAct 246 rfl) rfl k) h
                · have h := h.2
                  by_cases c78 : r3 = 8
                  · have h := h.1 c78
                    refine MD_lift (fun G z Q k => T_table 448 510 (dk dt_doAct 36 rfl) (by decide) (by rw [c78]; decide +kernel) (by decide) k) ?_
                    refine MD_lift (fun G z Q k => T_iconst (v := 0) (dk dt_doAct 247 rfl) (by decide +kernel) k) ?_
                    refine MD_lift (fun G z Q k => T_istore (lv2 := [(8, vi 0), (6, vi 0), (5, vi (x6.1 0 88)), (4, vi r3), (3, vi (x.1 74 (l1 : Int32).toNatClampNeg)), (0, vr 0), (1, vi l1), (2, vi l2)]) (dk dt_doAct 248 rfl) (by decide) rfl k) ?_
                    exact MD_lift (fun G z Q k => T_sub [5, 6, 7, 4, 3, 2, 1, 0] rfl k) h
                  · have h := h.2
                    by_cases c79 : r3 = 9
                    · have h := h.1 c79
                      refine MD_lift (fun G z Q k => T_table 543 605 (dk dt_doAct 36 rfl) (by decide) (by rw [c79]; decide +kernel) (by decide) k) ?_
                      refine MD_lift (fun G z Q k => T_aload_n 4 (dk dt_doAct 296 rfl) rfl rfl k) ?_
                      refine MD_lift (fun G z Q k => T_getR 0 72 73 (dk dt_doAct 297 rfl) fl_151 mk_0 ml_0 (by decide) rfl rfl k) ?_
                      refine MD_lift (fun G z Q k => T_iload 1 (dk dt_doAct 298 rfl) rfl k) ?_
                      refine MD_lift (fun G z Q k => T_iconst (v := 1) (dk dt_doAct 299 rfl) (by decide +kernel) k) ?_
                      obtain ⟨h80, h⟩ := h
                      obtain ⟨x81, ex81⟩ : ∃ z, z = si x6 73 (x6.1 0 88 : Int32).toNatClampNeg 1 := ⟨_, rfl⟩
                      have h := h x81 ex81
                      refine MD_wk 73 ((x6.1 0 88 : Int32).toNatClampNeg) 1 (fun G z Q k => T_iast 73 6 (dk dt_doAct 300 rfl) mk_73 ml_73 h80 k) (hm_a (by decide) _ _) ?_
                      rw [← ex81]
                      refine MD_lift (fun G z Q k => T_aload_n 4 (dk dt_doAct 301 rfl) rfl rfl k) ?_
                      refine MD_lift (fun G z Q k => T_getR 0 73 74 (dk dt_doAct 302 rfl) fl_154 mk_0 ml_0 (by decide) rfl rfl k) ?_
                      refine MD_lift (fun G z Q k => T_iload 1 (dk dt_doAct 303 rfl) rfl k) ?_
                      refine MD_lift (fun G z Q k => T_aload_n 4 (dk dt_doAct 304 rfl) rfl rfl k) ?_
                      refine MD_lift (fun G z Q k => T_getR 0 63 64 (dk dt_doAct 305 rfl) fl_133 mk_0 ml_0 (by decide) rfl rfl k) ?_
                      refine MD_lift (fun G z Q k => T_iload 1 (dk dt_doAct 306 rfl) rfl k) ?_
                      obtain ⟨h82, h⟩ := h
                      refine MD_read (fun z => z.1 64 (x6.1 0 88 : Int32).toNatClampNeg) (fun G z Q k => T_iald 64 6 (dk dt_doAct 307 rfl) mk_64 ml_64 h82 k) (fun z e => e 64 _ (Or.inl (core_a (by decide) h82))) ?_
                      obtain ⟨h83, h⟩ := h
                      obtain ⟨x84, ex84⟩ : ∃ z, z = si x81 74 (x6.1 0 88 : Int32).toNatClampNeg (x81.1 64 (x6.1 0 88 : Int32).toNatClampNeg) := ⟨_, rfl⟩
                      have h := h x84 ex84
                      refine MD_wk 74 ((x6.1 0 88 : Int32).toNatClampNeg) (x81.1 64 (x6.1 0 88 : Int32).toNatClampNeg) (fun G z Q k => T_iast 74 6 (dk dt_doAct 308 rfl) mk_74 ml_74 h83 k) (hm_a (by decide) _ _) ?_
                      rw [← ex84]
                      refine MD_lift (fun G z Q k => T_goto 667 (dk dt_doAct 309 rfl) (by decide) k) ?_
                      exact MD_lift (fun G z Q k => T_sub [4, 5, 3, 2, 1, 0] rfl k) h
                    · have h := h.2
                      by_cases c85 : r3 = 13
                      · have h := h.1 c85
                        refine MD_lift (fun G z Q k => T_table 568 630 (dk dt_doAct 36 rfl) (by decide) (by rw [c85]; decide +kernel) (by decide) k) ?_
                        refine MD_lift (fun G z Q k => T_aload_n 4 (dk dt_doAct 310 rfl) rfl rfl k) ?_
                        refine MD_lift (fun G z Q k => T_getR 0 78 79 (dk dt_doAct 311 rfl) fl_169 mk_0 ml_0 (by decide) rfl rfl k) ?_
                        refine MD_lift (fun G z Q k => T_iload_n 5 (dk dt_doAct 312 rfl) rfl rfl k) ?_
                        refine MD_lift (fun G z Q k => T_iload 1 (dk dt_doAct 313 rfl) rfl k) ?_
                        obtain ⟨h86, h⟩ := h
                        obtain ⟨x87, ex87⟩ : ∃ z, z = si x6 79 (l1 : Int32).toNatClampNeg (x6.1 0 88) := ⟨_, rfl⟩
                        have h := h x87 ex87
                        refine MD_wk 79 ((l1 : Int32).toNatClampNeg) (x6.1 0 88) (fun G z Q k => T_iast 79 6 (dk dt_doAct 314 rfl) mk_79 ml_79 h86 k) (hm_a (by decide) _ _) ?_
                        rw [← ex87]
                        refine MD_lift (fun G z Q k => T_aload_n 4 (dk dt_doAct 315 rfl) rfl rfl k) ?_
                        refine MD_lift (fun G z Q k => T_aload_n 4 (dk dt_doAct 316 rfl) rfl rfl k) ?_
                        obtain ⟨h88, h⟩ := h
                        refine MD_read (fun z => z.1 0 90) (fun G z Q k => T_getI 0 90 (dk dt_doAct 317 rfl) fl_626 mk_0 ml_0 (by decide) rfl k) (fun z e => e 0 90 (Or.inr h88)) ?_
                        obtain ⟨x89, ex89⟩ : ∃ z, z = si x87 0 93 (x87.1 0 90) := ⟨_, rfl⟩
                        have h := h x89 ex89
                        refine MD_wr 0 93 (x87.1 0 90) (fun G z Q k => T_putI 0 93 (dk dt_doAct 318 rfl) fl_638 mk_0 ml_0 (by decide) rfl ⟨rfl, rfl⟩ k) (hm_f (by decide) _) ?_
                        rw [← ex89]
                        refine MD_lift (fun G z Q k => T_goto 667 (dk dt_doAct 319 rfl) (by decide) k) ?_
                        exact MD_lift (fun G z Q k => T_sub [4, 5, 3, 2, 1, 0] rfl k) h
                      · have h := h.2
                        by_cases c90 : r3 = 14
                        · have h := h.1 c90
                          refine MD_lift (fun G z Q k => T_table 587 649 (dk dt_doAct 36 rfl) (by decide) (by rw [c90]; decide +kernel) (by decide) k) ?_
                          refine MD_lift (fun G z Q k => T_aload_n 4 (dk dt_doAct 320 rfl) rfl rfl k) ?_
                          refine MD_lift (fun G z Q k => T_getR 0 78 79 (dk dt_doAct 321 rfl) fl_169 mk_0 ml_0 (by decide) rfl rfl k) ?_
                          refine MD_lift (fun G z Q k => T_iload_n 5 (dk dt_doAct 322 rfl) rfl rfl k) ?_
                          refine MD_lift (fun G z Q k => T_iconst (v := (-1)) (dk dt_doAct 323 rfl) (by decide +kernel) k) ?_
                          obtain ⟨h91, h⟩ := h
                          obtain ⟨x92, ex92⟩ : ∃ z, z = si x6 79 (l1 : Int32).toNatClampNeg (-1) := ⟨_, rfl⟩
                          have h := h x92 ex92
                          refine MD_wk 79 ((l1 : Int32).toNatClampNeg) (-1) (fun G z Q k => T_iast 79 6 (dk dt_doAct 324 rfl) mk_79 ml_79 h91 k) (hm_a (by decide) _ _) ?_
                          rw [← ex92]
                          refine MD_lift (fun G z Q k => T_aload_n 4 (dk dt_doAct 325 rfl) rfl rfl k) ?_
                          refine MD_lift (fun G z Q k => T_aload_n 4 (dk dt_doAct 326 rfl) rfl rfl k) ?_
                          obtain ⟨h93, h⟩ := h
                          refine MD_read (fun z => z.1 0 90) (fun G z Q k => T_getI 0 90 (dk dt_doAct 327 rfl) fl_626 mk_0 ml_0 (by decide) rfl k) (fun z e => e 0 90 (Or.inr h93)) ?_
                          obtain ⟨x94, ex94⟩ : ∃ z, z = si x92 0 93 (x92.1 0 90) := ⟨_, rfl⟩
                          have h := h x94 ex94
                          refine MD_wr 0 93 (x92.1 0 90) (fun G z Q k => T_putI 0 93 (dk dt_doAct 328 rfl) fl_638 mk_0 ml_0 (by decide) rfl ⟨rfl, rfl⟩ k) (hm_f (by decide) _) ?_
                          rw [← ex94]
                          refine MD_lift (fun G z Q k => T_goto 667 (dk dt_doAct 329 rfl) (by decide) k) ?_
                          exact MD_lift (fun G z Q k => T_sub [4, 5, 3, 2, 1, 0] rfl k) h
                        · have h := h.2
                          have n95 : ∀ k ∈ [(0 : Int32), (1 : Int32), (2 : Int32), (3 : Int32), (4 : Int32), (5 : Int32), (15 : Int32), (6 : Int32), (7 : Int32), (8 : Int32), (9 : Int32), (13 : Int32), (14 : Int32)], ¬ r3 = k := (gno c10 (gno c14 (gno (fun q9 => c36 (Or.inl q9)) (gno (fun q9 => c36 (Or.inr (Or.inl q9))) (gno (fun q9 => c36 (Or.inr (Or.inr (q9)))) (gno c42 (gno c48 (gno c58 (gno c68 (gno c78 (gno c79 (gno c85 (gno c90 gno0)))))))))))))
                          have h := h n95
                          refine MD_lift (fun G z Q k => T_table 605 667 (dk dt_doAct 36 rfl) (by decide) (gtab_d [(0 : Int32), (1 : Int32), (2 : Int32), (3 : Int32), (4 : Int32), (5 : Int32), (15 : Int32), (6 : Int32), (7 : Int32), (8 : Int32), (9 : Int32), (13 : Int32), (14 : Int32)] (by decide +kernel) n95) (by decide) k) ?_
                          exact MD_lift (fun G z Q k => T_sub [4, 5, 3, 2, 1, 0] rfl k) h
  · have h := h.2 c8
    refine MD_lift (fun G z Q k => T_if_le 51 (dk dt_doAct 20 rfl) (by decide) (fun q => absurd q c8) (fun _ => k)) ?_
    refine MD_lift (fun G z Q k => T_aload_n 2 (dk dt_doAct 21 rfl) rfl rfl k) ?_
    refine MD_lift (fun G z Q k => T_iload_n 3 (dk dt_doAct 22 rfl) rfl rfl k) ?_
    refine MD_lift (fun G z Q k => T_aload_n 2 (dk dt_doAct 23 rfl) rfl rfl k) ?_
    obtain ⟨h96, h⟩ := h
    refine MD_read (fun z => z.1 0 89) (fun G z Q k => T_getI 0 89 (dk dt_doAct 24 rfl) fl_620 mk_0 ml_0 (by decide) rfl k) (fun z e => e 0 89 (Or.inr h96)) ?_
    refine MD_callv (fun G z F Q k kk => MT_callVv [vi l1, vi (x6.1 0 89)] [] rfl (dk dt_doAct 25 rfl) cv_590 rfl rfl (Nat.le_of_ble_eq_true rfl) (Nat.le_of_ble_eq_true rfl) rfl rfl k kk) h (fun x97 S97 h => ?_)
    refine MD_lift (fun G z Q k => T_aload_n 2 (dk dt_doAct 26 rfl) rfl rfl k) ?_
    refine MD_lift (fun G z Q k => T_iload_n 3 (dk dt_doAct 27 rfl) rfl rfl k) ?_
    refine MD_callv (fun G z F Q k kk => MT_callVv [vi l1] [] rfl (dk dt_doAct 28 rfl) cv_596 rfl rfl (Nat.le_of_ble_eq_true rfl) (Nat.le_of_ble_eq_true rfl) rfl rfl k kk) h (fun x98 S98 h => ?_)
    exact MD_ret (fun G z Q k => MT_vret (dk dt_doAct 29 rfl) rfl k) h
set_option maxRecDepth 100000 in
set_option maxHeartbeats 4000000 in
theorem sd_doAct_278 {d : Nat} {S : gS} {x : gd} {P : Option gv → gd → gS → Prop} (l1 : Int32) (l3 : Int32) (l4 : Int32) (l5 : Int32) (s0 : Int32)
    (h : ((¬ (l4 = (4 : Int32)) → vp_in l5 24 ∧ MD (d + 1) z_doAct 301 [(0, vr 0), (1, vi l1), (3, vi l3), (4, vi l4), (5, vi l5), (7, vi s0)] [vi (x.1 70 (l5 : Int32).toNatClampNeg)] S x P) ∧ (l4 = (4 : Int32) → MD d z_one 0 [(0, vi s0)] [] S x (Di (fun r3 x2 S2 => MD (d + 1) z_doAct 301 [(0, vr 0), (1, vi l1), (3, vi l3), (4, vi l4), (5, vi l5), (7, vi s0)] [vi r3] S2 x2 P))))) :
    MD (d + 1) z_doAct 278 [(0, vr 0), (1, vi l1), (3, vi l3), (4, vi l4), (5, vi l5)] [vi s0] S x P := by
  refine MD_lift (fun G z Q k => T_istore (lv2 := [(7, vi s0), (0, vr 0), (1, vi l1), (3, vi l3), (4, vi l4), (5, vi l5)]) (dk dt_doAct 115 rfl) (by decide) rfl k) ?_
  refine MD_lift (fun G z Q k => T_iload 4 (dk dt_doAct 116 rfl) rfl k) ?_
  refine MD_lift (fun G z Q k => T_iconst (v := 4) (dk dt_doAct 117 rfl) (by decide +kernel) k) ?_
  by_cases c1 : l4 = (4 : Int32)
  · have h := h.2 c1
    refine MD_lift (fun G z Q k => T_icmp_ne 294 (dk dt_doAct 118 rfl) (by decide) (fun q => absurd c1 q) (fun _ => k)) ?_
    refine MD_lift (fun G z Q k => T_iload 0 (dk dt_doAct 119 rfl) rfl k) ?_
    refine MD_calli (fun G z F Q k kk => MT_callSi [vi s0] [] rfl (dk dt_doAct 120 rfl) cs_587 rfl (Nat.le_of_ble_eq_true rfl) (Nat.le_of_ble_eq_true rfl) rfl rfl k kk) h (fun r3 x2 S2 h => ?_)
    refine MD_lift (fun G z Q k => T_goto 301 (dk dt_doAct 121 rfl) (by decide) k) ?_
    exact MD_lift (fun G z Q k => T_sub [1, 2, 3, 4, 5, 0] rfl k) h
  · have h := h.1 c1
    refine MD_lift (fun G z Q k => T_icmp_ne 294 (dk dt_doAct 118 rfl) (by decide) (fun _ => k) (fun q => absurd q c1)) ?_
    refine MD_lift (fun G z Q k => T_aload_n 1 (dk dt_doAct 122 rfl) rfl rfl k) ?_
    refine MD_lift (fun G z Q k => T_getR 0 69 70 (dk dt_doAct 123 rfl) fl_142 mk_0 ml_0 (by decide) rfl rfl k) ?_
    refine MD_lift (fun G z Q k => T_iload 5 (dk dt_doAct 124 rfl) rfl k) ?_
    obtain ⟨h4, h⟩ := h
    refine MD_read (fun z => z.1 70 (l5 : Int32).toNatClampNeg) (fun G z Q k => T_iald 70 24 (dk dt_doAct 125 rfl) mk_70 ml_70 h4 k) (fun z e => e 70 _ (Or.inl (core_a (by decide) h4))) ?_
    exact MD_lift (fun G z Q k => T_sub [1, 2, 3, 4, 5, 0] rfl k) h
set_option maxRecDepth 100000 in
set_option maxHeartbeats 4000000 in
theorem sd_doAct_301 {d : Nat} {S : gS} {x : gd} {P : Option gv → gd → gS → Prop} (l1 : Int32) (l3 : Int32) (l4 : Int32) (l5 : Int32) (l7 : Int32) (s0 : Int32)
    (h : ((¬ (l4 = (2 : Int32)) → ((¬ (l4 = (3 : Int32)) → ((l7 = (0 : Int32) → vp_in l5 24 ∧ vp_in l5 24 ∧ (∀ x17 : gd, x17 = si x 70 (l5 : Int32).toNatClampNeg (x.1 70 (l5 : Int32).toNatClampNeg) → vp_in l5 24 ∧ (∀ x19 : gd, x19 = si x17 0 93 (x17.1 70 (l5 : Int32).toNatClampNeg) → MD (d + 1) z_doAct 667 [(0, vr 0), (1, vi l1), (3, vi l3), (4, vi l4), (5, vi l5), (6, vi s0)] [] (sadd S 0 93) x19 P))) ∧ (¬ (l7 = (0 : Int32)) → S 0 91 ∧ vp_in l5 24 ∧ (∀ x22 : gd, x22 = si x 70 (l5 : Int32).toNatClampNeg (x.1 0 91) → vp_in l5 24 ∧ (∀ x24 : gd, x24 = si x22 0 93 (x22.1 70 (l5 : Int32).toNatClampNeg) → MD (d + 1) z_doAct 667 [(0, vr 0), (1, vi l1), (3, vi l3), (4, vi l4), (5, vi l5), (6, vi s0)] [] (sadd S 0 93) x24 P))))) ∧ (l4 = (3 : Int32) → vp_in l5 24 ∧ S 0 90 ∧ vp_in l5 24 ∧ (∀ x11 : gd, x11 = si x 70 (l5 : Int32).toNatClampNeg ((x.1 70 (l5 : Int32).toNatClampNeg) + (x.1 0 90)) → vp_in l5 24 ∧ (∀ x13 : gd, x13 = si x11 0 93 (x11.1 70 (l5 : Int32).toNatClampNeg) → MD (d + 1) z_doAct 667 [(0, vr 0), (1, vi l1), (3, vi l3), (4, vi l4), (5, vi l5), (6, vi s0)] [] (sadd S 0 93) x13 P))))) ∧ (l4 = (2 : Int32) → S 0 90 ∧ vp_in l5 24 ∧ (∀ x4 : gd, x4 = si x 70 (l5 : Int32).toNatClampNeg (x.1 0 90) → vp_in l5 24 ∧ (∀ x6 : gd, x6 = si x4 0 93 (x4.1 70 (l5 : Int32).toNatClampNeg) → MD (d + 1) z_doAct 667 [(0, vr 0), (1, vi l1), (3, vi l3), (4, vi l4), (5, vi l5), (6, vi s0)] [] (sadd S 0 93) x6 P))))) :
    MD (d + 1) z_doAct 301 [(0, vr 0), (1, vi l1), (3, vi l3), (4, vi l4), (5, vi l5), (7, vi l7)] [vi s0] S x P := by
  refine MD_lift (fun G z Q k => T_istore (lv2 := [(6, vi s0), (0, vr 0), (1, vi l1), (3, vi l3), (4, vi l4), (5, vi l5), (7, vi l7)]) (dk dt_doAct 126 rfl) (by decide) rfl k) ?_
  refine MD_lift (fun G z Q k => T_aload_n 1 (dk dt_doAct 127 rfl) rfl rfl k) ?_
  refine MD_lift (fun G z Q k => T_getR 0 69 70 (dk dt_doAct 128 rfl) fl_142 mk_0 ml_0 (by decide) rfl rfl k) ?_
  refine MD_lift (fun G z Q k => T_iload 5 (dk dt_doAct 129 rfl) rfl k) ?_
  refine MD_lift (fun G z Q k => T_iload 4 (dk dt_doAct 130 rfl) rfl k) ?_
  refine MD_lift (fun G z Q k => T_iconst (v := 2) (dk dt_doAct 131 rfl) (by decide +kernel) k) ?_
  by_cases c1 : l4 = (2 : Int32)
  · have h := h.2 c1
    refine MD_lift (fun G z Q k => T_icmp_ne 322 (dk dt_doAct 132 rfl) (by decide) (fun q => absurd c1 q) (fun _ => k)) ?_
    refine MD_lift (fun G z Q k => T_aload_n 1 (dk dt_doAct 133 rfl) rfl rfl k) ?_
    obtain ⟨h2, h⟩ := h
    refine MD_read (fun z => z.1 0 90) (fun G z Q k => T_getI 0 90 (dk dt_doAct 134 rfl) fl_626 mk_0 ml_0 (by decide) rfl k) (fun z e => e 0 90 (Or.inr h2)) ?_
    refine MD_lift (fun G z Q k => T_goto 362 (dk dt_doAct 135 rfl) (by decide) k) ?_
    obtain ⟨h3, h⟩ := h
    obtain ⟨x4, ex4⟩ : ∃ z, z = si x 70 (l5 : Int32).toNatClampNeg (x.1 0 90) := ⟨_, rfl⟩
    have h := h x4 ex4
    refine MD_wk 70 ((l5 : Int32).toNatClampNeg) (x.1 0 90) (fun G z Q k => T_iast 70 24 (dk dt_doAct 156 rfl) mk_70 ml_70 h3 k) (hm_a (by decide) _ _) ?_
    rw [← ex4]
    refine MD_lift (fun G z Q k => T_aload_n 1 (dk dt_doAct 157 rfl) rfl rfl k) ?_
    refine MD_lift (fun G z Q k => T_aload_n 1 (dk dt_doAct 158 rfl) rfl rfl k) ?_
    refine MD_lift (fun G z Q k => T_getR 0 69 70 (dk dt_doAct 159 rfl) fl_142 mk_0 ml_0 (by decide) rfl rfl k) ?_
    refine MD_lift (fun G z Q k => T_iload 5 (dk dt_doAct 160 rfl) rfl k) ?_
    obtain ⟨h5, h⟩ := h
    refine MD_read (fun z => z.1 70 (l5 : Int32).toNatClampNeg) (fun G z Q k => T_iald 70 24 (dk dt_doAct 161 rfl) mk_70 ml_70 h5 k) (fun z e => e 70 _ (Or.inl (core_a (by decide) h5))) ?_
    obtain ⟨x6, ex6⟩ : ∃ z, z = si x4 0 93 (x4.1 70 (l5 : Int32).toNatClampNeg) := ⟨_, rfl⟩
    have h := h x6 ex6
    refine MD_wr 0 93 (x4.1 70 (l5 : Int32).toNatClampNeg) (fun G z Q k => T_putI 0 93 (dk dt_doAct 162 rfl) fl_638 mk_0 ml_0 (by decide) rfl ⟨rfl, rfl⟩ k) (hm_f (by decide) _) ?_
    rw [← ex6]
    refine MD_lift (fun G z Q k => T_goto 667 (dk dt_doAct 163 rfl) (by decide) k) ?_
    exact MD_lift (fun G z Q k => T_sub [1, 2, 3, 4, 5, 0] rfl k) h
  · have h := h.1 c1
    refine MD_lift (fun G z Q k => T_icmp_ne 322 (dk dt_doAct 132 rfl) (by decide) (fun _ => k) (fun q => absurd q c1)) ?_
    refine MD_lift (fun G z Q k => T_iload 4 (dk dt_doAct 136 rfl) rfl k) ?_
    refine MD_lift (fun G z Q k => T_iconst (v := 3) (dk dt_doAct 137 rfl) (by decide +kernel) k) ?_
    by_cases c7 : l4 = (3 : Int32)
    · have h := h.2 c7
      refine MD_lift (fun G z Q k => T_icmp_ne 343 (dk dt_doAct 138 rfl) (by decide) (fun q => absurd c7 q) (fun _ => k)) ?_
      refine MD_lift (fun G z Q k => T_aload_n 1 (dk dt_doAct 139 rfl) rfl rfl k) ?_
      refine MD_lift (fun G z Q k => T_getR 0 69 70 (dk dt_doAct 140 rfl) fl_142 mk_0 ml_0 (by decide) rfl rfl k) ?_
      refine MD_lift (fun G z Q k => T_iload 5 (dk dt_doAct 141 rfl) rfl k) ?_
      obtain ⟨h8, h⟩ := h
      refine MD_read (fun z => z.1 70 (l5 : Int32).toNatClampNeg) (fun G z Q k => T_iald 70 24 (dk dt_doAct 142 rfl) mk_70 ml_70 h8 k) (fun z e => e 70 _ (Or.inl (core_a (by decide) h8))) ?_
      refine MD_lift (fun G z Q k => T_aload_n 1 (dk dt_doAct 143 rfl) rfl rfl k) ?_
      obtain ⟨h9, h⟩ := h
      refine MD_read (fun z => z.1 0 90) (fun G z Q k => T_getI 0 90 (dk dt_doAct 144 rfl) fl_626 mk_0 ml_0 (by decide) rfl k) (fun z e => e 0 90 (Or.inr h9)) ?_
      refine MD_lift (fun G z Q k => T_iadd (dk dt_doAct 145 rfl) k) ?_
      refine MD_lift (fun G z Q k => T_goto 362 (dk dt_doAct 146 rfl) (by decide) k) ?_
      obtain ⟨h10, h⟩ := h
      obtain ⟨x11, ex11⟩ : ∃ z, z = si x 70 (l5 : Int32).toNatClampNeg ((x.1 70 (l5 : Int32).toNatClampNeg) + (x.1 0 90)) := ⟨_, rfl⟩
      have h := h x11 ex11
      refine MD_wk 70 ((l5 : Int32).toNatClampNeg) ((x.1 70 (l5 : Int32).toNatClampNeg) + (x.1 0 90)) (fun G z Q k => T_iast 70 24 (dk dt_doAct 156 rfl) mk_70 ml_70 h10 k) (hm_a (by decide) _ _) ?_
      rw [← ex11]
      refine MD_lift (fun G z Q k => T_aload_n 1 (dk dt_doAct 157 rfl) rfl rfl k) ?_
      refine MD_lift (fun G z Q k => T_aload_n 1 (dk dt_doAct 158 rfl) rfl rfl k) ?_
      refine MD_lift (fun G z Q k => T_getR 0 69 70 (dk dt_doAct 159 rfl) fl_142 mk_0 ml_0 (by decide) rfl rfl k) ?_
      refine MD_lift (fun G z Q k => T_iload 5 (dk dt_doAct 160 rfl) rfl k) ?_
      obtain ⟨h12, h⟩ := h
      refine MD_read (fun z => z.1 70 (l5 : Int32).toNatClampNeg) (fun G z Q k => T_iald 70 24 (dk dt_doAct 161 rfl) mk_70 ml_70 h12 k) (fun z e => e 70 _ (Or.inl (core_a (by decide) h12))) ?_
      obtain ⟨x13, ex13⟩ : ∃ z, z = si x11 0 93 (x11.1 70 (l5 : Int32).toNatClampNeg) := ⟨_, rfl⟩
      have h := h x13 ex13
      refine MD_wr 0 93 (x11.1 70 (l5 : Int32).toNatClampNeg) (fun G z Q k => T_putI 0 93 (dk dt_doAct 162 rfl) fl_638 mk_0 ml_0 (by decide) rfl ⟨rfl, rfl⟩ k) (hm_f (by decide) _) ?_
      rw [← ex13]
      refine MD_lift (fun G z Q k => T_goto 667 (dk dt_doAct 163 rfl) (by decide) k) ?_
      exact MD_lift (fun G z Q k => T_sub [1, 2, 3, 4, 5, 0] rfl k) h
    · have h := h.1 c7
      refine MD_lift (fun G z Q k => T_icmp_ne 343 (dk dt_doAct 138 rfl) (by decide) (fun _ => k) (fun q => absurd q c7)) ?_
      refine MD_lift (fun G z Q k => T_iload 6 (dk dt_doAct 147 rfl) rfl k) ?_
      by_cases c14 : l7 = (0 : Int32)
      · have h := h.1 c14
        refine MD_lift (fun G z Q k => T_if_eq 355 (dk dt_doAct 148 rfl) (by decide) (fun _ => k) (fun q => absurd c14 q)) ?_
        refine MD_lift (fun G z Q k => T_aload_n 1 (dk dt_doAct 152 rfl) rfl rfl k) ?_
        refine MD_lift (fun G z Q k => T_getR 0 69 70 (dk dt_doAct 153 rfl) fl_142 mk_0 ml_0 (by decide) rfl rfl k) ?_
        refine MD_lift (fun G z Q k => T_iload 5 (dk dt_doAct 154 rfl) rfl k) ?_
        obtain ⟨h15, h⟩ := h
        refine MD_read (fun z => z.1 70 (l5 : Int32).toNatClampNeg) (fun G z Q k => T_iald 70 24 (dk dt_doAct 155 rfl) mk_70 ml_70 h15 k) (fun z e => e 70 _ (Or.inl (core_a (by decide) h15))) ?_
        obtain ⟨h16, h⟩ := h
        obtain ⟨x17, ex17⟩ : ∃ z, z = si x 70 (l5 : Int32).toNatClampNeg (x.1 70 (l5 : Int32).toNatClampNeg) := ⟨_, rfl⟩
        have h := h x17 ex17
        refine MD_wk 70 ((l5 : Int32).toNatClampNeg) (x.1 70 (l5 : Int32).toNatClampNeg) (fun G z Q k => T_iast 70 24 (dk dt_doAct 156 rfl) mk_70 ml_70 h16 k) (hm_a (by decide) _ _) ?_
        rw [← ex17]
        refine MD_lift (fun G z Q k => T_aload_n 1 (dk dt_doAct 157 rfl) rfl rfl k) ?_
        refine MD_lift (fun G z Q k => T_aload_n 1 (dk dt_doAct 158 rfl) rfl rfl k) ?_
        refine MD_lift (fun G z Q k => T_getR 0 69 70 (dk dt_doAct 159 rfl) fl_142 mk_0 ml_0 (by decide) rfl rfl k) ?_
        refine MD_lift (fun G z Q k => T_iload 5 (dk dt_doAct 160 rfl) rfl k) ?_
        obtain ⟨h18, h⟩ := h
        refine MD_read (fun z => z.1 70 (l5 : Int32).toNatClampNeg) (fun G z Q k => T_iald 70 24 (dk dt_doAct 161 rfl) mk_70 ml_70 h18 k) (fun z e => e 70 _ (Or.inl (core_a (by decide) h18))) ?_
        obtain ⟨x19, ex19⟩ : ∃ z, z = si x17 0 93 (x17.1 70 (l5 : Int32).toNatClampNeg) := ⟨_, rfl⟩
        have h := h x19 ex19
        refine MD_wr 0 93 (x17.1 70 (l5 : Int32).toNatClampNeg) (fun G z Q k => T_putI 0 93 (dk dt_doAct 162 rfl) fl_638 mk_0 ml_0 (by decide) rfl ⟨rfl, rfl⟩ k) (hm_f (by decide) _) ?_
        rw [← ex19]
        refine MD_lift (fun G z Q k => T_goto 667 (dk dt_doAct 163 rfl) (by decide) k) ?_
        exact MD_lift (fun G z Q k => T_sub [1, 2, 3, 4, 5, 0] rfl k) h
      · have h := h.2 c14
        refine MD_lift (fun G z Q k => T_if_eq 355 (dk dt_doAct 148 rfl) (by decide) (fun q => absurd q c14) (fun _ => k)) ?_
        refine MD_lift (fun G z Q k => T_aload_n 1 (dk dt_doAct 149 rfl) rfl rfl k) ?_
        obtain ⟨h20, h⟩ := h
        refine MD_read (fun z => z.1 0 91) (fun G z Q k => T_getI 0 91 (dk dt_doAct 150 rfl) fl_629 mk_0 ml_0 (by decide) rfl k) (fun z e => e 0 91 (Or.inr h20)) ?_
        refine MD_lift (fun G z Q k => T_goto 362 (dk dt_doAct 151 rfl) (by decide) k) ?_
        obtain ⟨h21, h⟩ := h
        obtain ⟨x22, ex22⟩ : ∃ z, z = si x 70 (l5 : Int32).toNatClampNeg (x.1 0 91) := ⟨_, rfl⟩
        have h := h x22 ex22
        refine MD_wk 70 ((l5 : Int32).toNatClampNeg) (x.1 0 91) (fun G z Q k => T_iast 70 24 (dk dt_doAct 156 rfl) mk_70 ml_70 h21 k) (hm_a (by decide) _ _) ?_
        rw [← ex22]
        refine MD_lift (fun G z Q k => T_aload_n 1 (dk dt_doAct 157 rfl) rfl rfl k) ?_
        refine MD_lift (fun G z Q k => T_aload_n 1 (dk dt_doAct 158 rfl) rfl rfl k) ?_
        refine MD_lift (fun G z Q k => T_getR 0 69 70 (dk dt_doAct 159 rfl) fl_142 mk_0 ml_0 (by decide) rfl rfl k) ?_
        refine MD_lift (fun G z Q k => T_iload 5 (dk dt_doAct 160 rfl) rfl k) ?_
        obtain ⟨h23, h⟩ := h
        refine MD_read (fun z => z.1 70 (l5 : Int32).toNatClampNeg) (fun G z Q k => T_iald 70 24 (dk dt_doAct 161 rfl) mk_70 ml_70 h23 k) (fun z e => e 70 _ (Or.inl (core_a (by decide) h23))) ?_
        obtain ⟨x24, ex24⟩ : ∃ z, z = si x22 0 93 (x22.1 70 (l5 : Int32).toNatClampNeg) := ⟨_, rfl⟩
        have h := h x24 ex24
        refine MD_wr 0 93 (x22.1 70 (l5 : Int32).toNatClampNeg) (fun G z Q k => T_putI 0 93 (dk dt_doAct 162 rfl) fl_638 mk_0 ml_0 (by decide) rfl ⟨rfl, rfl⟩ k) (hm_f (by decide) _) ?_
        rw [← ex24]
        refine MD_lift (fun G z Q k => T_goto 667 (dk dt_doAct 163 rfl) (by decide) k) ?_
        exact MD_lift (fun G z Q k => T_sub [1, 2, 3, 4, 5, 0] rfl k) h
set_option maxRecDepth 100000 in
set_option maxHeartbeats 4000000 in
theorem sd_doAct_513 {d : Nat} {S : gS} {x : gd} {P : Option gv → gd → gS → Prop} (l1 : Int32) (l2 : Int32) (l3 : Int32) (l4 : Int32) (l5 : Int32) (l6 : Int32) (l8 : Int32)
    (h : (((x.1 0 25) ≤ l8 → MD (d + 1) z_doAct 667 [(0, vr 0), (1, vi l1), (3, vi l3), (4, vi l4), (5, vi l5), (6, vi l6)] [] S x P) ∧ (¬ ((x.1 0 25) ≤ l8) → vp_in l8 6 ∧ ((¬ ((x.1 77 (l8 : Int32).toNatClampNeg) = (1 : Int32)) → MD (d + 1) z_doAct 571 [(0, vr 0), (1, vi l1), (2, vi l2), (3, vi l3), (4, vi l4), (5, vi l5), (6, vi l6), (8, vi l8)] [vi 0] S x P) ∧ ((x.1 77 (l8 : Int32).toNatClampNeg) = (1 : Int32) → vp_in l8 6 ∧ vp_in (x.1 74 (l8 : Int32).toNatClampNeg) 1500 ∧ ((¬ ((x.1 56 (x.1 74 (l8 : Int32).toNatClampNeg : Int32).toNatClampNeg) = l5) → MD (d + 1) z_doAct 571 [(0, vr 0), (1, vi l1), (2, vi l2), (3, vi l3), (4, vi l4), (5, vi l5), (6, vi l6), (8, vi l8)] [vi 0] S x P) ∧ ((x.1 56 (x.1 74 (l8 : Int32).toNatClampNeg : Int32).toNatClampNeg) = l5 → vp_in l3 1500 ∧ (((x.1 57 (l3 : Int32).toNatClampNeg) = (1 : Int32) → MD (d + 1) z_doAct 571 [(0, vr 0), (1, vi l1), (2, vi l2), (3, vi l3), (4, vi l4), (5, vi l5), (6, vi l6), (8, vi l8)] [vi 1] S x P) ∧ (¬ ((x.1 57 (l3 : Int32).toNatClampNeg) = (1 : Int32)) → ((¬ (l2 = l8) → MD (d + 1) z_doAct 571 [(0, vr 0), (1, vi l1), (2, vi l2), (3, vi l3), (4, vi l4), (5, vi l5), (6, vi l6), (8, vi l8)] [vi 0] S x P) ∧ (l2 = l8 → MD (d + 1) z_doAct 571 [(0, vr 0), (1, vi l1), (2, vi l2), (3, vi l3), (4, vi l4), (5, vi l5), (6, vi l6), (8, vi l8)] [vi 1] S x P))))))))))) :
    MD (d + 1) z_doAct 513 [(0, vr 0), (1, vi l1), (2, vi l2), (3, vi l3), (4, vi l4), (5, vi l5), (6, vi l6), (8, vi l8)] [] S x P := by
  refine MD_lift (fun G z Q k => T_iload 7 (dk dt_doAct 249 rfl) rfl k) ?_
  refine MD_lift (fun G z Q k => T_aload_n 0 (dk dt_doAct 250 rfl) rfl rfl k) ?_
  refine MD_read (fun z => z.1 0 25) (fun G z Q k => T_getI 0 25 (dk dt_doAct 251 rfl) fl_461 mk_0 ml_0 (by decide) rfl k) (fun z e => e 0 25 (Or.inl (core_f (by decide)))) ?_
  by_cases c1 : (x.1 0 25) ≤ l8
  · have h := h.1 c1
    refine MD_lift (fun G z Q k => T_icmp_ge 602 (dk dt_doAct 252 rfl) (by decide) (fun _ => k) (fun q => absurd c1 q)) ?_
    refine MD_lift (fun G z Q k => T_goto 667 (dk dt_doAct 295 rfl) (by decide) k) ?_
    exact MD_lift (fun G z Q k => T_sub [0, 1, 3, 4, 5, 6] rfl k) h
  · have h := h.2 c1
    refine MD_lift (fun G z Q k => T_icmp_ge 602 (dk dt_doAct 252 rfl) (by decide) (fun q => absurd q c1) (fun _ => k)) ?_
    refine MD_lift (fun G z Q k => T_aload_n 0 (dk dt_doAct 253 rfl) rfl rfl k) ?_
    refine MD_lift (fun G z Q k => T_getR 0 76 77 (dk dt_doAct 254 rfl) fl_163 mk_0 ml_0 (by decide) rfl rfl k) ?_
    refine MD_lift (fun G z Q k => T_iload 7 (dk dt_doAct 255 rfl) rfl k) ?_
    obtain ⟨h2, h⟩ := h
    refine MD_read (fun z => z.1 77 (l8 : Int32).toNatClampNeg) (fun G z Q k => T_iald 77 6 (dk dt_doAct 256 rfl) mk_77 ml_77 h2 k) (fun z e => e 77 _ (Or.inl (core_a (by decide) h2))) ?_
    refine MD_lift (fun G z Q k => T_iconst (v := 1) (dk dt_doAct 257 rfl) (by decide +kernel) k) ?_
    by_cases c3 : (x.1 77 (l8 : Int32).toNatClampNeg) = (1 : Int32)
    · have h := h.2 c3
      refine MD_lift (fun G z Q k => T_icmp_ne 570 (dk dt_doAct 258 rfl) (by decide) (fun q => absurd c3 q) (fun _ => k)) ?_
      refine MD_lift (fun G z Q k => T_aload_n 0 (dk dt_doAct 259 rfl) rfl rfl k) ?_
      refine MD_lift (fun G z Q k => T_getR 0 55 56 (dk dt_doAct 260 rfl) fl_109 mk_0 ml_0 (by decide) rfl rfl k) ?_
      refine MD_lift (fun G z Q k => T_aload_n 0 (dk dt_doAct 261 rfl) rfl rfl k) ?_
      refine MD_lift (fun G z Q k => T_getR 0 73 74 (dk dt_doAct 262 rfl) fl_154 mk_0 ml_0 (by decide) rfl rfl k) ?_
      refine MD_lift (fun G z Q k => T_iload 7 (dk dt_doAct 263 rfl) rfl k) ?_
      obtain ⟨h4, h⟩ := h
      refine MD_read (fun z => z.1 74 (l8 : Int32).toNatClampNeg) (fun G z Q k => T_iald 74 6 (dk dt_doAct 264 rfl) mk_74 ml_74 h4 k) (fun z e => e 74 _ (Or.inl (core_a (by decide) h4))) ?_
      obtain ⟨h5, h⟩ := h
      refine MD_read (fun z => z.1 56 (x.1 74 (l8 : Int32).toNatClampNeg : Int32).toNatClampNeg) (fun G z Q k => T_iald 56 1500 (dk dt_doAct 265 rfl) mk_56 ml_56 h5 k) (fun z e => e 56 _ (Or.inl (core_a (by decide) h5))) ?_
      refine MD_lift (fun G z Q k => T_iload 5 (dk dt_doAct 266 rfl) rfl k) ?_
      by_cases c6 : (x.1 56 (x.1 74 (l8 : Int32).toNatClampNeg : Int32).toNatClampNeg) = l5
      · have h := h.2 c6
        refine MD_lift (fun G z Q k => T_icmp_ne 570 (dk dt_doAct 267 rfl) (by decide) (fun q => absurd c6 q) (fun _ => k)) ?_
        refine MD_lift (fun G z Q k => T_aload_n 0 (dk dt_doAct 268 rfl) rfl rfl k) ?_
        refine MD_lift (fun G z Q k => T_getR 0 56 57 (dk dt_doAct 269 rfl) fl_112 mk_0 ml_0 (by decide) rfl rfl k) ?_
        refine MD_lift (fun G z Q k => T_iload_n 3 (dk dt_doAct 270 rfl) rfl rfl k) ?_
        obtain ⟨h7, h⟩ := h
        refine MD_read (fun z => z.1 57 (l3 : Int32).toNatClampNeg) (fun G z Q k => T_iald 57 1500 (dk dt_doAct 271 rfl) mk_57 ml_57 h7 k) (fun z e => e 57 _ (Or.inl (core_a (by decide) h7))) ?_
        refine MD_lift (fun G z Q k => T_iconst (v := 1) (dk dt_doAct 272 rfl) (by decide +kernel) k) ?_
        by_cases c8 : (x.1 57 (l3 : Int32).toNatClampNeg) = (1 : Int32)
        · have h := h.1 c8
          refine MD_lift (fun G z Q k => T_icmp_eq 566 (dk dt_doAct 273 rfl) (by decide) (fun _ => k) (fun q => absurd c8 q)) ?_
          refine MD_lift (fun G z Q k => T_iconst (v := 1) (dk dt_doAct 277 rfl) (by decide +kernel) k) ?_
          refine MD_lift (fun G z Q k => T_goto 571 (dk dt_doAct 278 rfl) (by decide) k) ?_
          exact h
        · have h := h.2 c8
          refine MD_lift (fun G z Q k => T_icmp_eq 566 (dk dt_doAct 273 rfl) (by decide) (fun q => absurd q c8) (fun _ => k)) ?_
          refine MD_lift (fun G z Q k => T_iload_n 2 (dk dt_doAct 274 rfl) rfl rfl k) ?_
          refine MD_lift (fun G z Q k => T_iload 7 (dk dt_doAct 275 rfl) rfl k) ?_
          by_cases c9 : l2 = l8
          · have h := h.2 c9
            refine MD_lift (fun G z Q k => T_icmp_ne 570 (dk dt_doAct 276 rfl) (by decide) (fun q => absurd c9 q) (fun _ => k)) ?_
            refine MD_lift (fun G z Q k => T_iconst (v := 1) (dk dt_doAct 277 rfl) (by decide +kernel) k) ?_
            refine MD_lift (fun G z Q k => T_goto 571 (dk dt_doAct 278 rfl) (by decide) k) ?_
            exact h
          · have h := h.1 c9
            refine MD_lift (fun G z Q k => T_icmp_ne 570 (dk dt_doAct 276 rfl) (by decide) (fun _ => k) (fun q => absurd q c9)) ?_
            refine MD_lift (fun G z Q k => T_iconst (v := 0) (dk dt_doAct 279 rfl) (by decide +kernel) k) ?_
            exact h
      · have h := h.1 c6
        refine MD_lift (fun G z Q k => T_icmp_ne 570 (dk dt_doAct 267 rfl) (by decide) (fun _ => k) (fun q => absurd q c6)) ?_
        refine MD_lift (fun G z Q k => T_iconst (v := 0) (dk dt_doAct 279 rfl) (by decide +kernel) k) ?_
        exact h
    · have h := h.1 c3
      refine MD_lift (fun G z Q k => T_icmp_ne 570 (dk dt_doAct 258 rfl) (by decide) (fun _ => k) (fun q => absurd q c3)) ?_
      refine MD_lift (fun G z Q k => T_iconst (v := 0) (dk dt_doAct 279 rfl) (by decide +kernel) k) ?_
      exact h
set_option maxRecDepth 100000 in
set_option maxHeartbeats 4000000 in
theorem sd_doAct_571 {d : Nat} {S : gS} {x : gd} {P : Option gv → gd → gS → Prop} (l1 : Int32) (l2 : Int32) (l3 : Int32) (l4 : Int32) (l5 : Int32) (l6 : Int32) (l8 : Int32) (s0 : Int32)
    (h : ((s0 = (0 : Int32) → vp_in l8 6 ∧ vp_in l8 6 ∧ (∀ x4 : gd, x4 = si x 77 (l8 : Int32).toNatClampNeg (x.1 77 (l8 : Int32).toNatClampNeg) → MD (d + 1) z_doAct 513 [(0, vr 0), (1, vi l1), (2, vi l2), (3, vi l3), (4, vi l4), (5, vi l5), (6, vi l6), (8, vi (l8 + 1))] [] S x4 P)) ∧ (¬ (s0 = (0 : Int32)) → vp_in l8 6 ∧ (∀ x6 : gd, x6 = si x 77 (l8 : Int32).toNatClampNeg 2 → MD (d + 1) z_doAct 513 [(0, vr 0), (1, vi l1), (2, vi l2), (3, vi l3), (4, vi l4), (5, vi l5), (6, vi l6), (8, vi (l8 + 1))] [] S x6 P)))) :
    MD (d + 1) z_doAct 571 [(0, vr 0), (1, vi l1), (2, vi l2), (3, vi l3), (4, vi l4), (5, vi l5), (6, vi l6), (8, vi l8)] [vi s0] S x P := by
  refine MD_lift (fun G z Q k => T_istore (lv2 := [(9, vi s0), (0, vr 0), (1, vi l1), (2, vi l2), (3, vi l3), (4, vi l4), (5, vi l5), (6, vi l6), (8, vi l8)]) (dk dt_doAct 280 rfl) (by decide) rfl k) ?_
  refine MD_lift (fun G z Q k => T_aload_n 1 (dk dt_doAct 281 rfl) rfl rfl k) ?_
  refine MD_lift (fun G z Q k => T_getR 0 76 77 (dk dt_doAct 282 rfl) fl_163 mk_0 ml_0 (by decide) rfl rfl k) ?_
  refine MD_lift (fun G z Q k => T_iload 8 (dk dt_doAct 283 rfl) rfl k) ?_
  refine MD_lift (fun G z Q k => T_iload 0 (dk dt_doAct 284 rfl) rfl k) ?_
  by_cases c1 : s0 = (0 : Int32)
  · have h := h.1 c1
    refine MD_lift (fun G z Q k => T_if_eq 588 (dk dt_doAct 285 rfl) (by decide) (fun _ => k) (fun q => absurd c1 q)) ?_
    refine MD_lift (fun G z Q k => T_aload_n 1 (dk dt_doAct 288 rfl) rfl rfl k) ?_
    refine MD_lift (fun G z Q k => T_getR 0 76 77 (dk dt_doAct 289 rfl) fl_163 mk_0 ml_0 (by decide) rfl rfl k) ?_
    refine MD_lift (fun G z Q k => T_iload 8 (dk dt_doAct 290 rfl) rfl k) ?_
    obtain ⟨h2, h⟩ := h
    refine MD_read (fun z => z.1 77 (l8 : Int32).toNatClampNeg) (fun G z Q k => T_iald 77 6 (dk dt_doAct 291 rfl) mk_77 ml_77 h2 k) (fun z e => e 77 _ (Or.inl (core_a (by decide) h2))) ?_
    obtain ⟨h3, h⟩ := h
    obtain ⟨x4, ex4⟩ : ∃ z, z = si x 77 (l8 : Int32).toNatClampNeg (x.1 77 (l8 : Int32).toNatClampNeg) := ⟨_, rfl⟩
    have h := h x4 ex4
    refine MD_wk 77 ((l8 : Int32).toNatClampNeg) (x.1 77 (l8 : Int32).toNatClampNeg) (fun G z Q k => T_iast 77 6 (dk dt_doAct 292 rfl) mk_77 ml_77 h3 k) (hm_a (by decide) _ _) ?_
    rw [← ex4]
    refine MD_lift (fun G z Q k => T_iinc (v := l8 + 1) (lv2 := [(8, vi (l8 + 1)), (9, vi s0), (0, vr 0), (1, vi l1), (2, vi l2), (3, vi l3), (4, vi l4), (5, vi l5), (6, vi l6)]) 8 (dk dt_doAct 293 rfl) rfl rfl (by decide) rfl k) ?_
    refine MD_lift (fun G z Q k => T_goto 513 (dk dt_doAct 294 rfl) (by decide) k) ?_
    exact MD_lift (fun G z Q k => T_sub [2, 3, 4, 5, 6, 7, 8, 0] rfl k) h
  · have h := h.2 c1
    refine MD_lift (fun G z Q k => T_if_eq 588 (dk dt_doAct 285 rfl) (by decide) (fun q => absurd q c1) (fun _ => k)) ?_
    refine MD_lift (fun G z Q k => T_iconst (v := 2) (dk dt_doAct 286 rfl) (by decide +kernel) k) ?_
    refine MD_lift (fun G z Q k => T_goto 595 (dk dt_doAct 287 rfl) (by decide) k) ?_
    obtain ⟨h5, h⟩ := h
    obtain ⟨x6, ex6⟩ : ∃ z, z = si x 77 (l8 : Int32).toNatClampNeg 2 := ⟨_, rfl⟩
    have h := h x6 ex6
    refine MD_wk 77 ((l8 : Int32).toNatClampNeg) 2 (fun G z Q k => T_iast 77 6 (dk dt_doAct 292 rfl) mk_77 ml_77 h5 k) (hm_a (by decide) _ _) ?_
    rw [← ex6]
    refine MD_lift (fun G z Q k => T_iinc (v := l8 + 1) (lv2 := [(8, vi (l8 + 1)), (9, vi s0), (0, vr 0), (1, vi l1), (2, vi l2), (3, vi l3), (4, vi l4), (5, vi l5), (6, vi l6)]) 8 (dk dt_doAct 293 rfl) rfl rfl (by decide) rfl k) ?_
    refine MD_lift (fun G z Q k => T_goto 513 (dk dt_doAct 294 rfl) (by decide) k) ?_
    exact MD_lift (fun G z Q k => T_sub [2, 3, 4, 5, 6, 7, 8, 0] rfl k) h
set_option maxRecDepth 100000 in
set_option maxHeartbeats 4000000 in
theorem sd_doAct_667 {d : Nat} {S : gS} {x : gd} {P : Option gv → gd → gS → Prop} (l1 : Int32) (l3 : Int32) (l4 : Int32) (l5 : Int32) (l6 : Int32)
    (h : vp_in l3 1500 ∧ (((x.1 61 (l3 : Int32).toNatClampNeg) = (-1 : Int32) → MD (d + 1) z_doAct 695 [(0, vr 0), (1, vi l1), (4, vi l4), (5, vi l5)] [] S x P) ∧ (¬ ((x.1 61 (l3 : Int32).toNatClampNeg) = (-1 : Int32)) → vp_in l3 1500 ∧ vp_in ((8 * l1) + (x.1 61 (l3 : Int32).toNatClampNeg)) 48 ∧ (∀ x5 : gd, x5 = si x 76 ((8 * l1) + (x.1 61 (l3 : Int32).toNatClampNeg) : Int32).toNatClampNeg l6 → MD (d + 1) z_doAct 695 [(0, vr 0), (1, vi l1), (4, vi l4), (5, vi l5)] [] S x5 P)))) :
    MD (d + 1) z_doAct 667 [(0, vr 0), (1, vi l1), (3, vi l3), (4, vi l4), (5, vi l5), (6, vi l6)] [] S x P := by
  refine MD_lift (fun G z Q k => T_aload_n 0 (dk dt_doAct 330 rfl) rfl rfl k) ?_
  refine MD_lift (fun G z Q k => T_getR 0 60 61 (dk dt_doAct 331 rfl) fl_124 mk_0 ml_0 (by decide) rfl rfl k) ?_
  refine MD_lift (fun G z Q k => T_iload_n 2 (dk dt_doAct 332 rfl) rfl rfl k) ?_
  obtain ⟨h1, h⟩ := h
  refine MD_read (fun z => z.1 61 (l3 : Int32).toNatClampNeg) (fun G z Q k => T_iald 61 1500 (dk dt_doAct 333 rfl) mk_61 ml_61 h1 k) (fun z e => e 61 _ (Or.inl (core_a (by decide) h1))) ?_
  refine MD_lift (fun G z Q k => T_iconst (v := (-1)) (dk dt_doAct 334 rfl) (by decide +kernel) k) ?_
  by_cases c2 : (x.1 61 (l3 : Int32).toNatClampNeg) = (-1 : Int32)
  · have h := h.1 c2
    refine MD_lift (fun G z Q k => T_icmp_eq 695 (dk dt_doAct 335 rfl) (by decide) (fun _ => k) (fun q => absurd c2 q)) ?_
    exact MD_lift (fun G z Q k => T_sub [0, 1, 3, 4] rfl k) h
  · have h := h.2 c2
    refine MD_lift (fun G z Q k => T_icmp_eq 695 (dk dt_doAct 335 rfl) (by decide) (fun q => absurd q c2) (fun _ => k)) ?_
    refine MD_lift (fun G z Q k => T_aload_n 0 (dk dt_doAct 336 rfl) rfl rfl k) ?_
    refine MD_lift (fun G z Q k => T_getR 0 75 76 (dk dt_doAct 337 rfl) fl_160 mk_0 ml_0 (by decide) rfl rfl k) ?_
    refine MD_lift (fun G z Q k => T_bipush (v := 8) (dk dt_doAct 338 rfl) (by decide +kernel) k) ?_
    refine MD_lift (fun G z Q k => T_iload_n 1 (dk dt_doAct 339 rfl) rfl rfl k) ?_
    refine MD_lift (fun G z Q k => T_imul (dk dt_doAct 340 rfl) k) ?_
    refine MD_lift (fun G z Q k => T_aload_n 0 (dk dt_doAct 341 rfl) rfl rfl k) ?_
    refine MD_lift (fun G z Q k => T_getR 0 60 61 (dk dt_doAct 342 rfl) fl_124 mk_0 ml_0 (by decide) rfl rfl k) ?_
    refine MD_lift (fun G z Q k => T_iload_n 2 (dk dt_doAct 343 rfl) rfl rfl k) ?_
    obtain ⟨h3, h⟩ := h
    refine MD_read (fun z => z.1 61 (l3 : Int32).toNatClampNeg) (fun G z Q k => T_iald 61 1500 (dk dt_doAct 344 rfl) mk_61 ml_61 h3 k) (fun z e => e 61 _ (Or.inl (core_a (by decide) h3))) ?_
    refine MD_lift (fun G z Q k => T_iadd (dk dt_doAct 345 rfl) k) ?_
    refine MD_lift (fun G z Q k => T_iload 5 (dk dt_doAct 346 rfl) rfl k) ?_
    obtain ⟨h4, h⟩ := h
    obtain ⟨x5, ex5⟩ : ∃ z, z = si x 76 ((8 * l1) + (x.1 61 (l3 : Int32).toNatClampNeg) : Int32).toNatClampNeg l6 := ⟨_, rfl⟩
    have h := h x5 ex5
    refine MD_wk 76 (((8 * l1) + (x.1 61 (l3 : Int32).toNatClampNeg) : Int32).toNatClampNeg) l6 (fun G z Q k => T_iast 76 48 (dk dt_doAct 347 rfl) mk_76 ml_76 h4 k) (hm_a (by decide) _ _) ?_
    rw [← ex5]
    exact MD_lift (fun G z Q k => T_sub [0, 1, 3, 4] rfl k) h
set_option maxRecDepth 100000 in
set_option maxHeartbeats 4000000 in
theorem sd_doAct_695 {d : Nat} {S : gS} {x : gd} {P : Option gv → gd → gS → Prop} (l1 : Int32) (l4 : Int32) (l5 : Int32)
    (h : vp_in l1 6 ∧ vp_in l1 6 ∧ (∀ x3 : gd, x3 = si x 74 (l1 : Int32).toNatClampNeg ((x.1 74 (l1 : Int32).toNatClampNeg) + 1) → MD d z_own 0 [(0, vr 0), (1, vi l1)] [] S x3 (Dv (fun x4 S4 => ((¬ (l4 = (9 : Int32)) → P none x4 S4) ∧ (l4 = (9 : Int32) → MD d z_own 0 [(0, vr 0), (1, vi l5)] [] S4 x4 (Dv (fun x6 S6 => P none x6 S6)))))))) :
    MD (d + 1) z_doAct 695 [(0, vr 0), (1, vi l1), (4, vi l4), (5, vi l5)] [] S x P := by
  refine MD_lift (fun G z Q k => T_aload_n 0 (dk dt_doAct 348 rfl) rfl rfl k) ?_
  refine MD_lift (fun G z Q k => T_getR 0 73 74 (dk dt_doAct 349 rfl) fl_154 mk_0 ml_0 (by decide) rfl rfl k) ?_
  refine MD_lift (fun G z Q k => T_iload_n 1 (dk dt_doAct 350 rfl) rfl rfl k) ?_
  refine MD_lift (fun G z Q k => T_dup2 (dk dt_doAct 351 rfl) rfl rfl k) ?_
  obtain ⟨h1, h⟩ := h
  refine MD_read (fun z => z.1 74 (l1 : Int32).toNatClampNeg) (fun G z Q k => T_iald 74 6 (dk dt_doAct 352 rfl) mk_74 ml_74 h1 k) (fun z e => e 74 _ (Or.inl (core_a (by decide) h1))) ?_
  refine MD_lift (fun G z Q k => T_iconst (v := 1) (dk dt_doAct 353 rfl) (by decide +kernel) k) ?_
  refine MD_lift (fun G z Q k => T_iadd (dk dt_doAct 354 rfl) k) ?_
  obtain ⟨h2, h⟩ := h
  obtain ⟨x3, ex3⟩ : ∃ z, z = si x 74 (l1 : Int32).toNatClampNeg ((x.1 74 (l1 : Int32).toNatClampNeg) + 1) := ⟨_, rfl⟩
  have h := h x3 ex3
  refine MD_wk 74 ((l1 : Int32).toNatClampNeg) ((x.1 74 (l1 : Int32).toNatClampNeg) + 1) (fun G z Q k => T_iast 74 6 (dk dt_doAct 355 rfl) mk_74 ml_74 h2 k) (hm_a (by decide) _ _) ?_
  rw [← ex3]
  refine MD_lift (fun G z Q k => T_aload_n 0 (dk dt_doAct 356 rfl) rfl rfl k) ?_
  refine MD_lift (fun G z Q k => T_iload_n 1 (dk dt_doAct 357 rfl) rfl rfl k) ?_
  refine MD_callv (fun G z F Q k kk => MT_callVv [vi l1] [] rfl (dk dt_doAct 358 rfl) cv_599 rfl rfl (Nat.le_of_ble_eq_true rfl) (Nat.le_of_ble_eq_true rfl) rfl rfl k kk) h (fun x4 S4 h => ?_)
  refine MD_lift (fun G z Q k => T_iload 2 (dk dt_doAct 359 rfl) rfl k) ?_
  refine MD_lift (fun G z Q k => T_bipush (v := 9) (dk dt_doAct 360 rfl) (by decide +kernel) k) ?_
  by_cases c5 : l4 = (9 : Int32)
  · have h := h.2 c5
    refine MD_lift (fun G z Q k => T_icmp_ne 723 (dk dt_doAct 361 rfl) (by decide) (fun q => absurd c5 q) (fun _ => k)) ?_
    refine MD_lift (fun G z Q k => T_aload_n 0 (dk dt_doAct 362 rfl) rfl rfl k) ?_
    refine MD_lift (fun G z Q k => T_iload 3 (dk dt_doAct 363 rfl) rfl k) ?_
    refine MD_callv (fun G z F Q k kk => MT_callVv [vi l5] [] rfl (dk dt_doAct 364 rfl) cv_599 rfl rfl (Nat.le_of_ble_eq_true rfl) (Nat.le_of_ble_eq_true rfl) rfl rfl k kk) h (fun x6 S6 h => ?_)
    exact MD_ret (fun G z Q k => MT_vret (dk dt_doAct 365 rfl) rfl k) h
  · have h := h.1 c5
    refine MD_lift (fun G z Q k => T_icmp_ne 723 (dk dt_doAct 361 rfl) (by decide) (fun _ => k) (fun q => absurd q c5)) ?_
    exact MD_ret (fun G z Q k => MT_vret (dk dt_doAct 365 rfl) rfl k) h
end
section
set_option maxRecDepth 100000 in
set_option maxHeartbeats 4000000 in
theorem sd_doLate_0 {d : Nat} {S : gS} {x : gd} {P : Option gv → gd → gS → Prop} (l1 : Int32) (l2 : Int32)
    (h : vp_in ((10 * l1) + l2) 60 ∧ S 81 ((10 * l1) + l2 : Int32).toNatClampNeg ∧ vp_in ((10 * l1) + l2) 60 ∧ S 82 ((10 * l1) + l2 : Int32).toNatClampNeg ∧ vp_in (x.1 81 ((10 * l1) + l2 : Int32).toNatClampNeg) 24 ∧ (∀ x6 : gd, x6 = si x 70 (x.1 81 ((10 * l1) + l2 : Int32).toNatClampNeg : Int32).toNatClampNeg (x.1 82 ((10 * l1) + l2 : Int32).toNatClampNeg) → vp_in l1 6 ∧ vp_in l1 6 ∧ (∀ x9 : gd, x9 = si x6 80 (l1 : Int32).toNatClampNeg ((x6.1 80 (l1 : Int32).toNatClampNeg) - 1) → MD d z_doLate 39 [(0, vr 0), (1, vi l1), (3, vi l2)] [] S x9 P))) :
    MD d z_doLate 0 [(0, vr 0), (1, vi l1), (2, vi l2)] [] S x P := by
  refine MD_lift (fun G z Q k => T_aload_n 0 (dk dt_doLate 0 rfl) rfl rfl k) ?_
  refine MD_lift (fun G z Q k => T_getR 0 69 70 (dk dt_doLate 1 rfl) fl_142 mk_0 ml_0 (by decide) rfl rfl k) ?_
  refine MD_lift (fun G z Q k => T_aload_n 0 (dk dt_doLate 2 rfl) rfl rfl k) ?_
  refine MD_lift (fun G z Q k => T_getR 0 80 81 (dk dt_doLate 3 rfl) fl_175 mk_0 ml_0 (by decide) rfl rfl k) ?_
  refine MD_lift (fun G z Q k => T_bipush (v := 10) (dk dt_doLate 4 rfl) (by decide +kernel) k) ?_
  refine MD_lift (fun G z Q k => T_iload_n 1 (dk dt_doLate 5 rfl) rfl rfl k) ?_
  refine MD_lift (fun G z Q k => T_imul (dk dt_doLate 6 rfl) k) ?_
  refine MD_lift (fun G z Q k => T_iload_n 2 (dk dt_doLate 7 rfl) rfl rfl k) ?_
  refine MD_lift (fun G z Q k => T_iadd (dk dt_doLate 8 rfl) k) ?_
  obtain ⟨h1, h⟩ := h
  obtain ⟨h2, h⟩ := h
  refine MD_read (fun z => z.1 81 ((10 * l1) + l2 : Int32).toNatClampNeg) (fun G z Q k => T_iald 81 60 (dk dt_doLate 9 rfl) mk_81 ml_81 h1 k) (fun z e => e 81 _ (Or.inr h2)) ?_
  refine MD_lift (fun G z Q k => T_aload_n 0 (dk dt_doLate 10 rfl) rfl rfl k) ?_
  refine MD_lift (fun G z Q k => T_getR 0 81 82 (dk dt_doLate 11 rfl) fl_178 mk_0 ml_0 (by decide) rfl rfl k) ?_
  refine MD_lift (fun G z Q k => T_bipush (v := 10) (dk dt_doLate 12 rfl) (by decide +kernel) k) ?_
  refine MD_lift (fun G z Q k => T_iload_n 1 (dk dt_doLate 13 rfl) rfl rfl k) ?_
  refine MD_lift (fun G z Q k => T_imul (dk dt_doLate 14 rfl) k) ?_
  refine MD_lift (fun G z Q k => T_iload_n 2 (dk dt_doLate 15 rfl) rfl rfl k) ?_
  refine MD_lift (fun G z Q k => T_iadd (dk dt_doLate 16 rfl) k) ?_
  obtain ⟨h3, h⟩ := h
  obtain ⟨h4, h⟩ := h
  refine MD_read (fun z => z.1 82 ((10 * l1) + l2 : Int32).toNatClampNeg) (fun G z Q k => T_iald 82 60 (dk dt_doLate 17 rfl) mk_82 ml_82 h3 k) (fun z e => e 82 _ (Or.inr h4)) ?_
  obtain ⟨h5, h⟩ := h
  obtain ⟨x6, ex6⟩ : ∃ z, z = si x 70 (x.1 81 ((10 * l1) + l2 : Int32).toNatClampNeg : Int32).toNatClampNeg (x.1 82 ((10 * l1) + l2 : Int32).toNatClampNeg) := ⟨_, rfl⟩
  have h := h x6 ex6
  refine MD_wk 70 ((x.1 81 ((10 * l1) + l2 : Int32).toNatClampNeg : Int32).toNatClampNeg) (x.1 82 ((10 * l1) + l2 : Int32).toNatClampNeg) (fun G z Q k => T_iast 70 24 (dk dt_doLate 18 rfl) mk_70 ml_70 h5 k) (hm_a (by decide) _ _) ?_
  rw [← ex6]
  refine MD_lift (fun G z Q k => T_aload_n 0 (dk dt_doLate 19 rfl) rfl rfl k) ?_
  refine MD_lift (fun G z Q k => T_getR 0 79 80 (dk dt_doLate 20 rfl) fl_172 mk_0 ml_0 (by decide) rfl rfl k) ?_
  refine MD_lift (fun G z Q k => T_iload_n 1 (dk dt_doLate 21 rfl) rfl rfl k) ?_
  refine MD_lift (fun G z Q k => T_dup2 (dk dt_doLate 22 rfl) rfl rfl k) ?_
  obtain ⟨h7, h⟩ := h
  refine MD_read (fun z => z.1 80 (l1 : Int32).toNatClampNeg) (fun G z Q k => T_iald 80 6 (dk dt_doLate 23 rfl) mk_80 ml_80 h7 k) (fun z e => e 80 _ (Or.inl (core_a (by decide) h7))) ?_
  refine MD_lift (fun G z Q k => T_iconst (v := 1) (dk dt_doLate 24 rfl) (by decide +kernel) k) ?_
  refine MD_lift (fun G z Q k => T_isub (dk dt_doLate 25 rfl) k) ?_
  obtain ⟨h8, h⟩ := h
  obtain ⟨x9, ex9⟩ : ∃ z, z = si x6 80 (l1 : Int32).toNatClampNeg ((x6.1 80 (l1 : Int32).toNatClampNeg) - 1) := ⟨_, rfl⟩
  have h := h x9 ex9
  refine MD_wk 80 ((l1 : Int32).toNatClampNeg) ((x6.1 80 (l1 : Int32).toNatClampNeg) - 1) (fun G z Q k => T_iast 80 6 (dk dt_doLate 26 rfl) mk_80 ml_80 h8 k) (hm_a (by decide) _ _) ?_
  rw [← ex9]
  refine MD_lift (fun G z Q k => T_iload_n 2 (dk dt_doLate 27 rfl) rfl rfl k) ?_
  refine MD_lift (fun G z Q k => T_istore_n (lv2 := [(3, vi l2), (0, vr 0), (1, vi l1), (2, vi l2)]) (dk dt_doLate 28 rfl) rfl (by decide) rfl k) ?_
  exact MD_lift (fun G z Q k => T_sub [1, 2, 0] rfl k) h
set_option maxRecDepth 100000 in
set_option maxHeartbeats 4000000 in
theorem sd_doLate_39 {d : Nat} {S : gS} {x : gd} {P : Option gv → gd → gS → Prop} (l1 : Int32) (l3 : Int32)
    (h : vp_in l1 6 ∧ (((x.1 80 (l1 : Int32).toNatClampNeg) ≤ l3 → P none x S) ∧ (¬ ((x.1 80 (l1 : Int32).toNatClampNeg) ≤ l3) → vp_in (((10 * l1) + l3) + 1) 60 ∧ S 81 (((10 * l1) + l3) + 1 : Int32).toNatClampNeg ∧ vp_in ((10 * l1) + l3) 60 ∧ (∀ x6 : gd, x6 = si x 81 ((10 * l1) + l3 : Int32).toNatClampNeg (x.1 81 (((10 * l1) + l3) + 1 : Int32).toNatClampNeg) → vp_in (((10 * l1) + l3) + 1) 60 ∧ (sadd S 81 (((10 * l1) + l3 : Int32).toNatClampNeg)) 82 (((10 * l1) + l3) + 1 : Int32).toNatClampNeg ∧ vp_in ((10 * l1) + l3) 60 ∧ (∀ x10 : gd, x10 = si x6 82 ((10 * l1) + l3 : Int32).toNatClampNeg (x6.1 82 (((10 * l1) + l3) + 1 : Int32).toNatClampNeg) → MD d z_doLate 39 [(0, vr 0), (1, vi l1), (3, vi (l3 + 1))] [] (sadd (sadd S 81 (((10 * l1) + l3 : Int32).toNatClampNeg)) 82 (((10 * l1) + l3 : Int32).toNatClampNeg)) x10 P))))) :
    MD d z_doLate 39 [(0, vr 0), (1, vi l1), (3, vi l3)] [] S x P := by
  refine MD_lift (fun G z Q k => T_iload_n 2 (dk dt_doLate 29 rfl) rfl rfl k) ?_
  refine MD_lift (fun G z Q k => T_aload_n 0 (dk dt_doLate 30 rfl) rfl rfl k) ?_
  refine MD_lift (fun G z Q k => T_getR 0 79 80 (dk dt_doLate 31 rfl) fl_172 mk_0 ml_0 (by decide) rfl rfl k) ?_
  refine MD_lift (fun G z Q k => T_iload_n 1 (dk dt_doLate 32 rfl) rfl rfl k) ?_
  obtain ⟨h1, h⟩ := h
  refine MD_read (fun z => z.1 80 (l1 : Int32).toNatClampNeg) (fun G z Q k => T_iald 80 6 (dk dt_doLate 33 rfl) mk_80 ml_80 h1 k) (fun z e => e 80 _ (Or.inl (core_a (by decide) h1))) ?_
  by_cases c2 : (x.1 80 (l1 : Int32).toNatClampNeg) ≤ l3
  · have h := h.1 c2
    refine MD_lift (fun G z Q k => T_icmp_ge 103 (dk dt_doLate 34 rfl) (by decide) (fun _ => k) (fun q => absurd c2 q)) ?_
    exact MD_ret (fun G z Q k => MT_vret (dk dt_doLate 73 rfl) rfl k) h
  · have h := h.2 c2
    refine MD_lift (fun G z Q k => T_icmp_ge 103 (dk dt_doLate 34 rfl) (by decide) (fun q => absurd q c2) (fun _ => k)) ?_
    refine MD_lift (fun G z Q k => T_aload_n 0 (dk dt_doLate 35 rfl) rfl rfl k) ?_
    refine MD_lift (fun G z Q k => T_getR 0 80 81 (dk dt_doLate 36 rfl) fl_175 mk_0 ml_0 (by decide) rfl rfl k) ?_
    refine MD_lift (fun G z Q k => T_bipush (v := 10) (dk dt_doLate 37 rfl) (by decide +kernel) k) ?_
    refine MD_lift (fun G z Q k => T_iload_n 1 (dk dt_doLate 38 rfl) rfl rfl k) ?_
    refine MD_lift (fun G z Q k => T_imul (dk dt_doLate 39 rfl) k) ?_
    refine MD_lift (fun G z Q k => T_iload_n 2 (dk dt_doLate 40 rfl) rfl rfl k) ?_
    refine MD_lift (fun G z Q k => T_iadd (dk dt_doLate 41 rfl) k) ?_
    refine MD_lift (fun G z Q k => T_aload_n 0 (dk dt_doLate 42 rfl) rfl rfl k) ?_
    refine MD_lift (fun G z Q k => T_getR 0 80 81 (dk dt_doLate 43 rfl) fl_175 mk_0 ml_0 (by decide) rfl rfl k) ?_
    refine MD_lift (fun G z Q k => T_bipush (v := 10) (dk dt_doLate 44 rfl) (by decide +kernel) k) ?_
    refine MD_lift (fun G z Q k => T_iload_n 1 (dk dt_doLate 45 rfl) rfl rfl k) ?_
    refine MD_lift (fun G z Q k => T_imul (dk dt_doLate 46 rfl) k) ?_
    refine MD_lift (fun G z Q k => T_iload_n 2 (dk dt_doLate 47 rfl) rfl rfl k) ?_
    refine MD_lift (fun G z Q k => T_iadd (dk dt_doLate 48 rfl) k) ?_
    refine MD_lift (fun G z Q k => T_iconst (v := 1) (dk dt_doLate 49 rfl) (by decide +kernel) k) ?_
    refine MD_lift (fun G z Q k => T_iadd (dk dt_doLate 50 rfl) k) ?_
    obtain ⟨h3, h⟩ := h
    obtain ⟨h4, h⟩ := h
    refine MD_read (fun z => z.1 81 (((10 * l1) + l3) + 1 : Int32).toNatClampNeg) (fun G z Q k => T_iald 81 60 (dk dt_doLate 51 rfl) mk_81 ml_81 h3 k) (fun z e => e 81 _ (Or.inr h4)) ?_
    obtain ⟨h5, h⟩ := h
    obtain ⟨x6, ex6⟩ : ∃ z, z = si x 81 ((10 * l1) + l3 : Int32).toNatClampNeg (x.1 81 (((10 * l1) + l3) + 1 : Int32).toNatClampNeg) := ⟨_, rfl⟩
    have h := h x6 ex6
    refine MD_wr 81 (((10 * l1) + l3 : Int32).toNatClampNeg) (x.1 81 (((10 * l1) + l3) + 1 : Int32).toNatClampNeg) (fun G z Q k => T_iast 81 60 (dk dt_doLate 52 rfl) mk_81 ml_81 h5 k) (hm_a (by decide) _ _) ?_
    rw [← ex6]
    refine MD_lift (fun G z Q k => T_aload_n 0 (dk dt_doLate 53 rfl) rfl rfl k) ?_
    refine MD_lift (fun G z Q k => T_getR 0 81 82 (dk dt_doLate 54 rfl) fl_178 mk_0 ml_0 (by decide) rfl rfl k) ?_
    refine MD_lift (fun G z Q k => T_bipush (v := 10) (dk dt_doLate 55 rfl) (by decide +kernel) k) ?_
    refine MD_lift (fun G z Q k => T_iload_n 1 (dk dt_doLate 56 rfl) rfl rfl k) ?_
    refine MD_lift (fun G z Q k => T_imul (dk dt_doLate 57 rfl) k) ?_
    refine MD_lift (fun G z Q k => T_iload_n 2 (dk dt_doLate 58 rfl) rfl rfl k) ?_
    refine MD_lift (fun G z Q k => T_iadd (dk dt_doLate 59 rfl) k) ?_
    refine MD_lift (fun G z Q k => T_aload_n 0 (dk dt_doLate 60 rfl) rfl rfl k) ?_
    refine MD_lift (fun G z Q k => T_getR 0 81 82 (dk dt_doLate 61 rfl) fl_178 mk_0 ml_0 (by decide) rfl rfl k) ?_
    refine MD_lift (fun G z Q k => T_bipush (v := 10) (dk dt_doLate 62 rfl) (by decide +kernel) k) ?_
    refine MD_lift (fun G z Q k => T_iload_n 1 (dk dt_doLate 63 rfl) rfl rfl k) ?_
    refine MD_lift (fun G z Q k => T_imul (dk dt_doLate 64 rfl) k) ?_
    refine MD_lift (fun G z Q k => T_iload_n 2 (dk dt_doLate 65 rfl) rfl rfl k) ?_
    refine MD_lift (fun G z Q k => T_iadd (dk dt_doLate 66 rfl) k) ?_
    refine MD_lift (fun G z Q k => T_iconst (v := 1) (dk dt_doLate 67 rfl) (by decide +kernel) k) ?_
    refine MD_lift (fun G z Q k => T_iadd (dk dt_doLate 68 rfl) k) ?_
    obtain ⟨h7, h⟩ := h
    obtain ⟨h8, h⟩ := h
    refine MD_read (fun z => z.1 82 (((10 * l1) + l3) + 1 : Int32).toNatClampNeg) (fun G z Q k => T_iald 82 60 (dk dt_doLate 69 rfl) mk_82 ml_82 h7 k) (fun z e => e 82 _ (Or.inr h8)) ?_
    obtain ⟨h9, h⟩ := h
    obtain ⟨x10, ex10⟩ : ∃ z, z = si x6 82 ((10 * l1) + l3 : Int32).toNatClampNeg (x6.1 82 (((10 * l1) + l3) + 1 : Int32).toNatClampNeg) := ⟨_, rfl⟩
    have h := h x10 ex10
    refine MD_wr 82 (((10 * l1) + l3 : Int32).toNatClampNeg) (x6.1 82 (((10 * l1) + l3) + 1 : Int32).toNatClampNeg) (fun G z Q k => T_iast 82 60 (dk dt_doLate 70 rfl) mk_82 ml_82 h9 k) (hm_a (by decide) _ _) ?_
    rw [← ex10]
    refine MD_lift (fun G z Q k => T_iinc (v := l3 + 1) (lv2 := [(3, vi (l3 + 1)), (0, vr 0), (1, vi l1)]) 2 (dk dt_doLate 71 rfl) rfl rfl (by decide) rfl k) ?_
    refine MD_lift (fun G z Q k => T_goto 39 (dk dt_doLate 72 rfl) (by decide) k) ?_
    exact MD_lift (fun G z Q k => T_sub [1, 2, 0] rfl k) h
set_option maxRecDepth 100000 in
set_option maxHeartbeats 4000000 in
theorem sd_setFirst_157 {d : Nat} {S : gS} {x : gd} {P : Option gv → gd → gS → Prop} (l1 : Int32)
    (h : (((x.1 0 25) ≤ l1 → P none x S) ∧ (¬ ((x.1 0 25) ≤ l1) → vp_in l1 6 ∧ ((¬ ((x.1 38 (l1 : Int32).toNatClampNeg) = (0 : Int32)) → MD (d + 1) z_setFirst 157 [(0, vr 0), (1, vi (l1 + 1))] [] S x P) ∧ ((x.1 38 (l1 : Int32).toNatClampNeg) = (0 : Int32) → vp_in l1 6 ∧ (∀ x5 : gd, x5 = si x 73 (l1 : Int32).toNatClampNeg 1 → vp_in l1 6 ∧ vp_in l1 6 ∧ (∀ x8 : gd, x8 = si x5 74 (l1 : Int32).toNatClampNeg (x5.1 64 (l1 : Int32).toNatClampNeg) → MD d z_own 0 [(0, vr 0), (1, vi l1)] [] S x8 (Dv (fun x9 S9 => MD (d + 1) z_setFirst 157 [(0, vr 0), (1, vi (l1 + 1))] [] S9 x9 P))))))))) :
    MD (d + 1) z_setFirst 157 [(0, vr 0), (1, vi l1)] [] S x P := by
  refine MD_lift (fun G z Q k => T_iload_n 1 (dk dt_setFirst 98 rfl) rfl rfl k) ?_
  refine MD_lift (fun G z Q k => T_aload_n 0 (dk dt_setFirst 99 rfl) rfl rfl k) ?_
  refine MD_read (fun z => z.1 0 25) (fun G z Q k => T_getI 0 25 (dk dt_setFirst 100 rfl) fl_461 mk_0 ml_0 (by decide) rfl k) (fun z e => e 0 25 (Or.inl (core_f (by decide)))) ?_
  by_cases c1 : (x.1 0 25) ≤ l1
  · have h := h.1 c1
    refine MD_lift (fun G z Q k => T_icmp_ge 204 (dk dt_setFirst 101 rfl) (by decide) (fun _ => k) (fun q => absurd c1 q)) ?_
    exact MD_ret (fun G z Q k => MT_vret (dk dt_setFirst 125 rfl) rfl k) h
  · have h := h.2 c1
    refine MD_lift (fun G z Q k => T_icmp_ge 204 (dk dt_setFirst 101 rfl) (by decide) (fun q => absurd q c1) (fun _ => k)) ?_
    refine MD_lift (fun G z Q k => T_aload_n 0 (dk dt_setFirst 102 rfl) rfl rfl k) ?_
    refine MD_lift (fun G z Q k => T_getR 0 37 38 (dk dt_setFirst 103 rfl) fl_76 mk_0 ml_0 (by decide) rfl rfl k) ?_
    refine MD_lift (fun G z Q k => T_iload_n 1 (dk dt_setFirst 104 rfl) rfl rfl k) ?_
    obtain ⟨h2, h⟩ := h
    refine MD_read (fun z => z.1 38 (l1 : Int32).toNatClampNeg) (fun G z Q k => T_zald 38 6 (dk dt_setFirst 105 rfl) mk_38 ml_38 h2 k) (fun z e => e 38 _ (Or.inl (core_a (by decide) h2))) ?_
    by_cases c3 : (x.1 38 (l1 : Int32).toNatClampNeg) = (0 : Int32)
    · have h := h.2 c3
      refine MD_lift (fun G z Q k => T_if_ne 198 (dk dt_setFirst 106 rfl) (by decide) (fun q => absurd c3 q) (fun _ => k)) ?_
      refine MD_lift (fun G z Q k => T_aload_n 0 (dk dt_setFirst 107 rfl) rfl rfl k) ?_
      refine MD_lift (fun G z Q k => T_getR 0 72 73 (dk dt_setFirst 108 rfl) fl_151 mk_0 ml_0 (by decide) rfl rfl k) ?_
      refine MD_lift (fun G z Q k => T_iload_n 1 (dk dt_setFirst 109 rfl) rfl rfl k) ?_
      refine MD_lift (fun G z Q k => T_iconst (v := 1) (dk dt_setFirst 110 rfl) (by decide +kernel) k) ?_
      obtain ⟨h4, h⟩ := h
      obtain ⟨x5, ex5⟩ : ∃ z, z = si x 73 (l1 : Int32).toNatClampNeg 1 := ⟨_, rfl⟩
      have h := h x5 ex5
      refine MD_wk 73 ((l1 : Int32).toNatClampNeg) 1 (fun G z Q k => T_iast 73 6 (dk dt_setFirst 111 rfl) mk_73 ml_73 h4 k) (hm_a (by decide) _ _) ?_
      rw [← ex5]
      refine MD_lift (fun G z Q k => T_aload_n 0 (dk dt_setFirst 112 rfl) rfl rfl k) ?_
      refine MD_lift (fun G z Q k => T_getR 0 73 74 (dk dt_setFirst 113 rfl) fl_154 mk_0 ml_0 (by decide) rfl rfl k) ?_
      refine MD_lift (fun G z Q k => T_iload_n 1 (dk dt_setFirst 114 rfl) rfl rfl k) ?_
      refine MD_lift (fun G z Q k => T_aload_n 0 (dk dt_setFirst 115 rfl) rfl rfl k) ?_
      refine MD_lift (fun G z Q k => T_getR 0 63 64 (dk dt_setFirst 116 rfl) fl_133 mk_0 ml_0 (by decide) rfl rfl k) ?_
      refine MD_lift (fun G z Q k => T_iload_n 1 (dk dt_setFirst 117 rfl) rfl rfl k) ?_
      obtain ⟨h6, h⟩ := h
      refine MD_read (fun z => z.1 64 (l1 : Int32).toNatClampNeg) (fun G z Q k => T_iald 64 6 (dk dt_setFirst 118 rfl) mk_64 ml_64 h6 k) (fun z e => e 64 _ (Or.inl (core_a (by decide) h6))) ?_
      obtain ⟨h7, h⟩ := h
      obtain ⟨x8, ex8⟩ : ∃ z, z = si x5 74 (l1 : Int32).toNatClampNeg (x5.1 64 (l1 : Int32).toNatClampNeg) := ⟨_, rfl⟩
      have h := h x8 ex8
      refine MD_wk 74 ((l1 : Int32).toNatClampNeg) (x5.1 64 (l1 : Int32).toNatClampNeg) (fun G z Q k => T_iast 74 6 (dk dt_setFirst 119 rfl) mk_74 ml_74 h7 k) (hm_a (by decide) _ _) ?_
      rw [← ex8]
      refine MD_lift (fun G z Q k => T_aload_n 0 (dk dt_setFirst 120 rfl) rfl rfl k) ?_
      refine MD_lift (fun G z Q k => T_iload_n 1 (dk dt_setFirst 121 rfl) rfl rfl k) ?_
      refine MD_callv (fun G z F Q k kk => MT_callVv [vi l1] [] rfl (dk dt_setFirst 122 rfl) cv_599 rfl rfl (Nat.le_of_ble_eq_true rfl) (Nat.le_of_ble_eq_true rfl) rfl rfl k kk) h (fun x9 S9 h => ?_)
      refine MD_lift (fun G z Q k => T_iinc (v := l1 + 1) (lv2 := [(1, vi (l1 + 1)), (0, vr 0)]) 1 (dk dt_setFirst 123 rfl) rfl rfl (by decide) rfl k) ?_
      refine MD_lift (fun G z Q k => T_goto 157 (dk dt_setFirst 124 rfl) (by decide) k) ?_
      exact MD_lift (fun G z Q k => T_sub [1, 0] rfl k) h
    · have h := h.1 c3
      refine MD_lift (fun G z Q k => T_if_ne 198 (dk dt_setFirst 106 rfl) (by decide) (fun _ => k) (fun q => absurd q c3)) ?_
      refine MD_lift (fun G z Q k => T_iinc (v := l1 + 1) (lv2 := [(1, vi (l1 + 1)), (0, vr 0)]) 1 (dk dt_setFirst 123 rfl) rfl rfl (by decide) rfl k) ?_
      refine MD_lift (fun G z Q k => T_goto 157 (dk dt_setFirst 124 rfl) (by decide) k) ?_
      exact MD_lift (fun G z Q k => T_sub [1, 0] rfl k) h
end
