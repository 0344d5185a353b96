noncomputable def v_c_needRun : List Cond := .code yX11_needRun cX11_needRun 1 none :: ([.fieldLink RX11 358 "ScheduleHouse" "running" "Z", .classLink RX11 102 iSE, .initialized iSE] ++ (wsX110 ++ (((vx_atS RX11 191 iSE up2).filter goodWord) ++ ([]))))
theorem i_v_c_needRun_X11 : ∀ w ∈ wsX110, w ∈ v_c_needRun := fun _ h => List.mem_cons_of_mem _ (List.mem_append_right _ (List.mem_append_left _ h))
theorem gm_v_c_needRun_1 : ∀ w ∈ (vx_atS RX11 191 iSE up2).filter goodWord, w ∈ v_c_needRun := fun _ h => List.mem_cons_of_mem _ (List.mem_append_right _ (List.mem_append_right _ (List.mem_append_left _ h)))
theorem t_v_c_needRun : ∀ w ∈ v_c_needRun, w ∈ lw_tbl := tb_c (List.mem_of_getElem? (i := 1400) (by decide +kernel)) (tb_a (tb_c (List.mem_of_getElem? (i := 747) (by decide +kernel)) (tb_c (List.mem_of_getElem? (i := 789) (by decide +kernel)) (tb_c (List.mem_of_getElem? (i := 225) (by decide +kernel)) (tb_n)))) (tb_a (tw_wsX110) (tb_a (tx_X11_191) (tb_n))))
set_option maxHeartbeats 400000 in
set_option maxRecDepth 100000 in
/-- needRun(): not so: IllegalStateException -/
theorem c_needRun (l : Launch) (hlt : l.stackTraces = false) (D : va_G) (h0 : Nat) (xfs : List Value) (sz : Nat) (hq : xfs[10]? = some (.int 0)) : vx_Met l yX11_needRun v_c_needRun ({ frames := 6, cells := 1, slots := 6, locals := 110 }) (va_Pc [.ref h0] (st_ D [(h0, .inr (11, xfs))] [] sz)) (va_Qv (fun _ : Unit => False) (fun _ _ => True) (va_A [(h0, .inr (11, xfs))] sz)) (vx_X (fun _ : Unit => True) (fun E _ _ => E = iSE) (va_A [(h0, .inr (11, xfs))] sz)) 1 6 (va_A [(h0, .inr (11, xfs))] sz) := by
  refine vx_ofW (cc := cX11_needRun) (maxL := 1) (ret := none) (by decide) rfl ?_
  intro p e s m args below meth c s₁ B hml hno hv
  obtain ⟨rfl, hsz, hP, hK, hD0, hZ, hE⟩ := hv
  have hx := B.exec
  have hb := B.bytes
  have hr := B.returns
  have hts := atoms_spec (ws := v_c_needRun) B.pre
  have hown : s.vm.findClass RX11 = some m.cls := findClass_of_methodNamed B.named
  have hlocks := B.notSynchronized
  subst hsz
  have hD := hD0.self (sz := s.heap.size)
  generalize hAe : va_A [(h0, .inr (11, xfs))] s.heap.size = A at hD hZ ⊢
  have hA : ∀ q : Nat, s.heap.size ≤ q → A q := fun q h => by rw [← hAe]; exact Or.inr h
  have hS : va_S A s.heap s.heap [] := va_S.rf
  have hAO := hE.2.2.2.1
  have hP : va_P D vwCl [(h0, .inr (11, xfs))] s.heap := hP
  have hl := lv_entry ([.ref h0]) (n := 1) (Nat.le_of_ble_eq_true rfl)
  rw [lg_entry_eq]
  generalize (lg_sl ([.ref h0]) ++ List.replicate (1 - (lg_sl ([.ref h0])).length) Slot.unset).toArray = ls at hl ⊢
  have hl : lv_has ls 1 [(0, .ref h0)] := hl
  refine lv_aload_n hx hb dX11_needRun_0 rfl (lv_at hl 0 rfl) ?_
  refine va_get (D := D) (ci := 11) (v := .int 0) (C := RX11) (T := TX11) (N := 13) hx hb hts i_v_c_needRun_X11 hown hK hP 0 rfl rfl 10 (by decide) (hts (.fieldLink RX11 358 "ScheduleHouse" "running" "Z") (by decide +kernel)) (fun _ h9 => h9) hq dX11_needRun_1 ?_
  refine lv_if_ne (tgt := 18) hx hb dX11_needRun_4 (by decide) (fun c9 => absurd rfl c9) (fun _ => ?_)
  obtain ⟨sa, hsa⟩ := ev_text hE 386 "there is no run" (by decide)
  exact vx_throwSW hx hb hlt (own := RX11) (cls := iSE) (text := "there is no run") (names := up2) (ik := 102) (is := 386) (ic := 191) (sa := sa) (A := A) hown (by decide +kernel) (by decide +kernel) (hts (.classLink RX11 102 iSE) (by decide +kernel)) (hts (.initialized iSE) (by decide +kernel)) hsa (vx_hat (B := ev_B iSE) (fun w hw => hts w (gm_v_c_needRun_1 w hw)) (by decide +kernel) (ev_b hE iSE (by decide))) (by decide +kernel) hZ.1 hZ.2 hS (by rw [hml]; exact hl.1) dX11_needRun_7 dX11_needRun_10 dX11_needRun_11 dX11_needRun_14 dX11_needRun_17 (fun x hx => (hno x hx).elim) (by decide) (by decide) (by decide) (by decide) hlocks (fun t _ hz hk => ⟨(), trivial, rfl, Nat.le_trans hS.1 hz, fun q h1 h2 => (hk q (Nat.lt_of_lt_of_le h1 hS.1)).trans (hS.2.1 q h1 h2)⟩) hS.2.2 (by decide) (by decide)
noncomputable def v_c_needCompiled : List Cond := .code yX11_needCompiled cX11_needCompiled 1 none :: ([.fieldLink RX11 110 "ScheduleHouse" "compiled" "Z", .classLink RX11 102 iSE, .initialized iSE] ++ (wsX110 ++ (((vx_atS RX11 191 iSE up2).filter goodWord) ++ ([]))))
theorem i_v_c_needCompiled_X11 : ∀ w ∈ wsX110, w ∈ v_c_needCompiled := fun _ h => List.mem_cons_of_mem _ (List.mem_append_right _ (List.mem_append_left _ h))
theorem gm_v_c_needCompiled_1 : ∀ w ∈ (vx_atS RX11 191 iSE up2).filter goodWord, w ∈ v_c_needCompiled := fun _ h => List.mem_cons_of_mem _ (List.mem_append_right _ (List.mem_append_right _ (List.mem_append_left _ h)))
theorem t_v_c_needCompiled : ∀ w ∈ v_c_needCompiled, w ∈ lw_tbl := tb_c (List.mem_of_getElem? (i := 1280) (by decide +kernel)) (tb_a (tb_c (List.mem_of_getElem? (i := 746) (by decide +kernel)) (tb_c (List.mem_of_getElem? (i := 789) (by decide +kernel)) (tb_c (List.mem_of_getElem? (i := 225) (by decide +kernel)) (tb_n)))) (tb_a (tw_wsX110) (tb_a (tx_X11_191) (tb_n))))
set_option maxHeartbeats 400000 in
set_option maxRecDepth 100000 in
/-- needCompiled(): not so: IllegalStateException -/
theorem c_needCompiled (l : Launch) (hlt : l.stackTraces = false) (D : va_G) (h0 : Nat) (xfs : List Value) (sz : Nat) (hq : xfs[9]? = some (.int 0)) : vx_Met l yX11_needCompiled v_c_needCompiled ({ frames := 6, cells := 1, slots := 6, locals := 110 }) (va_Pc [.ref h0] (st_ D [(h0, .inr (11, xfs))] [] sz)) (va_Qv (fun _ : Unit => False) (fun _ _ => True) (va_A [(h0, .inr (11, xfs))] sz)) (vx_X (fun _ : Unit => True) (fun E _ _ => E = iSE) (va_A [(h0, .inr (11, xfs))] sz)) 1 6 (va_A [(h0, .inr (11, xfs))] sz) := by
  refine vx_ofW (cc := cX11_needCompiled) (maxL := 1) (ret := none) (by decide) rfl ?_
  intro p e s m args below meth c s₁ B hml hno hv
  obtain ⟨rfl, hsz, hP, hK, hD0, hZ, hE⟩ := hv
  have hx := B.exec
  have hb := B.bytes
  have hr := B.returns
  have hts := atoms_spec (ws := v_c_needCompiled) B.pre
  have hown : s.vm.findClass RX11 = some m.cls := findClass_of_methodNamed B.named
  have hlocks := B.notSynchronized
  subst hsz
  have hD := hD0.self (sz := s.heap.size)
  generalize hAe : va_A [(h0, .inr (11, xfs))] s.heap.size = A at hD hZ ⊢
  have hA : ∀ q : Nat, s.heap.size ≤ q → A q := fun q h => by rw [← hAe]; exact Or.inr h
  have hS : va_S A s.heap s.heap [] := va_S.rf
  have hAO := hE.2.2.2.1
  have hP : va_P D vwCl [(h0, .inr (11, xfs))] s.heap := hP
  have hl := lv_entry ([.ref h0]) (n := 1) (Nat.le_of_ble_eq_true rfl)
  rw [lg_entry_eq]
  generalize (lg_sl ([.ref h0]) ++ List.replicate (1 - (lg_sl ([.ref h0])).length) Slot.unset).toArray = ls at hl ⊢
  have hl : lv_has ls 1 [(0, .ref h0)] := hl
  refine lv_aload_n hx hb dX11_needCompiled_0 rfl (lv_at hl 0 rfl) ?_
  refine va_get (D := D) (ci := 11) (v := .int 0) (C := RX11) (T := TX11) (N := 13) hx hb hts i_v_c_needCompiled_X11 hown hK hP 0 rfl rfl 9 (by decide) (hts (.fieldLink RX11 110 "ScheduleHouse" "compiled" "Z") (by decide +kernel)) (fun _ h9 => h9) hq dX11_needCompiled_1 ?_
  refine lv_if_ne (tgt := 18) hx hb dX11_needCompiled_4 (by decide) (fun c9 => absurd rfl c9) (fun _ => ?_)
  obtain ⟨sa, hsa⟩ := ev_text hE 384 "nothing is compiled" (by decide)
  exact vx_throwSW hx hb hlt (own := RX11) (cls := iSE) (text := "nothing is compiled") (names := up2) (ik := 102) (is := 384) (ic := 191) (sa := sa) (A := A) hown (by decide +kernel) (by decide +kernel) (hts (.classLink RX11 102 iSE) (by decide +kernel)) (hts (.initialized iSE) (by decide +kernel)) hsa (vx_hat (B := ev_B iSE) (fun w hw => hts w (gm_v_c_needCompiled_1 w hw)) (by decide +kernel) (ev_b hE iSE (by decide))) (by decide +kernel) hZ.1 hZ.2 hS (by rw [hml]; exact hl.1) dX11_needCompiled_7 dX11_needCompiled_10 dX11_needCompiled_11 dX11_needCompiled_14 dX11_needCompiled_17 (fun x hx => (hno x hx).elim) (by decide) (by decide) (by decide) (by decide) hlocks (fun t _ hz hk => ⟨(), trivial, rfl, Nat.le_trans hS.1 hz, fun q h1 h2 => (hk q (Nat.lt_of_lt_of_le h1 hS.1)).trans (hS.2.1 q h1 h2)⟩) hS.2.2 (by decide) (by decide)
noncomputable def v_c_needWay : List Cond := .code yX11_needWay cX11_needWay 1 none :: ([.classLink RX11 70 iAE, .initialized iAE] ++ (((vx_atS RX11 74 iAE up2).filter goodWord) ++ ([])))
theorem gm_v_c_needWay_0 : ∀ w ∈ (vx_atS RX11 74 iAE up2).filter goodWord, w ∈ v_c_needWay := fun _ h => List.mem_cons_of_mem _ (List.mem_append_right _ (List.mem_append_left _ h))
theorem t_v_c_needWay : ∀ w ∈ v_c_needWay, w ∈ lw_tbl := tb_c (List.mem_of_getElem? (i := 1285) (by decide +kernel)) (tb_a (tb_c (List.mem_of_getElem? (i := 1214) (by decide +kernel)) (tb_c (List.mem_of_getElem? (i := 219) (by decide +kernel)) (tb_n))) (tb_a (tx_X11_74) (tb_n)))
set_option maxHeartbeats 400000 in
set_option maxRecDepth 100000 in
/-- needWay: in its range, or a throw -/
theorem c_needWay (l : Launch) (hlt : l.stackTraces = false) (D : va_G) (w0 : Int32) (sz : Nat) : vx_Met l yX11_needWay v_c_needWay ({ frames := 6, cells := 1, slots := 6, locals := 110 }) (va_Pc [.int w0] (st_ D [] [] sz)) (va_Qv (fun _ : Unit => ¬ w0 < 0 ∧ w0 < 2) (fun _ _ => True) (va_A [] sz)) (vx_X (fun _ : Unit => True) (fun E _ _ => E = iAE ∧ (w0 < 0 ∨ ¬ w0 < 2)) (va_A [] sz)) 1 6 (va_A [] sz) := by
  refine vx_ofW (cc := cX11_needWay) (maxL := 1) (ret := none) (by decide) rfl ?_
  intro p e s m args below meth c s₁ B hml hno hv
  obtain ⟨rfl, hsz, hP, hK, hD0, hZ, hE⟩ := hv
  have hx := B.exec
  have hb := B.bytes
  have hr := B.returns
  have hts := atoms_spec (ws := v_c_needWay) B.pre
  have hown : s.vm.findClass RX11 = some m.cls := findClass_of_methodNamed B.named
  have hlocks := B.notSynchronized
  subst hsz
  have hD := hD0.self (sz := s.heap.size)
  generalize hAe : va_A [] s.heap.size = A at hD hZ ⊢
  have hA : ∀ q : Nat, s.heap.size ≤ q → A q := fun q h => by rw [← hAe]; exact Or.inr h
  have hS : va_S A s.heap s.heap [] := va_S.rf
  have hAO := hE.2.2.2.1
  have hP : va_P D vwCl [] s.heap := hP
  have hl := lv_entry ([.int w0]) (n := 1) (Nat.le_of_ble_eq_true rfl)
  rw [lg_entry_eq]
  generalize (lg_sl ([.int w0]) ++ List.replicate (1 - (lg_sl ([.int w0])).length) Slot.unset).toArray = ls at hl ⊢
  have hl : lv_has ls 1 [(0, .int w0)] := hl
  refine lv_iload_n hx hb dX11_needWay_0 rfl (lv_at hl 0 rfl) ?_
  refine lv_if_lt (tgt := 9) hx hb dX11_needWay_1 (by decide) (fun c1 => ?_) (fun c1 => ?_)
  · obtain ⟨sa, hsa⟩ := ev_text hE 388 "no such way" (by decide)
    exact vx_throwSW hx hb hlt (own := RX11) (cls := iAE) (text := "no such way") (names := up2) (ik := 70) (is := 388) (ic := 74) (sa := sa) (A := A) hown (by decide +kernel) (by decide +kernel) (hts (.classLink RX11 70 iAE) (by decide +kernel)) (hts (.initialized iAE) (by decide +kernel)) hsa (vx_hat (B := ev_B iAE) (fun w hw => hts w (gm_v_c_needWay_0 w hw)) (by decide +kernel) (ev_b hE iAE (by decide))) (by decide +kernel) hZ.1 hZ.2 hS (by rw [hml]; exact hl.1) dX11_needWay_9 dX11_needWay_12 dX11_needWay_13 dX11_needWay_16 dX11_needWay_19 (fun x hx => (hno x hx).elim) (by decide) (by decide) (by decide) (by decide) hlocks (fun t _ hz hk => ⟨(), trivial, ⟨rfl, Or.inl c1⟩, Nat.le_trans hS.1 hz, fun q h1 h2 => (hk q (Nat.lt_of_lt_of_le h1 hS.1)).trans (hS.2.1 q h1 h2)⟩) hS.2.2 (by decide) (by decide)
  · refine lv_iload_n hx hb dX11_needWay_4 rfl (lv_at hl 0 rfl) ?_
    refine lv_iconst (v := 2) hx hb dX11_needWay_5 (by decide +kernel) ?_
    refine lv_icmp_lt (tgt := 20) hx hb dX11_needWay_6 (by decide) (fun c2 => ?_) (fun c2 => ?_)
    · refine vx_ret (W.widen (k := 1) (n := 6) (Nat.le_of_ble_eq_true rfl) (Nat.le_of_ble_eq_true rfl) ?_)
      exact W.vret hx hb hr (fun t ht hW => ⟨⟨(), rfl, ⟨c1, c2⟩, trivial⟩, hS.F ht⟩) hS.2.2 dX11_needWay_20
    · obtain ⟨sa, hsa⟩ := ev_text hE 388 "no such way" (by decide)
      exact vx_throwSW hx hb hlt (own := RX11) (cls := iAE) (text := "no such way") (names := up2) (ik := 70) (is := 388) (ic := 74) (sa := sa) (A := A) hown (by decide +kernel) (by decide +kernel) (hts (.classLink RX11 70 iAE) (by decide +kernel)) (hts (.initialized iAE) (by decide +kernel)) hsa (vx_hat (B := ev_B iAE) (fun w hw => hts w (gm_v_c_needWay_0 w hw)) (by decide +kernel) (ev_b hE iAE (by decide))) (by decide +kernel) hZ.1 hZ.2 hS (by rw [hml]; exact hl.1) dX11_needWay_9 dX11_needWay_12 dX11_needWay_13 dX11_needWay_16 dX11_needWay_19 (fun x hx => (hno x hx).elim) (by decide) (by decide) (by decide) (by decide) hlocks (fun t _ hz hk => ⟨(), trivial, ⟨rfl, Or.inr c2⟩, Nat.le_trans hS.1 hz, fun q h1 h2 => (hk q (Nat.lt_of_lt_of_le h1 hS.1)).trans (hS.2.1 q h1 h2)⟩) hS.2.2 (by decide) (by decide)
noncomputable def v_c_needFinding : List Cond := .code yX11_needFinding cX11_needFinding 1 none :: ([.classLink RX11 70 iAE, .initialized iAE] ++ (((vx_atS RX11 74 iAE up2).filter goodWord) ++ ([])))
theorem gm_v_c_needFinding_0 : ∀ w ∈ (vx_atS RX11 74 iAE up2).filter goodWord, w ∈ v_c_needFinding := fun _ h => List.mem_cons_of_mem _ (List.mem_append_right _ (List.mem_append_left _ h))
theorem t_v_c_needFinding : ∀ w ∈ v_c_needFinding, w ∈ lw_tbl := tb_c (List.mem_of_getElem? (i := 2024) (by decide +kernel)) (tb_a (tb_c (List.mem_of_getElem? (i := 1214) (by decide +kernel)) (tb_c (List.mem_of_getElem? (i := 219) (by decide +kernel)) (tb_n))) (tb_a (tx_X11_74) (tb_n)))
set_option maxHeartbeats 400000 in
set_option maxRecDepth 100000 in
/-- needFinding: in its range, or a throw -/
theorem c_needFinding (l : Launch) (hlt : l.stackTraces = false) (D : va_G) (w0 : Int32) (sz : Nat) : vx_Met l yX11_needFinding v_c_needFinding ({ frames := 6, cells := 1, slots := 6, locals := 110 }) (va_Pc [.int w0] (st_ D [] [] sz)) (va_Qv (fun _ : Unit => ¬ w0 < 0 ∧ w0 < 11) (fun _ _ => True) (va_A [] sz)) (vx_X (fun _ : Unit => True) (fun E _ _ => E = iAE ∧ (w0 < 0 ∨ ¬ w0 < 11)) (va_A [] sz)) 1 6 (va_A [] sz) := by
  refine vx_ofW (cc := cX11_needFinding) (maxL := 1) (ret := none) (by decide) rfl ?_
  intro p e s m args below meth c s₁ B hml hno hv
  obtain ⟨rfl, hsz, hP, hK, hD0, hZ, hE⟩ := hv
  have hx := B.exec
  have hb := B.bytes
  have hr := B.returns
  have hts := atoms_spec (ws := v_c_needFinding) B.pre
  have hown : s.vm.findClass RX11 = some m.cls := findClass_of_methodNamed B.named
  have hlocks := B.notSynchronized
  subst hsz
  have hD := hD0.self (sz := s.heap.size)
  generalize hAe : va_A [] s.heap.size = A at hD hZ ⊢
  have hA : ∀ q : Nat, s.heap.size ≤ q → A q := fun q h => by rw [← hAe]; exact Or.inr h
  have hS : va_S A s.heap s.heap [] := va_S.rf
  have hAO := hE.2.2.2.1
  have hP : va_P D vwCl [] s.heap := hP
  have hl := lv_entry ([.int w0]) (n := 1) (Nat.le_of_ble_eq_true rfl)
  rw [lg_entry_eq]
  generalize (lg_sl ([.int w0]) ++ List.replicate (1 - (lg_sl ([.int w0])).length) Slot.unset).toArray = ls at hl ⊢
  have hl : lv_has ls 1 [(0, .int w0)] := hl
  refine lv_iload_n hx hb dX11_needFinding_0 rfl (lv_at hl 0 rfl) ?_
  refine lv_if_lt (tgt := 10) hx hb dX11_needFinding_1 (by decide) (fun c1 => ?_) (fun c1 => ?_)
  · obtain ⟨sa, hsa⟩ := ev_text hE 340 "no such finding" (by decide)
    exact vx_throwSW hx hb hlt (own := RX11) (cls := iAE) (text := "no such finding") (names := up2) (ik := 70) (is := 340) (ic := 74) (sa := sa) (A := A) hown (by decide +kernel) (by decide +kernel) (hts (.classLink RX11 70 iAE) (by decide +kernel)) (hts (.initialized iAE) (by decide +kernel)) hsa (vx_hat (B := ev_B iAE) (fun w hw => hts w (gm_v_c_needFinding_0 w hw)) (by decide +kernel) (ev_b hE iAE (by decide))) (by decide +kernel) hZ.1 hZ.2 hS (by rw [hml]; exact hl.1) dX11_needFinding_10 dX11_needFinding_13 dX11_needFinding_14 dX11_needFinding_17 dX11_needFinding_20 (fun x hx => (hno x hx).elim) (by decide) (by decide) (by decide) (by decide) hlocks (fun t _ hz hk => ⟨(), trivial, ⟨rfl, Or.inl c1⟩, Nat.le_trans hS.1 hz, fun q h1 h2 => (hk q (Nat.lt_of_lt_of_le h1 hS.1)).trans (hS.2.1 q h1 h2)⟩) hS.2.2 (by decide) (by decide)
  · refine lv_iload_n hx hb dX11_needFinding_4 rfl (lv_at hl 0 rfl) ?_
    refine lv_bipush (v := 11) hx hb dX11_needFinding_5 (by decide +kernel) ?_
    refine lv_icmp_lt (tgt := 21) hx hb dX11_needFinding_7 (by decide) (fun c2 => ?_) (fun c2 => ?_)
    · refine vx_ret (W.widen (k := 1) (n := 6) (Nat.le_of_ble_eq_true rfl) (Nat.le_of_ble_eq_true rfl) ?_)
      exact W.vret hx hb hr (fun t ht hW => ⟨⟨(), rfl, ⟨c1, c2⟩, trivial⟩, hS.F ht⟩) hS.2.2 dX11_needFinding_21
    · obtain ⟨sa, hsa⟩ := ev_text hE 340 "no such finding" (by decide)
      exact vx_throwSW hx hb hlt (own := RX11) (cls := iAE) (text := "no such finding") (names := up2) (ik := 70) (is := 340) (ic := 74) (sa := sa) (A := A) hown (by decide +kernel) (by decide +kernel) (hts (.classLink RX11 70 iAE) (by decide +kernel)) (hts (.initialized iAE) (by decide +kernel)) hsa (vx_hat (B := ev_B iAE) (fun w hw => hts w (gm_v_c_needFinding_0 w hw)) (by decide +kernel) (ev_b hE iAE (by decide))) (by decide +kernel) hZ.1 hZ.2 hS (by rw [hml]; exact hl.1) dX11_needFinding_10 dX11_needFinding_13 dX11_needFinding_14 dX11_needFinding_17 dX11_needFinding_20 (fun x hx => (hno x hx).elim) (by decide) (by decide) (by decide) (by decide) hlocks (fun t _ hz hk => ⟨(), trivial, ⟨rfl, Or.inr c2⟩, Nat.le_trans hS.1 hz, fun q h1 h2 => (hk q (Nat.lt_of_lt_of_le h1 hS.1)).trans (hS.2.1 q h1 h2)⟩) hS.2.2 (by decide) (by decide)
noncomputable def v_c_needIndex : List Cond := .code yX11_needIndex cX11_needIndex 2 none :: ([.classLink RX11 127 iOE, .initialized iOE] ++ (((vx_atS RX11 131 iOE up2).filter goodWord) ++ ([])))
theorem gm_v_c_needIndex_0 : ∀ w ∈ (vx_atS RX11 131 iOE up2).filter goodWord, w ∈ v_c_needIndex := fun _ h => List.mem_cons_of_mem _ (List.mem_append_right _ (List.mem_append_left _ h))
theorem t_v_c_needIndex : ∀ w ∈ v_c_needIndex, w ∈ lw_tbl := tb_c (List.mem_of_getElem? (i := 1411) (by decide +kernel)) (tb_a (tb_c (List.mem_of_getElem? (i := 1243) (by decide +kernel)) (tb_c (List.mem_of_getElem? (i := 227) (by decide +kernel)) (tb_n))) (tb_a (tx_X11_131) (tb_n)))
set_option maxHeartbeats 400000 in
set_option maxRecDepth 100000 in
/-- needIndex: in its range, or a throw -/
theorem c_needIndex (l : Launch) (hlt : l.stackTraces = false) (D : va_G) (w0 n0 : Int32) (sz : Nat) : vx_Met l yX11_needIndex v_c_needIndex ({ frames := 6, cells := 1, slots := 6, locals := 110 }) (va_Pc [.int w0, .int n0] (st_ D [] [] sz)) (va_Qv (fun _ : Unit => ¬ w0 < 0 ∧ w0 < n0) (fun _ _ => True) (va_A [] sz)) (vx_X (fun _ : Unit => True) (fun E _ _ => E = iOE ∧ (w0 < 0 ∨ ¬ w0 < n0)) (va_A [] sz)) 1 6 (va_A [] sz) := by
  refine vx_ofW (cc := cX11_needIndex) (maxL := 2) (ret := none) (by decide) rfl ?_
  intro p e s m args below meth c s₁ B hml hno hv
  obtain ⟨rfl, hsz, hP, hK, hD0, hZ, hE⟩ := hv
  have hx := B.exec
  have hb := B.bytes
  have hr := B.returns
  have hts := atoms_spec (ws := v_c_needIndex) B.pre
  have hown : s.vm.findClass RX11 = some m.cls := findClass_of_methodNamed B.named
  have hlocks := B.notSynchronized
  subst hsz
  have hD := hD0.self (sz := s.heap.size)
  generalize hAe : va_A [] s.heap.size = A at hD hZ ⊢
  have hA : ∀ q : Nat, s.heap.size ≤ q → A q := fun q h => by rw [← hAe]; exact Or.inr h
  have hS : va_S A s.heap s.heap [] := va_S.rf
  have hAO := hE.2.2.2.1
  have hP : va_P D vwCl [] s.heap := hP
  have hl := lv_entry ([.int w0, .int n0]) (n := 2) (Nat.le_of_ble_eq_true rfl)
  rw [lg_entry_eq]
  generalize (lg_sl ([.int w0, .int n0]) ++ List.replicate (2 - (lg_sl ([.int w0, .int n0])).length) Slot.unset).toArray = ls at hl ⊢
  have hl : lv_has ls 2 [(0, .int w0), (1, .int n0)] := hl
  refine lv_iload_n hx hb dX11_needIndex_0 rfl (lv_at hl 0 rfl) ?_
  refine lv_if_lt (tgt := 9) hx hb dX11_needIndex_1 (by decide) (fun c1 => ?_) (fun c1 => ?_)
  · obtain ⟨sa, hsa⟩ := ev_text hE 390 "there is none such" (by decide)
    exact vx_throwSW hx hb hlt (own := RX11) (cls := iOE) (text := "there is none such") (names := up2) (ik := 127) (is := 390) (ic := 131) (sa := sa) (A := A) hown (by decide +kernel) (by decide +kernel) (hts (.classLink RX11 127 iOE) (by decide +kernel)) (hts (.initialized iOE) (by decide +kernel)) hsa (vx_hat (B := ev_B iOE) (fun w hw => hts w (gm_v_c_needIndex_0 w hw)) (by decide +kernel) (ev_b hE iOE (by decide))) (by decide +kernel) hZ.1 hZ.2 hS (by rw [hml]; exact hl.1) dX11_needIndex_9 dX11_needIndex_12 dX11_needIndex_13 dX11_needIndex_16 dX11_needIndex_19 (fun x hx => (hno x hx).elim) (by decide) (by decide) (by decide) (by decide) hlocks (fun t _ hz hk => ⟨(), trivial, ⟨rfl, Or.inl c1⟩, Nat.le_trans hS.1 hz, fun q h1 h2 => (hk q (Nat.lt_of_lt_of_le h1 hS.1)).trans (hS.2.1 q h1 h2)⟩) hS.2.2 (by decide) (by decide)
  · refine lv_iload_n hx hb dX11_needIndex_4 rfl (lv_at hl 0 rfl) ?_
    refine lv_iload_n hx hb dX11_needIndex_5 rfl (lv_at hl 1 rfl) ?_
    refine lv_icmp_lt (tgt := 20) hx hb dX11_needIndex_6 (by decide) (fun c2 => ?_) (fun c2 => ?_)
    · refine vx_ret (W.widen (k := 1) (n := 6) (Nat.le_of_ble_eq_true rfl) (Nat.le_of_ble_eq_true rfl) ?_)
      exact W.vret hx hb hr (fun t ht hW => ⟨⟨(), rfl, ⟨c1, c2⟩, trivial⟩, hS.F ht⟩) hS.2.2 dX11_needIndex_20
    · obtain ⟨sa, hsa⟩ := ev_text hE 390 "there is none such" (by decide)
      exact vx_throwSW hx hb hlt (own := RX11) (cls := iOE) (text := "there is none such") (names := up2) (ik := 127) (is := 390) (ic := 131) (sa := sa) (A := A) hown (by decide +kernel) (by decide +kernel) (hts (.classLink RX11 127 iOE) (by decide +kernel)) (hts (.initialized iOE) (by decide +kernel)) hsa (vx_hat (B := ev_B iOE) (fun w hw => hts w (gm_v_c_needIndex_0 w hw)) (by decide +kernel) (ev_b hE iOE (by decide))) (by decide +kernel) hZ.1 hZ.2 hS (by rw [hml]; exact hl.1) dX11_needIndex_9 dX11_needIndex_12 dX11_needIndex_13 dX11_needIndex_16 dX11_needIndex_19 (fun x hx => (hno x hx).elim) (by decide) (by decide) (by decide) (by decide) hlocks (fun t _ hz hk => ⟨(), trivial, ⟨rfl, Or.inr c2⟩, Nat.le_trans hS.1 hz, fun q h1 h2 => (hk q (Nat.lt_of_lt_of_le h1 hS.1)).trans (hS.2.1 q h1 h2)⟩) hS.2.2 (by decide) (by decide)
noncomputable def v_c_needWhat : List Cond := .code yX11_needWhat cX11_needWhat 2 none :: ([.classLink RX11 127 iOE, .initialized iOE] ++ (((vx_atS RX11 131 iOE up2).filter goodWord) ++ ([])))
theorem gm_v_c_needWhat_0 : ∀ w ∈ (vx_atS RX11 131 iOE up2).filter goodWord, w ∈ v_c_needWhat := fun _ h => List.mem_cons_of_mem _ (List.mem_append_right _ (List.mem_append_left _ h))
theorem t_v_c_needWhat : ∀ w ∈ v_c_needWhat, w ∈ lw_tbl := tb_c (List.mem_of_getElem? (i := 1268) (by decide +kernel)) (tb_a (tb_c (List.mem_of_getElem? (i := 1243) (by decide +kernel)) (tb_c (List.mem_of_getElem? (i := 227) (by decide +kernel)) (tb_n))) (tb_a (tx_X11_131) (tb_n)))
set_option maxHeartbeats 400000 in
set_option maxRecDepth 100000 in
/-- needWhat: in its range, or a throw -/
theorem c_needWhat (l : Launch) (hlt : l.stackTraces = false) (D : va_G) (w0 n0 : Int32) (sz : Nat) : vx_Met l yX11_needWhat v_c_needWhat ({ frames := 6, cells := 1, slots := 6, locals := 110 }) (va_Pc [.int w0, .int n0] (st_ D [] [] sz)) (va_Qv (fun _ : Unit => ¬ w0 < 0 ∧ w0 < n0) (fun _ _ => True) (va_A [] sz)) (vx_X (fun _ : Unit => True) (fun E _ _ => E = iOE ∧ (w0 < 0 ∨ ¬ w0 < n0)) (va_A [] sz)) 1 6 (va_A [] sz) := by
  refine vx_ofW (cc := cX11_needWhat) (maxL := 2) (ret := none) (by decide) rfl ?_
  intro p e s m args below meth c s₁ B hml hno hv
  obtain ⟨rfl, hsz, hP, hK, hD0, hZ, hE⟩ := hv
  have hx := B.exec
  have hb := B.bytes
  have hr := B.returns
  have hts := atoms_spec (ws := v_c_needWhat) B.pre
  have hown : s.vm.findClass RX11 = some m.cls := findClass_of_methodNamed B.named
  have hlocks := B.notSynchronized
  subst hsz
  have hD := hD0.self (sz := s.heap.size)
  generalize hAe : va_A [] s.heap.size = A at hD hZ ⊢
  have hA : ∀ q : Nat, s.heap.size ≤ q → A q := fun q h => by rw [← hAe]; exact Or.inr h
  have hS : va_S A s.heap s.heap [] := va_S.rf
  have hAO := hE.2.2.2.1
  have hP : va_P D vwCl [] s.heap := hP
  have hl := lv_entry ([.int w0, .int n0]) (n := 2) (Nat.le_of_ble_eq_true rfl)
  rw [lg_entry_eq]
  generalize (lg_sl ([.int w0, .int n0]) ++ List.replicate (2 - (lg_sl ([.int w0, .int n0])).length) Slot.unset).toArray = ls at hl ⊢
  have hl : lv_has ls 2 [(0, .int w0), (1, .int n0)] := hl
  refine lv_iload_n hx hb dX11_needWhat_0 rfl (lv_at hl 0 rfl) ?_
  refine lv_if_lt (tgt := 9) hx hb dX11_needWhat_1 (by decide) (fun c1 => ?_) (fun c1 => ?_)
  · obtain ⟨sa, hsa⟩ := ev_text hE 129 "no such what" (by decide)
    exact vx_throwS hx hb hlt (own := RX11) (cls := iOE) (text := "no such what") (names := up2) (ik := 127) (is := 129) (ic := 131) (sa := sa) (A := A) hown (by decide +kernel) (by decide +kernel) (hts (.classLink RX11 127 iOE) (by decide +kernel)) (hts (.initialized iOE) (by decide +kernel)) hsa (vx_hat (B := ev_B iOE) (fun w hw => hts w (gm_v_c_needWhat_0 w hw)) (by decide +kernel) (ev_b hE iOE (by decide))) (by decide +kernel) hZ.1 hZ.2 hS (by rw [hml]; exact hl.1) dX11_needWhat_9 dX11_needWhat_12 dX11_needWhat_13 dX11_needWhat_15 dX11_needWhat_18 (fun x hx => (hno x hx).elim) (by decide) (by decide) (by decide) (by decide) hlocks (fun t _ hz hk => ⟨(), trivial, ⟨rfl, Or.inl c1⟩, Nat.le_trans hS.1 hz, fun q h1 h2 => (hk q (Nat.lt_of_lt_of_le h1 hS.1)).trans (hS.2.1 q h1 h2)⟩) hS.2.2 (by decide) (by decide)
  · refine lv_iload_n hx hb dX11_needWhat_4 rfl (lv_at hl 0 rfl) ?_
    refine lv_iload_n hx hb dX11_needWhat_5 rfl (lv_at hl 1 rfl) ?_
    refine lv_icmp_lt (tgt := 19) hx hb dX11_needWhat_6 (by decide) (fun c2 => ?_) (fun c2 => ?_)
    · refine vx_ret (W.widen (k := 1) (n := 6) (Nat.le_of_ble_eq_true rfl) (Nat.le_of_ble_eq_true rfl) ?_)
      exact W.vret hx hb hr (fun t ht hW => ⟨⟨(), rfl, ⟨c1, c2⟩, trivial⟩, hS.F ht⟩) hS.2.2 dX11_needWhat_19
    · obtain ⟨sa, hsa⟩ := ev_text hE 129 "no such what" (by decide)
      exact vx_throwS hx hb hlt (own := RX11) (cls := iOE) (text := "no such what") (names := up2) (ik := 127) (is := 129) (ic := 131) (sa := sa) (A := A) hown (by decide +kernel) (by decide +kernel) (hts (.classLink RX11 127 iOE) (by decide +kernel)) (hts (.initialized iOE) (by decide +kernel)) hsa (vx_hat (B := ev_B iOE) (fun w hw => hts w (gm_v_c_needWhat_0 w hw)) (by decide +kernel) (ev_b hE iOE (by decide))) (by decide +kernel) hZ.1 hZ.2 hS (by rw [hml]; exact hl.1) dX11_needWhat_9 dX11_needWhat_12 dX11_needWhat_13 dX11_needWhat_15 dX11_needWhat_18 (fun x hx => (hno x hx).elim) (by decide) (by decide) (by decide) (by decide) hlocks (fun t _ hz hk => ⟨(), trivial, ⟨rfl, Or.inr c2⟩, Nat.le_trans hS.1 hz, fun q h1 h2 => (hk q (Nat.lt_of_lt_of_le h1 hS.1)).trans (hS.2.1 q h1 h2)⟩) hS.2.2 (by decide) (by decide)
