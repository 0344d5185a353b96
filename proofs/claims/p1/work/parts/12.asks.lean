theorem in_rg {w : Int32} (h : ¬ w < 0 ∧ w < 2) : vp_in w 2 := by
  rw [vp_in_iff]
  have h1 := h.1
  have h2 := h.2
  rw [Int32.lt_iff_toInt_lt] at h1 h2
  have e0 : (0 : Int32).toInt = 0 := by decide
  have e2 : (2 : Int32).toInt = 2 := by decide
  rw [e0] at h1
  rw [e2] at h2
  omega
noncomputable def v_c_wasTried : List Cond := .code yX11_wasTried cX11_wasTried 2 (some .boolean) :: ([.fieldLink RX11 59 "ScheduleHouse" "trials" "[LScheduleHouse$Trial;"] ++ (wsX110 ++ ([])))
theorem i_v_c_wasTried_X11 : ∀ w ∈ wsX110, w ∈ v_c_wasTried := fun _ h => List.mem_cons_of_mem _ (List.mem_append_right _ (List.mem_append_left _ h))
theorem t_v_c_wasTried : ∀ w ∈ v_c_wasTried, w ∈ lw_tbl := tb_c (List.mem_of_getElem? (i := 1198) (by decide +kernel)) (tb_a (tb_c (List.mem_of_getElem? (i := 743) (by decide +kernel)) (tb_n)) (tb_a (tw_wsX110) (tb_n)))
set_option maxHeartbeats 400000 in
set_option maxRecDepth 100000 in
/-- wasTried(way): no -/
theorem c_wasTried (l : Launch) (D : va_G) (h0 tr : Nat) (ct : ClassId) (xfs : List Value) (w0 : Int32) (sz : Nat) (hq6 : xfs[6]? = some (.ref tr)) (hw0 : ¬ w0 < 0 ∧ w0 < 2) : Met l yX11_wasTried v_c_wasTried ({ frames := 1, cells := 0, slots := 0, locals := 12 }) (va_Pc [.ref h0, .int w0] (st_ D [(h0, .inr (11, xfs)), (tr, .inl (ct, 2, .inr (.inr (.inr (.inr (fun _ => none))))))] [(ct, .object "ScheduleHouse$Trial")] sz)) (va_Qi (fun (r : Int32) (_ : Unit) => r = 0) (fun _ _ => True) (va_A [(h0, .inr (11, xfs)), (tr, .inl (ct, 2, .inr (.inr (.inr (.inr (fun _ => none))))))] sz)) 0 0 (va_A [(h0, .inr (11, xfs)), (tr, .inl (ct, 2, .inr (.inr (.inr (.inr (fun _ => none))))))] sz) := by
  refine Met.ofW (cc := cX11_wasTried) (maxL := 2) (ret := (some .boolean)) (by decide) rfl ?_
  intro p e s m args below meth c s₁ B hml hv
  obtain ⟨rfl, hsz, hP, hK, hD0, hZ, hE⟩ := hv
  have hx := B.exec
  have hb := B.bytes
  have hr := B.returns
  have hts := atoms_spec (ws := v_c_wasTried) B.pre
  have hown : s.vm.findClass RX11 = some m.cls := findClass_of_methodNamed B.named
  have hlocks := B.notSynchronized
  subst hsz
  have hD := hD0.self (sz := s.heap.size)
  generalize hAe : va_A [(h0, .inr (11, xfs)), (tr, .inl (ct, 2, .inr (.inr (.inr (.inr (fun _ => none))))))] s.heap.size = A at hD hZ ⊢
  have hA : ∀ q : Nat, s.heap.size ≤ q → A q := fun q h => by rw [← hAe]; exact Or.inr h
  have hS : va_S A s.heap s.heap [] := va_S.rf
  have hAO := hE.2.2.2.1
  have hP : va_P D vwCl [(h0, .inr (11, xfs)), (tr, .inl (ct, 2, .inr (.inr (.inr (.inr (fun _ => none))))))] s.heap := hP
  have hl := lv_entry ([.ref h0, .int w0]) (n := 2) (Nat.le_of_ble_eq_true rfl)
  rw [lg_entry_eq]
  generalize (lg_sl ([.ref h0, .int w0]) ++ List.replicate (2 - (lg_sl ([.ref h0, .int w0])).length) Slot.unset).toArray = ls at hl ⊢
  have hl : lv_has ls 2 [(0, .ref h0), (1, .int w0)] := hl
  refine lv_aload_n hx hb dX11_wasTried_0 rfl (lv_at hl 0 rfl) ?_
  refine va_get (D := D) (ci := 11) (v := .ref tr) (C := RX11) (T := TX11) (N := 13) hx hb hts i_v_c_wasTried_X11 hown hK hP 0 rfl rfl 6 (by decide) (hts (.fieldLink RX11 59 "ScheduleHouse" "trials" "[LScheduleHouse$Trial;") (by decide +kernel)) (fun _ h9 => h9) hq6 dX11_wasTried_1 ?_
  refine lv_iload_n hx hb dX11_wasTried_4 rfl (lv_at hl 1 rfl) ?_
  refine va_aldq hx hb hK hP 1 0 rfl rfl (i := w0) (in_rg hw0) dX11_wasTried_5 ?_
  refine lv_ifnullN (tgt := 25) hx hb dX11_wasTried_6 (by decide) ?_
  refine lv_iconst (v := 0) hx hb dX11_wasTried_25 (by decide +kernel) ?_
  exact W.zret (v := 0) hx hb hr rfl (fun t ht hW => ⟨⟨0, (), rfl, rfl, trivial⟩, hS.F ht⟩) hS.2.2 dX11_wasTried_26
noncomputable def v_c_wasTriedK : List Cond := .code yX11_wasTried cX11_wasTried 2 (some .boolean) :: ([.fieldLink RX11 59 "ScheduleHouse" "trials" "[LScheduleHouse$Trial;"] ++ (wsX110 ++ ([])))
theorem i_v_c_wasTriedK_X11 : ∀ w ∈ wsX110, w ∈ v_c_wasTriedK := fun _ h => List.mem_cons_of_mem _ (List.mem_append_right _ (List.mem_append_left _ h))
theorem t_v_c_wasTriedK : ∀ w ∈ v_c_wasTriedK, w ∈ lw_tbl := tb_c (List.mem_of_getElem? (i := 1198) (by decide +kernel)) (tb_a (tb_c (List.mem_of_getElem? (i := 743) (by decide +kernel)) (tb_n)) (tb_a (tw_wsX110) (tb_n)))
set_option maxHeartbeats 400000 in
set_option maxRecDepth 100000 in
/-- wasTried(way): no -/
theorem c_wasTriedK (l : Launch) (D : va_G) (h0 tr : Nat) (ct : ClassId) (xfs : List Value) (w0 : Int32) (sz : Nat) (hq6 : xfs[6]? = some (.ref tr)) (hw0 : ¬ w0 < 0 ∧ w0 < 2) : Met l yX11_wasTried v_c_wasTriedK ({ frames := 1, cells := 0, slots := 0, locals := 12 }) (va_Pc [.ref h0, .int w0] (st_ D [(h0, .inr (11, xfs)), (tr, .inl (ct, 2, .inr (.inr (.inr (.inr (fun _ => none))))))] [(ct, .object "ScheduleHouse$Trial")] sz)) (va_Qi (fun (r : Int32) (_ : Unit) => r = 0) (fun _ t => va_P D vwCl [(h0, .inr (11, xfs)), (tr, .inl (ct, 2, .inr (.inr (.inr (.inr (fun _ => none))))))] t.heap ∧ va_K D vwCl [(ct, .object "ScheduleHouse$Trial")] t ∧ va_D (va_A [(h0, .inr (11, xfs)), (tr, .inl (ct, 2, .inr (.inr (.inr (.inr (fun _ => none))))))] sz) [(h0, .inr (11, xfs)), (tr, .inl (ct, 2, .inr (.inr (.inr (.inr (fun _ => none))))))]) (va_A [(h0, .inr (11, xfs)), (tr, .inl (ct, 2, .inr (.inr (.inr (.inr (fun _ => none))))))] sz)) 0 0 (va_A [(h0, .inr (11, xfs)), (tr, .inl (ct, 2, .inr (.inr (.inr (.inr (fun _ => none))))))] sz) := by
  refine Met.ofW (cc := cX11_wasTried) (maxL := 2) (ret := (some .boolean)) (by decide) rfl ?_
  intro p e s m args below meth c s₁ B hml hv
  obtain ⟨rfl, hsz, hP, hK, hD0, hZ, hE⟩ := hv
  have hx := B.exec
  have hb := B.bytes
  have hr := B.returns
  have hts := atoms_spec (ws := v_c_wasTriedK) B.pre
  have hown : s.vm.findClass RX11 = some m.cls := findClass_of_methodNamed B.named
  have hlocks := B.notSynchronized
  subst hsz
  have hD := hD0.self (sz := s.heap.size)
  generalize hAe : va_A [(h0, .inr (11, xfs)), (tr, .inl (ct, 2, .inr (.inr (.inr (.inr (fun _ => none))))))] s.heap.size = A at hD hZ ⊢
  have hA : ∀ q : Nat, s.heap.size ≤ q → A q := fun q h => by rw [← hAe]; exact Or.inr h
  have hS : va_S A s.heap s.heap [] := va_S.rf
  have hAO := hE.2.2.2.1
  have hP : va_P D vwCl [(h0, .inr (11, xfs)), (tr, .inl (ct, 2, .inr (.inr (.inr (.inr (fun _ => none))))))] s.heap := hP
  have hl := lv_entry ([.ref h0, .int w0]) (n := 2) (Nat.le_of_ble_eq_true rfl)
  rw [lg_entry_eq]
  generalize (lg_sl ([.ref h0, .int w0]) ++ List.replicate (2 - (lg_sl ([.ref h0, .int w0])).length) Slot.unset).toArray = ls at hl ⊢
  have hl : lv_has ls 2 [(0, .ref h0), (1, .int w0)] := hl
  refine lv_aload_n hx hb dX11_wasTried_0 rfl (lv_at hl 0 rfl) ?_
  refine va_get (D := D) (ci := 11) (v := .ref tr) (C := RX11) (T := TX11) (N := 13) hx hb hts i_v_c_wasTriedK_X11 hown hK hP 0 rfl rfl 6 (by decide) (hts (.fieldLink RX11 59 "ScheduleHouse" "trials" "[LScheduleHouse$Trial;") (by decide +kernel)) (fun _ h9 => h9) hq6 dX11_wasTried_1 ?_
  refine lv_iload_n hx hb dX11_wasTried_4 rfl (lv_at hl 1 rfl) ?_
  refine va_aldq hx hb hK hP 1 0 rfl rfl (i := w0) (in_rg hw0) dX11_wasTried_5 ?_
  refine lv_ifnullN (tgt := 25) hx hb dX11_wasTried_6 (by decide) ?_
  refine lv_iconst (v := 0) hx hb dX11_wasTried_25 (by decide +kernel) ?_
  exact W.zret (v := 0) hx hb hr rfl (fun t ht hW => ⟨⟨0, (), rfl, rfl, by rw [ht]; exact hP, va_K.moved hW.alike hK, hD⟩, hS.F ht⟩) hS.2.2 dX11_wasTried_26
noncomputable def v_c_firstState : List Cond := .code yX11_firstState cX11_firstState 3 (some .int) :: ([] ++ ((wsV RX11 309 RX11 yX11_wasTried v_c_wasTriedK) ++ ([])))
theorem g_v_c_firstState_0 : GoodIn v_c_firstState (wsV RX11 309 RX11 yX11_wasTried v_c_wasTriedK) := goodIn_sub (fun _ h => List.mem_cons_of_mem _ (List.mem_append_right _ (List.mem_append_left _ h))) (by decide +kernel)
theorem t_v_c_firstState : ∀ w ∈ v_c_firstState, w ∈ lw_tbl := tb_c (List.mem_of_getElem? (i := 2029) (by decide +kernel)) (tb_a (tb_n) (tb_a (tb_a (tb_c (List.mem_of_getElem? (i := 1195) (by decide +kernel)) (tb_c (List.mem_of_getElem? (i := 1197) (by decide +kernel)) (tb_c (List.mem_of_getElem? (i := 54) (by decide +kernel)) (tb_c (List.mem_of_getElem? (i := 206) (by decide +kernel)) (tb_n))))) t_v_c_wasTriedK) (tb_n)))
set_option maxHeartbeats 400000 in
set_option maxRecDepth 100000 in
/-- firstState(way, f): none -/
theorem c_firstState (l : Launch) (D : va_G) (h0 tr : Nat) (ct : ClassId) (xfs : List Value) (w0 f0 : Int32) (sz : Nat) (hq6 : xfs[6]? = some (.ref tr)) (hw0 : ¬ w0 < 0 ∧ w0 < 2) : Met l yX11_firstState v_c_firstState ({ frames := 3, cells := 0, slots := 0, locals := 40 }) (va_Pc [.ref h0, .int w0, .int f0] (st_ D [(h0, .inr (11, xfs)), (tr, .inl (ct, 2, .inr (.inr (.inr (.inr (fun _ => none))))))] [(ct, .object "ScheduleHouse$Trial")] sz)) (va_Qi (fun (r : Int32) (_ : Unit) => r = -1) (fun _ _ => True) (va_A [(h0, .inr (11, xfs)), (tr, .inl (ct, 2, .inr (.inr (.inr (.inr (fun _ => none))))))] sz)) 0 0 (va_A [(h0, .inr (11, xfs)), (tr, .inl (ct, 2, .inr (.inr (.inr (.inr (fun _ => none))))))] sz) := by
  refine Met.ofW (cc := cX11_firstState) (maxL := 3) (ret := (some .int)) (by decide) rfl ?_
  intro p e s m args below meth c s₁ B hml hv
  obtain ⟨rfl, hsz, hP, hK, hD0, hZ, hE⟩ := hv
  have hx := B.exec
  have hb := B.bytes
  have hr := B.returns
  have hts := atoms_spec (ws := v_c_firstState) B.pre
  have hown : s.vm.findClass RX11 = some m.cls := findClass_of_methodNamed B.named
  have hlocks := B.notSynchronized
  subst hsz
  have hD := hD0.self (sz := s.heap.size)
  generalize hAe : va_A [(h0, .inr (11, xfs)), (tr, .inl (ct, 2, .inr (.inr (.inr (.inr (fun _ => none))))))] s.heap.size = A at hD hZ ⊢
  have hA : ∀ q : Nat, s.heap.size ≤ q → A q := fun q h => by rw [← hAe]; exact Or.inr h
  have hS : va_S A s.heap s.heap [] := va_S.rf
  have hAO := hE.2.2.2.1
  have hP : va_P D vwCl [(h0, .inr (11, xfs)), (tr, .inl (ct, 2, .inr (.inr (.inr (.inr (fun _ => none))))))] s.heap := hP
  have hl := lv_entry ([.ref h0, .int w0, .int f0]) (n := 3) (Nat.le_of_ble_eq_true rfl)
  rw [lg_entry_eq]
  generalize (lg_sl ([.ref h0, .int w0, .int f0]) ++ List.replicate (3 - (lg_sl ([.ref h0, .int w0, .int f0])).length) Slot.unset).toArray = ls at hl ⊢
  have hl : lv_has ls 3 [(0, .ref h0), (1, .int w0), (2, .int f0)] := hl
  refine lv_aload_n hx hb dX11_firstState_0 rfl (lv_at hl 0 rfl) ?_
  refine lv_iload_n hx hb dX11_firstState_1 rfl (lv_at hl 1 rfl) ?_
  have hPc := hP.sub (ws' := [(h0, .inr (11, xfs)), (tr, .inl (ct, 2, .inr (.inr (.inr (.inr (fun _ => none))))))]) [0, 1] rfl
  have hDc := hD.sub (ws' := [(h0, .inr (11, xfs)), (tr, .inl (ct, 2, .inr (.inr (.inr (.inr (fun _ => none))))))]) [0, 1] (by decide) rfl
  have hKc := hK.sub (tys' := [(ct, .object "ScheduleHouse$Trial")]) [0] rfl
  have hFc := va_free (wc := [(h0, .inr (11, xfs)), (tr, .inl (ct, 2, .inr (.inr (.inr (.inr (fun _ => none))))))]) hD hS hA [0, 1] rfl
  refine va_calli (va_runV (As := [.int w0]) (rest := []) ⟨hx, hb, hml, hown, hts⟩ (c_wasTriedK l D h0 tr ct xfs w0 s.heap.size hq6 hw0) (cwV 1 hts g_v_c_firstState_0 rfl rfl rfl (by decide +kernel) ⟨Nat.le_of_ble_eq_true rfl, Nat.le_of_ble_eq_true rfl⟩) ⟨st_blind, va_recv hKc hPc (ci := 11) (q0 := 0) rfl rfl, fun U hU hW => ⟨rfl, st_call hU hW hPc hKc hDc hZ hS hFc hE⟩⟩ rfl rfl hl.1 rfl (lv_room (Nat.le_of_ble_eq_true rfl)) dX11_firstState_2 ⟨Nat.le_of_ble_eq_true rfl, Nat.le_of_ble_eq_true rfl⟩) hS (fun q _ h => hFc q h) hFc (fun r1 u2 t H1 locs ht hvm hw hB hz1 hk1 hS => ?_)
  obtain ⟨hP1, hK1, hD1⟩ := hB
  rw [ht] at hP1
  have hK1 := va_K.moved hvm.symm hK1
  obtain ⟨hP, hD⟩ := va_join (wr := []) (w1 := [(h0, .inr (11, xfs)), (tr, .inl (ct, 2, .inr (.inr (.inr (.inr (fun _ => none))))))]) hP hD [0, 1] [] rfl rfl (by decide) (by decide) hk1 hFc hP1 hD1
  have hK := (hK.sub (tys' := []) [] rfl).app hK1
  generalize H1 = H at hP hS ⊢
  have hP : va_P D vwCl [(h0, .inr (11, xfs)), (tr, .inl (ct, 2, .inr (.inr (.inr (.inr (fun _ => none))))))] H := hP
  have hD : va_D A [(h0, .inr (11, xfs)), (tr, .inl (ct, 2, .inr (.inr (.inr (.inr (fun _ => none))))))] := hD
  have hK : va_K D vwCl [(ct, .object "ScheduleHouse$Trial")] s := hK
  subst hw
  refine lv_if_eq (tgt := 22) hx hb dX11_firstState_5 (by decide) (fun _ => ?_) (fun c9 => False.elim (by revert c9; decide))
  refine lv_iconst (v := (-1)) hx hb dX11_firstState_22 (by decide +kernel) ?_
  exact W.iret (v := (-1)) hx hb hr (fun t ht hW => ⟨⟨-1, (), rfl, rfl, trivial⟩, hS.F ht⟩) hS.2.2 dX11_firstState_23
noncomputable def v_c_count : List Cond := .code yX11_count cX11_count 2 (some .int) :: ([.fieldLink RX11 110 "ScheduleHouse" "compiled" "Z"] ++ ((va_wsS RX11 132 yX11_needWhat v_c_needWhat) ++ (wsX110 ++ ([]))))
theorem g_v_c_count_0 : GoodIn v_c_count (va_wsS RX11 132 yX11_needWhat v_c_needWhat) := goodIn_sub (fun _ h => List.mem_cons_of_mem _ (List.mem_append_right _ (List.mem_append_left _ h))) (by decide +kernel)
theorem i_v_c_count_X11 : ∀ w ∈ wsX110, w ∈ v_c_count := fun _ h => List.mem_cons_of_mem _ (List.mem_append_right _ (List.mem_append_right _ (List.mem_append_left _ h)))
theorem t_v_c_count : ∀ w ∈ v_c_count, w ∈ lw_tbl := tb_c (List.mem_of_getElem? (i := 1265) (by decide +kernel)) (tb_a (tb_c (List.mem_of_getElem? (i := 746) (by decide +kernel)) (tb_n)) (tb_a (tb_a (tb_c (List.mem_of_getElem? (i := 1266) (by decide +kernel)) (tb_c (List.mem_of_getElem? (i := 1267) (by decide +kernel)) (tb_c (List.mem_of_getElem? (i := 206) (by decide +kernel)) (tb_n)))) t_v_c_needWhat) (tb_a (tw_wsX110) (tb_n))))
set_option maxHeartbeats 400000 in
set_option maxRecDepth 100000 in
/-- count(..) of a new house -/
theorem c_count (l : Launch) (hlt : l.stackTraces = false) (D : va_G) (h0 : Nat) (xfs : List Value) (p0 : Int32) (sz : Nat) (hq9 : xfs[9]? = some (.int 0)) : vx_Met l yX11_count v_c_count ({ frames := 9, cells := 1, slots := 6, locals := 220 }) (va_Pc [.ref h0, .int p0] (st_ D [(h0, .inr (11, xfs))] [] sz)) (va_Qi (fun (r : Int32) (_ : Unit) => r = 0 ∧ (¬ p0 < 0 ∧ p0 < 5)) (fun _ _ => True) (va_A [(h0, .inr (11, xfs))] sz)) (vx_X (fun _ : Unit => True) (fun E _ _ => E = iOE ∧ (p0 < 0 ∨ ¬ p0 < 5)) (va_A [(h0, .inr (11, xfs))] sz)) 1 6 (va_A [(h0, .inr (11, xfs))] sz) := by
  refine vx_ofW (cc := cX11_count) (maxL := 2) (ret := (some .int)) (by decide) rfl ?_
  intro p e s m args below meth c s₁ B hml hno hv
  obtain ⟨rfl, hsz, hP, hK, hD0, hZ, hE⟩ := hv
  have hx := B.exec
  have hb := B.bytes
  have hr := B.returns
  have hts := atoms_spec (ws := v_c_count) B.pre
  have hown : s.vm.findClass RX11 = some m.cls := findClass_of_methodNamed B.named
  have hlocks := B.notSynchronized
  subst hsz
  have hD := hD0.self (sz := s.heap.size)
  generalize hAe : va_A [(h0, .inr (11, xfs))] s.heap.size = A at hD hZ ⊢
  have hA : ∀ q : Nat, s.heap.size ≤ q → A q := fun q h => by rw [← hAe]; exact Or.inr h
  have hS : va_S A s.heap s.heap [] := va_S.rf
  have hAO := hE.2.2.2.1
  have hP : va_P D vwCl [(h0, .inr (11, xfs))] s.heap := hP
  have hl := lv_entry ([.ref h0, .int p0]) (n := 2) (Nat.le_of_ble_eq_true rfl)
  rw [lg_entry_eq]
  generalize (lg_sl ([.ref h0, .int p0]) ++ List.replicate (2 - (lg_sl ([.ref h0, .int p0])).length) Slot.unset).toArray = ls at hl ⊢
  have hl : lv_has ls 2 [(0, .ref h0), (1, .int p0)] := hl
  refine lv_iload_n hx hb dX11_count_0 rfl (lv_at hl 1 rfl) ?_
  refine lv_iconst (v := 5) hx hb dX11_count_1 (by decide +kernel) ?_
  have hPc := hP.sub (ws' := []) [] rfl
  have hDc := hD.sub (ws' := []) [] (by decide) rfl
  have hKc := hK.sub (tys' := []) [] rfl
  have hFc := va_free (wc := []) hD hS hA [] rfl
  refine vx_callv (vx_runS (As := [.int p0, .int 5]) (rest := []) ⟨hx, hb, hml, hown, hts⟩ (c_needWhat l hlt D p0 5 s.heap.size) (va_cwS 2 hts g_v_c_count_0 rfl rfl rfl (by decide +kernel) ⟨Nat.le_of_ble_eq_true rfl, Nat.le_of_ble_eq_true rfl⟩) ⟨st_blind, fun U hU hW => ⟨rfl, st_call hU hW hPc hKc hDc hZ hS hFc hE⟩⟩ rfl rfl hl.1 rfl (lv_room (Nat.le_of_ble_eq_true rfl)) dX11_count_2 ⟨Nat.le_of_ble_eq_true rfl, Nat.le_of_ble_eq_true rfl⟩) hS (fun q _ h => hFc q h) hFc (fun q _ h => hFc q h) (fun E ce q9 _ t H1 locs ht hvm hw hB hz1 hk1 hS hce hcv hcl => ?_) (fun u9 t H1 locs ht hvm hw hB hz1 hk1 hS => ?_)
  · obtain ⟨hEx, hr9⟩ := hB
    subst hEx
    exact vx_out (E := _) (fun x hx => (hno x hx).elim) hlocks hce hcv hcl (fun t2 h2 hvm2 => ⟨(), trivial, ⟨rfl, hr9⟩, hS.F h2⟩) hS.2.2 (Nat.le_of_ble_eq_true rfl) (Nat.le_of_ble_eq_true rfl)
  · have hn1 := hw
    obtain ⟨hP, hD⟩ := va_join (wr := [(h0, .inr (11, xfs))]) (w1 := []) hP hD [] [0] rfl rfl (by decide) (by decide) hk1 hFc p_nil d_nil
    generalize H1 = H at hP hS ⊢
    have hP : va_P D vwCl [(h0, .inr (11, xfs))] H := hP
    have hD : va_D A [(h0, .inr (11, xfs))] := hD
    refine lv_aload_n hx hb dX11_count_5 rfl (lv_at hl 0 rfl) ?_
    refine va_get (D := D) (ci := 11) (v := .int 0) (C := RX11) (T := TX11) (N := 13) hx hb hts i_v_c_count_X11 hown hK hP 0 rfl rfl 9 (by decide) (hts (.fieldLink RX11 110 "ScheduleHouse" "compiled" "Z") (by decide +kernel)) (fun _ h9 => h9) hq9 dX11_count_6 ?_
    refine lv_if_ne (tgt := 14) hx hb dX11_count_9 (by decide) (fun c9 => False.elim (by revert c9; decide)) (fun _ => ?_)
    refine lv_iconst (v := 0) hx hb dX11_count_12 (by decide +kernel) ?_
    refine vx_ret (W.widen (k := 1) (n := 6) (Nat.le_of_ble_eq_true rfl) (Nat.le_of_ble_eq_true rfl) ?_)
    exact W.iret (v := 0) hx hb hr (fun t ht hW => ⟨⟨0, (), rfl, ⟨rfl, hn1⟩, trivial⟩, hS.F ht⟩) hS.2.2 dX11_count_13
noncomputable def v_c_tried : List Cond := .code yX11_tried cX11_tried 4 (some .int) :: ([] ++ ((va_wsS RX11 151 yX11_needWay v_c_needWay) ++ ((va_wsS RX11 132 yX11_needWhat v_c_needWhat) ++ ((wsV RX11 309 RX11 yX11_wasTried v_c_wasTriedK) ++ ([])))))
theorem g_v_c_tried_0 : GoodIn v_c_tried (va_wsS RX11 151 yX11_needWay v_c_needWay) := goodIn_sub (fun _ h => List.mem_cons_of_mem _ (List.mem_append_right _ (List.mem_append_left _ h))) (by decide +kernel)
theorem g_v_c_tried_1 : GoodIn v_c_tried (va_wsS RX11 132 yX11_needWhat v_c_needWhat) := goodIn_sub (fun _ h => List.mem_cons_of_mem _ (List.mem_append_right _ (List.mem_append_right _ (List.mem_append_left _ h)))) (by decide +kernel)
theorem g_v_c_tried_2 : GoodIn v_c_tried (wsV RX11 309 RX11 yX11_wasTried v_c_wasTriedK) := goodIn_sub (fun _ h => List.mem_cons_of_mem _ (List.mem_append_right _ (List.mem_append_right _ (List.mem_append_right _ (List.mem_append_left _ h))))) (by decide +kernel)
theorem t_v_c_tried : ∀ w ∈ v_c_tried, w ∈ lw_tbl := tb_c (List.mem_of_getElem? (i := 2003) (by decide +kernel)) (tb_a (tb_n) (tb_a (tb_a (tb_c (List.mem_of_getElem? (i := 1283) (by decide +kernel)) (tb_c (List.mem_of_getElem? (i := 1284) (by decide +kernel)) (tb_c (List.mem_of_getElem? (i := 206) (by decide +kernel)) (tb_n)))) t_v_c_needWay) (tb_a (tb_a (tb_c (List.mem_of_getElem? (i := 1266) (by decide +kernel)) (tb_c (List.mem_of_getElem? (i := 1267) (by decide +kernel)) (tb_c (List.mem_of_getElem? (i := 206) (by decide +kernel)) (tb_n)))) t_v_c_needWhat) (tb_a (tb_a (tb_c (List.mem_of_getElem? (i := 1195) (by decide +kernel)) (tb_c (List.mem_of_getElem? (i := 1197) (by decide +kernel)) (tb_c (List.mem_of_getElem? (i := 54) (by decide +kernel)) (tb_c (List.mem_of_getElem? (i := 206) (by decide +kernel)) (tb_n))))) t_v_c_wasTriedK) (tb_n)))))
set_option maxHeartbeats 400000 in
set_option maxRecDepth 100000 in
/-- tried(..) of a new house -/
theorem c_tried (l : Launch) (hlt : l.stackTraces = false) (D : va_G) (h0 : Nat) (tr : Nat) (ct : ClassId) (xfs : List Value) (p0 p1 : Int32) (sz : Nat) (hq6 : xfs[6]? = some (.ref tr)) : vx_Met l yX11_tried v_c_tried ({ frames := 9, cells := 2, slots := 12, locals := 220 }) (va_Pc [.ref h0, .int p0, .int p1] (st_ D [(h0, .inr (11, xfs)), (tr, .inl (ct, 2, .inr (.inr (.inr (.inr (fun _ => none))))))] [(ct, .object "ScheduleHouse$Trial")] sz)) (va_Qi (fun (r : Int32) (_ : Unit) => r = 0 ∧ (¬ p0 < 0 ∧ p0 < 2) ∧ (¬ p1 < 0 ∧ p1 < 6)) (fun _ _ => True) (va_A [(h0, .inr (11, xfs)), (tr, .inl (ct, 2, .inr (.inr (.inr (.inr (fun _ => none))))))] sz)) (vx_X (fun _ : Unit => True) (fun E _ _ => (E = iAE ∧ (p0 < 0 ∨ ¬ p0 < 2)) ∨ (E = iOE ∧ (¬ p0 < 0 ∧ p0 < 2) ∧ (p1 < 0 ∨ ¬ p1 < 6))) (va_A [(h0, .inr (11, xfs)), (tr, .inl (ct, 2, .inr (.inr (.inr (.inr (fun _ => none))))))] sz)) 2 12 (va_A [(h0, .inr (11, xfs)), (tr, .inl (ct, 2, .inr (.inr (.inr (.inr (fun _ => none))))))] sz) := by
  refine vx_ofW (cc := cX11_tried) (maxL := 4) (ret := (some .int)) (by decide) rfl ?_
  intro p e s m args below meth c s₁ B hml hno hv
  obtain ⟨rfl, hsz, hP, hK, hD0, hZ, hE⟩ := hv
  have hx := B.exec
  have hb := B.bytes
  have hr := B.returns
  have hts := atoms_spec (ws := v_c_tried) B.pre
  have hown : s.vm.findClass RX11 = some m.cls := findClass_of_methodNamed B.named
  have hlocks := B.notSynchronized
  subst hsz
  have hD := hD0.self (sz := s.heap.size)
  generalize hAe : va_A [(h0, .inr (11, xfs)), (tr, .inl (ct, 2, .inr (.inr (.inr (.inr (fun _ => none))))))] s.heap.size = A at hD hZ ⊢
  have hA : ∀ q : Nat, s.heap.size ≤ q → A q := fun q h => by rw [← hAe]; exact Or.inr h
  have hS : va_S A s.heap s.heap [] := va_S.rf
  have hAO := hE.2.2.2.1
  have hP : va_P D vwCl [(h0, .inr (11, xfs)), (tr, .inl (ct, 2, .inr (.inr (.inr (.inr (fun _ => none))))))] s.heap := hP
  have hl := lv_entry ([.ref h0, .int p0, .int p1]) (n := 4) (Nat.le_of_ble_eq_true rfl)
  rw [lg_entry_eq]
  generalize (lg_sl ([.ref h0, .int p0, .int p1]) ++ List.replicate (4 - (lg_sl ([.ref h0, .int p0, .int p1])).length) Slot.unset).toArray = ls at hl ⊢
  have hl : lv_has ls 4 [(0, .ref h0), (1, .int p0), (2, .int p1)] := hl
  refine lv_iload_n hx hb dX11_tried_0 rfl (lv_at hl 1 rfl) ?_
  have hPc := hP.sub (ws' := []) [] rfl
  have hDc := hD.sub (ws' := []) [] (by decide) rfl
  have hKc := hK.sub (tys' := []) [] rfl
  have hFc := va_free (wc := []) hD hS hA [] rfl
  refine vx_callv (vx_runS (As := [.int p0]) (rest := []) ⟨hx, hb, hml, hown, hts⟩ (c_needWay l hlt D p0 s.heap.size) (va_cwS 1 hts g_v_c_tried_0 rfl rfl rfl (by decide +kernel) ⟨Nat.le_of_ble_eq_true rfl, Nat.le_of_ble_eq_true rfl⟩) ⟨st_blind, fun U hU hW => ⟨rfl, st_call hU hW hPc hKc hDc hZ hS hFc hE⟩⟩ rfl rfl hl.1 rfl (lv_room (Nat.le_of_ble_eq_true rfl)) dX11_tried_1 ⟨Nat.le_of_ble_eq_true rfl, Nat.le_of_ble_eq_true rfl⟩) hS (fun q _ h => hFc q h) hFc (fun q _ h => hFc q h) (fun E ce q9 _ t H1 locs ht hvm hw hB hz1 hk1 hS hce hcv hcl => ?_) (fun u9 t H1 locs ht hvm hw hB hz1 hk1 hS => ?_)
  · obtain ⟨hEx, hr9⟩ := hB
    subst hEx
    exact vx_out (E := _) (fun x hx => (hno x hx).elim) hlocks hce hcv hcl (fun t2 h2 hvm2 => ⟨(), trivial, Or.inl ⟨rfl, hr9⟩, hS.F h2⟩) hS.2.2 (Nat.le_of_ble_eq_true rfl) (Nat.le_of_ble_eq_true rfl)
  · have hn1 := hw
    obtain ⟨hP, hD⟩ := va_join (wr := [(h0, .inr (11, xfs)), (tr, .inl (ct, 2, .inr (.inr (.inr (.inr (fun _ => none))))))]) (w1 := []) hP hD [] [0, 1] rfl rfl (by decide) (by decide) hk1 hFc p_nil d_nil
    generalize H1 = H at hP hS ⊢
    have hP : va_P D vwCl [(h0, .inr (11, xfs)), (tr, .inl (ct, 2, .inr (.inr (.inr (.inr (fun _ => none))))))] H := hP
    have hD : va_D A [(h0, .inr (11, xfs)), (tr, .inl (ct, 2, .inr (.inr (.inr (.inr (fun _ => none))))))] := hD
    refine lv_iload_n hx hb dX11_tried_4 rfl (lv_at hl 2 rfl) ?_
    refine lv_bipush (v := 6) hx hb dX11_tried_5 (by decide +kernel) ?_
    have hPc := hP.sub (ws' := []) [] rfl
    have hDc := hD.sub (ws' := []) [] (by decide) rfl
    have hKc := hK.sub (tys' := []) [] rfl
    have hFc := va_free (wc := []) hD hS hA [] rfl
    refine vx_callv (vx_runS (As := [.int p1, .int 6]) (rest := []) ⟨hx, hb, hml, hown, hts⟩ (c_needWhat l hlt D p1 6 H.size) (va_cwS 2 hts g_v_c_tried_1 rfl rfl rfl (by decide +kernel) ⟨Nat.le_of_ble_eq_true rfl, Nat.le_of_ble_eq_true rfl⟩) ⟨st_blind, fun U hU hW => ⟨rfl, st_call hU hW hPc hKc hDc hZ hS hFc hE⟩⟩ rfl rfl hl.1 rfl (lv_room (Nat.le_of_ble_eq_true rfl)) dX11_tried_7 ⟨Nat.le_of_ble_eq_true rfl, Nat.le_of_ble_eq_true rfl⟩) hS (fun q _ h => hFc q h) hFc (fun q _ h => hFc q h) (fun E ce q9 _ t H1 locs ht hvm hw hB hz1 hk1 hS hce hcv hcl => ?_) (fun u9 t H1 locs ht hvm hw hB hz1 hk1 hS => ?_)
    · obtain ⟨hEx, hr9⟩ := hB
      subst hEx
      exact vx_out (E := _) (fun x hx => (hno x hx).elim) hlocks hce hcv hcl (fun t2 h2 hvm2 => ⟨(), trivial, Or.inr ⟨rfl, hn1, hr9⟩, hS.F h2⟩) hS.2.2 (Nat.le_of_ble_eq_true rfl) (Nat.le_of_ble_eq_true rfl)
    · have hn2 := hw
      obtain ⟨hP, hD⟩ := va_join (wr := [(h0, .inr (11, xfs)), (tr, .inl (ct, 2, .inr (.inr (.inr (.inr (fun _ => none))))))]) (w1 := []) hP hD [] [0, 1] rfl rfl (by decide) (by decide) hk1 hFc p_nil d_nil
      generalize H1 = H at hP hS ⊢
      have hP : va_P D vwCl [(h0, .inr (11, xfs)), (tr, .inl (ct, 2, .inr (.inr (.inr (.inr (fun _ => none))))))] H := hP
      have hD : va_D A [(h0, .inr (11, xfs)), (tr, .inl (ct, 2, .inr (.inr (.inr (.inr (fun _ => none))))))] := hD
      refine lv_aload_n hx hb dX11_tried_10 rfl (lv_at hl 0 rfl) ?_
      refine lv_iload_n hx hb dX11_tried_11 rfl (lv_at hl 1 rfl) ?_
      have hPc := hP.sub (ws' := [(h0, .inr (11, xfs)), (tr, .inl (ct, 2, .inr (.inr (.inr (.inr (fun _ => none))))))]) [0, 1] rfl
      have hDc := hD.sub (ws' := [(h0, .inr (11, xfs)), (tr, .inl (ct, 2, .inr (.inr (.inr (.inr (fun _ => none))))))]) [0, 1] (by decide) rfl
      have hKc := hK.sub (tys' := [(ct, .object "ScheduleHouse$Trial")]) [0] rfl
      have hFc := va_free (wc := [(h0, .inr (11, xfs)), (tr, .inl (ct, 2, .inr (.inr (.inr (.inr (fun _ => none))))))]) hD hS hA [0, 1] rfl
      refine va_calli (va_runV (As := [.int p0]) (rest := []) ⟨hx, hb, hml, hown, hts⟩ (c_wasTriedK l D h0 tr ct xfs p0 H.size hq6 hn1) (cwV 1 hts g_v_c_tried_2 rfl rfl rfl (by decide +kernel) ⟨Nat.le_of_ble_eq_true rfl, Nat.le_of_ble_eq_true rfl⟩) ⟨st_blind, va_recv hKc hPc (ci := 11) (q0 := 0) rfl rfl, fun U hU hW => ⟨rfl, st_call hU hW hPc hKc hDc hZ hS hFc hE⟩⟩ rfl rfl hl.1 rfl (lv_room (Nat.le_of_ble_eq_true rfl)) dX11_tried_12 ⟨Nat.le_of_ble_eq_true rfl, Nat.le_of_ble_eq_true rfl⟩) hS (fun q _ h => hFc q h) hFc (fun r1 u2 t H1 locs ht hvm hw hB hz1 hk1 hS => ?_)
      obtain ⟨hP1, hK1, hD1⟩ := hB
      rw [ht] at hP1
      have hK1 := va_K.moved hvm.symm hK1
      obtain ⟨hP, hD⟩ := va_join (wr := []) (w1 := [(h0, .inr (11, xfs)), (tr, .inl (ct, 2, .inr (.inr (.inr (.inr (fun _ => none))))))]) hP hD [0, 1] [] rfl rfl (by decide) (by decide) hk1 hFc hP1 hD1
      have hK := (hK.sub (tys' := []) [] rfl).app hK1
      generalize H1 = H at hP hS ⊢
      have hP : va_P D vwCl [(h0, .inr (11, xfs)), (tr, .inl (ct, 2, .inr (.inr (.inr (.inr (fun _ => none))))))] H := hP
      have hD : va_D A [(h0, .inr (11, xfs)), (tr, .inl (ct, 2, .inr (.inr (.inr (.inr (fun _ => none))))))] := hD
      have hK : va_K D vwCl [(ct, .object "ScheduleHouse$Trial")] s := hK
      subst hw
      refine lv_if_ne (tgt := 20) hx hb dX11_tried_15 (by decide) (fun c9 => False.elim (by revert c9; decide)) (fun _ => ?_)
      refine lv_iconst (v := 0) hx hb dX11_tried_18 (by decide +kernel) ?_
      refine vx_ret (W.widen (k := 2) (n := 12) (Nat.le_of_ble_eq_true rfl) (Nat.le_of_ble_eq_true rfl) ?_)
      exact W.iret (v := 0) hx hb hr (fun t ht hW => ⟨⟨0, (), rfl, ⟨rfl, hn1, hn2⟩, trivial⟩, hS.F ht⟩) hS.2.2 dX11_tried_19
noncomputable def v_c_outcome : List Cond := .code yX11_outcome cX11_outcome 4 (some .int) :: ([] ++ ((va_wsS RX11 151 yX11_needWay v_c_needWay) ++ ((wsV RX11 309 RX11 yX11_wasTried v_c_wasTriedK) ++ ((va_wsS RX11 163 yX11_needIndex v_c_needIndex) ++ ([])))))
theorem g_v_c_outcome_0 : GoodIn v_c_outcome (va_wsS RX11 151 yX11_needWay v_c_needWay) := goodIn_sub (fun _ h => List.mem_cons_of_mem _ (List.mem_append_right _ (List.mem_append_left _ h))) (by decide +kernel)
theorem g_v_c_outcome_1 : GoodIn v_c_outcome (wsV RX11 309 RX11 yX11_wasTried v_c_wasTriedK) := goodIn_sub (fun _ h => List.mem_cons_of_mem _ (List.mem_append_right _ (List.mem_append_right _ (List.mem_append_left _ h)))) (by decide +kernel)
theorem g_v_c_outcome_2 : GoodIn v_c_outcome (va_wsS RX11 163 yX11_needIndex v_c_needIndex) := goodIn_sub (fun _ h => List.mem_cons_of_mem _ (List.mem_append_right _ (List.mem_append_right _ (List.mem_append_right _ (List.mem_append_left _ h))))) (by decide +kernel)
theorem t_v_c_outcome : ∀ w ∈ v_c_outcome, w ∈ lw_tbl := tb_c (List.mem_of_getElem? (i := 2010) (by decide +kernel)) (tb_a (tb_n) (tb_a (tb_a (tb_c (List.mem_of_getElem? (i := 1283) (by decide +kernel)) (tb_c (List.mem_of_getElem? (i := 1284) (by decide +kernel)) (tb_c (List.mem_of_getElem? (i := 206) (by decide +kernel)) (tb_n)))) t_v_c_needWay) (tb_a (tb_a (tb_c (List.mem_of_getElem? (i := 1195) (by decide +kernel)) (tb_c (List.mem_of_getElem? (i := 1197) (by decide +kernel)) (tb_c (List.mem_of_getElem? (i := 54) (by decide +kernel)) (tb_c (List.mem_of_getElem? (i := 206) (by decide +kernel)) (tb_n))))) t_v_c_wasTriedK) (tb_a (tb_a (tb_c (List.mem_of_getElem? (i := 1409) (by decide +kernel)) (tb_c (List.mem_of_getElem? (i := 1410) (by decide +kernel)) (tb_c (List.mem_of_getElem? (i := 206) (by decide +kernel)) (tb_n)))) t_v_c_needIndex) (tb_n)))))
set_option maxHeartbeats 400000 in
set_option maxRecDepth 100000 in
/-- outcome(..) of a new house -/
theorem c_outcome (l : Launch) (hlt : l.stackTraces = false) (D : va_G) (h0 : Nat) (tr : Nat) (ct : ClassId) (xfs : List Value) (p0 p1 p2 : Int32) (sz : Nat) (hq6 : xfs[6]? = some (.ref tr)) : vx_Met l yX11_outcome v_c_outcome ({ frames := 9, cells := 2, slots := 12, locals := 220 }) (va_Pc [.ref h0, .int p0, .int p1, .int p2] (st_ D [(h0, .inr (11, xfs)), (tr, .inl (ct, 2, .inr (.inr (.inr (.inr (fun _ => none))))))] [(ct, .object "ScheduleHouse$Trial")] sz)) (va_Qi (fun (r : Int32) (_ : Unit) => r = 0 ∧ False) (fun _ _ => True) (va_A [(h0, .inr (11, xfs)), (tr, .inl (ct, 2, .inr (.inr (.inr (.inr (fun _ => none))))))] sz)) (vx_X (fun _ : Unit => True) (fun E _ _ => (E = iAE ∧ (p0 < 0 ∨ ¬ p0 < 2)) ∨ (E = iOE ∧ (¬ p0 < 0 ∧ p0 < 2))) (va_A [(h0, .inr (11, xfs)), (tr, .inl (ct, 2, .inr (.inr (.inr (.inr (fun _ => none))))))] sz)) 2 12 (va_A [(h0, .inr (11, xfs)), (tr, .inl (ct, 2, .inr (.inr (.inr (.inr (fun _ => none))))))] sz) := by
  refine vx_ofW (cc := cX11_outcome) (maxL := 4) (ret := (some .int)) (by decide) rfl ?_
  intro p e s m args below meth c s₁ B hml hno hv
  obtain ⟨rfl, hsz, hP, hK, hD0, hZ, hE⟩ := hv
  have hx := B.exec
  have hb := B.bytes
  have hr := B.returns
  have hts := atoms_spec (ws := v_c_outcome) B.pre
  have hown : s.vm.findClass RX11 = some m.cls := findClass_of_methodNamed B.named
  have hlocks := B.notSynchronized
  subst hsz
  have hD := hD0.self (sz := s.heap.size)
  generalize hAe : va_A [(h0, .inr (11, xfs)), (tr, .inl (ct, 2, .inr (.inr (.inr (.inr (fun _ => none))))))] s.heap.size = A at hD hZ ⊢
  have hA : ∀ q : Nat, s.heap.size ≤ q → A q := fun q h => by rw [← hAe]; exact Or.inr h
  have hS : va_S A s.heap s.heap [] := va_S.rf
  have hAO := hE.2.2.2.1
  have hP : va_P D vwCl [(h0, .inr (11, xfs)), (tr, .inl (ct, 2, .inr (.inr (.inr (.inr (fun _ => none))))))] s.heap := hP
  have hl := lv_entry ([.ref h0, .int p0, .int p1, .int p2]) (n := 4) (Nat.le_of_ble_eq_true rfl)
  rw [lg_entry_eq]
  generalize (lg_sl ([.ref h0, .int p0, .int p1, .int p2]) ++ List.replicate (4 - (lg_sl ([.ref h0, .int p0, .int p1, .int p2])).length) Slot.unset).toArray = ls at hl ⊢
  have hl : lv_has ls 4 [(0, .ref h0), (1, .int p0), (2, .int p1), (3, .int p2)] := hl
  refine lv_iload_n hx hb dX11_outcome_0 rfl (lv_at hl 1 rfl) ?_
  have hPc := hP.sub (ws' := []) [] rfl
  have hDc := hD.sub (ws' := []) [] (by decide) rfl
  have hKc := hK.sub (tys' := []) [] rfl
  have hFc := va_free (wc := []) hD hS hA [] rfl
  refine vx_callv (vx_runS (As := [.int p0]) (rest := []) ⟨hx, hb, hml, hown, hts⟩ (c_needWay l hlt D p0 s.heap.size) (va_cwS 1 hts g_v_c_outcome_0 rfl rfl rfl (by decide +kernel) ⟨Nat.le_of_ble_eq_true rfl, Nat.le_of_ble_eq_true rfl⟩) ⟨st_blind, fun U hU hW => ⟨rfl, st_call hU hW hPc hKc hDc hZ hS hFc hE⟩⟩ rfl rfl hl.1 rfl (lv_room (Nat.le_of_ble_eq_true rfl)) dX11_outcome_1 ⟨Nat.le_of_ble_eq_true rfl, Nat.le_of_ble_eq_true rfl⟩) hS (fun q _ h => hFc q h) hFc (fun q _ h => hFc q h) (fun E ce q9 _ t H1 locs ht hvm hw hB hz1 hk1 hS hce hcv hcl => ?_) (fun u9 t H1 locs ht hvm hw hB hz1 hk1 hS => ?_)
  · obtain ⟨hEx, hr9⟩ := hB
    subst hEx
    exact vx_out (E := _) (fun x hx => (hno x hx).elim) hlocks hce hcv hcl (fun t2 h2 hvm2 => ⟨(), trivial, Or.inl ⟨rfl, hr9⟩, hS.F h2⟩) hS.2.2 (Nat.le_of_ble_eq_true rfl) (Nat.le_of_ble_eq_true rfl)
  · have hn1 := hw
    obtain ⟨hP, hD⟩ := va_join (wr := [(h0, .inr (11, xfs)), (tr, .inl (ct, 2, .inr (.inr (.inr (.inr (fun _ => none))))))]) (w1 := []) hP hD [] [0, 1] rfl rfl (by decide) (by decide) hk1 hFc p_nil d_nil
    generalize H1 = H at hP hS ⊢
    have hP : va_P D vwCl [(h0, .inr (11, xfs)), (tr, .inl (ct, 2, .inr (.inr (.inr (.inr (fun _ => none))))))] H := hP
    have hD : va_D A [(h0, .inr (11, xfs)), (tr, .inl (ct, 2, .inr (.inr (.inr (.inr (fun _ => none))))))] := hD
    refine lv_iload_n hx hb dX11_outcome_4 rfl (lv_at hl 2 rfl) ?_
    refine lv_aload_n hx hb dX11_outcome_5 rfl (lv_at hl 0 rfl) ?_
    refine lv_iload_n hx hb dX11_outcome_6 rfl (lv_at hl 1 rfl) ?_
    have hPc := hP.sub (ws' := [(h0, .inr (11, xfs)), (tr, .inl (ct, 2, .inr (.inr (.inr (.inr (fun _ => none))))))]) [0, 1] rfl
    have hDc := hD.sub (ws' := [(h0, .inr (11, xfs)), (tr, .inl (ct, 2, .inr (.inr (.inr (.inr (fun _ => none))))))]) [0, 1] (by decide) rfl
    have hKc := hK.sub (tys' := [(ct, .object "ScheduleHouse$Trial")]) [0] rfl
    have hFc := va_free (wc := [(h0, .inr (11, xfs)), (tr, .inl (ct, 2, .inr (.inr (.inr (.inr (fun _ => none))))))]) hD hS hA [0, 1] rfl
    refine va_calli (va_runV (As := [.int p0]) (rest := [.int p1]) ⟨hx, hb, hml, hown, hts⟩ (c_wasTriedK l D h0 tr ct xfs p0 H.size hq6 hn1) (cwV 1 hts g_v_c_outcome_1 rfl rfl rfl (by decide +kernel) ⟨Nat.le_of_ble_eq_true rfl, Nat.le_of_ble_eq_true rfl⟩) ⟨st_blind, va_recv hKc hPc (ci := 11) (q0 := 0) rfl rfl, fun U hU hW => ⟨rfl, st_call hU hW hPc hKc hDc hZ hS hFc hE⟩⟩ rfl rfl hl.1 rfl (lv_room (Nat.le_of_ble_eq_true rfl)) dX11_outcome_7 ⟨Nat.le_of_ble_eq_true rfl, Nat.le_of_ble_eq_true rfl⟩) hS (fun q _ h => hFc q h) hFc (fun r1 u2 t H1 locs ht hvm hw hB hz1 hk1 hS => ?_)
    obtain ⟨hP1, hK1, hD1⟩ := hB
    rw [ht] at hP1
    have hK1 := va_K.moved hvm.symm hK1
    obtain ⟨hP, hD⟩ := va_join (wr := []) (w1 := [(h0, .inr (11, xfs)), (tr, .inl (ct, 2, .inr (.inr (.inr (.inr (fun _ => none))))))]) hP hD [0, 1] [] rfl rfl (by decide) (by decide) hk1 hFc hP1 hD1
    have hK := (hK.sub (tys' := []) [] rfl).app hK1
    generalize H1 = H at hP hS ⊢
    have hP : va_P D vwCl [(h0, .inr (11, xfs)), (tr, .inl (ct, 2, .inr (.inr (.inr (.inr (fun _ => none))))))] H := hP
    have hD : va_D A [(h0, .inr (11, xfs)), (tr, .inl (ct, 2, .inr (.inr (.inr (.inr (fun _ => none))))))] := hD
    have hK : va_K D vwCl [(ct, .object "ScheduleHouse$Trial")] s := hK
    subst hw
    refine lv_if_eq (tgt := 25) hx hb dX11_outcome_10 (by decide) (fun _ => ?_) (fun c9 => False.elim (by revert c9; decide))
    refine lv_iconst (v := 0) hx hb dX11_outcome_25 (by decide +kernel) ?_
    have hPc := hP.sub (ws' := []) [] rfl
    have hDc := hD.sub (ws' := []) [] (by decide) rfl
    have hKc := hK.sub (tys' := []) [] rfl
    have hFc := va_free (wc := []) hD hS hA [] rfl
    refine vx_callv (vx_runS (As := [.int p1, .int 0]) (rest := []) ⟨hx, hb, hml, hown, hts⟩ (c_needIndex l hlt D p1 0 H.size) (va_cwS 2 hts g_v_c_outcome_2 rfl rfl rfl (by decide +kernel) ⟨Nat.le_of_ble_eq_true rfl, Nat.le_of_ble_eq_true rfl⟩) ⟨st_blind, fun U hU hW => ⟨rfl, st_call hU hW hPc hKc hDc hZ hS hFc hE⟩⟩ rfl rfl hl.1 rfl (lv_room (Nat.le_of_ble_eq_true rfl)) dX11_outcome_26 ⟨Nat.le_of_ble_eq_true rfl, Nat.le_of_ble_eq_true rfl⟩) hS (fun q _ h => hFc q h) hFc (fun q _ h => hFc q h) (fun E ce q9 _ t H1 locs ht hvm hw hB hz1 hk1 hS hce hcv hcl => ?_) (fun u9 t H1 locs ht hvm hw hB hz1 hk1 hS => ?_)
    · obtain ⟨hEx, hr9⟩ := hB
      subst hEx
      exact vx_out (E := _) (fun x hx => (hno x hx).elim) hlocks hce hcv hcl (fun t2 h2 hvm2 => ⟨(), trivial, Or.inr ⟨rfl, hn1⟩, hS.F h2⟩) hS.2.2 (Nat.le_of_ble_eq_true rfl) (Nat.le_of_ble_eq_true rfl)
    · exact absurd hw.2 hw.1
noncomputable def v_c_common : List Cond := .code yX11_common cX11_common 3 (some .int) :: ([.fieldLink RX11 110 "ScheduleHouse" "compiled" "Z"] ++ ((va_wsS RX11 151 yX11_needWay v_c_needWay) ++ (wsX110 ++ ((va_wsS RX11 163 yX11_needIndex v_c_needIndex) ++ ([])))))
theorem g_v_c_common_0 : GoodIn v_c_common (va_wsS RX11 151 yX11_needWay v_c_needWay) := goodIn_sub (fun _ h => List.mem_cons_of_mem _ (List.mem_append_right _ (List.mem_append_left _ h))) (by decide +kernel)
theorem i_v_c_common_X11 : ∀ w ∈ wsX110, w ∈ v_c_common := fun _ h => List.mem_cons_of_mem _ (List.mem_append_right _ (List.mem_append_right _ (List.mem_append_left _ h)))
theorem g_v_c_common_2 : GoodIn v_c_common (va_wsS RX11 163 yX11_needIndex v_c_needIndex) := goodIn_sub (fun _ h => List.mem_cons_of_mem _ (List.mem_append_right _ (List.mem_append_right _ (List.mem_append_right _ (List.mem_append_left _ h))))) (by decide +kernel)
theorem t_v_c_common : ∀ w ∈ v_c_common, w ∈ lw_tbl := tb_c (List.mem_of_getElem? (i := 2048) (by decide +kernel)) (tb_a (tb_c (List.mem_of_getElem? (i := 746) (by decide +kernel)) (tb_n)) (tb_a (tb_a (tb_c (List.mem_of_getElem? (i := 1283) (by decide +kernel)) (tb_c (List.mem_of_getElem? (i := 1284) (by decide +kernel)) (tb_c (List.mem_of_getElem? (i := 206) (by decide +kernel)) (tb_n)))) t_v_c_needWay) (tb_a (tw_wsX110) (tb_a (tb_a (tb_c (List.mem_of_getElem? (i := 1409) (by decide +kernel)) (tb_c (List.mem_of_getElem? (i := 1410) (by decide +kernel)) (tb_c (List.mem_of_getElem? (i := 206) (by decide +kernel)) (tb_n)))) t_v_c_needIndex) (tb_n)))))
set_option maxHeartbeats 400000 in
set_option maxRecDepth 100000 in
/-- common(..) of a new house -/
theorem c_common (l : Launch) (hlt : l.stackTraces = false) (D : va_G) (h0 : Nat) (xfs : List Value) (p0 p1 : Int32) (sz : Nat) (hq9 : xfs[9]? = some (.int 0)) : vx_Met l yX11_common v_c_common ({ frames := 9, cells := 2, slots := 12, locals := 220 }) (va_Pc [.ref h0, .int p0, .int p1] (st_ D [(h0, .inr (11, xfs))] [] sz)) (va_Qi (fun (r : Int32) (_ : Unit) => r = 0 ∧ False) (fun _ _ => True) (va_A [(h0, .inr (11, xfs))] sz)) (vx_X (fun _ : Unit => True) (fun E _ _ => (E = iAE ∧ (p0 < 0 ∨ ¬ p0 < 2)) ∨ (E = iOE ∧ (¬ p0 < 0 ∧ p0 < 2))) (va_A [(h0, .inr (11, xfs))] sz)) 2 12 (va_A [(h0, .inr (11, xfs))] sz) := by
  refine vx_ofW (cc := cX11_common) (maxL := 3) (ret := (some .int)) (by decide) rfl ?_
  intro p e s m args below meth c s₁ B hml hno hv
  obtain ⟨rfl, hsz, hP, hK, hD0, hZ, hE⟩ := hv
  have hx := B.exec
  have hb := B.bytes
  have hr := B.returns
  have hts := atoms_spec (ws := v_c_common) B.pre
  have hown : s.vm.findClass RX11 = some m.cls := findClass_of_methodNamed B.named
  have hlocks := B.notSynchronized
  subst hsz
  have hD := hD0.self (sz := s.heap.size)
  generalize hAe : va_A [(h0, .inr (11, xfs))] s.heap.size = A at hD hZ ⊢
  have hA : ∀ q : Nat, s.heap.size ≤ q → A q := fun q h => by rw [← hAe]; exact Or.inr h
  have hS : va_S A s.heap s.heap [] := va_S.rf
  have hAO := hE.2.2.2.1
  have hP : va_P D vwCl [(h0, .inr (11, xfs))] s.heap := hP
  have hl := lv_entry ([.ref h0, .int p0, .int p1]) (n := 3) (Nat.le_of_ble_eq_true rfl)
  rw [lg_entry_eq]
  generalize (lg_sl ([.ref h0, .int p0, .int p1]) ++ List.replicate (3 - (lg_sl ([.ref h0, .int p0, .int p1])).length) Slot.unset).toArray = ls at hl ⊢
  have hl : lv_has ls 3 [(0, .ref h0), (1, .int p0), (2, .int p1)] := hl
  refine lv_iload_n hx hb dX11_common_0 rfl (lv_at hl 1 rfl) ?_
  have hPc := hP.sub (ws' := []) [] rfl
  have hDc := hD.sub (ws' := []) [] (by decide) rfl
  have hKc := hK.sub (tys' := []) [] rfl
  have hFc := va_free (wc := []) hD hS hA [] rfl
  refine vx_callv (vx_runS (As := [.int p0]) (rest := []) ⟨hx, hb, hml, hown, hts⟩ (c_needWay l hlt D p0 s.heap.size) (va_cwS 1 hts g_v_c_common_0 rfl rfl rfl (by decide +kernel) ⟨Nat.le_of_ble_eq_true rfl, Nat.le_of_ble_eq_true rfl⟩) ⟨st_blind, fun U hU hW => ⟨rfl, st_call hU hW hPc hKc hDc hZ hS hFc hE⟩⟩ rfl rfl hl.1 rfl (lv_room (Nat.le_of_ble_eq_true rfl)) dX11_common_1 ⟨Nat.le_of_ble_eq_true rfl, Nat.le_of_ble_eq_true rfl⟩) hS (fun q _ h => hFc q h) hFc (fun q _ h => hFc q h) (fun E ce q9 _ t H1 locs ht hvm hw hB hz1 hk1 hS hce hcv hcl => ?_) (fun u9 t H1 locs ht hvm hw hB hz1 hk1 hS => ?_)
  · obtain ⟨hEx, hr9⟩ := hB
    subst hEx
    exact vx_out (E := _) (fun x hx => (hno x hx).elim) hlocks hce hcv hcl (fun t2 h2 hvm2 => ⟨(), trivial, Or.inl ⟨rfl, hr9⟩, hS.F h2⟩) hS.2.2 (Nat.le_of_ble_eq_true rfl) (Nat.le_of_ble_eq_true rfl)
  · have hn1 := hw
    obtain ⟨hP, hD⟩ := va_join (wr := [(h0, .inr (11, xfs))]) (w1 := []) hP hD [] [0] rfl rfl (by decide) (by decide) hk1 hFc p_nil d_nil
    generalize H1 = H at hP hS ⊢
    have hP : va_P D vwCl [(h0, .inr (11, xfs))] H := hP
    have hD : va_D A [(h0, .inr (11, xfs))] := hD
    refine lv_iload_n hx hb dX11_common_4 rfl (lv_at hl 2 rfl) ?_
    refine lv_aload_n hx hb dX11_common_5 rfl (lv_at hl 0 rfl) ?_
    refine va_get (D := D) (ci := 11) (v := .int 0) (C := RX11) (T := TX11) (N := 13) hx hb hts i_v_c_common_X11 hown hK hP 0 rfl rfl 9 (by decide) (hts (.fieldLink RX11 110 "ScheduleHouse" "compiled" "Z") (by decide +kernel)) (fun _ h9 => h9) hq9 dX11_common_6 ?_
    refine lv_if_eq (tgt := 22) hx hb dX11_common_9 (by decide) (fun _ => ?_) (fun c9 => False.elim (by revert c9; decide))
    refine lv_iconst (v := 0) hx hb dX11_common_22 (by decide +kernel) ?_
    have hPc := hP.sub (ws' := []) [] rfl
    have hDc := hD.sub (ws' := []) [] (by decide) rfl
    have hKc := hK.sub (tys' := []) [] rfl
    have hFc := va_free (wc := []) hD hS hA [] rfl
    refine vx_callv (vx_runS (As := [.int p1, .int 0]) (rest := []) ⟨hx, hb, hml, hown, hts⟩ (c_needIndex l hlt D p1 0 H.size) (va_cwS 2 hts g_v_c_common_2 rfl rfl rfl (by decide +kernel) ⟨Nat.le_of_ble_eq_true rfl, Nat.le_of_ble_eq_true rfl⟩) ⟨st_blind, fun U hU hW => ⟨rfl, st_call hU hW hPc hKc hDc hZ hS hFc hE⟩⟩ rfl rfl hl.1 rfl (lv_room (Nat.le_of_ble_eq_true rfl)) dX11_common_23 ⟨Nat.le_of_ble_eq_true rfl, Nat.le_of_ble_eq_true rfl⟩) hS (fun q _ h => hFc q h) hFc (fun q _ h => hFc q h) (fun E ce q9 _ t H1 locs ht hvm hw hB hz1 hk1 hS hce hcv hcl => ?_) (fun u9 t H1 locs ht hvm hw hB hz1 hk1 hS => ?_)
    · obtain ⟨hEx, hr9⟩ := hB
      subst hEx
      exact vx_out (E := _) (fun x hx => (hno x hx).elim) hlocks hce hcv hcl (fun t2 h2 hvm2 => ⟨(), trivial, Or.inr ⟨rfl, hn1⟩, hS.F h2⟩) hS.2.2 (Nat.le_of_ble_eq_true rfl) (Nat.le_of_ble_eq_true rfl)
    · exact absurd hw.2 hw.1
noncomputable def v_c_ring : List Cond := .code yX11_ring cX11_ring 2 (some .int) :: ([] ++ ((va_wsS RX11 151 yX11_needWay v_c_needWay) ++ ((wsV RX11 309 RX11 yX11_wasTried v_c_wasTriedK) ++ ([]))))
theorem g_v_c_ring_0 : GoodIn v_c_ring (va_wsS RX11 151 yX11_needWay v_c_needWay) := goodIn_sub (fun _ h => List.mem_cons_of_mem _ (List.mem_append_right _ (List.mem_append_left _ h))) (by decide +kernel)
theorem g_v_c_ring_1 : GoodIn v_c_ring (wsV RX11 309 RX11 yX11_wasTried v_c_wasTriedK) := goodIn_sub (fun _ h => List.mem_cons_of_mem _ (List.mem_append_right _ (List.mem_append_right _ (List.mem_append_left _ h)))) (by decide +kernel)
theorem t_v_c_ring : ∀ w ∈ v_c_ring, w ∈ lw_tbl := tb_c (List.mem_of_getElem? (i := 2055) (by decide +kernel)) (tb_a (tb_n) (tb_a (tb_a (tb_c (List.mem_of_getElem? (i := 1283) (by decide +kernel)) (tb_c (List.mem_of_getElem? (i := 1284) (by decide +kernel)) (tb_c (List.mem_of_getElem? (i := 206) (by decide +kernel)) (tb_n)))) t_v_c_needWay) (tb_a (tb_a (tb_c (List.mem_of_getElem? (i := 1195) (by decide +kernel)) (tb_c (List.mem_of_getElem? (i := 1197) (by decide +kernel)) (tb_c (List.mem_of_getElem? (i := 54) (by decide +kernel)) (tb_c (List.mem_of_getElem? (i := 206) (by decide +kernel)) (tb_n))))) t_v_c_wasTriedK) (tb_n))))
set_option maxHeartbeats 400000 in
set_option maxRecDepth 100000 in
/-- ring(..) of a new house -/
theorem c_ring (l : Launch) (hlt : l.stackTraces = false) (D : va_G) (h0 : Nat) (tr : Nat) (ct : ClassId) (xfs : List Value) (p0 : Int32) (sz : Nat) (hq6 : xfs[6]? = some (.ref tr)) : vx_Met l yX11_ring v_c_ring ({ frames := 9, cells := 1, slots := 6, locals := 220 }) (va_Pc [.ref h0, .int p0] (st_ D [(h0, .inr (11, xfs)), (tr, .inl (ct, 2, .inr (.inr (.inr (.inr (fun _ => none))))))] [(ct, .object "ScheduleHouse$Trial")] sz)) (va_Qi (fun (r : Int32) (_ : Unit) => r = 0 ∧ (¬ p0 < 0 ∧ p0 < 2)) (fun _ _ => True) (va_A [(h0, .inr (11, xfs)), (tr, .inl (ct, 2, .inr (.inr (.inr (.inr (fun _ => none))))))] sz)) (vx_X (fun _ : Unit => True) (fun E _ _ => E = iAE ∧ (p0 < 0 ∨ ¬ p0 < 2)) (va_A [(h0, .inr (11, xfs)), (tr, .inl (ct, 2, .inr (.inr (.inr (.inr (fun _ => none))))))] sz)) 1 6 (va_A [(h0, .inr (11, xfs)), (tr, .inl (ct, 2, .inr (.inr (.inr (.inr (fun _ => none))))))] sz) := by
  refine vx_ofW (cc := cX11_ring) (maxL := 2) (ret := (some .int)) (by decide) rfl ?_
  intro p e s m args below meth c s₁ B hml hno hv
  obtain ⟨rfl, hsz, hP, hK, hD0, hZ, hE⟩ := hv
  have hx := B.exec
  have hb := B.bytes
  have hr := B.returns
  have hts := atoms_spec (ws := v_c_ring) B.pre
  have hown : s.vm.findClass RX11 = some m.cls := findClass_of_methodNamed B.named
  have hlocks := B.notSynchronized
  subst hsz
  have hD := hD0.self (sz := s.heap.size)
  generalize hAe : va_A [(h0, .inr (11, xfs)), (tr, .inl (ct, 2, .inr (.inr (.inr (.inr (fun _ => none))))))] s.heap.size = A at hD hZ ⊢
  have hA : ∀ q : Nat, s.heap.size ≤ q → A q := fun q h => by rw [← hAe]; exact Or.inr h
  have hS : va_S A s.heap s.heap [] := va_S.rf
  have hAO := hE.2.2.2.1
  have hP : va_P D vwCl [(h0, .inr (11, xfs)), (tr, .inl (ct, 2, .inr (.inr (.inr (.inr (fun _ => none))))))] s.heap := hP
  have hl := lv_entry ([.ref h0, .int p0]) (n := 2) (Nat.le_of_ble_eq_true rfl)
  rw [lg_entry_eq]
  generalize (lg_sl ([.ref h0, .int p0]) ++ List.replicate (2 - (lg_sl ([.ref h0, .int p0])).length) Slot.unset).toArray = ls at hl ⊢
  have hl : lv_has ls 2 [(0, .ref h0), (1, .int p0)] := hl
  refine lv_iload_n hx hb dX11_ring_0 rfl (lv_at hl 1 rfl) ?_
  have hPc := hP.sub (ws' := []) [] rfl
  have hDc := hD.sub (ws' := []) [] (by decide) rfl
  have hKc := hK.sub (tys' := []) [] rfl
  have hFc := va_free (wc := []) hD hS hA [] rfl
  refine vx_callv (vx_runS (As := [.int p0]) (rest := []) ⟨hx, hb, hml, hown, hts⟩ (c_needWay l hlt D p0 s.heap.size) (va_cwS 1 hts g_v_c_ring_0 rfl rfl rfl (by decide +kernel) ⟨Nat.le_of_ble_eq_true rfl, Nat.le_of_ble_eq_true rfl⟩) ⟨st_blind, fun U hU hW => ⟨rfl, st_call hU hW hPc hKc hDc hZ hS hFc hE⟩⟩ rfl rfl hl.1 rfl (lv_room (Nat.le_of_ble_eq_true rfl)) dX11_ring_1 ⟨Nat.le_of_ble_eq_true rfl, Nat.le_of_ble_eq_true rfl⟩) hS (fun q _ h => hFc q h) hFc (fun q _ h => hFc q h) (fun E ce q9 _ t H1 locs ht hvm hw hB hz1 hk1 hS hce hcv hcl => ?_) (fun u9 t H1 locs ht hvm hw hB hz1 hk1 hS => ?_)
  · obtain ⟨hEx, hr9⟩ := hB
    subst hEx
    exact vx_out (E := _) (fun x hx => (hno x hx).elim) hlocks hce hcv hcl (fun t2 h2 hvm2 => ⟨(), trivial, ⟨rfl, hr9⟩, hS.F h2⟩) hS.2.2 (Nat.le_of_ble_eq_true rfl) (Nat.le_of_ble_eq_true rfl)
  · have hn1 := hw
    obtain ⟨hP, hD⟩ := va_join (wr := [(h0, .inr (11, xfs)), (tr, .inl (ct, 2, .inr (.inr (.inr (.inr (fun _ => none))))))]) (w1 := []) hP hD [] [0, 1] rfl rfl (by decide) (by decide) hk1 hFc p_nil d_nil
    generalize H1 = H at hP hS ⊢
    have hP : va_P D vwCl [(h0, .inr (11, xfs)), (tr, .inl (ct, 2, .inr (.inr (.inr (.inr (fun _ => none))))))] H := hP
    have hD : va_D A [(h0, .inr (11, xfs)), (tr, .inl (ct, 2, .inr (.inr (.inr (.inr (fun _ => none))))))] := hD
    refine lv_aload_n hx hb dX11_ring_4 rfl (lv_at hl 0 rfl) ?_
    refine lv_iload_n hx hb dX11_ring_5 rfl (lv_at hl 1 rfl) ?_
    have hPc := hP.sub (ws' := [(h0, .inr (11, xfs)), (tr, .inl (ct, 2, .inr (.inr (.inr (.inr (fun _ => none))))))]) [0, 1] rfl
    have hDc := hD.sub (ws' := [(h0, .inr (11, xfs)), (tr, .inl (ct, 2, .inr (.inr (.inr (.inr (fun _ => none))))))]) [0, 1] (by decide) rfl
    have hKc := hK.sub (tys' := [(ct, .object "ScheduleHouse$Trial")]) [0] rfl
    have hFc := va_free (wc := [(h0, .inr (11, xfs)), (tr, .inl (ct, 2, .inr (.inr (.inr (.inr (fun _ => none))))))]) hD hS hA [0, 1] rfl
    refine va_calli (va_runV (As := [.int p0]) (rest := []) ⟨hx, hb, hml, hown, hts⟩ (c_wasTriedK l D h0 tr ct xfs p0 H.size hq6 hn1) (cwV 1 hts g_v_c_ring_1 rfl rfl rfl (by decide +kernel) ⟨Nat.le_of_ble_eq_true rfl, Nat.le_of_ble_eq_true rfl⟩) ⟨st_blind, va_recv hKc hPc (ci := 11) (q0 := 0) rfl rfl, fun U hU hW => ⟨rfl, st_call hU hW hPc hKc hDc hZ hS hFc hE⟩⟩ rfl rfl hl.1 rfl (lv_room (Nat.le_of_ble_eq_true rfl)) dX11_ring_6 ⟨Nat.le_of_ble_eq_true rfl, Nat.le_of_ble_eq_true rfl⟩) hS (fun q _ h => hFc q h) hFc (fun r1 u2 t H1 locs ht hvm hw hB hz1 hk1 hS => ?_)
    obtain ⟨hP1, hK1, hD1⟩ := hB
    rw [ht] at hP1
    have hK1 := va_K.moved hvm.symm hK1
    obtain ⟨hP, hD⟩ := va_join (wr := []) (w1 := [(h0, .inr (11, xfs)), (tr, .inl (ct, 2, .inr (.inr (.inr (.inr (fun _ => none))))))]) hP hD [0, 1] [] rfl rfl (by decide) (by decide) hk1 hFc hP1 hD1
    have hK := (hK.sub (tys' := []) [] rfl).app hK1
    generalize H1 = H at hP hS ⊢
    have hP : va_P D vwCl [(h0, .inr (11, xfs)), (tr, .inl (ct, 2, .inr (.inr (.inr (.inr (fun _ => none))))))] H := hP
    have hD : va_D A [(h0, .inr (11, xfs)), (tr, .inl (ct, 2, .inr (.inr (.inr (.inr (fun _ => none))))))] := hD
    have hK : va_K D vwCl [(ct, .object "ScheduleHouse$Trial")] s := hK
    subst hw
    refine lv_if_eq (tgt := 24) hx hb dX11_ring_9 (by decide) (fun _ => ?_) (fun c9 => False.elim (by revert c9; decide))
    refine lv_iconst (v := 0) hx hb dX11_ring_24 (by decide +kernel) ?_
    refine vx_ret (W.widen (k := 1) (n := 6) (Nat.le_of_ble_eq_true rfl) (Nat.le_of_ble_eq_true rfl) ?_)
    exact W.iret (v := 0) hx hb hr (fun t ht hW => ⟨⟨0, (), rfl, ⟨rfl, hn1⟩, trivial⟩, hS.F ht⟩) hS.2.2 dX11_ring_25
noncomputable def v_c_finding : List Cond := .code yX11_finding cX11_finding 4 (some .int) :: ([] ++ ((va_wsS RX11 151 yX11_needWay v_c_needWay) ++ ((va_wsS RX11 331 yX11_needFinding v_c_needFinding) ++ ((wsV RX11 334 RX11 yX11_firstState v_c_firstState) ++ ([])))))
theorem g_v_c_finding_0 : GoodIn v_c_finding (va_wsS RX11 151 yX11_needWay v_c_needWay) := goodIn_sub (fun _ h => List.mem_cons_of_mem _ (List.mem_append_right _ (List.mem_append_left _ h))) (by decide +kernel)
theorem g_v_c_finding_1 : GoodIn v_c_finding (va_wsS RX11 331 yX11_needFinding v_c_needFinding) := goodIn_sub (fun _ h => List.mem_cons_of_mem _ (List.mem_append_right _ (List.mem_append_right _ (List.mem_append_left _ h)))) (by decide +kernel)
theorem g_v_c_finding_2 : GoodIn v_c_finding (wsV RX11 334 RX11 yX11_firstState v_c_firstState) := goodIn_sub (fun _ h => List.mem_cons_of_mem _ (List.mem_append_right _ (List.mem_append_right _ (List.mem_append_right _ (List.mem_append_left _ h))))) (by decide +kernel)
theorem t_v_c_finding : ∀ w ∈ v_c_finding, w ∈ lw_tbl := tb_c (List.mem_of_getElem? (i := 2021) (by decide +kernel)) (tb_a (tb_n) (tb_a (tb_a (tb_c (List.mem_of_getElem? (i := 1283) (by decide +kernel)) (tb_c (List.mem_of_getElem? (i := 1284) (by decide +kernel)) (tb_c (List.mem_of_getElem? (i := 206) (by decide +kernel)) (tb_n)))) t_v_c_needWay) (tb_a (tb_a (tb_c (List.mem_of_getElem? (i := 2022) (by decide +kernel)) (tb_c (List.mem_of_getElem? (i := 2023) (by decide +kernel)) (tb_c (List.mem_of_getElem? (i := 206) (by decide +kernel)) (tb_n)))) t_v_c_needFinding) (tb_a (tb_a (tb_c (List.mem_of_getElem? (i := 2026) (by decide +kernel)) (tb_c (List.mem_of_getElem? (i := 2028) (by decide +kernel)) (tb_c (List.mem_of_getElem? (i := 111) (by decide +kernel)) (tb_c (List.mem_of_getElem? (i := 206) (by decide +kernel)) (tb_n))))) t_v_c_firstState) (tb_n)))))
set_option maxHeartbeats 400000 in
set_option maxRecDepth 100000 in
/-- finding(..) of a new house -/
theorem c_finding (l : Launch) (hlt : l.stackTraces = false) (D : va_G) (h0 : Nat) (tr : Nat) (ct : ClassId) (xfs : List Value) (p0 p1 : Int32) (sz : Nat) (hq6 : xfs[6]? = some (.ref tr)) : vx_Met l yX11_finding v_c_finding ({ frames := 9, cells := 2, slots := 12, locals := 220 }) (va_Pc [.ref h0, .int p0, .int p1] (st_ D [(h0, .inr (11, xfs)), (tr, .inl (ct, 2, .inr (.inr (.inr (.inr (fun _ => none))))))] [(ct, .object "ScheduleHouse$Trial")] sz)) (va_Qi (fun (r : Int32) (_ : Unit) => r = -1 ∧ (¬ p0 < 0 ∧ p0 < 2) ∧ (¬ p1 < 0 ∧ p1 < 11)) (fun _ _ => True) (va_A [(h0, .inr (11, xfs)), (tr, .inl (ct, 2, .inr (.inr (.inr (.inr (fun _ => none))))))] sz)) (vx_X (fun _ : Unit => True) (fun E _ _ => E = iAE ∧ ((p0 < 0 ∨ ¬ p0 < 2) ∨ (p1 < 0 ∨ ¬ p1 < 11))) (va_A [(h0, .inr (11, xfs)), (tr, .inl (ct, 2, .inr (.inr (.inr (.inr (fun _ => none))))))] sz)) 2 12 (va_A [(h0, .inr (11, xfs)), (tr, .inl (ct, 2, .inr (.inr (.inr (.inr (fun _ => none))))))] sz) := by
  refine vx_ofW (cc := cX11_finding) (maxL := 4) (ret := (some .int)) (by decide) rfl ?_
  intro p e s m args below meth c s₁ B hml hno hv
  obtain ⟨rfl, hsz, hP, hK, hD0, hZ, hE⟩ := hv
  have hx := B.exec
  have hb := B.bytes
  have hr := B.returns
  have hts := atoms_spec (ws := v_c_finding) B.pre
  have hown : s.vm.findClass RX11 = some m.cls := findClass_of_methodNamed B.named
  have hlocks := B.notSynchronized
  subst hsz
  have hD := hD0.self (sz := s.heap.size)
  generalize hAe : va_A [(h0, .inr (11, xfs)), (tr, .inl (ct, 2, .inr (.inr (.inr (.inr (fun _ => none))))))] s.heap.size = A at hD hZ ⊢
  have hA : ∀ q : Nat, s.heap.size ≤ q → A q := fun q h => by rw [← hAe]; exact Or.inr h
  have hS : va_S A s.heap s.heap [] := va_S.rf
  have hAO := hE.2.2.2.1
  have hP : va_P D vwCl [(h0, .inr (11, xfs)), (tr, .inl (ct, 2, .inr (.inr (.inr (.inr (fun _ => none))))))] s.heap := hP
  have hl := lv_entry ([.ref h0, .int p0, .int p1]) (n := 4) (Nat.le_of_ble_eq_true rfl)
  rw [lg_entry_eq]
  generalize (lg_sl ([.ref h0, .int p0, .int p1]) ++ List.replicate (4 - (lg_sl ([.ref h0, .int p0, .int p1])).length) Slot.unset).toArray = ls at hl ⊢
  have hl : lv_has ls 4 [(0, .ref h0), (1, .int p0), (2, .int p1)] := hl
  refine lv_iload_n hx hb dX11_finding_0 rfl (lv_at hl 1 rfl) ?_
  have hPc := hP.sub (ws' := []) [] rfl
  have hDc := hD.sub (ws' := []) [] (by decide) rfl
  have hKc := hK.sub (tys' := []) [] rfl
  have hFc := va_free (wc := []) hD hS hA [] rfl
  refine vx_callv (vx_runS (As := [.int p0]) (rest := []) ⟨hx, hb, hml, hown, hts⟩ (c_needWay l hlt D p0 s.heap.size) (va_cwS 1 hts g_v_c_finding_0 rfl rfl rfl (by decide +kernel) ⟨Nat.le_of_ble_eq_true rfl, Nat.le_of_ble_eq_true rfl⟩) ⟨st_blind, fun U hU hW => ⟨rfl, st_call hU hW hPc hKc hDc hZ hS hFc hE⟩⟩ rfl rfl hl.1 rfl (lv_room (Nat.le_of_ble_eq_true rfl)) dX11_finding_1 ⟨Nat.le_of_ble_eq_true rfl, Nat.le_of_ble_eq_true rfl⟩) hS (fun q _ h => hFc q h) hFc (fun q _ h => hFc q h) (fun E ce q9 _ t H1 locs ht hvm hw hB hz1 hk1 hS hce hcv hcl => ?_) (fun u9 t H1 locs ht hvm hw hB hz1 hk1 hS => ?_)
  · obtain ⟨hEx, hr9⟩ := hB
    subst hEx
    exact vx_out (E := _) (fun x hx => (hno x hx).elim) hlocks hce hcv hcl (fun t2 h2 hvm2 => ⟨(), trivial, ⟨rfl, Or.inl hr9⟩, hS.F h2⟩) hS.2.2 (Nat.le_of_ble_eq_true rfl) (Nat.le_of_ble_eq_true rfl)
  · have hn1 := hw
    obtain ⟨hP, hD⟩ := va_join (wr := [(h0, .inr (11, xfs)), (tr, .inl (ct, 2, .inr (.inr (.inr (.inr (fun _ => none))))))]) (w1 := []) hP hD [] [0, 1] rfl rfl (by decide) (by decide) hk1 hFc p_nil d_nil
    generalize H1 = H at hP hS ⊢
    have hP : va_P D vwCl [(h0, .inr (11, xfs)), (tr, .inl (ct, 2, .inr (.inr (.inr (.inr (fun _ => none))))))] H := hP
    have hD : va_D A [(h0, .inr (11, xfs)), (tr, .inl (ct, 2, .inr (.inr (.inr (.inr (fun _ => none))))))] := hD
    refine lv_iload_n hx hb dX11_finding_4 rfl (lv_at hl 2 rfl) ?_
    have hPc := hP.sub (ws' := []) [] rfl
    have hDc := hD.sub (ws' := []) [] (by decide) rfl
    have hKc := hK.sub (tys' := []) [] rfl
    have hFc := va_free (wc := []) hD hS hA [] rfl
    refine vx_callv (vx_runS (As := [.int p1]) (rest := []) ⟨hx, hb, hml, hown, hts⟩ (c_needFinding l hlt D p1 H.size) (va_cwS 1 hts g_v_c_finding_1 rfl rfl rfl (by decide +kernel) ⟨Nat.le_of_ble_eq_true rfl, Nat.le_of_ble_eq_true rfl⟩) ⟨st_blind, fun U hU hW => ⟨rfl, st_call hU hW hPc hKc hDc hZ hS hFc hE⟩⟩ rfl rfl hl.1 rfl (lv_room (Nat.le_of_ble_eq_true rfl)) dX11_finding_5 ⟨Nat.le_of_ble_eq_true rfl, Nat.le_of_ble_eq_true rfl⟩) hS (fun q _ h => hFc q h) hFc (fun q _ h => hFc q h) (fun E ce q9 _ t H1 locs ht hvm hw hB hz1 hk1 hS hce hcv hcl => ?_) (fun u9 t H1 locs ht hvm hw hB hz1 hk1 hS => ?_)
    · obtain ⟨hEx, hr9⟩ := hB
      subst hEx
      exact vx_out (E := _) (fun x hx => (hno x hx).elim) hlocks hce hcv hcl (fun t2 h2 hvm2 => ⟨(), trivial, ⟨rfl, Or.inr hr9⟩, hS.F h2⟩) hS.2.2 (Nat.le_of_ble_eq_true rfl) (Nat.le_of_ble_eq_true rfl)
    · have hn2 := hw
      obtain ⟨hP, hD⟩ := va_join (wr := [(h0, .inr (11, xfs)), (tr, .inl (ct, 2, .inr (.inr (.inr (.inr (fun _ => none))))))]) (w1 := []) hP hD [] [0, 1] rfl rfl (by decide) (by decide) hk1 hFc p_nil d_nil
      generalize H1 = H at hP hS ⊢
      have hP : va_P D vwCl [(h0, .inr (11, xfs)), (tr, .inl (ct, 2, .inr (.inr (.inr (.inr (fun _ => none))))))] H := hP
      have hD : va_D A [(h0, .inr (11, xfs)), (tr, .inl (ct, 2, .inr (.inr (.inr (.inr (fun _ => none))))))] := hD
      refine lv_aload_n hx hb dX11_finding_8 rfl (lv_at hl 0 rfl) ?_
      refine lv_iload_n hx hb dX11_finding_9 rfl (lv_at hl 1 rfl) ?_
      refine lv_iload_n hx hb dX11_finding_10 rfl (lv_at hl 2 rfl) ?_
      have hPc := hP.sub (ws' := [(h0, .inr (11, xfs)), (tr, .inl (ct, 2, .inr (.inr (.inr (.inr (fun _ => none))))))]) [0, 1] rfl
      have hDc := hD.sub (ws' := [(h0, .inr (11, xfs)), (tr, .inl (ct, 2, .inr (.inr (.inr (.inr (fun _ => none))))))]) [0, 1] (by decide) rfl
      have hKc := hK.sub (tys' := [(ct, .object "ScheduleHouse$Trial")]) [0] rfl
      have hFc := va_free (wc := [(h0, .inr (11, xfs)), (tr, .inl (ct, 2, .inr (.inr (.inr (.inr (fun _ => none))))))]) hD hS hA [0, 1] rfl
      refine va_calli (va_runV (As := [.int p0, .int p1]) (rest := []) ⟨hx, hb, hml, hown, hts⟩ (c_firstState l D h0 tr ct xfs p0 p1 H.size hq6 hn1) (cwV 2 hts g_v_c_finding_2 rfl rfl rfl (by decide +kernel) ⟨Nat.le_of_ble_eq_true rfl, Nat.le_of_ble_eq_true rfl⟩) ⟨st_blind, va_recv hKc hPc (ci := 11) (q0 := 0) rfl rfl, fun U hU hW => ⟨rfl, st_call hU hW hPc hKc hDc hZ hS hFc hE⟩⟩ rfl rfl hl.1 rfl (lv_room (Nat.le_of_ble_eq_true rfl)) dX11_finding_11 ⟨Nat.le_of_ble_eq_true rfl, Nat.le_of_ble_eq_true rfl⟩) hS (fun q _ h => hFc q h) hFc (fun r1 u2 t H1 locs ht hvm hw hB hz1 hk1 hS => ?_)
      obtain ⟨hP, hD⟩ := va_join (wr := []) (w1 := []) hP hD [0, 1] [] rfl rfl (by decide) (by decide) hk1 hFc p_nil d_nil
      have hK := hK.sub (tys' := []) [] rfl
      generalize H1 = H at hP hS ⊢
      have hP : va_P D vwCl [] H := hP
      have hD : va_D A [] := hD
      have hK : va_K D vwCl [] s := hK
      subst hw
      refine lv_istore_n (lv' := [(3, .int (-1)), (0, .ref h0), (1, .int p0), (2, .int p1)]) hx hb dX11_finding_14 rfl hl (by decide) rfl (fun ls hl => ?_)
      refine lv_iload_n hx hb dX11_finding_15 rfl (lv_at hl 0 rfl) ?_
      refine lv_iconst (v := (-1)) hx hb dX11_finding_16 (by decide +kernel) ?_
      refine lv_icmp_ne (tgt := 24) hx hb dX11_finding_17 (by decide) (fun c9 => False.elim (by revert c9; decide)) (fun _ => ?_)
      refine lv_iconst (v := (-1)) hx hb dX11_finding_20 (by decide +kernel) ?_
      refine lv_goto (tgt := 35) hx hb dX11_finding_21 (by decide) ?_
      refine vx_ret (W.widen (k := 2) (n := 12) (Nat.le_of_ble_eq_true rfl) (Nat.le_of_ble_eq_true rfl) ?_)
      exact W.iret (v := (-1)) hx hb hr (fun t ht hW => ⟨⟨-1, (), rfl, ⟨rfl, hn1, hn2⟩, trivial⟩, hS.F ht⟩) hS.2.2 dX11_finding_35
noncomputable def v_c_show : List Cond := .code yX11_show cX11_show 6 (some .int) :: ([.classLink RX11 102 iSE, .initialized iSE] ++ ((va_wsS RX11 151 yX11_needWay v_c_needWay) ++ ((va_wsS RX11 331 yX11_needFinding v_c_needFinding) ++ ((wsV RX11 334 RX11 yX11_firstState v_c_firstState) ++ (((vx_atS RX11 191 iSE up2).filter goodWord) ++ ([]))))))
theorem g_v_c_show_0 : GoodIn v_c_show (va_wsS RX11 151 yX11_needWay v_c_needWay) := goodIn_sub (fun _ h => List.mem_cons_of_mem _ (List.mem_append_right _ (List.mem_append_left _ h))) (by decide +kernel)
theorem g_v_c_show_1 : GoodIn v_c_show (va_wsS RX11 331 yX11_needFinding v_c_needFinding) := goodIn_sub (fun _ h => List.mem_cons_of_mem _ (List.mem_append_right _ (List.mem_append_right _ (List.mem_append_left _ h)))) (by decide +kernel)
theorem g_v_c_show_2 : GoodIn v_c_show (wsV RX11 334 RX11 yX11_firstState v_c_firstState) := goodIn_sub (fun _ h => List.mem_cons_of_mem _ (List.mem_append_right _ (List.mem_append_right _ (List.mem_append_right _ (List.mem_append_left _ h))))) (by decide +kernel)
theorem gm_v_c_show_3 : ∀ w ∈ (vx_atS RX11 191 iSE up2).filter goodWord, w ∈ v_c_show := fun _ h => List.mem_cons_of_mem _ (List.mem_append_right _ (List.mem_append_right _ (List.mem_append_right _ (List.mem_append_right _ (List.mem_append_left _ h)))))
theorem t_v_c_show : ∀ w ∈ v_c_show, w ∈ lw_tbl := tb_c (List.mem_of_getElem? (i := 2036) (by decide +kernel)) (tb_a (tb_c (List.mem_of_getElem? (i := 789) (by decide +kernel)) (tb_c (List.mem_of_getElem? (i := 225) (by decide +kernel)) (tb_n))) (tb_a (tb_a (tb_c (List.mem_of_getElem? (i := 1283) (by decide +kernel)) (tb_c (List.mem_of_getElem? (i := 1284) (by decide +kernel)) (tb_c (List.mem_of_getElem? (i := 206) (by decide +kernel)) (tb_n)))) t_v_c_needWay) (tb_a (tb_a (tb_c (List.mem_of_getElem? (i := 2022) (by decide +kernel)) (tb_c (List.mem_of_getElem? (i := 2023) (by decide +kernel)) (tb_c (List.mem_of_getElem? (i := 206) (by decide +kernel)) (tb_n)))) t_v_c_needFinding) (tb_a (tb_a (tb_c (List.mem_of_getElem? (i := 2026) (by decide +kernel)) (tb_c (List.mem_of_getElem? (i := 2028) (by decide +kernel)) (tb_c (List.mem_of_getElem? (i := 111) (by decide +kernel)) (tb_c (List.mem_of_getElem? (i := 206) (by decide +kernel)) (tb_n))))) t_v_c_firstState) (tb_a (tx_X11_191) (tb_n))))))
set_option maxHeartbeats 400000 in
set_option maxRecDepth 100000 in
/-- show(..) of a new house -/
theorem c_show (l : Launch) (hlt : l.stackTraces = false) (D : va_G) (h0 : Nat) (tr : Nat) (ct : ClassId) (xfs : List Value) (p0 p1 : Int32) (sz : Nat) (hq6 : xfs[6]? = some (.ref tr)) : vx_Met l yX11_show v_c_show ({ frames := 9, cells := 3, slots := 18, locals := 220 }) (va_Pc [.ref h0, .int p0, .int p1] (st_ D [(h0, .inr (11, xfs)), (tr, .inl (ct, 2, .inr (.inr (.inr (.inr (fun _ => none))))))] [(ct, .object "ScheduleHouse$Trial")] sz)) (va_Qi (fun (r : Int32) (_ : Unit) => r = 0 ∧ False) (fun _ _ => True) (va_A [(h0, .inr (11, xfs)), (tr, .inl (ct, 2, .inr (.inr (.inr (.inr (fun _ => none))))))] sz)) (vx_X (fun _ : Unit => True) (fun E _ _ => (E = iAE ∧ ((p0 < 0 ∨ ¬ p0 < 2) ∨ (p1 < 0 ∨ ¬ p1 < 11))) ∨ (E = iSE ∧ (¬ p0 < 0 ∧ p0 < 2) ∧ (¬ p1 < 0 ∧ p1 < 11))) (va_A [(h0, .inr (11, xfs)), (tr, .inl (ct, 2, .inr (.inr (.inr (.inr (fun _ => none))))))] sz)) 3 18 (va_A [(h0, .inr (11, xfs)), (tr, .inl (ct, 2, .inr (.inr (.inr (.inr (fun _ => none))))))] sz) := by
  refine vx_ofW (cc := cX11_show) (maxL := 6) (ret := (some .int)) (by decide) rfl ?_
  intro p e s m args below meth c s₁ B hml hno hv
  obtain ⟨rfl, hsz, hP, hK, hD0, hZ, hE⟩ := hv
  have hx := B.exec
  have hb := B.bytes
  have hr := B.returns
  have hts := atoms_spec (ws := v_c_show) B.pre
  have hown : s.vm.findClass RX11 = some m.cls := findClass_of_methodNamed B.named
  have hlocks := B.notSynchronized
  subst hsz
  have hD := hD0.self (sz := s.heap.size)
  generalize hAe : va_A [(h0, .inr (11, xfs)), (tr, .inl (ct, 2, .inr (.inr (.inr (.inr (fun _ => none))))))] s.heap.size = A at hD hZ ⊢
  have hA : ∀ q : Nat, s.heap.size ≤ q → A q := fun q h => by rw [← hAe]; exact Or.inr h
  have hS : va_S A s.heap s.heap [] := va_S.rf
  have hAO := hE.2.2.2.1
  have hP : va_P D vwCl [(h0, .inr (11, xfs)), (tr, .inl (ct, 2, .inr (.inr (.inr (.inr (fun _ => none))))))] s.heap := hP
  have hl := lv_entry ([.ref h0, .int p0, .int p1]) (n := 6) (Nat.le_of_ble_eq_true rfl)
  rw [lg_entry_eq]
  generalize (lg_sl ([.ref h0, .int p0, .int p1]) ++ List.replicate (6 - (lg_sl ([.ref h0, .int p0, .int p1])).length) Slot.unset).toArray = ls at hl ⊢
  have hl : lv_has ls 6 [(0, .ref h0), (1, .int p0), (2, .int p1)] := hl
  refine lv_iload_n hx hb dX11_show_0 rfl (lv_at hl 1 rfl) ?_
  have hPc := hP.sub (ws' := []) [] rfl
  have hDc := hD.sub (ws' := []) [] (by decide) rfl
  have hKc := hK.sub (tys' := []) [] rfl
  have hFc := va_free (wc := []) hD hS hA [] rfl
  refine vx_callv (vx_runS (As := [.int p0]) (rest := []) ⟨hx, hb, hml, hown, hts⟩ (c_needWay l hlt D p0 s.heap.size) (va_cwS 1 hts g_v_c_show_0 rfl rfl rfl (by decide +kernel) ⟨Nat.le_of_ble_eq_true rfl, Nat.le_of_ble_eq_true rfl⟩) ⟨st_blind, fun U hU hW => ⟨rfl, st_call hU hW hPc hKc hDc hZ hS hFc hE⟩⟩ rfl rfl hl.1 rfl (lv_room (Nat.le_of_ble_eq_true rfl)) dX11_show_1 ⟨Nat.le_of_ble_eq_true rfl, Nat.le_of_ble_eq_true rfl⟩) hS (fun q _ h => hFc q h) hFc (fun q _ h => hFc q h) (fun E ce q9 _ t H1 locs ht hvm hw hB hz1 hk1 hS hce hcv hcl => ?_) (fun u9 t H1 locs ht hvm hw hB hz1 hk1 hS => ?_)
  · obtain ⟨hEx, hr9⟩ := hB
    subst hEx
    exact vx_out (E := _) (fun x hx => (hno x hx).elim) hlocks hce hcv hcl (fun t2 h2 hvm2 => ⟨(), trivial, Or.inl ⟨rfl, Or.inl hr9⟩, hS.F h2⟩) hS.2.2 (Nat.le_of_ble_eq_true rfl) (Nat.le_of_ble_eq_true rfl)
  · have hn1 := hw
    obtain ⟨hP, hD⟩ := va_join (wr := [(h0, .inr (11, xfs)), (tr, .inl (ct, 2, .inr (.inr (.inr (.inr (fun _ => none))))))]) (w1 := []) hP hD [] [0, 1] rfl rfl (by decide) (by decide) hk1 hFc p_nil d_nil
    generalize H1 = H at hP hS ⊢
    have hP : va_P D vwCl [(h0, .inr (11, xfs)), (tr, .inl (ct, 2, .inr (.inr (.inr (.inr (fun _ => none))))))] H := hP
    have hD : va_D A [(h0, .inr (11, xfs)), (tr, .inl (ct, 2, .inr (.inr (.inr (.inr (fun _ => none))))))] := hD
    refine lv_iload_n hx hb dX11_show_4 rfl (lv_at hl 2 rfl) ?_
    have hPc := hP.sub (ws' := []) [] rfl
    have hDc := hD.sub (ws' := []) [] (by decide) rfl
    have hKc := hK.sub (tys' := []) [] rfl
    have hFc := va_free (wc := []) hD hS hA [] rfl
    refine vx_callv (vx_runS (As := [.int p1]) (rest := []) ⟨hx, hb, hml, hown, hts⟩ (c_needFinding l hlt D p1 H.size) (va_cwS 1 hts g_v_c_show_1 rfl rfl rfl (by decide +kernel) ⟨Nat.le_of_ble_eq_true rfl, Nat.le_of_ble_eq_true rfl⟩) ⟨st_blind, fun U hU hW => ⟨rfl, st_call hU hW hPc hKc hDc hZ hS hFc hE⟩⟩ rfl rfl hl.1 rfl (lv_room (Nat.le_of_ble_eq_true rfl)) dX11_show_5 ⟨Nat.le_of_ble_eq_true rfl, Nat.le_of_ble_eq_true rfl⟩) hS (fun q _ h => hFc q h) hFc (fun q _ h => hFc q h) (fun E ce q9 _ t H1 locs ht hvm hw hB hz1 hk1 hS hce hcv hcl => ?_) (fun u9 t H1 locs ht hvm hw hB hz1 hk1 hS => ?_)
    · obtain ⟨hEx, hr9⟩ := hB
      subst hEx
      exact vx_out (E := _) (fun x hx => (hno x hx).elim) hlocks hce hcv hcl (fun t2 h2 hvm2 => ⟨(), trivial, Or.inl ⟨rfl, Or.inr hr9⟩, hS.F h2⟩) hS.2.2 (Nat.le_of_ble_eq_true rfl) (Nat.le_of_ble_eq_true rfl)
    · have hn2 := hw
      obtain ⟨hP, hD⟩ := va_join (wr := [(h0, .inr (11, xfs)), (tr, .inl (ct, 2, .inr (.inr (.inr (.inr (fun _ => none))))))]) (w1 := []) hP hD [] [0, 1] rfl rfl (by decide) (by decide) hk1 hFc p_nil d_nil
      generalize H1 = H at hP hS ⊢
      have hP : va_P D vwCl [(h0, .inr (11, xfs)), (tr, .inl (ct, 2, .inr (.inr (.inr (.inr (fun _ => none))))))] H := hP
      have hD : va_D A [(h0, .inr (11, xfs)), (tr, .inl (ct, 2, .inr (.inr (.inr (.inr (fun _ => none))))))] := hD
      refine lv_aload_n hx hb dX11_show_8 rfl (lv_at hl 0 rfl) ?_
      refine lv_iload_n hx hb dX11_show_9 rfl (lv_at hl 1 rfl) ?_
      refine lv_iload_n hx hb dX11_show_10 rfl (lv_at hl 2 rfl) ?_
      have hPc := hP.sub (ws' := [(h0, .inr (11, xfs)), (tr, .inl (ct, 2, .inr (.inr (.inr (.inr (fun _ => none))))))]) [0, 1] rfl
      have hDc := hD.sub (ws' := [(h0, .inr (11, xfs)), (tr, .inl (ct, 2, .inr (.inr (.inr (.inr (fun _ => none))))))]) [0, 1] (by decide) rfl
      have hKc := hK.sub (tys' := [(ct, .object "ScheduleHouse$Trial")]) [0] rfl
      have hFc := va_free (wc := [(h0, .inr (11, xfs)), (tr, .inl (ct, 2, .inr (.inr (.inr (.inr (fun _ => none))))))]) hD hS hA [0, 1] rfl
      refine va_calli (va_runV (As := [.int p0, .int p1]) (rest := []) ⟨hx, hb, hml, hown, hts⟩ (c_firstState l D h0 tr ct xfs p0 p1 H.size hq6 hn1) (cwV 2 hts g_v_c_show_2 rfl rfl rfl (by decide +kernel) ⟨Nat.le_of_ble_eq_true rfl, Nat.le_of_ble_eq_true rfl⟩) ⟨st_blind, va_recv hKc hPc (ci := 11) (q0 := 0) rfl rfl, fun U hU hW => ⟨rfl, st_call hU hW hPc hKc hDc hZ hS hFc hE⟩⟩ rfl rfl hl.1 rfl (lv_room (Nat.le_of_ble_eq_true rfl)) dX11_show_11 ⟨Nat.le_of_ble_eq_true rfl, Nat.le_of_ble_eq_true rfl⟩) hS (fun q _ h => hFc q h) hFc (fun r1 u2 t H1 locs ht hvm hw hB hz1 hk1 hS => ?_)
      obtain ⟨hP, hD⟩ := va_join (wr := []) (w1 := []) hP hD [0, 1] [] rfl rfl (by decide) (by decide) hk1 hFc p_nil d_nil
      have hK := hK.sub (tys' := []) [] rfl
      generalize H1 = H at hP hS ⊢
      have hP : va_P D vwCl [] H := hP
      have hD : va_D A [] := hD
      have hK : va_K D vwCl [] s := hK
      subst hw
      refine lv_istore_n (lv' := [(3, .int (-1)), (0, .ref h0), (1, .int p0), (2, .int p1)]) hx hb dX11_show_14 rfl hl (by decide) rfl (fun ls hl => ?_)
      refine lv_iload_n hx hb dX11_show_15 rfl (lv_at hl 0 rfl) ?_
      refine lv_iconst (v := (-1)) hx hb dX11_show_16 (by decide +kernel) ?_
      refine lv_icmp_ne (tgt := 31) hx hb dX11_show_17 (by decide) (fun c9 => False.elim (by revert c9; decide)) (fun _ => ?_)
      obtain ⟨sa, hsa⟩ := ev_text hE 340 "no such finding" (by decide)
      exact vx_throwSW hx hb hlt (own := RX11) (cls := iSE) (text := "no such finding") (names := up2) (ik := 102) (is := 340) (ic := 191) (sa := sa) (A := A) hown (by decide +kernel) (by decide +kernel) (hts (.classLink RX11 102 iSE) (by decide +kernel)) (hts (.initialized iSE) (by decide +kernel)) hsa (vx_hat (B := ev_B iSE) (fun w hw => hts w (gm_v_c_show_3 w hw)) (by decide +kernel) (ev_b hE iSE (by decide))) (by decide +kernel) hZ.1 hZ.2 hS (by rw [hml]; exact hl.1) dX11_show_20 dX11_show_23 dX11_show_24 dX11_show_27 dX11_show_30 (fun x hx => (hno x hx).elim) (by decide) (by decide) (by decide) (by decide) hlocks (fun t _ hz hk => ⟨(), trivial, Or.inr ⟨rfl, hn1, hn2⟩, Nat.le_trans hS.1 hz, fun q h1 h2 => (hk q (Nat.lt_of_lt_of_le h1 hS.1)).trans (hS.2.1 q h1 h2)⟩) hS.2.2 (by decide) (by decide)
noncomputable def v_c_fault : List Cond := .code yX11_fault cX11_fault 2 (some .int) :: ([.fieldLink RX11 67 "ScheduleHouse" "faultLine" "I", .fieldLink RX11 63 "ScheduleHouse" "faultPlace" "I", .classLink RX11 127 iOE, .initialized iOE] ++ (wsX110 ++ (((vx_atS RX11 131 iOE up2).filter goodWord) ++ ([]))))
theorem i_v_c_fault_X11 : ∀ w ∈ wsX110, w ∈ v_c_fault := fun _ h => List.mem_cons_of_mem _ (List.mem_append_right _ (List.mem_append_left _ h))
theorem gm_v_c_fault_1 : ∀ w ∈ (vx_atS RX11 131 iOE up2).filter goodWord, w ∈ v_c_fault := fun _ h => List.mem_cons_of_mem _ (List.mem_append_right _ (List.mem_append_right _ (List.mem_append_left _ h)))
theorem t_v_c_fault : ∀ w ∈ v_c_fault, w ∈ lw_tbl := tb_c (List.mem_of_getElem? (i := 1242) (by decide +kernel)) (tb_a (tb_c (List.mem_of_getElem? (i := 749) (by decide +kernel)) (tb_c (List.mem_of_getElem? (i := 748) (by decide +kernel)) (tb_c (List.mem_of_getElem? (i := 1243) (by decide +kernel)) (tb_c (List.mem_of_getElem? (i := 227) (by decide +kernel)) (tb_n))))) (tb_a (tw_wsX110) (tb_a (tx_X11_131) (tb_n))))
set_option maxHeartbeats 400000 in
set_option maxRecDepth 100000 in
/-- fault(..) of a new house -/
theorem c_fault (l : Launch) (hlt : l.stackTraces = false) (D : va_G) (h0 : Nat) (xfs : List Value) (p0 : Int32) (sz : Nat) (hq11 : xfs[11]? = some (.int (-1))) (hq12 : xfs[12]? = some (.int (-1))) : vx_Met l yX11_fault v_c_fault ({ frames := 9, cells := 1, slots := 6, locals := 220 }) (va_Pc [.ref h0, .int p0] (st_ D [(h0, .inr (11, xfs))] [] sz)) (va_Qi (fun (r : Int32) (_ : Unit) => r = -1 ∧ (p0 = 0 ∨ p0 = 1)) (fun _ _ => True) (va_A [(h0, .inr (11, xfs))] sz)) (vx_X (fun _ : Unit => True) (fun E _ _ => E = iOE ∧ ¬ p0 = 0 ∧ ¬ p0 = 1) (va_A [(h0, .inr (11, xfs))] sz)) 1 6 (va_A [(h0, .inr (11, xfs))] sz) := by
  refine vx_ofW (cc := cX11_fault) (maxL := 2) (ret := (some .int)) (by decide) rfl ?_
  intro p e s m args below meth c s₁ B hml hno hv
  obtain ⟨rfl, hsz, hP, hK, hD0, hZ, hE⟩ := hv
  have hx := B.exec
  have hb := B.bytes
  have hr := B.returns
  have hts := atoms_spec (ws := v_c_fault) B.pre
  have hown : s.vm.findClass RX11 = some m.cls := findClass_of_methodNamed B.named
  have hlocks := B.notSynchronized
  subst hsz
  have hD := hD0.self (sz := s.heap.size)
  generalize hAe : va_A [(h0, .inr (11, xfs))] s.heap.size = A at hD hZ ⊢
  have hA : ∀ q : Nat, s.heap.size ≤ q → A q := fun q h => by rw [← hAe]; exact Or.inr h
  have hS : va_S A s.heap s.heap [] := va_S.rf
  have hAO := hE.2.2.2.1
  have hP : va_P D vwCl [(h0, .inr (11, xfs))] s.heap := hP
  have hl := lv_entry ([.ref h0, .int p0]) (n := 2) (Nat.le_of_ble_eq_true rfl)
  rw [lg_entry_eq]
  generalize (lg_sl ([.ref h0, .int p0]) ++ List.replicate (2 - (lg_sl ([.ref h0, .int p0])).length) Slot.unset).toArray = ls at hl ⊢
  have hl : lv_has ls 2 [(0, .ref h0), (1, .int p0)] := hl
  refine lv_iload_n hx hb dX11_fault_0 rfl (lv_at hl 1 rfl) ?_
  refine lv_if_eq (tgt := 19) hx hb dX11_fault_1 (by decide) (fun c1 => ?_) (fun c1 => ?_)
  · refine lv_iload_n hx hb dX11_fault_19 rfl (lv_at hl 1 rfl) ?_
    refine lv_if_ne (tgt := 30) hx hb dX11_fault_20 (by decide) (fun c3 => ?_) (fun c3 => ?_)
    · refine lv_aload_n hx hb dX11_fault_30 rfl (lv_at hl 0 rfl) ?_
      refine va_get (D := D) (ci := 11) (v := .int (-1)) (C := RX11) (T := TX11) (N := 13) hx hb hts i_v_c_fault_X11 hown hK hP 0 rfl rfl 12 (by decide) (hts (.fieldLink RX11 67 "ScheduleHouse" "faultLine" "I") (by decide +kernel)) (fun _ h9 => h9) hq12 dX11_fault_31 ?_
      refine vx_ret (W.widen (k := 1) (n := 6) (Nat.le_of_ble_eq_true rfl) (Nat.le_of_ble_eq_true rfl) ?_)
      exact W.iret (v := (-1)) hx hb hr (fun t ht hW => ⟨⟨-1, (), rfl, ⟨rfl, Or.inl c1⟩, trivial⟩, hS.F ht⟩) hS.2.2 dX11_fault_34
    · refine lv_aload_n hx hb dX11_fault_23 rfl (lv_at hl 0 rfl) ?_
      refine va_get (D := D) (ci := 11) (v := .int (-1)) (C := RX11) (T := TX11) (N := 13) hx hb hts i_v_c_fault_X11 hown hK hP 0 rfl rfl 11 (by decide) (hts (.fieldLink RX11 63 "ScheduleHouse" "faultPlace" "I") (by decide +kernel)) (fun _ h9 => h9) hq11 dX11_fault_24 ?_
      refine lv_goto (tgt := 34) hx hb dX11_fault_27 (by decide) ?_
      refine vx_ret (W.widen (k := 1) (n := 6) (Nat.le_of_ble_eq_true rfl) (Nat.le_of_ble_eq_true rfl) ?_)
      exact W.iret (v := (-1)) hx hb hr (fun t ht hW => ⟨⟨-1, (), rfl, ⟨rfl, Or.inl c1⟩, trivial⟩, hS.F ht⟩) hS.2.2 dX11_fault_34
  · refine lv_iload_n hx hb dX11_fault_4 rfl (lv_at hl 1 rfl) ?_
    refine lv_iconst (v := 1) hx hb dX11_fault_5 (by decide +kernel) ?_
    refine lv_icmp_eq (tgt := 19) hx hb dX11_fault_6 (by decide) (fun c2 => ?_) (fun c2 => ?_)
    · refine lv_iload_n hx hb dX11_fault_19 rfl (lv_at hl 1 rfl) ?_
      refine lv_if_ne (tgt := 30) hx hb dX11_fault_20 (by decide) (fun c3 => ?_) (fun c3 => ?_)
      · refine lv_aload_n hx hb dX11_fault_30 rfl (lv_at hl 0 rfl) ?_
        refine va_get (D := D) (ci := 11) (v := .int (-1)) (C := RX11) (T := TX11) (N := 13) hx hb hts i_v_c_fault_X11 hown hK hP 0 rfl rfl 12 (by decide) (hts (.fieldLink RX11 67 "ScheduleHouse" "faultLine" "I") (by decide +kernel)) (fun _ h9 => h9) hq12 dX11_fault_31 ?_
        refine vx_ret (W.widen (k := 1) (n := 6) (Nat.le_of_ble_eq_true rfl) (Nat.le_of_ble_eq_true rfl) ?_)
        exact W.iret (v := (-1)) hx hb hr (fun t ht hW => ⟨⟨-1, (), rfl, ⟨rfl, Or.inr c2⟩, trivial⟩, hS.F ht⟩) hS.2.2 dX11_fault_34
      · refine lv_aload_n hx hb dX11_fault_23 rfl (lv_at hl 0 rfl) ?_
        refine va_get (D := D) (ci := 11) (v := .int (-1)) (C := RX11) (T := TX11) (N := 13) hx hb hts i_v_c_fault_X11 hown hK hP 0 rfl rfl 11 (by decide) (hts (.fieldLink RX11 63 "ScheduleHouse" "faultPlace" "I") (by decide +kernel)) (fun _ h9 => h9) hq11 dX11_fault_24 ?_
        refine lv_goto (tgt := 34) hx hb dX11_fault_27 (by decide) ?_
        refine vx_ret (W.widen (k := 1) (n := 6) (Nat.le_of_ble_eq_true rfl) (Nat.le_of_ble_eq_true rfl) ?_)
        exact W.iret (v := (-1)) hx hb hr (fun t ht hW => ⟨⟨-1, (), rfl, ⟨rfl, Or.inr c2⟩, trivial⟩, hS.F ht⟩) hS.2.2 dX11_fault_34
    · obtain ⟨sa, hsa⟩ := ev_text hE 129 "no such what" (by decide)
      exact vx_throwS hx hb hlt (own := RX11) (cls := iOE) (text := "no such what") (names := up2) (ik := 127) (is := 129) (ic := 131) (sa := sa) (A := A) hown (by decide +kernel) (by decide +kernel) (hts (.classLink RX11 127 iOE) (by decide +kernel)) (hts (.initialized iOE) (by decide +kernel)) hsa (vx_hat (B := ev_B iOE) (fun w hw => hts w (gm_v_c_fault_1 w hw)) (by decide +kernel) (ev_b hE iOE (by decide))) (by decide +kernel) hZ.1 hZ.2 hS (by rw [hml]; exact hl.1) dX11_fault_9 dX11_fault_12 dX11_fault_13 dX11_fault_15 dX11_fault_18 (fun x hx => (hno x hx).elim) (by decide) (by decide) (by decide) (by decide) hlocks (fun t _ hz hk => ⟨(), trivial, ⟨rfl, c1, c2⟩, Nat.le_trans hS.1 hz, fun q h1 h2 => (hk q (Nat.lt_of_lt_of_le h1 hS.1)).trans (hS.2.1 q h1 h2)⟩) hS.2.2 (by decide) (by decide)
noncomputable def v_c_alike : List Cond := .code yX11_alike cX11_alike 1 (some .int) :: ([] ++ ((wsV RX11 309 RX11 yX11_wasTried v_c_wasTriedK) ++ ([])))
theorem g_v_c_alike_0 : GoodIn v_c_alike (wsV RX11 309 RX11 yX11_wasTried v_c_wasTriedK) := goodIn_sub (fun _ h => List.mem_cons_of_mem _ (List.mem_append_right _ (List.mem_append_left _ h))) (by decide +kernel)
theorem t_v_c_alike : ∀ w ∈ v_c_alike, w ∈ lw_tbl := tb_c (List.mem_of_getElem? (i := 1194) (by decide +kernel)) (tb_a (tb_n) (tb_a (tb_a (tb_c (List.mem_of_getElem? (i := 1195) (by decide +kernel)) (tb_c (List.mem_of_getElem? (i := 1197) (by decide +kernel)) (tb_c (List.mem_of_getElem? (i := 54) (by decide +kernel)) (tb_c (List.mem_of_getElem? (i := 206) (by decide +kernel)) (tb_n))))) t_v_c_wasTriedK) (tb_n)))
set_option maxHeartbeats 400000 in
set_option maxRecDepth 100000 in
/-- alike(): NONE -/
theorem c_alike (l : Launch) (D : va_G) (h0 tr : Nat) (ct : ClassId) (xfs : List Value) (sz : Nat) (hq6 : xfs[6]? = some (.ref tr)) : Met l yX11_alike v_c_alike ({ frames := 3, cells := 0, slots := 0, locals := 40 }) (va_Pc [.ref h0] (st_ D [(h0, .inr (11, xfs)), (tr, .inl (ct, 2, .inr (.inr (.inr (.inr (fun _ => none))))))] [(ct, .object "ScheduleHouse$Trial")] sz)) (va_Qi (fun (r : Int32) (_ : Unit) => r = -1) (fun _ _ => True) (va_A [(h0, .inr (11, xfs)), (tr, .inl (ct, 2, .inr (.inr (.inr (.inr (fun _ => none))))))] sz)) 0 0 (va_A [(h0, .inr (11, xfs)), (tr, .inl (ct, 2, .inr (.inr (.inr (.inr (fun _ => none))))))] sz) := by
  refine Met.ofW (cc := cX11_alike) (maxL := 1) (ret := (some .int)) (by decide) rfl ?_
  intro p e s m args below meth c s₁ B hml hv
  obtain ⟨rfl, hsz, hP, hK, hD0, hZ, hE⟩ := hv
  have hx := B.exec
  have hb := B.bytes
  have hr := B.returns
  have hts := atoms_spec (ws := v_c_alike) B.pre
  have hown : s.vm.findClass RX11 = some m.cls := findClass_of_methodNamed B.named
  have hlocks := B.notSynchronized
  subst hsz
  have hD := hD0.self (sz := s.heap.size)
  generalize hAe : va_A [(h0, .inr (11, xfs)), (tr, .inl (ct, 2, .inr (.inr (.inr (.inr (fun _ => none))))))] s.heap.size = A at hD hZ ⊢
  have hA : ∀ q : Nat, s.heap.size ≤ q → A q := fun q h => by rw [← hAe]; exact Or.inr h
  have hS : va_S A s.heap s.heap [] := va_S.rf
  have hAO := hE.2.2.2.1
  have hP : va_P D vwCl [(h0, .inr (11, xfs)), (tr, .inl (ct, 2, .inr (.inr (.inr (.inr (fun _ => none))))))] s.heap := hP
  have hl := lv_entry ([.ref h0]) (n := 1) (Nat.le_of_ble_eq_true rfl)
  rw [lg_entry_eq]
  generalize (lg_sl ([.ref h0]) ++ List.replicate (1 - (lg_sl ([.ref h0])).length) Slot.unset).toArray = ls at hl ⊢
  have hl : lv_has ls 1 [(0, .ref h0)] := hl
  refine lv_aload_n hx hb dX11_alike_0 rfl (lv_at hl 0 rfl) ?_
  refine lv_iconst (v := 0) hx hb dX11_alike_1 (by decide +kernel) ?_
  have hPc := hP.sub (ws' := [(h0, .inr (11, xfs)), (tr, .inl (ct, 2, .inr (.inr (.inr (.inr (fun _ => none))))))]) [0, 1] rfl
  have hDc := hD.sub (ws' := [(h0, .inr (11, xfs)), (tr, .inl (ct, 2, .inr (.inr (.inr (.inr (fun _ => none))))))]) [0, 1] (by decide) rfl
  have hKc := hK.sub (tys' := [(ct, .object "ScheduleHouse$Trial")]) [0] rfl
  have hFc := va_free (wc := [(h0, .inr (11, xfs)), (tr, .inl (ct, 2, .inr (.inr (.inr (.inr (fun _ => none))))))]) hD hS hA [0, 1] rfl
  refine va_calli (va_runV (As := [.int 0]) (rest := []) ⟨hx, hb, hml, hown, hts⟩ (c_wasTriedK l D h0 tr ct xfs 0 s.heap.size hq6 (by decide)) (cwV 1 hts g_v_c_alike_0 rfl rfl rfl (by decide +kernel) ⟨Nat.le_of_ble_eq_true rfl, Nat.le_of_ble_eq_true rfl⟩) ⟨st_blind, va_recv hKc hPc (ci := 11) (q0 := 0) rfl rfl, fun U hU hW => ⟨rfl, st_call hU hW hPc hKc hDc hZ hS hFc hE⟩⟩ rfl rfl hl.1 rfl (lv_room (Nat.le_of_ble_eq_true rfl)) dX11_alike_2 ⟨Nat.le_of_ble_eq_true rfl, Nat.le_of_ble_eq_true rfl⟩) hS (fun q _ h => hFc q h) hFc (fun r1 u2 t H1 locs ht hvm hw hB hz1 hk1 hS => ?_)
  obtain ⟨hP1, hK1, hD1⟩ := hB
  rw [ht] at hP1
  have hK1 := va_K.moved hvm.symm hK1
  obtain ⟨hP, hD⟩ := va_join (wr := []) (w1 := [(h0, .inr (11, xfs)), (tr, .inl (ct, 2, .inr (.inr (.inr (.inr (fun _ => none))))))]) hP hD [0, 1] [] rfl rfl (by decide) (by decide) hk1 hFc hP1 hD1
  have hK := (hK.sub (tys' := []) [] rfl).app hK1
  generalize H1 = H at hP hS ⊢
  have hP : va_P D vwCl [(h0, .inr (11, xfs)), (tr, .inl (ct, 2, .inr (.inr (.inr (.inr (fun _ => none))))))] H := hP
  have hD : va_D A [(h0, .inr (11, xfs)), (tr, .inl (ct, 2, .inr (.inr (.inr (.inr (fun _ => none))))))] := hD
  have hK : va_K D vwCl [(ct, .object "ScheduleHouse$Trial")] s := hK
  subst hw
  refine lv_if_eq (tgt := 40) hx hb dX11_alike_5 (by decide) (fun _ => ?_) (fun c9 => False.elim (by revert c9; decide))
  refine lv_iconst (v := (-1)) hx hb dX11_alike_40 (by decide +kernel) ?_
  exact W.iret (v := (-1)) hx hb hr (fun t ht hW => ⟨⟨-1, (), rfl, rfl, trivial⟩, hS.F ht⟩) hS.2.2 dX11_alike_41
