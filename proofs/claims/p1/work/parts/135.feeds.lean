noncomputable def v_c_forgetAll : List Cond := .code yX11_forgetAll cX11_forgetAll 2 none :: ([.fieldLink RX11 110 "ScheduleHouse" "compiled" "Z", .fieldLink RX11 358 "ScheduleHouse" "running" "Z", .fieldLink RX11 59 "ScheduleHouse" "trials" "[LScheduleHouse$Trial;"] ++ (wsX110 ++ ([])))
theorem i_v_c_forgetAll_X11 : ∀ w ∈ wsX110, w ∈ v_c_forgetAll := fun _ h => List.mem_cons_of_mem _ (List.mem_append_right _ (List.mem_append_left _ h))
theorem t_v_c_forgetAll : ∀ w ∈ v_c_forgetAll, w ∈ lw_tbl := tb_c (List.mem_of_getElem? (i := 784) (by decide +kernel)) (tb_a (tb_c (List.mem_of_getElem? (i := 746) (by decide +kernel)) (tb_c (List.mem_of_getElem? (i := 747) (by decide +kernel)) (tb_c (List.mem_of_getElem? (i := 743) (by decide +kernel)) (tb_n)))) (tb_a (tw_wsX110) (tb_n)))
set_option maxHeartbeats 400000 in
set_option maxRecDepth 100000 in
/-- forgetAll() -/
theorem c_forgetAll (l : Launch) (D : va_G) (h0 tr : Nat) (ct : ClassId) (xfs : List Value) (sz : Nat) (hlen : xfs.length = 13) (hq6 : xfs[6]? = some (.ref tr)) : Met l yX11_forgetAll v_c_forgetAll ({ frames := 1, cells := 0, slots := 0, locals := 12 }) (va_Pc [.ref h0] (st_ D [(h0, .inr (11, xfs)), (tr, .inl (ct, 2, .inr (.inr (.inr (.inr (fun _ => none))))))] [(ct, .object "ScheduleHouse$Trial")] sz)) (va_Qv (fun (u : List Value) => u = (xfs.set 9 (.int 0)).set 10 (.int 0)) (fun u t => va_P D vwCl [(h0, .inr (11, u)), (tr, .inl (ct, 2, .inr (.inr (.inr (.inr (fun _ => none))))))] t.heap ∧ va_K D vwCl [(ct, .object "ScheduleHouse$Trial")] t ∧ va_D (va_A [(h0, .inr (11, xfs)), (tr, .inl (ct, 2, .inr (.inr (.inr (.inr (fun _ => none))))))] sz) [(h0, .inr (11, u)), (tr, .inl (ct, 2, .inr (.inr (.inr (.inr (fun _ => none))))))]) (va_A [(h0, .inr (11, xfs)), (tr, .inl (ct, 2, .inr (.inr (.inr (.inr (fun _ => none))))))] sz)) 0 0 (va_A [(h0, .inr (11, xfs)), (tr, .inl (ct, 2, .inr (.inr (.inr (.inr (fun _ => none))))))] sz) := by
  refine Met.ofW (cc := cX11_forgetAll) (maxL := 2) (ret := none) (by decide) rfl ?_
  intro p e s m args below meth c s₁ B hml hv
  obtain ⟨rfl, hsz, hP, hK, hD0, hZ, hE⟩ := hv
  have hx := B.exec
  have hb := B.bytes
  have hr := B.returns
  have hts := atoms_spec (ws := v_c_forgetAll) B.pre
  have hown : s.vm.findClass RX11 = some m.cls := findClass_of_methodNamed B.named
  have hlocks := B.notSynchronized
  subst hsz
  have hD := hD0.self (sz := s.heap.size)
  generalize hAe : va_A [(h0, .inr (11, xfs)), (tr, .inl (ct, 2, .inr (.inr (.inr (.inr (fun _ => none))))))] s.heap.size = A at hD hZ ⊢
  have hA : ∀ q : Nat, s.heap.size ≤ q → A q := fun q h => by rw [← hAe]; exact Or.inr h
  have hS : va_S A s.heap s.heap [] := va_S.rf
  have hAO := hE.2.2.2.1
  have hP : va_P D vwCl [(h0, .inr (11, xfs)), (tr, .inl (ct, 2, .inr (.inr (.inr (.inr (fun _ => none))))))] s.heap := hP
  have hl := lv_entry ([.ref h0]) (n := 2) (Nat.le_of_ble_eq_true rfl)
  rw [lg_entry_eq]
  generalize (lg_sl ([.ref h0]) ++ List.replicate (2 - (lg_sl ([.ref h0])).length) Slot.unset).toArray = ls at hl ⊢
  have hl : lv_has ls 2 [(0, .ref h0)] := hl
  refine lv_aload_n hx hb dX11_forgetAll_0 rfl (lv_at hl 0 rfl) ?_
  refine lv_iconst (v := 0) hx hb dX11_forgetAll_1 (by decide +kernel) ?_
  refine va_put (D := D) (ci := 11) (v := .int 0) (ty := .boolean) (C := RX11) (T := TX11) (N := 13) hx hb hts i_v_c_forgetAll_X11 tyX11 tyX11_ok nmX11 hown hK hP hD hS 0 rfl rfl 9 (by decide) (hts (.fieldLink RX11 110 "ScheduleHouse" "compiled" "Z") (by decide +kernel)) (fun _ h9 => h9) rfl (by decide +kernel) rfl rfl (by rw [hlen]; decide) dX11_forgetAll_2 (fun H locs hP hD hS => ?_)
  obtain ⟨fs1, hfs1⟩ : ∃ z, z = xfs.set 9 (.int 0) := ⟨_, rfl⟩
  rw [← hfs1] at hP hD
  have lfs1 : fs1.length = 13 := by rw [hfs1, List.length_set]; exact hlen
  have gfs1_6 : fs1[6]? = some (.ref tr) := by rw [hfs1, List.getElem?_set_ne (by decide)]; exact hq6
  have gfs1_9 : fs1[9]? = some (.int 0) := by rw [hfs1]; exact List.getElem?_set_self (by rw [hlen]; decide)
  have hP : va_P D vwCl [(h0, .inr (11, fs1)), (tr, .inl (ct, 2, .inr (.inr (.inr (.inr (fun _ => none))))))] H := hP
  have hD : va_D A [(h0, .inr (11, fs1)), (tr, .inl (ct, 2, .inr (.inr (.inr (.inr (fun _ => none))))))] := hD
  refine lv_aload_n hx hb dX11_forgetAll_5 rfl (lv_at hl 0 rfl) ?_
  refine lv_iconst (v := 0) hx hb dX11_forgetAll_6 (by decide +kernel) ?_
  refine va_put (D := D) (ci := 11) (v := .int 0) (ty := .boolean) (C := RX11) (T := TX11) (N := 13) hx hb hts i_v_c_forgetAll_X11 tyX11 tyX11_ok nmX11 hown hK hP hD hS 0 rfl rfl 10 (by decide) (hts (.fieldLink RX11 358 "ScheduleHouse" "running" "Z") (by decide +kernel)) (fun _ h9 => h9) rfl (by decide +kernel) rfl rfl (by rw [lfs1]; decide) dX11_forgetAll_7 (fun H locs hP hD hS => ?_)
  obtain ⟨fs2, hfs2⟩ : ∃ z, z = fs1.set 10 (.int 0) := ⟨_, rfl⟩
  rw [← hfs2] at hP hD
  have lfs2 : fs2.length = 13 := by rw [hfs2, List.length_set]; exact lfs1
  have gfs2_6 : fs2[6]? = some (.ref tr) := by rw [hfs2, List.getElem?_set_ne (by decide)]; exact gfs1_6
  have gfs2_9 : fs2[9]? = some (.int 0) := by rw [hfs2, List.getElem?_set_ne (by decide)]; exact gfs1_9
  have gfs2_10 : fs2[10]? = some (.int 0) := by rw [hfs2]; exact List.getElem?_set_self (by rw [lfs1]; decide)
  have hP : va_P D vwCl [(h0, .inr (11, fs2)), (tr, .inl (ct, 2, .inr (.inr (.inr (.inr (fun _ => none))))))] H := hP
  have hD : va_D A [(h0, .inr (11, fs2)), (tr, .inl (ct, 2, .inr (.inr (.inr (.inr (fun _ => none))))))] := hD
  refine lv_iconst (v := 0) hx hb dX11_forgetAll_10 (by decide +kernel) ?_
  refine lv_istore_n (lv' := [(1, .int 0), (0, .ref h0)]) hx hb dX11_forgetAll_11 rfl hl (by decide) rfl (fun ls hl => ?_)
  refine lv_iload_n hx hb dX11_forgetAll_12 rfl (lv_at hl 0 rfl) ?_
  refine lv_iconst (v := 2) hx hb dX11_forgetAll_13 (by decide +kernel) ?_
  refine lv_icmp_ge (tgt := 42) hx hb dX11_forgetAll_14 (by decide) (fun c9 => False.elim (by revert c9; decide)) (fun _ => ?_)
  refine lv_aload_n hx hb dX11_forgetAll_17 rfl (lv_at hl 1 rfl) ?_
  refine va_get (D := D) (ci := 11) (v := .ref tr) (C := RX11) (T := TX11) (N := 13) hx hb hts i_v_c_forgetAll_X11 hown hK hP 0 rfl rfl 6 (by decide) (hts (.fieldLink RX11 59 "ScheduleHouse" "trials" "[LScheduleHouse$Trial;") (by decide +kernel)) (fun _ h9 => h9) gfs2_6 dX11_forgetAll_18 ?_
  refine lv_iload_n hx hb dX11_forgetAll_21 rfl (lv_at hl 0 rfl) ?_
  refine va_aldq hx hb hK hP 1 0 rfl rfl (i := 0) (by unfold vp_in; decide) dX11_forgetAll_22 ?_
  refine lv_ifnullN (tgt := 36) hx hb dX11_forgetAll_23 (by decide) ?_
  refine lv_iinc (v := 1) (lv' := [(1, .int 1), (0, .ref h0)]) hx hb dX11_forgetAll_36 hl (k := 0) rfl (by decide) (by decide) rfl (fun ls hl => ?_)
  refine lv_goto (tgt := 12) hx hb dX11_forgetAll_39 (by decide) ?_
  refine lv_iload_n hx hb dX11_forgetAll_12 rfl (lv_at hl 0 rfl) ?_
  refine lv_iconst (v := 2) hx hb dX11_forgetAll_13 (by decide +kernel) ?_
  refine lv_icmp_ge (tgt := 42) hx hb dX11_forgetAll_14 (by decide) (fun c9 => False.elim (by revert c9; decide)) (fun _ => ?_)
  refine lv_aload_n hx hb dX11_forgetAll_17 rfl (lv_at hl 1 rfl) ?_
  refine va_get (D := D) (ci := 11) (v := .ref tr) (C := RX11) (T := TX11) (N := 13) hx hb hts i_v_c_forgetAll_X11 hown hK hP 0 rfl rfl 6 (by decide) (hts (.fieldLink RX11 59 "ScheduleHouse" "trials" "[LScheduleHouse$Trial;") (by decide +kernel)) (fun _ h9 => h9) gfs2_6 dX11_forgetAll_18 ?_
  refine lv_iload_n hx hb dX11_forgetAll_21 rfl (lv_at hl 0 rfl) ?_
  refine va_aldq hx hb hK hP 1 0 rfl rfl (i := 1) (by unfold vp_in; decide) dX11_forgetAll_22 ?_
  refine lv_ifnullN (tgt := 36) hx hb dX11_forgetAll_23 (by decide) ?_
  refine lv_iinc (v := 2) (lv' := [(1, .int 2), (0, .ref h0)]) hx hb dX11_forgetAll_36 hl (k := 0) rfl (by decide) (by decide) rfl (fun ls hl => ?_)
  refine lv_goto (tgt := 12) hx hb dX11_forgetAll_39 (by decide) ?_
  refine lv_iload_n hx hb dX11_forgetAll_12 rfl (lv_at hl 0 rfl) ?_
  refine lv_iconst (v := 2) hx hb dX11_forgetAll_13 (by decide +kernel) ?_
  refine lv_icmp_ge (tgt := 42) hx hb dX11_forgetAll_14 (by decide) (fun _ => ?_) (fun c9 => False.elim (by revert c9; decide))
  exact W.vret hx hb hr (fun t ht hW => ⟨⟨fs2, rfl, by rw [hfs2, hfs1], by rw [ht]; exact hP, va_K.moved hW.alike hK, hD⟩, hS.F ht⟩) hS.2.2 dX11_forgetAll_42
noncomputable def v_c_addByte : List Cond := .code yX9_addByte cX9_addByte 2 none :: ([.fieldLink RX9 31 "ScheduleHouse$Tokens" "length" "I", .fieldLink RX9 9 "ScheduleHouse$Tokens" "text" "[B"] ++ (wsX90 ++ ([])))
theorem i_v_c_addByte_X9 : ∀ w ∈ wsX90, w ∈ v_c_addByte := fun _ h => List.mem_cons_of_mem _ (List.mem_append_right _ (List.mem_append_left _ h))
theorem t_v_c_addByte : ∀ w ∈ v_c_addByte, w ∈ lw_tbl := tb_c (List.mem_of_getElem? (i := 1234) (by decide +kernel)) (tb_a (tb_c (List.mem_of_getElem? (i := 248) (by decide +kernel)) (tb_c (List.mem_of_getElem? (i := 247) (by decide +kernel)) (tb_n))) (tb_a (tw_wsX90) (tb_n)))
set_option maxHeartbeats 400000 in
set_option maxRecDepth 100000 in
/-- addByte(b) -/
theorem c_addByte (l : Launch) (D : va_G) (h0 tx j : Nat) (cx : ClassId) (tfs : List Value) (f0 : Nat → Int32) (b0 : Int32) (sz : Nat) (hlen : tfs.length = 10) (hq0 : tfs[0]? = some (.ref tx)) (hq1 : tfs[1]? = some (.int (nI j))) (hj : j < 3000) : Met l yX9_addByte v_c_addByte ({ frames := 1, cells := 0, slots := 0, locals := 12 }) (va_Pc [.ref h0, .int b0] (st_ D [(h0, .inr (9, tfs)), (tx, .inl (cx, 3000, .inl f0))] [(cx, .byte)] sz)) (va_Qv (fun (u : List Value) => u = tfs.set 1 (.int (nI (j + 1)))) (fun u t => ∃ f1 : Nat → Int32, va_P D vwCl [(h0, .inr (9, u)), (tx, .inl (cx, 3000, .inl f1))] t.heap ∧ va_K D vwCl [(cx, .byte)] t ∧ va_D (va_A [(h0, .inr (9, tfs)), (tx, .inl (cx, 3000, .inl f0))] sz) [(h0, .inr (9, u)), (tx, .inl (cx, 3000, .inl f1))]) (va_A [(h0, .inr (9, tfs)), (tx, .inl (cx, 3000, .inl f0))] sz)) 0 0 (va_A [(h0, .inr (9, tfs)), (tx, .inl (cx, 3000, .inl f0))] sz) := by
  refine Met.ofW (cc := cX9_addByte) (maxL := 2) (ret := none) (by decide) rfl ?_
  intro p e s m args below meth c s₁ B hml hv
  obtain ⟨rfl, hsz, hP, hK, hD0, hZ, hE⟩ := hv
  have hx := B.exec
  have hb := B.bytes
  have hr := B.returns
  have hts := atoms_spec (ws := v_c_addByte) B.pre
  have hown : s.vm.findClass RX9 = some m.cls := findClass_of_methodNamed B.named
  have hlocks := B.notSynchronized
  subst hsz
  have hD := hD0.self (sz := s.heap.size)
  generalize hAe : va_A [(h0, .inr (9, tfs)), (tx, .inl (cx, 3000, .inl f0))] s.heap.size = A at hD hZ ⊢
  have hA : ∀ q : Nat, s.heap.size ≤ q → A q := fun q h => by rw [← hAe]; exact Or.inr h
  have hS : va_S A s.heap s.heap [] := va_S.rf
  have hAO := hE.2.2.2.1
  have hP : va_P D vwCl [(h0, .inr (9, tfs)), (tx, .inl (cx, 3000, .inl f0))] s.heap := hP
  have hl := lv_entry ([.ref h0, .int b0]) (n := 2) (Nat.le_of_ble_eq_true rfl)
  rw [lg_entry_eq]
  generalize (lg_sl ([.ref h0, .int b0]) ++ List.replicate (2 - (lg_sl ([.ref h0, .int b0])).length) Slot.unset).toArray = ls at hl ⊢
  have hl : lv_has ls 2 [(0, .ref h0), (1, .int b0)] := hl
  refine lv_aload_n hx hb dX9_addByte_0 rfl (lv_at hl 0 rfl) ?_
  refine va_get (D := D) (ci := 9) (v := .int (nI j)) (C := RX9) (T := TX9) (N := 10) hx hb hts i_v_c_addByte_X9 hown hK hP 0 rfl rfl 1 (by decide) (hts (.fieldLink RX9 31 "ScheduleHouse$Tokens" "length" "I") (by decide +kernel)) (fun _ h9 => h9) hq1 dX9_addByte_1 ?_
  refine lv_sipush (v := 3000) hx hb dX9_addByte_4 (by decide +kernel) ?_
  refine lv_icmp_ge (tgt := 31) hx hb dX9_addByte_7 (by decide) (fun c9 => absurd c9 (show ¬ nI 3000 ≤ nI j from nI_ge hj (by decide))) (fun _ => ?_)
  refine lv_aload_n hx hb dX9_addByte_10 rfl (lv_at hl 0 rfl) ?_
  refine va_get (D := D) (ci := 9) (v := .ref tx) (C := RX9) (T := TX9) (N := 10) hx hb hts i_v_c_addByte_X9 hown hK hP 0 rfl rfl 0 (by decide) (hts (.fieldLink RX9 9 "ScheduleHouse$Tokens" "text" "[B") (by decide +kernel)) (fun _ h9 => h9) hq0 dX9_addByte_11 ?_
  refine lv_aload_n hx hb dX9_addByte_14 rfl (lv_at hl 0 rfl) ?_
  refine va_get (D := D) (ci := 9) (v := .int (nI j)) (C := RX9) (T := TX9) (N := 10) hx hb hts i_v_c_addByte_X9 hown hK hP 0 rfl rfl 1 (by decide) (hts (.fieldLink RX9 31 "ScheduleHouse$Tokens" "length" "I") (by decide +kernel)) (fun _ h9 => h9) hq1 dX9_addByte_15 ?_
  refine lv_iload_n hx hb dX9_addByte_18 rfl (lv_at hl 1 rfl) ?_
  refine lv_i2b (v := b0.toInt8.toInt32) hx hb dX9_addByte_19 rfl ?_
  refine va_bast hx hb hK hP hD hS 1 0 rfl rfl (i := nI j) (x := b0.toInt8.toInt32) (vp_in_nI hj (by decide)) dX9_addByte_20 (fun H locs hP hD hS => ?_)
  obtain ⟨f1, hf1⟩ : ∃ z : Nat → Int32, z = upd f0 (nI j).toNatClampNeg (vp_nar .byte b0.toInt8.toInt32) := ⟨_, rfl⟩
  have hP : va_P D vwCl [(h0, .inr (9, tfs)), (tx, .inl (cx, 3000, .inl f1))] H := by rw [hf1]; exact hP
  have hD : va_D A [(h0, .inr (9, tfs)), (tx, .inl (cx, 3000, .inl f1))] := by rw [hf1]; exact hD
  refine lv_aload_n hx hb dX9_addByte_21 rfl (lv_at hl 0 rfl) ?_
  refine lv_dup hx hb dX9_addByte_22 rfl ?_
  refine va_get (D := D) (ci := 9) (v := .int (nI j)) (C := RX9) (T := TX9) (N := 10) hx hb hts i_v_c_addByte_X9 hown hK hP 0 rfl rfl 1 (by decide) (hts (.fieldLink RX9 31 "ScheduleHouse$Tokens" "length" "I") (by decide +kernel)) (fun _ h9 => h9) hq1 dX9_addByte_23 ?_
  refine lv_iconst (v := 1) hx hb dX9_addByte_26 (by decide +kernel) ?_
  refine lv_iadd hx hb dX9_addByte_27 ?_
  rw [nI_1 j]
  refine va_put (D := D) (ci := 9) (v := .int (nI (j + 1))) (ty := .int) (C := RX9) (T := TX9) (N := 10) hx hb hts i_v_c_addByte_X9 tyX9 tyX9_ok nmX9 hown hK hP hD hS 0 rfl rfl 1 (by decide) (hts (.fieldLink RX9 31 "ScheduleHouse$Tokens" "length" "I") (by decide +kernel)) (fun _ h9 => h9) rfl (by decide +kernel) rfl rfl (by rw [hlen]; decide) dX9_addByte_28 (fun H locs hP hD hS => ?_)
  obtain ⟨fs2, hfs2⟩ : ∃ z, z = tfs.set 1 (.int (nI (j + 1))) := ⟨_, rfl⟩
  rw [← hfs2] at hP hD
  have lfs2 : fs2.length = 10 := by rw [hfs2, List.length_set]; exact hlen
  have gfs2_0 : fs2[0]? = some (.ref tx) := by rw [hfs2, List.getElem?_set_ne (by decide)]; exact hq0
  have gfs2_1 : fs2[1]? = some (.int (nI (j + 1))) := by rw [hfs2]; exact List.getElem?_set_self (by rw [hlen]; decide)
  have hP : va_P D vwCl [(h0, .inr (9, fs2)), (tx, .inl (cx, 3000, .inl f1))] H := hP
  have hD : va_D A [(h0, .inr (9, fs2)), (tx, .inl (cx, 3000, .inl f1))] := hD
  exact W.vret hx hb hr (fun t ht hW => ⟨⟨fs2, rfl, hfs2, f1, by rw [ht]; exact hP, va_K.moved hW.alike hK, hD⟩, hS.F ht⟩) hS.2.2 dX9_addByte_31
noncomputable def v_c_wipe : List Cond := .code yX11_wipe cX11_wipe 2 (some .int) :: ([.fieldLink RX11 10 "ScheduleHouse" "tokens" "LScheduleHouse$Tokens;", .fieldLink RX11 77 "ScheduleHouse$Tokens" "length" "I"] ++ (wsX110 ++ (wsX90 ++ ((wsV RX11 86 RX11 yX11_forgetAll v_c_forgetAll) ++ ([])))))
theorem i_v_c_wipe_X11 : ∀ w ∈ wsX110, w ∈ v_c_wipe := fun _ h => List.mem_cons_of_mem _ (List.mem_append_right _ (List.mem_append_left _ h))
theorem i_v_c_wipe_X9 : ∀ w ∈ wsX90, w ∈ v_c_wipe := fun _ h => List.mem_cons_of_mem _ (List.mem_append_right _ (List.mem_append_right _ (List.mem_append_left _ h)))
theorem g_v_c_wipe_2 : GoodIn v_c_wipe (wsV RX11 86 RX11 yX11_forgetAll v_c_forgetAll) := goodIn_sub (fun _ h => List.mem_cons_of_mem _ (List.mem_append_right _ (List.mem_append_right _ (List.mem_append_right _ (List.mem_append_left _ h))))) (by decide +kernel)
theorem t_v_c_wipe : ∀ w ∈ v_c_wipe, w ∈ lw_tbl := tb_c (List.mem_of_getElem? (i := 780) (by decide +kernel)) (tb_a (tb_c (List.mem_of_getElem? (i := 737) (by decide +kernel)) (tb_c (List.mem_of_getElem? (i := 249) (by decide +kernel)) (tb_n))) (tb_a (tw_wsX110) (tb_a (tw_wsX90) (tb_a (tb_a (tb_c (List.mem_of_getElem? (i := 781) (by decide +kernel)) (tb_c (List.mem_of_getElem? (i := 783) (by decide +kernel)) (tb_c (List.mem_of_getElem? (i := 0) (by decide +kernel)) (tb_c (List.mem_of_getElem? (i := 206) (by decide +kernel)) (tb_n))))) t_v_c_forgetAll) (tb_n)))))
set_option maxHeartbeats 400000 in
set_option maxRecDepth 100000 in
/-- wipe() of a new house -/
theorem c_wipe (l : Launch) (D : va_G) (h0 tk tx tr : Nat) (cx ct : ClassId) (xfs tfs : List Value) (f0 : Nat → Int32) (sz : Nat) (hlen : xfs.length = 13) (hq0 : xfs[0]? = some (.ref tk)) (hq6 : xfs[6]? = some (.ref tr)) (hlk : tfs.length = 10) (hk0 : tfs[0]? = some (.ref tx)) (hk1 : tfs[1]? = some (.int 0)) : Met l yX11_wipe v_c_wipe ({ frames := 3, cells := 0, slots := 0, locals := 40 }) (va_Pc [.ref h0] (st_ D [(h0, .inr (11, xfs)), (tk, .inr (9, tfs)), (tx, .inl (cx, 3000, .inl f0)), (tr, .inl (ct, 2, .inr (.inr (.inr (.inr (fun _ => none))))))] [(cx, .byte), (ct, .object "ScheduleHouse$Trial")] sz)) (va_Qi (fun (r : Int32) (_ : Unit) => r = 0) (fun _ _ => True) (va_A [(h0, .inr (11, xfs)), (tk, .inr (9, tfs)), (tx, .inl (cx, 3000, .inl f0)), (tr, .inl (ct, 2, .inr (.inr (.inr (.inr (fun _ => none))))))] sz)) 0 0 (va_A [(h0, .inr (11, xfs)), (tk, .inr (9, tfs)), (tx, .inl (cx, 3000, .inl f0)), (tr, .inl (ct, 2, .inr (.inr (.inr (.inr (fun _ => none))))))] sz) := by
  refine Met.ofW (cc := cX11_wipe) (maxL := 2) (ret := (some .int)) (by decide) rfl ?_
  intro p e s m args below meth c s₁ B hml hv
  obtain ⟨rfl, hsz, hP, hK, hD0, hZ, hE⟩ := hv
  have hx := B.exec
  have hb := B.bytes
  have hr := B.returns
  have hts := atoms_spec (ws := v_c_wipe) B.pre
  have hown : s.vm.findClass RX11 = some m.cls := findClass_of_methodNamed B.named
  have hlocks := B.notSynchronized
  subst hsz
  have hD := hD0.self (sz := s.heap.size)
  generalize hAe : va_A [(h0, .inr (11, xfs)), (tk, .inr (9, tfs)), (tx, .inl (cx, 3000, .inl f0)), (tr, .inl (ct, 2, .inr (.inr (.inr (.inr (fun _ => none))))))] s.heap.size = A at hD hZ ⊢
  have hA : ∀ q : Nat, s.heap.size ≤ q → A q := fun q h => by rw [← hAe]; exact Or.inr h
  have hS : va_S A s.heap s.heap [] := va_S.rf
  have hAO := hE.2.2.2.1
  have hP : va_P D vwCl [(h0, .inr (11, xfs)), (tk, .inr (9, tfs)), (tx, .inl (cx, 3000, .inl f0)), (tr, .inl (ct, 2, .inr (.inr (.inr (.inr (fun _ => none))))))] s.heap := hP
  have hl := lv_entry ([.ref h0]) (n := 2) (Nat.le_of_ble_eq_true rfl)
  rw [lg_entry_eq]
  generalize (lg_sl ([.ref h0]) ++ List.replicate (2 - (lg_sl ([.ref h0])).length) Slot.unset).toArray = ls at hl ⊢
  have hl : lv_has ls 2 [(0, .ref h0)] := hl
  refine lv_aload_n hx hb dX11_wipe_0 rfl (lv_at hl 0 rfl) ?_
  refine va_get (D := D) (ci := 11) (v := .ref tk) (C := RX11) (T := TX11) (N := 13) hx hb hts i_v_c_wipe_X11 hown hK hP 0 rfl rfl 0 (by decide) (hts (.fieldLink RX11 10 "ScheduleHouse" "tokens" "LScheduleHouse$Tokens;") (by decide +kernel)) (fun _ h9 => h9) hq0 dX11_wipe_1 ?_
  refine va_get (D := D) (ci := 9) (v := .int 0) (C := RX9) (T := TX9) (N := 10) hx hb hts i_v_c_wipe_X9 hown hK hP 1 rfl rfl 1 (by decide) (hts (.fieldLink RX11 77 "ScheduleHouse$Tokens" "length" "I") (by decide +kernel)) (fun _ h9 => h9) hk1 dX11_wipe_4 ?_
  refine lv_istore_n (lv' := [(1, .int 0), (0, .ref h0)]) hx hb dX11_wipe_7 rfl hl (by decide) rfl (fun ls hl => ?_)
  refine lv_aload_n hx hb dX11_wipe_8 rfl (lv_at hl 1 rfl) ?_
  refine va_get (D := D) (ci := 11) (v := .ref tk) (C := RX11) (T := TX11) (N := 13) hx hb hts i_v_c_wipe_X11 hown hK hP 0 rfl rfl 0 (by decide) (hts (.fieldLink RX11 10 "ScheduleHouse" "tokens" "LScheduleHouse$Tokens;") (by decide +kernel)) (fun _ h9 => h9) hq0 dX11_wipe_9 ?_
  refine lv_iconst (v := 0) hx hb dX11_wipe_12 (by decide +kernel) ?_
  refine va_put (D := D) (ci := 9) (v := .int 0) (ty := .int) (C := RX9) (T := TX9) (N := 10) hx hb hts i_v_c_wipe_X9 tyX9 tyX9_ok nmX9 hown hK hP hD hS 1 rfl rfl 1 (by decide) (hts (.fieldLink RX11 77 "ScheduleHouse$Tokens" "length" "I") (by decide +kernel)) (fun _ h9 => h9) rfl (by decide +kernel) rfl rfl (by rw [hlk]; decide) dX11_wipe_13 (fun H locs hP hD hS => ?_)
  obtain ⟨fs1, hfs1⟩ : ∃ z, z = tfs.set 1 (.int 0) := ⟨_, rfl⟩
  rw [← hfs1] at hP hD
  have lfs1 : fs1.length = 10 := by rw [hfs1, List.length_set]; exact hlk
  have gfs1_0 : fs1[0]? = some (.ref tx) := by rw [hfs1, List.getElem?_set_ne (by decide)]; exact hk0
  have gfs1_1 : fs1[1]? = some (.int 0) := by rw [hfs1]; exact List.getElem?_set_self (by rw [hlk]; decide)
  have hP : va_P D vwCl [(h0, .inr (11, xfs)), (tk, .inr (9, fs1)), (tx, .inl (cx, 3000, .inl f0)), (tr, .inl (ct, 2, .inr (.inr (.inr (.inr (fun _ => none))))))] H := hP
  have hD : va_D A [(h0, .inr (11, xfs)), (tk, .inr (9, fs1)), (tx, .inl (cx, 3000, .inl f0)), (tr, .inl (ct, 2, .inr (.inr (.inr (.inr (fun _ => none))))))] := hD
  refine lv_aload_n hx hb dX11_wipe_16 rfl (lv_at hl 1 rfl) ?_
  have hPc := hP.sub (ws' := [(h0, .inr (11, xfs)), (tr, .inl (ct, 2, .inr (.inr (.inr (.inr (fun _ => none))))))]) [0, 3] rfl
  have hDc := hD.sub (ws' := [(h0, .inr (11, xfs)), (tr, .inl (ct, 2, .inr (.inr (.inr (.inr (fun _ => none))))))]) [0, 3] (by decide) rfl
  have hKc := hK.sub (tys' := [(ct, .object "ScheduleHouse$Trial")]) [1] rfl
  have hFc := va_free (wc := [(h0, .inr (11, xfs)), (tr, .inl (ct, 2, .inr (.inr (.inr (.inr (fun _ => none))))))]) hD hS hA [0, 3] rfl
  refine va_callv (va_runV (As := []) (rest := []) ⟨hx, hb, hml, hown, hts⟩ (c_forgetAll l D h0 tr ct xfs H.size hlen hq6) (cwV 0 hts g_v_c_wipe_2 rfl rfl rfl (by decide +kernel) ⟨Nat.le_of_ble_eq_true rfl, Nat.le_of_ble_eq_true rfl⟩) ⟨st_blind, va_recv hKc hPc (ci := 11) (q0 := 0) rfl rfl, fun U hU hW => ⟨rfl, st_call hU hW hPc hKc hDc hZ hS hFc hE⟩⟩ rfl rfl hl.1 rfl (lv_room (Nat.le_of_ble_eq_true rfl)) dX11_wipe_17 ⟨Nat.le_of_ble_eq_true rfl, Nat.le_of_ble_eq_true rfl⟩) hS (fun q _ h => hFc q h) hFc (fun  u2 t H1 locs ht hvm hw hB hz1 hk1 hS => ?_)
  have lu2 : u2.length = 13 := by rw [hw, List.length_set, List.length_set]; exact hlen
  have gu2_0 : u2[0]? = some (.ref tk) := by rw [hw]; exact se_ne (se_ne hq0 (by decide)) (by decide)
  have gu2_6 : u2[6]? = some (.ref tr) := by rw [hw]; exact se_ne (se_ne hq6 (by decide)) (by decide)
  obtain ⟨hP1, hK1, hD1⟩ := hB
  rw [ht] at hP1
  have hK1 := va_K.moved hvm.symm hK1
  obtain ⟨hP, hD⟩ := va_join (wr := [(tk, .inr (9, fs1)), (tx, .inl (cx, 3000, .inl f0))]) (w1 := [(h0, .inr (11, u2)), (tr, .inl (ct, 2, .inr (.inr (.inr (.inr (fun _ => none))))))]) hP hD [0, 3] [1, 2] rfl rfl (by decide) (by decide) hk1 hFc hP1 hD1
  have hK := (hK.sub (tys' := [(cx, .byte)]) [0] rfl).app hK1
  generalize H1 = H at hP hS ⊢
  have hP : va_P D vwCl [(tk, .inr (9, fs1)), (tx, .inl (cx, 3000, .inl f0)), (h0, .inr (11, u2)), (tr, .inl (ct, 2, .inr (.inr (.inr (.inr (fun _ => none))))))] H := hP
  have hD : va_D A [(tk, .inr (9, fs1)), (tx, .inl (cx, 3000, .inl f0)), (h0, .inr (11, u2)), (tr, .inl (ct, 2, .inr (.inr (.inr (.inr (fun _ => none))))))] := hD
  have hK : va_K D vwCl [(cx, .byte), (ct, .object "ScheduleHouse$Trial")] s := hK
  refine lv_iload_n hx hb dX11_wipe_20 rfl (lv_at hl 0 rfl) ?_
  exact W.iret (v := 0) hx hb hr (fun t ht hW => ⟨⟨0, (), rfl, rfl, trivial⟩, hS.F ht⟩) hS.2.2 dX11_wipe_21
noncomputable def v_c_feed : List Cond := .code yX11_feed cX11_feed 5 (some .int) :: ([.classLink RX11 70 iAE, .initialized iAE, .fieldLink RX11 10 "ScheduleHouse" "tokens" "LScheduleHouse$Tokens;", .fieldLink RX11 77 "ScheduleHouse$Tokens" "length" "I"] ++ (((vx_atS RX11 74 iAE up2).filter goodWord) ++ (wsX110 ++ (wsX90 ++ ((wsV RX11 82 RX9 yX9_addByte v_c_addByte) ++ ((wsV RX11 86 RX11 yX11_forgetAll v_c_forgetAll) ++ ([])))))))
theorem gm_v_c_feed_0 : ∀ w ∈ (vx_atS RX11 74 iAE up2).filter goodWord, w ∈ v_c_feed := fun _ h => List.mem_cons_of_mem _ (List.mem_append_right _ (List.mem_append_left _ h))
theorem i_v_c_feed_X11 : ∀ w ∈ wsX110, w ∈ v_c_feed := fun _ h => List.mem_cons_of_mem _ (List.mem_append_right _ (List.mem_append_right _ (List.mem_append_left _ h)))
theorem i_v_c_feed_X9 : ∀ w ∈ wsX90, w ∈ v_c_feed := fun _ h => List.mem_cons_of_mem _ (List.mem_append_right _ (List.mem_append_right _ (List.mem_append_right _ (List.mem_append_left _ h))))
theorem g_v_c_feed_3 : GoodIn v_c_feed (wsV RX11 82 RX9 yX9_addByte v_c_addByte) := goodIn_sub (fun _ h => List.mem_cons_of_mem _ (List.mem_append_right _ (List.mem_append_right _ (List.mem_append_right _ (List.mem_append_right _ (List.mem_append_left _ h)))))) (by decide +kernel)
theorem g_v_c_feed_4 : GoodIn v_c_feed (wsV RX11 86 RX11 yX11_forgetAll v_c_forgetAll) := goodIn_sub (fun _ h => List.mem_cons_of_mem _ (List.mem_append_right _ (List.mem_append_right _ (List.mem_append_right _ (List.mem_append_right _ (List.mem_append_right _ (List.mem_append_left _ h))))))) (by decide +kernel)
theorem t_v_c_feed : ∀ w ∈ v_c_feed, w ∈ lw_tbl := tb_c (List.mem_of_getElem? (i := 1213) (by decide +kernel)) (tb_a (tb_c (List.mem_of_getElem? (i := 1214) (by decide +kernel)) (tb_c (List.mem_of_getElem? (i := 219) (by decide +kernel)) (tb_c (List.mem_of_getElem? (i := 737) (by decide +kernel)) (tb_c (List.mem_of_getElem? (i := 249) (by decide +kernel)) (tb_n))))) (tb_a (tx_X11_74) (tb_a (tw_wsX110) (tb_a (tw_wsX90) (tb_a (tb_a (tb_c (List.mem_of_getElem? (i := 1231) (by decide +kernel)) (tb_c (List.mem_of_getElem? (i := 1232) (by decide +kernel)) (tb_c (List.mem_of_getElem? (i := 1233) (by decide +kernel)) (tb_c (List.mem_of_getElem? (i := 207) (by decide +kernel)) (tb_n))))) t_v_c_addByte) (tb_a (tb_a (tb_c (List.mem_of_getElem? (i := 781) (by decide +kernel)) (tb_c (List.mem_of_getElem? (i := 783) (by decide +kernel)) (tb_c (List.mem_of_getElem? (i := 0) (by decide +kernel)) (tb_c (List.mem_of_getElem? (i := 206) (by decide +kernel)) (tb_n))))) t_v_c_forgetAll) (tb_n)))))))
set_option maxHeartbeats 400000 in
set_option maxRecDepth 100000 in
/-- feed(n, bytes), n is not 1 .. 8 -/
theorem c_feed_no (l : Launch) (hlt : l.stackTraces = false) (D : va_G) (h0 tk tx tr : Nat) (cx ct : ClassId) (xfs tfs : List Value) (f0 : Nat → Int32) (p0 : Int32) (p1 : Int64) (sz : Nat) (hlen : xfs.length = 13) (hq0 : xfs[0]? = some (.ref tk)) (hq6 : xfs[6]? = some (.ref tr)) (hlk : tfs.length = 10) (hk0 : tfs[0]? = some (.ref tx)) (hk1 : tfs[1]? = some (.int 0)) (hbad : p0 < 1 ∨ ¬ p0 ≤ 8) : vx_Met l yX11_feed v_c_feed ({ frames := 6, cells := 1, slots := 6, locals := 110 }) (va_Pc [.ref h0, .int p0, .long p1] (st_ D [(h0, .inr (11, xfs)), (tk, .inr (9, tfs)), (tx, .inl (cx, 3000, .inl f0)), (tr, .inl (ct, 2, .inr (.inr (.inr (.inr (fun _ => none))))))] [(cx, .byte), (ct, .object "ScheduleHouse$Trial")] sz)) (va_Qi (fun (r : Int32) (_ : Unit) => r = p0 ∧ ¬ p0 < 1 ∧ p0 ≤ 8) (fun _ _ => True) (va_A [(h0, .inr (11, xfs)), (tk, .inr (9, tfs)), (tx, .inl (cx, 3000, .inl f0)), (tr, .inl (ct, 2, .inr (.inr (.inr (.inr (fun _ => none))))))] sz)) (vx_X (fun _ : Unit => True) (fun E _ _ => E = iAE ∧ (p0 < 1 ∨ ¬ p0 ≤ 8)) (va_A [(h0, .inr (11, xfs)), (tk, .inr (9, tfs)), (tx, .inl (cx, 3000, .inl f0)), (tr, .inl (ct, 2, .inr (.inr (.inr (.inr (fun _ => none))))))] sz)) 1 6 (va_A [(h0, .inr (11, xfs)), (tk, .inr (9, tfs)), (tx, .inl (cx, 3000, .inl f0)), (tr, .inl (ct, 2, .inr (.inr (.inr (.inr (fun _ => none))))))] sz) := by
  refine vx_ofW (cc := cX11_feed) (maxL := 5) (ret := (some .int)) (by decide) rfl ?_
  intro p e s m args below meth c s₁ B hml hno hv
  obtain ⟨rfl, hsz, hP, hK, hD0, hZ, hE⟩ := hv
  have hx := B.exec
  have hb := B.bytes
  have hr := B.returns
  have hts := atoms_spec (ws := v_c_feed) B.pre
  have hown : s.vm.findClass RX11 = some m.cls := findClass_of_methodNamed B.named
  have hlocks := B.notSynchronized
  subst hsz
  have hD := hD0.self (sz := s.heap.size)
  generalize hAe : va_A [(h0, .inr (11, xfs)), (tk, .inr (9, tfs)), (tx, .inl (cx, 3000, .inl f0)), (tr, .inl (ct, 2, .inr (.inr (.inr (.inr (fun _ => none))))))] s.heap.size = A at hD hZ ⊢
  have hA : ∀ q : Nat, s.heap.size ≤ q → A q := fun q h => by rw [← hAe]; exact Or.inr h
  have hS : va_S A s.heap s.heap [] := va_S.rf
  have hAO := hE.2.2.2.1
  have hP : va_P D vwCl [(h0, .inr (11, xfs)), (tk, .inr (9, tfs)), (tx, .inl (cx, 3000, .inl f0)), (tr, .inl (ct, 2, .inr (.inr (.inr (.inr (fun _ => none))))))] s.heap := hP
  have hl := lv_entry ([.ref h0, .int p0, .long p1]) (n := 5) (Nat.le_of_ble_eq_true rfl)
  rw [lg_entry_eq]
  generalize (lg_sl ([.ref h0, .int p0, .long p1]) ++ List.replicate (5 - (lg_sl ([.ref h0, .int p0, .long p1])).length) Slot.unset).toArray = ls at hl ⊢
  have hl : lv_has ls 5 [(0, .ref h0), (1, .int p0), (2, .long p1)] := hl
  refine lv_iload_n hx hb dX11_feed_0 rfl (lv_at hl 1 rfl) ?_
  refine lv_iconst (v := 1) hx hb dX11_feed_1 (by decide +kernel) ?_
  refine lv_icmp_lt (tgt := 11) hx hb dX11_feed_2 (by decide) (fun c1 => ?_) (fun c1 => ?_)
  · obtain ⟨sa, hsa⟩ := ev_text hE 72 "n is not 1 .. 8" (by decide)
    exact vx_throwS hx hb hlt (own := RX11) (cls := iAE) (text := "n is not 1 .. 8") (names := up2) (ik := 70) (is := 72) (ic := 74) (sa := sa) (A := A) hown (by decide +kernel) (by decide +kernel) (hts (.classLink RX11 70 iAE) (by decide +kernel)) (hts (.initialized iAE) (by decide +kernel)) hsa (vx_hat (B := ev_B iAE) (fun w hw => hts w (gm_v_c_feed_0 w hw)) (by decide +kernel) (ev_b hE iAE (by decide))) (by decide +kernel) hZ.1 hZ.2 hS (by rw [hml]; exact hl.1) dX11_feed_11 dX11_feed_14 dX11_feed_15 dX11_feed_17 dX11_feed_20 (fun x hx => (hno x hx).elim) (by decide) (by decide) (by decide) (by decide) hlocks (fun t _ hz hk => ⟨(), trivial, ⟨rfl, Or.inl c1⟩, Nat.le_trans hS.1 hz, fun q h1 h2 => (hk q (Nat.lt_of_lt_of_le h1 hS.1)).trans (hS.2.1 q h1 h2)⟩) hS.2.2 (by decide) (by decide)
  · refine lv_iload_n hx hb dX11_feed_5 rfl (lv_at hl 1 rfl) ?_
    refine lv_bipush (v := 8) hx hb dX11_feed_6 (by decide +kernel) ?_
    refine lv_icmp_le (tgt := 21) hx hb dX11_feed_8 (by decide) (fun c2 => ?_) (fun c2 => ?_)
    · exact absurd hbad (fun h => h.elim c1 (fun h => h c2))
    · obtain ⟨sa, hsa⟩ := ev_text hE 72 "n is not 1 .. 8" (by decide)
      exact vx_throwS hx hb hlt (own := RX11) (cls := iAE) (text := "n is not 1 .. 8") (names := up2) (ik := 70) (is := 72) (ic := 74) (sa := sa) (A := A) hown (by decide +kernel) (by decide +kernel) (hts (.classLink RX11 70 iAE) (by decide +kernel)) (hts (.initialized iAE) (by decide +kernel)) hsa (vx_hat (B := ev_B iAE) (fun w hw => hts w (gm_v_c_feed_0 w hw)) (by decide +kernel) (ev_b hE iAE (by decide))) (by decide +kernel) hZ.1 hZ.2 hS (by rw [hml]; exact hl.1) dX11_feed_11 dX11_feed_14 dX11_feed_15 dX11_feed_17 dX11_feed_20 (fun x hx => (hno x hx).elim) (by decide) (by decide) (by decide) (by decide) hlocks (fun t _ hz hk => ⟨(), trivial, ⟨rfl, Or.inr c2⟩, Nat.le_trans hS.1 hz, fun q h1 h2 => (hk q (Nat.lt_of_lt_of_le h1 hS.1)).trans (hS.2.1 q h1 h2)⟩) hS.2.2 (by decide) (by decide)
set_option maxHeartbeats 400000 in
set_option maxRecDepth 100000 in
/-- feed(1, bytes) of a new house -/
theorem c_feed_1 (l : Launch) (hlt : l.stackTraces = false) (D : va_G) (h0 tk tx tr : Nat) (cx ct : ClassId) (xfs tfs : List Value) (f0 : Nat → Int32) (p1 : Int64) (sz : Nat) (hlen : xfs.length = 13) (hq0 : xfs[0]? = some (.ref tk)) (hq6 : xfs[6]? = some (.ref tr)) (hlk : tfs.length = 10) (hk0 : tfs[0]? = some (.ref tx)) (hk1 : tfs[1]? = some (.int 0)) : vx_Met l yX11_feed v_c_feed ({ frames := 6, cells := 1, slots := 6, locals := 110 }) (va_Pc [.ref h0, .int 1, .long p1] (st_ D [(h0, .inr (11, xfs)), (tk, .inr (9, tfs)), (tx, .inl (cx, 3000, .inl f0)), (tr, .inl (ct, 2, .inr (.inr (.inr (.inr (fun _ => none))))))] [(cx, .byte), (ct, .object "ScheduleHouse$Trial")] sz)) (va_Qi (fun (r : Int32) (_ : Unit) => r = (1 : Int32) ∧ ¬ (1 : Int32) < 1 ∧ (1 : Int32) ≤ 8) (fun _ _ => True) (va_A [(h0, .inr (11, xfs)), (tk, .inr (9, tfs)), (tx, .inl (cx, 3000, .inl f0)), (tr, .inl (ct, 2, .inr (.inr (.inr (.inr (fun _ => none))))))] sz)) (vx_X (fun _ : Unit => True) (fun E _ _ => E = iAE ∧ ((1 : Int32) < 1 ∨ ¬ (1 : Int32) ≤ 8)) (va_A [(h0, .inr (11, xfs)), (tk, .inr (9, tfs)), (tx, .inl (cx, 3000, .inl f0)), (tr, .inl (ct, 2, .inr (.inr (.inr (.inr (fun _ => none))))))] sz)) 1 6 (va_A [(h0, .inr (11, xfs)), (tk, .inr (9, tfs)), (tx, .inl (cx, 3000, .inl f0)), (tr, .inl (ct, 2, .inr (.inr (.inr (.inr (fun _ => none))))))] sz) := by
  refine vx_ofW (cc := cX11_feed) (maxL := 5) (ret := (some .int)) (by decide) rfl ?_
  intro p e s m args below meth c s₁ B hml hno hv
  obtain ⟨rfl, hsz, hP, hK, hD0, hZ, hE⟩ := hv
  have hx := B.exec
  have hb := B.bytes
  have hr := B.returns
  have hts := atoms_spec (ws := v_c_feed) B.pre
  have hown : s.vm.findClass RX11 = some m.cls := findClass_of_methodNamed B.named
  have hlocks := B.notSynchronized
  subst hsz
  have hD := hD0.self (sz := s.heap.size)
  generalize hAe : va_A [(h0, .inr (11, xfs)), (tk, .inr (9, tfs)), (tx, .inl (cx, 3000, .inl f0)), (tr, .inl (ct, 2, .inr (.inr (.inr (.inr (fun _ => none))))))] s.heap.size = A at hD hZ ⊢
  have hA : ∀ q : Nat, s.heap.size ≤ q → A q := fun q h => by rw [← hAe]; exact Or.inr h
  have hS : va_S A s.heap s.heap [] := va_S.rf
  have hAO := hE.2.2.2.1
  have hP : va_P D vwCl [(h0, .inr (11, xfs)), (tk, .inr (9, tfs)), (tx, .inl (cx, 3000, .inl f0)), (tr, .inl (ct, 2, .inr (.inr (.inr (.inr (fun _ => none))))))] s.heap := hP
  have hl := lv_entry ([.ref h0, .int 1, .long p1]) (n := 5) (Nat.le_of_ble_eq_true rfl)
  rw [lg_entry_eq]
  generalize (lg_sl ([.ref h0, .int 1, .long p1]) ++ List.replicate (5 - (lg_sl ([.ref h0, .int 1, .long p1])).length) Slot.unset).toArray = ls at hl ⊢
  have hl : lv_has ls 5 [(0, .ref h0), (1, .int 1), (2, .long p1)] := hl
  refine lv_iload_n hx hb dX11_feed_0 rfl (lv_at hl 1 rfl) ?_
  refine lv_iconst (v := 1) hx hb dX11_feed_1 (by decide +kernel) ?_
  refine lv_icmp_lt (tgt := 11) hx hb dX11_feed_2 (by decide) (fun c9 => False.elim (by revert c9; decide)) (fun _ => ?_)
  refine lv_iload_n hx hb dX11_feed_5 rfl (lv_at hl 1 rfl) ?_
  refine lv_bipush (v := 8) hx hb dX11_feed_6 (by decide +kernel) ?_
  refine lv_icmp_le (tgt := 21) hx hb dX11_feed_8 (by decide) (fun _ => ?_) (fun c9 => False.elim (by revert c9; decide))
  refine lv_aload_n hx hb dX11_feed_21 rfl (lv_at hl 0 rfl) ?_
  refine va_get (D := D) (ci := 11) (v := .ref tk) (C := RX11) (T := TX11) (N := 13) hx hb hts i_v_c_feed_X11 hown hK hP 0 rfl rfl 0 (by decide) (hts (.fieldLink RX11 10 "ScheduleHouse" "tokens" "LScheduleHouse$Tokens;") (by decide +kernel)) (fun _ h9 => h9) hq0 dX11_feed_22 ?_
  refine va_get (D := D) (ci := 9) (v := .int 0) (C := RX9) (T := TX9) (N := 10) hx hb hts i_v_c_feed_X9 hown hK hP 1 rfl rfl 1 (by decide) (hts (.fieldLink RX11 77 "ScheduleHouse$Tokens" "length" "I") (by decide +kernel)) (fun _ h9 => h9) hk1 dX11_feed_25 ?_
  refine lv_iload_n hx hb dX11_feed_28 rfl (lv_at hl 1 rfl) ?_
  refine lv_iadd hx hb dX11_feed_29 ?_
  rw [show (0 + 1 : Int32) = 1 by decide]
  refine lv_sipush (v := 3000) hx hb dX11_feed_30 (by decide +kernel) ?_
  refine lv_icmp_le (tgt := 46) hx hb dX11_feed_33 (by decide) (fun _ => ?_) (fun c9 => False.elim (by revert c9; decide))
  refine lv_iconst (v := 0) hx hb dX11_feed_46 (by decide +kernel) ?_
  refine lv_istore (lv' := [(4, .int 0), (0, .ref h0), (1, .int 1), (2, .long p1)]) hx hb dX11_feed_47 hl (by decide) rfl (fun ls hl => ?_)
  refine lv_iload hx hb dX11_feed_49 (lv_at hl 0 rfl) ?_
  refine lv_iload_n hx hb dX11_feed_51 rfl (lv_at hl 2 rfl) ?_
  refine lv_icmp_ge (tgt := 76) hx hb dX11_feed_52 (by decide) (fun c9 => False.elim (by revert c9; decide)) (fun _ => ?_)
  refine lv_aload_n hx hb dX11_feed_55 rfl (lv_at hl 1 rfl) ?_
  refine va_get (D := D) (ci := 11) (v := .ref tk) (C := RX11) (T := TX11) (N := 13) hx hb hts i_v_c_feed_X11 hown hK hP 0 rfl rfl 0 (by decide) (hts (.fieldLink RX11 10 "ScheduleHouse" "tokens" "LScheduleHouse$Tokens;") (by decide +kernel)) (fun _ h9 => h9) hq0 dX11_feed_56 ?_
  refine lv_lload_n hx hb dX11_feed_59 rfl (lv_at hl 3 rfl) ?_
  refine lv_bipush (v := 8) hx hb dX11_feed_60 (by decide +kernel) ?_
  refine lv_iload hx hb dX11_feed_62 (lv_at hl 0 rfl) ?_
  refine lv_imul hx hb dX11_feed_64 ?_
  rw [show (8 * 0 : Int32) = 0 by decide]
  obtain ⟨z1, hz1⟩ : ∃ z : Int64, z = (p1.toUInt64 >>> ((0 : Int32).toInt64.toUInt64 &&& Int64.toUInt64 63)).toInt64 := ⟨_, rfl⟩
  refine lv_lushr (v := z1) hx hb dX11_feed_65 hz1.symm ?_
  obtain ⟨b2, hb2⟩ : ∃ z : Int32, z = z1.toInt32 := ⟨_, rfl⟩
  refine lv_l2i (v := b2) hx hb dX11_feed_66 hb2.symm ?_
  have hPc := hP.sub (ws' := [(tk, .inr (9, tfs)), (tx, .inl (cx, 3000, .inl f0))]) [1, 2] rfl
  have hDc := hD.sub (ws' := [(tk, .inr (9, tfs)), (tx, .inl (cx, 3000, .inl f0))]) [1, 2] (by decide) rfl
  have hKc := hK.sub (tys' := [(cx, .byte)]) [0] rfl
  have hFc := va_free (wc := [(tk, .inr (9, tfs)), (tx, .inl (cx, 3000, .inl f0))]) hD hS hA [1, 2] rfl
  refine va_callv (va_runV (As := [.int b2]) (rest := []) ⟨hx, hb, hml, hown, hts⟩ (c_addByte l D tk tx 0 cx tfs f0 b2 s.heap.size hlk hk0 hk1 (by decide)) (cwV 1 hts g_v_c_feed_3 rfl rfl rfl (by decide +kernel) ⟨Nat.le_of_ble_eq_true rfl, Nat.le_of_ble_eq_true rfl⟩) ⟨st_blind, va_recv hKc hPc (ci := 9) (q0 := 0) rfl rfl, fun U hU hW => ⟨rfl, st_call hU hW hPc hKc hDc hZ hS hFc hE⟩⟩ rfl rfl hl.1 rfl (lv_room (Nat.le_of_ble_eq_true rfl)) dX11_feed_67 ⟨Nat.le_of_ble_eq_true rfl, Nat.le_of_ble_eq_true rfl⟩) hS (fun q _ h => hFc q h) hFc (fun  u3 t H1 locs ht hvm hw hB hz1 hk1 hS => ?_)
  have lu3 : u3.length = 10 := by rw [hw, List.length_set]; exact hlk
  have gu3_0 : u3[0]? = some (.ref tx) := by rw [hw]; exact se_ne hk0 (by decide)
  have gu3_1 : u3[1]? = some (.int 1) := by rw [hw]; exact se_eq (by rw [hlk]; decide)
  obtain ⟨fy4, hP1, hK1, hD1⟩ := hB
  rw [ht] at hP1
  have hK1 := va_K.moved hvm.symm hK1
  obtain ⟨hP, hD⟩ := va_join (wr := [(h0, .inr (11, xfs)), (tr, .inl (ct, 2, .inr (.inr (.inr (.inr (fun _ => none))))))]) (w1 := [(tk, .inr (9, u3)), (tx, .inl (cx, 3000, .inl fy4))]) hP hD [1, 2] [0, 3] rfl rfl (by decide) (by decide) hk1 hFc hP1 hD1
  have hK := (hK.sub (tys' := [(ct, .object "ScheduleHouse$Trial")]) [1] rfl).app hK1
  generalize H1 = H at hP hS ⊢
  have hP : va_P D vwCl [(h0, .inr (11, xfs)), (tr, .inl (ct, 2, .inr (.inr (.inr (.inr (fun _ => none)))))), (tk, .inr (9, u3)), (tx, .inl (cx, 3000, .inl fy4))] H := hP
  have hD : va_D A [(h0, .inr (11, xfs)), (tr, .inl (ct, 2, .inr (.inr (.inr (.inr (fun _ => none)))))), (tk, .inr (9, u3)), (tx, .inl (cx, 3000, .inl fy4))] := hD
  have hK : va_K D vwCl [(ct, .object "ScheduleHouse$Trial"), (cx, .byte)] s := hK
  refine lv_iinc (v := 1) (lv' := [(4, .int 1), (0, .ref h0), (1, .int 1), (2, .long p1)]) hx hb dX11_feed_70 hl (k := 0) rfl (by decide) (by decide) rfl (fun ls hl => ?_)
  refine lv_goto (tgt := 49) hx hb dX11_feed_73 (by decide) ?_
  refine lv_iload hx hb dX11_feed_49 (lv_at hl 0 rfl) ?_
  refine lv_iload_n hx hb dX11_feed_51 rfl (lv_at hl 2 rfl) ?_
  refine lv_icmp_ge (tgt := 76) hx hb dX11_feed_52 (by decide) (fun _ => ?_) (fun c9 => False.elim (by revert c9; decide))
  refine lv_aload_n hx hb dX11_feed_76 rfl (lv_at hl 1 rfl) ?_
  have hPc := hP.sub (ws' := [(h0, .inr (11, xfs)), (tr, .inl (ct, 2, .inr (.inr (.inr (.inr (fun _ => none))))))]) [0, 1] rfl
  have hDc := hD.sub (ws' := [(h0, .inr (11, xfs)), (tr, .inl (ct, 2, .inr (.inr (.inr (.inr (fun _ => none))))))]) [0, 1] (by decide) rfl
  have hKc := hK.sub (tys' := [(ct, .object "ScheduleHouse$Trial")]) [0] rfl
  have hFc := va_free (wc := [(h0, .inr (11, xfs)), (tr, .inl (ct, 2, .inr (.inr (.inr (.inr (fun _ => none))))))]) hD hS hA [0, 1] rfl
  refine va_callv (va_runV (As := []) (rest := []) ⟨hx, hb, hml, hown, hts⟩ (c_forgetAll l D h0 tr ct xfs H.size hlen hq6) (cwV 0 hts g_v_c_feed_4 rfl rfl rfl (by decide +kernel) ⟨Nat.le_of_ble_eq_true rfl, Nat.le_of_ble_eq_true rfl⟩) ⟨st_blind, va_recv hKc hPc (ci := 11) (q0 := 0) rfl rfl, fun U hU hW => ⟨rfl, st_call hU hW hPc hKc hDc hZ hS hFc hE⟩⟩ rfl rfl hl.1 rfl (lv_room (Nat.le_of_ble_eq_true rfl)) dX11_feed_77 ⟨Nat.le_of_ble_eq_true rfl, Nat.le_of_ble_eq_true rfl⟩) hS (fun q _ h => hFc q h) hFc (fun  u5 t H1 locs ht hvm hw hB hz1 hk1 hS => ?_)
  have lu5 : u5.length = 13 := by rw [hw, List.length_set, List.length_set]; exact hlen
  have gu5_0 : u5[0]? = some (.ref tk) := by rw [hw]; exact se_ne (se_ne hq0 (by decide)) (by decide)
  have gu5_6 : u5[6]? = some (.ref tr) := by rw [hw]; exact se_ne (se_ne hq6 (by decide)) (by decide)
  obtain ⟨hP1, hK1, hD1⟩ := hB
  rw [ht] at hP1
  have hK1 := va_K.moved hvm.symm hK1
  obtain ⟨hP, hD⟩ := va_join (wr := [(tk, .inr (9, u3)), (tx, .inl (cx, 3000, .inl fy4))]) (w1 := [(h0, .inr (11, u5)), (tr, .inl (ct, 2, .inr (.inr (.inr (.inr (fun _ => none))))))]) hP hD [0, 1] [2, 3] rfl rfl (by decide) (by decide) hk1 hFc hP1 hD1
  have hK := (hK.sub (tys' := [(cx, .byte)]) [1] rfl).app hK1
  generalize H1 = H at hP hS ⊢
  have hP : va_P D vwCl [(tk, .inr (9, u3)), (tx, .inl (cx, 3000, .inl fy4)), (h0, .inr (11, u5)), (tr, .inl (ct, 2, .inr (.inr (.inr (.inr (fun _ => none))))))] H := hP
  have hD : va_D A [(tk, .inr (9, u3)), (tx, .inl (cx, 3000, .inl fy4)), (h0, .inr (11, u5)), (tr, .inl (ct, 2, .inr (.inr (.inr (.inr (fun _ => none))))))] := hD
  have hK : va_K D vwCl [(cx, .byte), (ct, .object "ScheduleHouse$Trial")] s := hK
  refine lv_aload_n hx hb dX11_feed_80 rfl (lv_at hl 1 rfl) ?_
  refine va_get (D := D) (ci := 11) (v := .ref tk) (C := RX11) (T := TX11) (N := 13) hx hb hts i_v_c_feed_X11 hown hK hP 2 rfl rfl 0 (by decide) (hts (.fieldLink RX11 10 "ScheduleHouse" "tokens" "LScheduleHouse$Tokens;") (by decide +kernel)) (fun _ h9 => h9) gu5_0 dX11_feed_81 ?_
  refine va_get (D := D) (ci := 9) (v := .int 1) (C := RX9) (T := TX9) (N := 10) hx hb hts i_v_c_feed_X9 hown hK hP 0 rfl rfl 1 (by decide) (hts (.fieldLink RX11 77 "ScheduleHouse$Tokens" "length" "I") (by decide +kernel)) (fun _ h9 => h9) gu3_1 dX11_feed_84 ?_
  refine vx_ret (W.widen (k := 1) (n := 6) (Nat.le_of_ble_eq_true rfl) (Nat.le_of_ble_eq_true rfl) ?_)
  exact W.iret (v := 1) hx hb hr (fun t ht hW => ⟨⟨1, (), rfl, ⟨rfl, by decide, by decide⟩, trivial⟩, hS.F ht⟩) hS.2.2 dX11_feed_87
set_option maxHeartbeats 400000 in
set_option maxRecDepth 100000 in
/-- feed(2, bytes) of a new house -/
theorem c_feed_2 (l : Launch) (hlt : l.stackTraces = false) (D : va_G) (h0 tk tx tr : Nat) (cx ct : ClassId) (xfs tfs : List Value) (f0 : Nat → Int32) (p1 : Int64) (sz : Nat) (hlen : xfs.length = 13) (hq0 : xfs[0]? = some (.ref tk)) (hq6 : xfs[6]? = some (.ref tr)) (hlk : tfs.length = 10) (hk0 : tfs[0]? = some (.ref tx)) (hk1 : tfs[1]? = some (.int 0)) : vx_Met l yX11_feed v_c_feed ({ frames := 6, cells := 1, slots := 6, locals := 110 }) (va_Pc [.ref h0, .int 2, .long p1] (st_ D [(h0, .inr (11, xfs)), (tk, .inr (9, tfs)), (tx, .inl (cx, 3000, .inl f0)), (tr, .inl (ct, 2, .inr (.inr (.inr (.inr (fun _ => none))))))] [(cx, .byte), (ct, .object "ScheduleHouse$Trial")] sz)) (va_Qi (fun (r : Int32) (_ : Unit) => r = (2 : Int32) ∧ ¬ (2 : Int32) < 1 ∧ (2 : Int32) ≤ 8) (fun _ _ => True) (va_A [(h0, .inr (11, xfs)), (tk, .inr (9, tfs)), (tx, .inl (cx, 3000, .inl f0)), (tr, .inl (ct, 2, .inr (.inr (.inr (.inr (fun _ => none))))))] sz)) (vx_X (fun _ : Unit => True) (fun E _ _ => E = iAE ∧ ((2 : Int32) < 1 ∨ ¬ (2 : Int32) ≤ 8)) (va_A [(h0, .inr (11, xfs)), (tk, .inr (9, tfs)), (tx, .inl (cx, 3000, .inl f0)), (tr, .inl (ct, 2, .inr (.inr (.inr (.inr (fun _ => none))))))] sz)) 1 6 (va_A [(h0, .inr (11, xfs)), (tk, .inr (9, tfs)), (tx, .inl (cx, 3000, .inl f0)), (tr, .inl (ct, 2, .inr (.inr (.inr (.inr (fun _ => none))))))] sz) := by
  refine vx_ofW (cc := cX11_feed) (maxL := 5) (ret := (some .int)) (by decide) rfl ?_
  intro p e s m args below meth c s₁ B hml hno hv
  obtain ⟨rfl, hsz, hP, hK, hD0, hZ, hE⟩ := hv
  have hx := B.exec
  have hb := B.bytes
  have hr := B.returns
  have hts := atoms_spec (ws := v_c_feed) B.pre
  have hown : s.vm.findClass RX11 = some m.cls := findClass_of_methodNamed B.named
  have hlocks := B.notSynchronized
  subst hsz
  have hD := hD0.self (sz := s.heap.size)
  generalize hAe : va_A [(h0, .inr (11, xfs)), (tk, .inr (9, tfs)), (tx, .inl (cx, 3000, .inl f0)), (tr, .inl (ct, 2, .inr (.inr (.inr (.inr (fun _ => none))))))] s.heap.size = A at hD hZ ⊢
  have hA : ∀ q : Nat, s.heap.size ≤ q → A q := fun q h => by rw [← hAe]; exact Or.inr h
  have hS : va_S A s.heap s.heap [] := va_S.rf
  have hAO := hE.2.2.2.1
  have hP : va_P D vwCl [(h0, .inr (11, xfs)), (tk, .inr (9, tfs)), (tx, .inl (cx, 3000, .inl f0)), (tr, .inl (ct, 2, .inr (.inr (.inr (.inr (fun _ => none))))))] s.heap := hP
  have hl := lv_entry ([.ref h0, .int 2, .long p1]) (n := 5) (Nat.le_of_ble_eq_true rfl)
  rw [lg_entry_eq]
  generalize (lg_sl ([.ref h0, .int 2, .long p1]) ++ List.replicate (5 - (lg_sl ([.ref h0, .int 2, .long p1])).length) Slot.unset).toArray = ls at hl ⊢
  have hl : lv_has ls 5 [(0, .ref h0), (1, .int 2), (2, .long p1)] := hl
  refine lv_iload_n hx hb dX11_feed_0 rfl (lv_at hl 1 rfl) ?_
  refine lv_iconst (v := 1) hx hb dX11_feed_1 (by decide +kernel) ?_
  refine lv_icmp_lt (tgt := 11) hx hb dX11_feed_2 (by decide) (fun c9 => False.elim (by revert c9; decide)) (fun _ => ?_)
  refine lv_iload_n hx hb dX11_feed_5 rfl (lv_at hl 1 rfl) ?_
  refine lv_bipush (v := 8) hx hb dX11_feed_6 (by decide +kernel) ?_
  refine lv_icmp_le (tgt := 21) hx hb dX11_feed_8 (by decide) (fun _ => ?_) (fun c9 => False.elim (by revert c9; decide))
  refine lv_aload_n hx hb dX11_feed_21 rfl (lv_at hl 0 rfl) ?_
  refine va_get (D := D) (ci := 11) (v := .ref tk) (C := RX11) (T := TX11) (N := 13) hx hb hts i_v_c_feed_X11 hown hK hP 0 rfl rfl 0 (by decide) (hts (.fieldLink RX11 10 "ScheduleHouse" "tokens" "LScheduleHouse$Tokens;") (by decide +kernel)) (fun _ h9 => h9) hq0 dX11_feed_22 ?_
  refine va_get (D := D) (ci := 9) (v := .int 0) (C := RX9) (T := TX9) (N := 10) hx hb hts i_v_c_feed_X9 hown hK hP 1 rfl rfl 1 (by decide) (hts (.fieldLink RX11 77 "ScheduleHouse$Tokens" "length" "I") (by decide +kernel)) (fun _ h9 => h9) hk1 dX11_feed_25 ?_
  refine lv_iload_n hx hb dX11_feed_28 rfl (lv_at hl 1 rfl) ?_
  refine lv_iadd hx hb dX11_feed_29 ?_
  rw [show (0 + 2 : Int32) = 2 by decide]
  refine lv_sipush (v := 3000) hx hb dX11_feed_30 (by decide +kernel) ?_
  refine lv_icmp_le (tgt := 46) hx hb dX11_feed_33 (by decide) (fun _ => ?_) (fun c9 => False.elim (by revert c9; decide))
  refine lv_iconst (v := 0) hx hb dX11_feed_46 (by decide +kernel) ?_
  refine lv_istore (lv' := [(4, .int 0), (0, .ref h0), (1, .int 2), (2, .long p1)]) hx hb dX11_feed_47 hl (by decide) rfl (fun ls hl => ?_)
  refine lv_iload hx hb dX11_feed_49 (lv_at hl 0 rfl) ?_
  refine lv_iload_n hx hb dX11_feed_51 rfl (lv_at hl 2 rfl) ?_
  refine lv_icmp_ge (tgt := 76) hx hb dX11_feed_52 (by decide) (fun c9 => False.elim (by revert c9; decide)) (fun _ => ?_)
  refine lv_aload_n hx hb dX11_feed_55 rfl (lv_at hl 1 rfl) ?_
  refine va_get (D := D) (ci := 11) (v := .ref tk) (C := RX11) (T := TX11) (N := 13) hx hb hts i_v_c_feed_X11 hown hK hP 0 rfl rfl 0 (by decide) (hts (.fieldLink RX11 10 "ScheduleHouse" "tokens" "LScheduleHouse$Tokens;") (by decide +kernel)) (fun _ h9 => h9) hq0 dX11_feed_56 ?_
  refine lv_lload_n hx hb dX11_feed_59 rfl (lv_at hl 3 rfl) ?_
  refine lv_bipush (v := 8) hx hb dX11_feed_60 (by decide +kernel) ?_
  refine lv_iload hx hb dX11_feed_62 (lv_at hl 0 rfl) ?_
  refine lv_imul hx hb dX11_feed_64 ?_
  rw [show (8 * 0 : Int32) = 0 by decide]
  obtain ⟨z1, hz1⟩ : ∃ z : Int64, z = (p1.toUInt64 >>> ((0 : Int32).toInt64.toUInt64 &&& Int64.toUInt64 63)).toInt64 := ⟨_, rfl⟩
  refine lv_lushr (v := z1) hx hb dX11_feed_65 hz1.symm ?_
  obtain ⟨b2, hb2⟩ : ∃ z : Int32, z = z1.toInt32 := ⟨_, rfl⟩
  refine lv_l2i (v := b2) hx hb dX11_feed_66 hb2.symm ?_
  have hPc := hP.sub (ws' := [(tk, .inr (9, tfs)), (tx, .inl (cx, 3000, .inl f0))]) [1, 2] rfl
  have hDc := hD.sub (ws' := [(tk, .inr (9, tfs)), (tx, .inl (cx, 3000, .inl f0))]) [1, 2] (by decide) rfl
  have hKc := hK.sub (tys' := [(cx, .byte)]) [0] rfl
  have hFc := va_free (wc := [(tk, .inr (9, tfs)), (tx, .inl (cx, 3000, .inl f0))]) hD hS hA [1, 2] rfl
  refine va_callv (va_runV (As := [.int b2]) (rest := []) ⟨hx, hb, hml, hown, hts⟩ (c_addByte l D tk tx 0 cx tfs f0 b2 s.heap.size hlk hk0 hk1 (by decide)) (cwV 1 hts g_v_c_feed_3 rfl rfl rfl (by decide +kernel) ⟨Nat.le_of_ble_eq_true rfl, Nat.le_of_ble_eq_true rfl⟩) ⟨st_blind, va_recv hKc hPc (ci := 9) (q0 := 0) rfl rfl, fun U hU hW => ⟨rfl, st_call hU hW hPc hKc hDc hZ hS hFc hE⟩⟩ rfl rfl hl.1 rfl (lv_room (Nat.le_of_ble_eq_true rfl)) dX11_feed_67 ⟨Nat.le_of_ble_eq_true rfl, Nat.le_of_ble_eq_true rfl⟩) hS (fun q _ h => hFc q h) hFc (fun  u3 t H1 locs ht hvm hw hB hz1 hk1 hS => ?_)
  have lu3 : u3.length = 10 := by rw [hw, List.length_set]; exact hlk
  have gu3_0 : u3[0]? = some (.ref tx) := by rw [hw]; exact se_ne hk0 (by decide)
  have gu3_1 : u3[1]? = some (.int 1) := by rw [hw]; exact se_eq (by rw [hlk]; decide)
  obtain ⟨fy4, hP1, hK1, hD1⟩ := hB
  rw [ht] at hP1
  have hK1 := va_K.moved hvm.symm hK1
  obtain ⟨hP, hD⟩ := va_join (wr := [(h0, .inr (11, xfs)), (tr, .inl (ct, 2, .inr (.inr (.inr (.inr (fun _ => none))))))]) (w1 := [(tk, .inr (9, u3)), (tx, .inl (cx, 3000, .inl fy4))]) hP hD [1, 2] [0, 3] rfl rfl (by decide) (by decide) hk1 hFc hP1 hD1
  have hK := (hK.sub (tys' := [(ct, .object "ScheduleHouse$Trial")]) [1] rfl).app hK1
  generalize H1 = H at hP hS ⊢
  have hP : va_P D vwCl [(h0, .inr (11, xfs)), (tr, .inl (ct, 2, .inr (.inr (.inr (.inr (fun _ => none)))))), (tk, .inr (9, u3)), (tx, .inl (cx, 3000, .inl fy4))] H := hP
  have hD : va_D A [(h0, .inr (11, xfs)), (tr, .inl (ct, 2, .inr (.inr (.inr (.inr (fun _ => none)))))), (tk, .inr (9, u3)), (tx, .inl (cx, 3000, .inl fy4))] := hD
  have hK : va_K D vwCl [(ct, .object "ScheduleHouse$Trial"), (cx, .byte)] s := hK
  refine lv_iinc (v := 1) (lv' := [(4, .int 1), (0, .ref h0), (1, .int 2), (2, .long p1)]) hx hb dX11_feed_70 hl (k := 0) rfl (by decide) (by decide) rfl (fun ls hl => ?_)
  refine lv_goto (tgt := 49) hx hb dX11_feed_73 (by decide) ?_
  refine lv_iload hx hb dX11_feed_49 (lv_at hl 0 rfl) ?_
  refine lv_iload_n hx hb dX11_feed_51 rfl (lv_at hl 2 rfl) ?_
  refine lv_icmp_ge (tgt := 76) hx hb dX11_feed_52 (by decide) (fun c9 => False.elim (by revert c9; decide)) (fun _ => ?_)
  refine lv_aload_n hx hb dX11_feed_55 rfl (lv_at hl 1 rfl) ?_
  refine va_get (D := D) (ci := 11) (v := .ref tk) (C := RX11) (T := TX11) (N := 13) hx hb hts i_v_c_feed_X11 hown hK hP 0 rfl rfl 0 (by decide) (hts (.fieldLink RX11 10 "ScheduleHouse" "tokens" "LScheduleHouse$Tokens;") (by decide +kernel)) (fun _ h9 => h9) hq0 dX11_feed_56 ?_
  refine lv_lload_n hx hb dX11_feed_59 rfl (lv_at hl 3 rfl) ?_
  refine lv_bipush (v := 8) hx hb dX11_feed_60 (by decide +kernel) ?_
  refine lv_iload hx hb dX11_feed_62 (lv_at hl 0 rfl) ?_
  refine lv_imul hx hb dX11_feed_64 ?_
  rw [show (8 * 1 : Int32) = 8 by decide]
  obtain ⟨z5, hz5⟩ : ∃ z : Int64, z = (p1.toUInt64 >>> ((8 : Int32).toInt64.toUInt64 &&& Int64.toUInt64 63)).toInt64 := ⟨_, rfl⟩
  refine lv_lushr (v := z5) hx hb dX11_feed_65 hz5.symm ?_
  obtain ⟨b6, hb6⟩ : ∃ z : Int32, z = z5.toInt32 := ⟨_, rfl⟩
  refine lv_l2i (v := b6) hx hb dX11_feed_66 hb6.symm ?_
  have hPc := hP.sub (ws' := [(tk, .inr (9, u3)), (tx, .inl (cx, 3000, .inl fy4))]) [2, 3] rfl
  have hDc := hD.sub (ws' := [(tk, .inr (9, u3)), (tx, .inl (cx, 3000, .inl fy4))]) [2, 3] (by decide) rfl
  have hKc := hK.sub (tys' := [(cx, .byte)]) [1] rfl
  have hFc := va_free (wc := [(tk, .inr (9, u3)), (tx, .inl (cx, 3000, .inl fy4))]) hD hS hA [2, 3] rfl
  refine va_callv (va_runV (As := [.int b6]) (rest := []) ⟨hx, hb, hml, hown, hts⟩ (c_addByte l D tk tx 1 cx u3 fy4 b6 H.size lu3 gu3_0 gu3_1 (by decide)) (cwV 1 hts g_v_c_feed_3 rfl rfl rfl (by decide +kernel) ⟨Nat.le_of_ble_eq_true rfl, Nat.le_of_ble_eq_true rfl⟩) ⟨st_blind, va_recv hKc hPc (ci := 9) (q0 := 0) rfl rfl, fun U hU hW => ⟨rfl, st_call hU hW hPc hKc hDc hZ hS hFc hE⟩⟩ rfl rfl hl.1 rfl (lv_room (Nat.le_of_ble_eq_true rfl)) dX11_feed_67 ⟨Nat.le_of_ble_eq_true rfl, Nat.le_of_ble_eq_true rfl⟩) hS (fun q _ h => hFc q h) hFc (fun  u7 t H1 locs ht hvm hw hB hz1 hk1 hS => ?_)
  have lu7 : u7.length = 10 := by rw [hw, List.length_set]; exact lu3
  have gu7_0 : u7[0]? = some (.ref tx) := by rw [hw]; exact se_ne gu3_0 (by decide)
  have gu7_1 : u7[1]? = some (.int 2) := by rw [hw]; exact se_eq (by rw [lu3]; decide)
  obtain ⟨fy8, hP1, hK1, hD1⟩ := hB
  rw [ht] at hP1
  have hK1 := va_K.moved hvm.symm hK1
  obtain ⟨hP, hD⟩ := va_join (wr := [(h0, .inr (11, xfs)), (tr, .inl (ct, 2, .inr (.inr (.inr (.inr (fun _ => none))))))]) (w1 := [(tk, .inr (9, u7)), (tx, .inl (cx, 3000, .inl fy8))]) hP hD [2, 3] [0, 1] rfl rfl (by decide) (by decide) hk1 hFc hP1 hD1
  have hK := (hK.sub (tys' := [(ct, .object "ScheduleHouse$Trial")]) [0] rfl).app hK1
  generalize H1 = H at hP hS ⊢
  have hP : va_P D vwCl [(h0, .inr (11, xfs)), (tr, .inl (ct, 2, .inr (.inr (.inr (.inr (fun _ => none)))))), (tk, .inr (9, u7)), (tx, .inl (cx, 3000, .inl fy8))] H := hP
  have hD : va_D A [(h0, .inr (11, xfs)), (tr, .inl (ct, 2, .inr (.inr (.inr (.inr (fun _ => none)))))), (tk, .inr (9, u7)), (tx, .inl (cx, 3000, .inl fy8))] := hD
  have hK : va_K D vwCl [(ct, .object "ScheduleHouse$Trial"), (cx, .byte)] s := hK
  refine lv_iinc (v := 2) (lv' := [(4, .int 2), (0, .ref h0), (1, .int 2), (2, .long p1)]) hx hb dX11_feed_70 hl (k := 0) rfl (by decide) (by decide) rfl (fun ls hl => ?_)
  refine lv_goto (tgt := 49) hx hb dX11_feed_73 (by decide) ?_
  refine lv_iload hx hb dX11_feed_49 (lv_at hl 0 rfl) ?_
  refine lv_iload_n hx hb dX11_feed_51 rfl (lv_at hl 2 rfl) ?_
  refine lv_icmp_ge (tgt := 76) hx hb dX11_feed_52 (by decide) (fun _ => ?_) (fun c9 => False.elim (by revert c9; decide))
  refine lv_aload_n hx hb dX11_feed_76 rfl (lv_at hl 1 rfl) ?_
  have hPc := hP.sub (ws' := [(h0, .inr (11, xfs)), (tr, .inl (ct, 2, .inr (.inr (.inr (.inr (fun _ => none))))))]) [0, 1] rfl
  have hDc := hD.sub (ws' := [(h0, .inr (11, xfs)), (tr, .inl (ct, 2, .inr (.inr (.inr (.inr (fun _ => none))))))]) [0, 1] (by decide) rfl
  have hKc := hK.sub (tys' := [(ct, .object "ScheduleHouse$Trial")]) [0] rfl
  have hFc := va_free (wc := [(h0, .inr (11, xfs)), (tr, .inl (ct, 2, .inr (.inr (.inr (.inr (fun _ => none))))))]) hD hS hA [0, 1] rfl
  refine va_callv (va_runV (As := []) (rest := []) ⟨hx, hb, hml, hown, hts⟩ (c_forgetAll l D h0 tr ct xfs H.size hlen hq6) (cwV 0 hts g_v_c_feed_4 rfl rfl rfl (by decide +kernel) ⟨Nat.le_of_ble_eq_true rfl, Nat.le_of_ble_eq_true rfl⟩) ⟨st_blind, va_recv hKc hPc (ci := 11) (q0 := 0) rfl rfl, fun U hU hW => ⟨rfl, st_call hU hW hPc hKc hDc hZ hS hFc hE⟩⟩ rfl rfl hl.1 rfl (lv_room (Nat.le_of_ble_eq_true rfl)) dX11_feed_77 ⟨Nat.le_of_ble_eq_true rfl, Nat.le_of_ble_eq_true rfl⟩) hS (fun q _ h => hFc q h) hFc (fun  u9 t H1 locs ht hvm hw hB hz1 hk1 hS => ?_)
  have lu9 : u9.length = 13 := by rw [hw, List.length_set, List.length_set]; exact hlen
  have gu9_0 : u9[0]? = some (.ref tk) := by rw [hw]; exact se_ne (se_ne hq0 (by decide)) (by decide)
  have gu9_6 : u9[6]? = some (.ref tr) := by rw [hw]; exact se_ne (se_ne hq6 (by decide)) (by decide)
  obtain ⟨hP1, hK1, hD1⟩ := hB
  rw [ht] at hP1
  have hK1 := va_K.moved hvm.symm hK1
  obtain ⟨hP, hD⟩ := va_join (wr := [(tk, .inr (9, u7)), (tx, .inl (cx, 3000, .inl fy8))]) (w1 := [(h0, .inr (11, u9)), (tr, .inl (ct, 2, .inr (.inr (.inr (.inr (fun _ => none))))))]) hP hD [0, 1] [2, 3] rfl rfl (by decide) (by decide) hk1 hFc hP1 hD1
  have hK := (hK.sub (tys' := [(cx, .byte)]) [1] rfl).app hK1
  generalize H1 = H at hP hS ⊢
  have hP : va_P D vwCl [(tk, .inr (9, u7)), (tx, .inl (cx, 3000, .inl fy8)), (h0, .inr (11, u9)), (tr, .inl (ct, 2, .inr (.inr (.inr (.inr (fun _ => none))))))] H := hP
  have hD : va_D A [(tk, .inr (9, u7)), (tx, .inl (cx, 3000, .inl fy8)), (h0, .inr (11, u9)), (tr, .inl (ct, 2, .inr (.inr (.inr (.inr (fun _ => none))))))] := hD
  have hK : va_K D vwCl [(cx, .byte), (ct, .object "ScheduleHouse$Trial")] s := hK
  refine lv_aload_n hx hb dX11_feed_80 rfl (lv_at hl 1 rfl) ?_
  refine va_get (D := D) (ci := 11) (v := .ref tk) (C := RX11) (T := TX11) (N := 13) hx hb hts i_v_c_feed_X11 hown hK hP 2 rfl rfl 0 (by decide) (hts (.fieldLink RX11 10 "ScheduleHouse" "tokens" "LScheduleHouse$Tokens;") (by decide +kernel)) (fun _ h9 => h9) gu9_0 dX11_feed_81 ?_
  refine va_get (D := D) (ci := 9) (v := .int 2) (C := RX9) (T := TX9) (N := 10) hx hb hts i_v_c_feed_X9 hown hK hP 0 rfl rfl 1 (by decide) (hts (.fieldLink RX11 77 "ScheduleHouse$Tokens" "length" "I") (by decide +kernel)) (fun _ h9 => h9) gu7_1 dX11_feed_84 ?_
  refine vx_ret (W.widen (k := 1) (n := 6) (Nat.le_of_ble_eq_true rfl) (Nat.le_of_ble_eq_true rfl) ?_)
  exact W.iret (v := 2) hx hb hr (fun t ht hW => ⟨⟨2, (), rfl, ⟨rfl, by decide, by decide⟩, trivial⟩, hS.F ht⟩) hS.2.2 dX11_feed_87
set_option maxHeartbeats 400000 in
set_option maxRecDepth 100000 in
/-- feed(3, bytes) of a new house -/
theorem c_feed_3 (l : Launch) (hlt : l.stackTraces = false) (D : va_G) (h0 tk tx tr : Nat) (cx ct : ClassId) (xfs tfs : List Value) (f0 : Nat → Int32) (p1 : Int64) (sz : Nat) (hlen : xfs.length = 13) (hq0 : xfs[0]? = some (.ref tk)) (hq6 : xfs[6]? = some (.ref tr)) (hlk : tfs.length = 10) (hk0 : tfs[0]? = some (.ref tx)) (hk1 : tfs[1]? = some (.int 0)) : vx_Met l yX11_feed v_c_feed ({ frames := 6, cells := 1, slots := 6, locals := 110 }) (va_Pc [.ref h0, .int 3, .long p1] (st_ D [(h0, .inr (11, xfs)), (tk, .inr (9, tfs)), (tx, .inl (cx, 3000, .inl f0)), (tr, .inl (ct, 2, .inr (.inr (.inr (.inr (fun _ => none))))))] [(cx, .byte), (ct, .object "ScheduleHouse$Trial")] sz)) (va_Qi (fun (r : Int32) (_ : Unit) => r = (3 : Int32) ∧ ¬ (3 : Int32) < 1 ∧ (3 : Int32) ≤ 8) (fun _ _ => True) (va_A [(h0, .inr (11, xfs)), (tk, .inr (9, tfs)), (tx, .inl (cx, 3000, .inl f0)), (tr, .inl (ct, 2, .inr (.inr (.inr (.inr (fun _ => none))))))] sz)) (vx_X (fun _ : Unit => True) (fun E _ _ => E = iAE ∧ ((3 : Int32) < 1 ∨ ¬ (3 : Int32) ≤ 8)) (va_A [(h0, .inr (11, xfs)), (tk, .inr (9, tfs)), (tx, .inl (cx, 3000, .inl f0)), (tr, .inl (ct, 2, .inr (.inr (.inr (.inr (fun _ => none))))))] sz)) 1 6 (va_A [(h0, .inr (11, xfs)), (tk, .inr (9, tfs)), (tx, .inl (cx, 3000, .inl f0)), (tr, .inl (ct, 2, .inr (.inr (.inr (.inr (fun _ => none))))))] sz) := by
  refine vx_ofW (cc := cX11_feed) (maxL := 5) (ret := (some .int)) (by decide) rfl ?_
  intro p e s m args below meth c s₁ B hml hno hv
  obtain ⟨rfl, hsz, hP, hK, hD0, hZ, hE⟩ := hv
  have hx := B.exec
  have hb := B.bytes
  have hr := B.returns
  have hts := atoms_spec (ws := v_c_feed) B.pre
  have hown : s.vm.findClass RX11 = some m.cls := findClass_of_methodNamed B.named
  have hlocks := B.notSynchronized
  subst hsz
  have hD := hD0.self (sz := s.heap.size)
  generalize hAe : va_A [(h0, .inr (11, xfs)), (tk, .inr (9, tfs)), (tx, .inl (cx, 3000, .inl f0)), (tr, .inl (ct, 2, .inr (.inr (.inr (.inr (fun _ => none))))))] s.heap.size = A at hD hZ ⊢
  have hA : ∀ q : Nat, s.heap.size ≤ q → A q := fun q h => by rw [← hAe]; exact Or.inr h
  have hS : va_S A s.heap s.heap [] := va_S.rf
  have hAO := hE.2.2.2.1
  have hP : va_P D vwCl [(h0, .inr (11, xfs)), (tk, .inr (9, tfs)), (tx, .inl (cx, 3000, .inl f0)), (tr, .inl (ct, 2, .inr (.inr (.inr (.inr (fun _ => none))))))] s.heap := hP
  have hl := lv_entry ([.ref h0, .int 3, .long p1]) (n := 5) (Nat.le_of_ble_eq_true rfl)
  rw [lg_entry_eq]
  generalize (lg_sl ([.ref h0, .int 3, .long p1]) ++ List.replicate (5 - (lg_sl ([.ref h0, .int 3, .long p1])).length) Slot.unset).toArray = ls at hl ⊢
  have hl : lv_has ls 5 [(0, .ref h0), (1, .int 3), (2, .long p1)] := hl
  refine lv_iload_n hx hb dX11_feed_0 rfl (lv_at hl 1 rfl) ?_
  refine lv_iconst (v := 1) hx hb dX11_feed_1 (by decide +kernel) ?_
  refine lv_icmp_lt (tgt := 11) hx hb dX11_feed_2 (by decide) (fun c9 => False.elim (by revert c9; decide)) (fun _ => ?_)
  refine lv_iload_n hx hb dX11_feed_5 rfl (lv_at hl 1 rfl) ?_
  refine lv_bipush (v := 8) hx hb dX11_feed_6 (by decide +kernel) ?_
  refine lv_icmp_le (tgt := 21) hx hb dX11_feed_8 (by decide) (fun _ => ?_) (fun c9 => False.elim (by revert c9; decide))
  refine lv_aload_n hx hb dX11_feed_21 rfl (lv_at hl 0 rfl) ?_
  refine va_get (D := D) (ci := 11) (v := .ref tk) (C := RX11) (T := TX11) (N := 13) hx hb hts i_v_c_feed_X11 hown hK hP 0 rfl rfl 0 (by decide) (hts (.fieldLink RX11 10 "ScheduleHouse" "tokens" "LScheduleHouse$Tokens;") (by decide +kernel)) (fun _ h9 => h9) hq0 dX11_feed_22 ?_
  refine va_get (D := D) (ci := 9) (v := .int 0) (C := RX9) (T := TX9) (N := 10) hx hb hts i_v_c_feed_X9 hown hK hP 1 rfl rfl 1 (by decide) (hts (.fieldLink RX11 77 "ScheduleHouse$Tokens" "length" "I") (by decide +kernel)) (fun _ h9 => h9) hk1 dX11_feed_25 ?_
  refine lv_iload_n hx hb dX11_feed_28 rfl (lv_at hl 1 rfl) ?_
  refine lv_iadd hx hb dX11_feed_29 ?_
  rw [show (0 + 3 : Int32) = 3 by decide]
  refine lv_sipush (v := 3000) hx hb dX11_feed_30 (by decide +kernel) ?_
  refine lv_icmp_le (tgt := 46) hx hb dX11_feed_33 (by decide) (fun _ => ?_) (fun c9 => False.elim (by revert c9; decide))
  refine lv_iconst (v := 0) hx hb dX11_feed_46 (by decide +kernel) ?_
  refine lv_istore (lv' := [(4, .int 0), (0, .ref h0), (1, .int 3), (2, .long p1)]) hx hb dX11_feed_47 hl (by decide) rfl (fun ls hl => ?_)
  refine lv_iload hx hb dX11_feed_49 (lv_at hl 0 rfl) ?_
  refine lv_iload_n hx hb dX11_feed_51 rfl (lv_at hl 2 rfl) ?_
  refine lv_icmp_ge (tgt := 76) hx hb dX11_feed_52 (by decide) (fun c9 => False.elim (by revert c9; decide)) (fun _ => ?_)
  refine lv_aload_n hx hb dX11_feed_55 rfl (lv_at hl 1 rfl) ?_
  refine va_get (D := D) (ci := 11) (v := .ref tk) (C := RX11) (T := TX11) (N := 13) hx hb hts i_v_c_feed_X11 hown hK hP 0 rfl rfl 0 (by decide) (hts (.fieldLink RX11 10 "ScheduleHouse" "tokens" "LScheduleHouse$Tokens;") (by decide +kernel)) (fun _ h9 => h9) hq0 dX11_feed_56 ?_
  refine lv_lload_n hx hb dX11_feed_59 rfl (lv_at hl 3 rfl) ?_
  refine lv_bipush (v := 8) hx hb dX11_feed_60 (by decide +kernel) ?_
  refine lv_iload hx hb dX11_feed_62 (lv_at hl 0 rfl) ?_
  refine lv_imul hx hb dX11_feed_64 ?_
  rw [show (8 * 0 : Int32) = 0 by decide]
  obtain ⟨z1, hz1⟩ : ∃ z : Int64, z = (p1.toUInt64 >>> ((0 : Int32).toInt64.toUInt64 &&& Int64.toUInt64 63)).toInt64 := ⟨_, rfl⟩
  refine lv_lushr (v := z1) hx hb dX11_feed_65 hz1.symm ?_
  obtain ⟨b2, hb2⟩ : ∃ z : Int32, z = z1.toInt32 := ⟨_, rfl⟩
  refine lv_l2i (v := b2) hx hb dX11_feed_66 hb2.symm ?_
  have hPc := hP.sub (ws' := [(tk, .inr (9, tfs)), (tx, .inl (cx, 3000, .inl f0))]) [1, 2] rfl
  have hDc := hD.sub (ws' := [(tk, .inr (9, tfs)), (tx, .inl (cx, 3000, .inl f0))]) [1, 2] (by decide) rfl
  have hKc := hK.sub (tys' := [(cx, .byte)]) [0] rfl
  have hFc := va_free (wc := [(tk, .inr (9, tfs)), (tx, .inl (cx, 3000, .inl f0))]) hD hS hA [1, 2] rfl
  refine va_callv (va_runV (As := [.int b2]) (rest := []) ⟨hx, hb, hml, hown, hts⟩ (c_addByte l D tk tx 0 cx tfs f0 b2 s.heap.size hlk hk0 hk1 (by decide)) (cwV 1 hts g_v_c_feed_3 rfl rfl rfl (by decide +kernel) ⟨Nat.le_of_ble_eq_true rfl, Nat.le_of_ble_eq_true rfl⟩) ⟨st_blind, va_recv hKc hPc (ci := 9) (q0 := 0) rfl rfl, fun U hU hW => ⟨rfl, st_call hU hW hPc hKc hDc hZ hS hFc hE⟩⟩ rfl rfl hl.1 rfl (lv_room (Nat.le_of_ble_eq_true rfl)) dX11_feed_67 ⟨Nat.le_of_ble_eq_true rfl, Nat.le_of_ble_eq_true rfl⟩) hS (fun q _ h => hFc q h) hFc (fun  u3 t H1 locs ht hvm hw hB hz1 hk1 hS => ?_)
  have lu3 : u3.length = 10 := by rw [hw, List.length_set]; exact hlk
  have gu3_0 : u3[0]? = some (.ref tx) := by rw [hw]; exact se_ne hk0 (by decide)
  have gu3_1 : u3[1]? = some (.int 1) := by rw [hw]; exact se_eq (by rw [hlk]; decide)
  obtain ⟨fy4, hP1, hK1, hD1⟩ := hB
  rw [ht] at hP1
  have hK1 := va_K.moved hvm.symm hK1
  obtain ⟨hP, hD⟩ := va_join (wr := [(h0, .inr (11, xfs)), (tr, .inl (ct, 2, .inr (.inr (.inr (.inr (fun _ => none))))))]) (w1 := [(tk, .inr (9, u3)), (tx, .inl (cx, 3000, .inl fy4))]) hP hD [1, 2] [0, 3] rfl rfl (by decide) (by decide) hk1 hFc hP1 hD1
  have hK := (hK.sub (tys' := [(ct, .object "ScheduleHouse$Trial")]) [1] rfl).app hK1
  generalize H1 = H at hP hS ⊢
  have hP : va_P D vwCl [(h0, .inr (11, xfs)), (tr, .inl (ct, 2, .inr (.inr (.inr (.inr (fun _ => none)))))), (tk, .inr (9, u3)), (tx, .inl (cx, 3000, .inl fy4))] H := hP
  have hD : va_D A [(h0, .inr (11, xfs)), (tr, .inl (ct, 2, .inr (.inr (.inr (.inr (fun _ => none)))))), (tk, .inr (9, u3)), (tx, .inl (cx, 3000, .inl fy4))] := hD
  have hK : va_K D vwCl [(ct, .object "ScheduleHouse$Trial"), (cx, .byte)] s := hK
  refine lv_iinc (v := 1) (lv' := [(4, .int 1), (0, .ref h0), (1, .int 3), (2, .long p1)]) hx hb dX11_feed_70 hl (k := 0) rfl (by decide) (by decide) rfl (fun ls hl => ?_)
  refine lv_goto (tgt := 49) hx hb dX11_feed_73 (by decide) ?_
  refine lv_iload hx hb dX11_feed_49 (lv_at hl 0 rfl) ?_
  refine lv_iload_n hx hb dX11_feed_51 rfl (lv_at hl 2 rfl) ?_
  refine lv_icmp_ge (tgt := 76) hx hb dX11_feed_52 (by decide) (fun c9 => False.elim (by revert c9; decide)) (fun _ => ?_)
  refine lv_aload_n hx hb dX11_feed_55 rfl (lv_at hl 1 rfl) ?_
  refine va_get (D := D) (ci := 11) (v := .ref tk) (C := RX11) (T := TX11) (N := 13) hx hb hts i_v_c_feed_X11 hown hK hP 0 rfl rfl 0 (by decide) (hts (.fieldLink RX11 10 "ScheduleHouse" "tokens" "LScheduleHouse$Tokens;") (by decide +kernel)) (fun _ h9 => h9) hq0 dX11_feed_56 ?_
  refine lv_lload_n hx hb dX11_feed_59 rfl (lv_at hl 3 rfl) ?_
  refine lv_bipush (v := 8) hx hb dX11_feed_60 (by decide +kernel) ?_
  refine lv_iload hx hb dX11_feed_62 (lv_at hl 0 rfl) ?_
  refine lv_imul hx hb dX11_feed_64 ?_
  rw [show (8 * 1 : Int32) = 8 by decide]
  obtain ⟨z5, hz5⟩ : ∃ z : Int64, z = (p1.toUInt64 >>> ((8 : Int32).toInt64.toUInt64 &&& Int64.toUInt64 63)).toInt64 := ⟨_, rfl⟩
  refine lv_lushr (v := z5) hx hb dX11_feed_65 hz5.symm ?_
  obtain ⟨b6, hb6⟩ : ∃ z : Int32, z = z5.toInt32 := ⟨_, rfl⟩
  refine lv_l2i (v := b6) hx hb dX11_feed_66 hb6.symm ?_
  have hPc := hP.sub (ws' := [(tk, .inr (9, u3)), (tx, .inl (cx, 3000, .inl fy4))]) [2, 3] rfl
  have hDc := hD.sub (ws' := [(tk, .inr (9, u3)), (tx, .inl (cx, 3000, .inl fy4))]) [2, 3] (by decide) rfl
  have hKc := hK.sub (tys' := [(cx, .byte)]) [1] rfl
  have hFc := va_free (wc := [(tk, .inr (9, u3)), (tx, .inl (cx, 3000, .inl fy4))]) hD hS hA [2, 3] rfl
  refine va_callv (va_runV (As := [.int b6]) (rest := []) ⟨hx, hb, hml, hown, hts⟩ (c_addByte l D tk tx 1 cx u3 fy4 b6 H.size lu3 gu3_0 gu3_1 (by decide)) (cwV 1 hts g_v_c_feed_3 rfl rfl rfl (by decide +kernel) ⟨Nat.le_of_ble_eq_true rfl, Nat.le_of_ble_eq_true rfl⟩) ⟨st_blind, va_recv hKc hPc (ci := 9) (q0 := 0) rfl rfl, fun U hU hW => ⟨rfl, st_call hU hW hPc hKc hDc hZ hS hFc hE⟩⟩ rfl rfl hl.1 rfl (lv_room (Nat.le_of_ble_eq_true rfl)) dX11_feed_67 ⟨Nat.le_of_ble_eq_true rfl, Nat.le_of_ble_eq_true rfl⟩) hS (fun q _ h => hFc q h) hFc (fun  u7 t H1 locs ht hvm hw hB hz1 hk1 hS => ?_)
  have lu7 : u7.length = 10 := by rw [hw, List.length_set]; exact lu3
  have gu7_0 : u7[0]? = some (.ref tx) := by rw [hw]; exact se_ne gu3_0 (by decide)
  have gu7_1 : u7[1]? = some (.int 2) := by rw [hw]; exact se_eq (by rw [lu3]; decide)
  obtain ⟨fy8, hP1, hK1, hD1⟩ := hB
  rw [ht] at hP1
  have hK1 := va_K.moved hvm.symm hK1
  obtain ⟨hP, hD⟩ := va_join (wr := [(h0, .inr (11, xfs)), (tr, .inl (ct, 2, .inr (.inr (.inr (.inr (fun _ => none))))))]) (w1 := [(tk, .inr (9, u7)), (tx, .inl (cx, 3000, .inl fy8))]) hP hD [2, 3] [0, 1] rfl rfl (by decide) (by decide) hk1 hFc hP1 hD1
  have hK := (hK.sub (tys' := [(ct, .object "ScheduleHouse$Trial")]) [0] rfl).app hK1
  generalize H1 = H at hP hS ⊢
  have hP : va_P D vwCl [(h0, .inr (11, xfs)), (tr, .inl (ct, 2, .inr (.inr (.inr (.inr (fun _ => none)))))), (tk, .inr (9, u7)), (tx, .inl (cx, 3000, .inl fy8))] H := hP
  have hD : va_D A [(h0, .inr (11, xfs)), (tr, .inl (ct, 2, .inr (.inr (.inr (.inr (fun _ => none)))))), (tk, .inr (9, u7)), (tx, .inl (cx, 3000, .inl fy8))] := hD
  have hK : va_K D vwCl [(ct, .object "ScheduleHouse$Trial"), (cx, .byte)] s := hK
  refine lv_iinc (v := 2) (lv' := [(4, .int 2), (0, .ref h0), (1, .int 3), (2, .long p1)]) hx hb dX11_feed_70 hl (k := 0) rfl (by decide) (by decide) rfl (fun ls hl => ?_)
  refine lv_goto (tgt := 49) hx hb dX11_feed_73 (by decide) ?_
  refine lv_iload hx hb dX11_feed_49 (lv_at hl 0 rfl) ?_
  refine lv_iload_n hx hb dX11_feed_51 rfl (lv_at hl 2 rfl) ?_
  refine lv_icmp_ge (tgt := 76) hx hb dX11_feed_52 (by decide) (fun c9 => False.elim (by revert c9; decide)) (fun _ => ?_)
  refine lv_aload_n hx hb dX11_feed_55 rfl (lv_at hl 1 rfl) ?_
  refine va_get (D := D) (ci := 11) (v := .ref tk) (C := RX11) (T := TX11) (N := 13) hx hb hts i_v_c_feed_X11 hown hK hP 0 rfl rfl 0 (by decide) (hts (.fieldLink RX11 10 "ScheduleHouse" "tokens" "LScheduleHouse$Tokens;") (by decide +kernel)) (fun _ h9 => h9) hq0 dX11_feed_56 ?_
  refine lv_lload_n hx hb dX11_feed_59 rfl (lv_at hl 3 rfl) ?_
  refine lv_bipush (v := 8) hx hb dX11_feed_60 (by decide +kernel) ?_
  refine lv_iload hx hb dX11_feed_62 (lv_at hl 0 rfl) ?_
  refine lv_imul hx hb dX11_feed_64 ?_
  rw [show (8 * 2 : Int32) = 16 by decide]
  obtain ⟨z9, hz9⟩ : ∃ z : Int64, z = (p1.toUInt64 >>> ((16 : Int32).toInt64.toUInt64 &&& Int64.toUInt64 63)).toInt64 := ⟨_, rfl⟩
  refine lv_lushr (v := z9) hx hb dX11_feed_65 hz9.symm ?_
  obtain ⟨b10, hb10⟩ : ∃ z : Int32, z = z9.toInt32 := ⟨_, rfl⟩
  refine lv_l2i (v := b10) hx hb dX11_feed_66 hb10.symm ?_
  have hPc := hP.sub (ws' := [(tk, .inr (9, u7)), (tx, .inl (cx, 3000, .inl fy8))]) [2, 3] rfl
  have hDc := hD.sub (ws' := [(tk, .inr (9, u7)), (tx, .inl (cx, 3000, .inl fy8))]) [2, 3] (by decide) rfl
  have hKc := hK.sub (tys' := [(cx, .byte)]) [1] rfl
  have hFc := va_free (wc := [(tk, .inr (9, u7)), (tx, .inl (cx, 3000, .inl fy8))]) hD hS hA [2, 3] rfl
  refine va_callv (va_runV (As := [.int b10]) (rest := []) ⟨hx, hb, hml, hown, hts⟩ (c_addByte l D tk tx 2 cx u7 fy8 b10 H.size lu7 gu7_0 gu7_1 (by decide)) (cwV 1 hts g_v_c_feed_3 rfl rfl rfl (by decide +kernel) ⟨Nat.le_of_ble_eq_true rfl, Nat.le_of_ble_eq_true rfl⟩) ⟨st_blind, va_recv hKc hPc (ci := 9) (q0 := 0) rfl rfl, fun U hU hW => ⟨rfl, st_call hU hW hPc hKc hDc hZ hS hFc hE⟩⟩ rfl rfl hl.1 rfl (lv_room (Nat.le_of_ble_eq_true rfl)) dX11_feed_67 ⟨Nat.le_of_ble_eq_true rfl, Nat.le_of_ble_eq_true rfl⟩) hS (fun q _ h => hFc q h) hFc (fun  u11 t H1 locs ht hvm hw hB hz1 hk1 hS => ?_)
  have lu11 : u11.length = 10 := by rw [hw, List.length_set]; exact lu7
  have gu11_0 : u11[0]? = some (.ref tx) := by rw [hw]; exact se_ne gu7_0 (by decide)
  have gu11_1 : u11[1]? = some (.int 3) := by rw [hw]; exact se_eq (by rw [lu7]; decide)
  obtain ⟨fy12, hP1, hK1, hD1⟩ := hB
  rw [ht] at hP1
  have hK1 := va_K.moved hvm.symm hK1
  obtain ⟨hP, hD⟩ := va_join (wr := [(h0, .inr (11, xfs)), (tr, .inl (ct, 2, .inr (.inr (.inr (.inr (fun _ => none))))))]) (w1 := [(tk, .inr (9, u11)), (tx, .inl (cx, 3000, .inl fy12))]) hP hD [2, 3] [0, 1] rfl rfl (by decide) (by decide) hk1 hFc hP1 hD1
  have hK := (hK.sub (tys' := [(ct, .object "ScheduleHouse$Trial")]) [0] rfl).app hK1
  generalize H1 = H at hP hS ⊢
  have hP : va_P D vwCl [(h0, .inr (11, xfs)), (tr, .inl (ct, 2, .inr (.inr (.inr (.inr (fun _ => none)))))), (tk, .inr (9, u11)), (tx, .inl (cx, 3000, .inl fy12))] H := hP
  have hD : va_D A [(h0, .inr (11, xfs)), (tr, .inl (ct, 2, .inr (.inr (.inr (.inr (fun _ => none)))))), (tk, .inr (9, u11)), (tx, .inl (cx, 3000, .inl fy12))] := hD
  have hK : va_K D vwCl [(ct, .object "ScheduleHouse$Trial"), (cx, .byte)] s := hK
  refine lv_iinc (v := 3) (lv' := [(4, .int 3), (0, .ref h0), (1, .int 3), (2, .long p1)]) hx hb dX11_feed_70 hl (k := 0) rfl (by decide) (by decide) rfl (fun ls hl => ?_)
  refine lv_goto (tgt := 49) hx hb dX11_feed_73 (by decide) ?_
  refine lv_iload hx hb dX11_feed_49 (lv_at hl 0 rfl) ?_
  refine lv_iload_n hx hb dX11_feed_51 rfl (lv_at hl 2 rfl) ?_
  refine lv_icmp_ge (tgt := 76) hx hb dX11_feed_52 (by decide) (fun _ => ?_) (fun c9 => False.elim (by revert c9; decide))
  refine lv_aload_n hx hb dX11_feed_76 rfl (lv_at hl 1 rfl) ?_
  have hPc := hP.sub (ws' := [(h0, .inr (11, xfs)), (tr, .inl (ct, 2, .inr (.inr (.inr (.inr (fun _ => none))))))]) [0, 1] rfl
  have hDc := hD.sub (ws' := [(h0, .inr (11, xfs)), (tr, .inl (ct, 2, .inr (.inr (.inr (.inr (fun _ => none))))))]) [0, 1] (by decide) rfl
  have hKc := hK.sub (tys' := [(ct, .object "ScheduleHouse$Trial")]) [0] rfl
  have hFc := va_free (wc := [(h0, .inr (11, xfs)), (tr, .inl (ct, 2, .inr (.inr (.inr (.inr (fun _ => none))))))]) hD hS hA [0, 1] rfl
  refine va_callv (va_runV (As := []) (rest := []) ⟨hx, hb, hml, hown, hts⟩ (c_forgetAll l D h0 tr ct xfs H.size hlen hq6) (cwV 0 hts g_v_c_feed_4 rfl rfl rfl (by decide +kernel) ⟨Nat.le_of_ble_eq_true rfl, Nat.le_of_ble_eq_true rfl⟩) ⟨st_blind, va_recv hKc hPc (ci := 11) (q0 := 0) rfl rfl, fun U hU hW => ⟨rfl, st_call hU hW hPc hKc hDc hZ hS hFc hE⟩⟩ rfl rfl hl.1 rfl (lv_room (Nat.le_of_ble_eq_true rfl)) dX11_feed_77 ⟨Nat.le_of_ble_eq_true rfl, Nat.le_of_ble_eq_true rfl⟩) hS (fun q _ h => hFc q h) hFc (fun  u13 t H1 locs ht hvm hw hB hz1 hk1 hS => ?_)
  have lu13 : u13.length = 13 := by rw [hw, List.length_set, List.length_set]; exact hlen
  have gu13_0 : u13[0]? = some (.ref tk) := by rw [hw]; exact se_ne (se_ne hq0 (by decide)) (by decide)
  have gu13_6 : u13[6]? = some (.ref tr) := by rw [hw]; exact se_ne (se_ne hq6 (by decide)) (by decide)
  obtain ⟨hP1, hK1, hD1⟩ := hB
  rw [ht] at hP1
  have hK1 := va_K.moved hvm.symm hK1
  obtain ⟨hP, hD⟩ := va_join (wr := [(tk, .inr (9, u11)), (tx, .inl (cx, 3000, .inl fy12))]) (w1 := [(h0, .inr (11, u13)), (tr, .inl (ct, 2, .inr (.inr (.inr (.inr (fun _ => none))))))]) hP hD [0, 1] [2, 3] rfl rfl (by decide) (by decide) hk1 hFc hP1 hD1
  have hK := (hK.sub (tys' := [(cx, .byte)]) [1] rfl).app hK1
  generalize H1 = H at hP hS ⊢
  have hP : va_P D vwCl [(tk, .inr (9, u11)), (tx, .inl (cx, 3000, .inl fy12)), (h0, .inr (11, u13)), (tr, .inl (ct, 2, .inr (.inr (.inr (.inr (fun _ => none))))))] H := hP
  have hD : va_D A [(tk, .inr (9, u11)), (tx, .inl (cx, 3000, .inl fy12)), (h0, .inr (11, u13)), (tr, .inl (ct, 2, .inr (.inr (.inr (.inr (fun _ => none))))))] := hD
  have hK : va_K D vwCl [(cx, .byte), (ct, .object "ScheduleHouse$Trial")] s := hK
  refine lv_aload_n hx hb dX11_feed_80 rfl (lv_at hl 1 rfl) ?_
  refine va_get (D := D) (ci := 11) (v := .ref tk) (C := RX11) (T := TX11) (N := 13) hx hb hts i_v_c_feed_X11 hown hK hP 2 rfl rfl 0 (by decide) (hts (.fieldLink RX11 10 "ScheduleHouse" "tokens" "LScheduleHouse$Tokens;") (by decide +kernel)) (fun _ h9 => h9) gu13_0 dX11_feed_81 ?_
  refine va_get (D := D) (ci := 9) (v := .int 3) (C := RX9) (T := TX9) (N := 10) hx hb hts i_v_c_feed_X9 hown hK hP 0 rfl rfl 1 (by decide) (hts (.fieldLink RX11 77 "ScheduleHouse$Tokens" "length" "I") (by decide +kernel)) (fun _ h9 => h9) gu11_1 dX11_feed_84 ?_
  refine vx_ret (W.widen (k := 1) (n := 6) (Nat.le_of_ble_eq_true rfl) (Nat.le_of_ble_eq_true rfl) ?_)
  exact W.iret (v := 3) hx hb hr (fun t ht hW => ⟨⟨3, (), rfl, ⟨rfl, by decide, by decide⟩, trivial⟩, hS.F ht⟩) hS.2.2 dX11_feed_87
set_option maxHeartbeats 400000 in
set_option maxRecDepth 100000 in
/-- feed(4, bytes) of a new house -/
theorem c_feed_4 (l : Launch) (hlt : l.stackTraces = false) (D : va_G) (h0 tk tx tr : Nat) (cx ct : ClassId) (xfs tfs : List Value) (f0 : Nat → Int32) (p1 : Int64) (sz : Nat) (hlen : xfs.length = 13) (hq0 : xfs[0]? = some (.ref tk)) (hq6 : xfs[6]? = some (.ref tr)) (hlk : tfs.length = 10) (hk0 : tfs[0]? = some (.ref tx)) (hk1 : tfs[1]? = some (.int 0)) : vx_Met l yX11_feed v_c_feed ({ frames := 6, cells := 1, slots := 6, locals := 110 }) (va_Pc [.ref h0, .int 4, .long p1] (st_ D [(h0, .inr (11, xfs)), (tk, .inr (9, tfs)), (tx, .inl (cx, 3000, .inl f0)), (tr, .inl (ct, 2, .inr (.inr (.inr (.inr (fun _ => none))))))] [(cx, .byte), (ct, .object "ScheduleHouse$Trial")] sz)) (va_Qi (fun (r : Int32) (_ : Unit) => r = (4 : Int32) ∧ ¬ (4 : Int32) < 1 ∧ (4 : Int32) ≤ 8) (fun _ _ => True) (va_A [(h0, .inr (11, xfs)), (tk, .inr (9, tfs)), (tx, .inl (cx, 3000, .inl f0)), (tr, .inl (ct, 2, .inr (.inr (.inr (.inr (fun _ => none))))))] sz)) (vx_X (fun _ : Unit => True) (fun E _ _ => E = iAE ∧ ((4 : Int32) < 1 ∨ ¬ (4 : Int32) ≤ 8)) (va_A [(h0, .inr (11, xfs)), (tk, .inr (9, tfs)), (tx, .inl (cx, 3000, .inl f0)), (tr, .inl (ct, 2, .inr (.inr (.inr (.inr (fun _ => none))))))] sz)) 1 6 (va_A [(h0, .inr (11, xfs)), (tk, .inr (9, tfs)), (tx, .inl (cx, 3000, .inl f0)), (tr, .inl (ct, 2, .inr (.inr (.inr (.inr (fun _ => none))))))] sz) := by
  refine vx_ofW (cc := cX11_feed) (maxL := 5) (ret := (some .int)) (by decide) rfl ?_
  intro p e s m args below meth c s₁ B hml hno hv
  obtain ⟨rfl, hsz, hP, hK, hD0, hZ, hE⟩ := hv
  have hx := B.exec
  have hb := B.bytes
  have hr := B.returns
  have hts := atoms_spec (ws := v_c_feed) B.pre
  have hown : s.vm.findClass RX11 = some m.cls := findClass_of_methodNamed B.named
  have hlocks := B.notSynchronized
  subst hsz
  have hD := hD0.self (sz := s.heap.size)
  generalize hAe : va_A [(h0, .inr (11, xfs)), (tk, .inr (9, tfs)), (tx, .inl (cx, 3000, .inl f0)), (tr, .inl (ct, 2, .inr (.inr (.inr (.inr (fun _ => none))))))] s.heap.size = A at hD hZ ⊢
  have hA : ∀ q : Nat, s.heap.size ≤ q → A q := fun q h => by rw [← hAe]; exact Or.inr h
  have hS : va_S A s.heap s.heap [] := va_S.rf
  have hAO := hE.2.2.2.1
  have hP : va_P D vwCl [(h0, .inr (11, xfs)), (tk, .inr (9, tfs)), (tx, .inl (cx, 3000, .inl f0)), (tr, .inl (ct, 2, .inr (.inr (.inr (.inr (fun _ => none))))))] s.heap := hP
  have hl := lv_entry ([.ref h0, .int 4, .long p1]) (n := 5) (Nat.le_of_ble_eq_true rfl)
  rw [lg_entry_eq]
  generalize (lg_sl ([.ref h0, .int 4, .long p1]) ++ List.replicate (5 - (lg_sl ([.ref h0, .int 4, .long p1])).length) Slot.unset).toArray = ls at hl ⊢
  have hl : lv_has ls 5 [(0, .ref h0), (1, .int 4), (2, .long p1)] := hl
  refine lv_iload_n hx hb dX11_feed_0 rfl (lv_at hl 1 rfl) ?_
  refine lv_iconst (v := 1) hx hb dX11_feed_1 (by decide +kernel) ?_
  refine lv_icmp_lt (tgt := 11) hx hb dX11_feed_2 (by decide) (fun c9 => False.elim (by revert c9; decide)) (fun _ => ?_)
  refine lv_iload_n hx hb dX11_feed_5 rfl (lv_at hl 1 rfl) ?_
  refine lv_bipush (v := 8) hx hb dX11_feed_6 (by decide +kernel) ?_
  refine lv_icmp_le (tgt := 21) hx hb dX11_feed_8 (by decide) (fun _ => ?_) (fun c9 => False.elim (by revert c9; decide))
  refine lv_aload_n hx hb dX11_feed_21 rfl (lv_at hl 0 rfl) ?_
  refine va_get (D := D) (ci := 11) (v := .ref tk) (C := RX11) (T := TX11) (N := 13) hx hb hts i_v_c_feed_X11 hown hK hP 0 rfl rfl 0 (by decide) (hts (.fieldLink RX11 10 "ScheduleHouse" "tokens" "LScheduleHouse$Tokens;") (by decide +kernel)) (fun _ h9 => h9) hq0 dX11_feed_22 ?_
  refine va_get (D := D) (ci := 9) (v := .int 0) (C := RX9) (T := TX9) (N := 10) hx hb hts i_v_c_feed_X9 hown hK hP 1 rfl rfl 1 (by decide) (hts (.fieldLink RX11 77 "ScheduleHouse$Tokens" "length" "I") (by decide +kernel)) (fun _ h9 => h9) hk1 dX11_feed_25 ?_
  refine lv_iload_n hx hb dX11_feed_28 rfl (lv_at hl 1 rfl) ?_
  refine lv_iadd hx hb dX11_feed_29 ?_
  rw [show (0 + 4 : Int32) = 4 by decide]
  refine lv_sipush (v := 3000) hx hb dX11_feed_30 (by decide +kernel) ?_
  refine lv_icmp_le (tgt := 46) hx hb dX11_feed_33 (by decide) (fun _ => ?_) (fun c9 => False.elim (by revert c9; decide))
  refine lv_iconst (v := 0) hx hb dX11_feed_46 (by decide +kernel) ?_
  refine lv_istore (lv' := [(4, .int 0), (0, .ref h0), (1, .int 4), (2, .long p1)]) hx hb dX11_feed_47 hl (by decide) rfl (fun ls hl => ?_)
  refine lv_iload hx hb dX11_feed_49 (lv_at hl 0 rfl) ?_
  refine lv_iload_n hx hb dX11_feed_51 rfl (lv_at hl 2 rfl) ?_
  refine lv_icmp_ge (tgt := 76) hx hb dX11_feed_52 (by decide) (fun c9 => False.elim (by revert c9; decide)) (fun _ => ?_)
  refine lv_aload_n hx hb dX11_feed_55 rfl (lv_at hl 1 rfl) ?_
  refine va_get (D := D) (ci := 11) (v := .ref tk) (C := RX11) (T := TX11) (N := 13) hx hb hts i_v_c_feed_X11 hown hK hP 0 rfl rfl 0 (by decide) (hts (.fieldLink RX11 10 "ScheduleHouse" "tokens" "LScheduleHouse$Tokens;") (by decide +kernel)) (fun _ h9 => h9) hq0 dX11_feed_56 ?_
  refine lv_lload_n hx hb dX11_feed_59 rfl (lv_at hl 3 rfl) ?_
  refine lv_bipush (v := 8) hx hb dX11_feed_60 (by decide +kernel) ?_
  refine lv_iload hx hb dX11_feed_62 (lv_at hl 0 rfl) ?_
  refine lv_imul hx hb dX11_feed_64 ?_
  rw [show (8 * 0 : Int32) = 0 by decide]
  obtain ⟨z1, hz1⟩ : ∃ z : Int64, z = (p1.toUInt64 >>> ((0 : Int32).toInt64.toUInt64 &&& Int64.toUInt64 63)).toInt64 := ⟨_, rfl⟩
  refine lv_lushr (v := z1) hx hb dX11_feed_65 hz1.symm ?_
  obtain ⟨b2, hb2⟩ : ∃ z : Int32, z = z1.toInt32 := ⟨_, rfl⟩
  refine lv_l2i (v := b2) hx hb dX11_feed_66 hb2.symm ?_
  have hPc := hP.sub (ws' := [(tk, .inr (9, tfs)), (tx, .inl (cx, 3000, .inl f0))]) [1, 2] rfl
  have hDc := hD.sub (ws' := [(tk, .inr (9, tfs)), (tx, .inl (cx, 3000, .inl f0))]) [1, 2] (by decide) rfl
  have hKc := hK.sub (tys' := [(cx, .byte)]) [0] rfl
  have hFc := va_free (wc := [(tk, .inr (9, tfs)), (tx, .inl (cx, 3000, .inl f0))]) hD hS hA [1, 2] rfl
  refine va_callv (va_runV (As := [.int b2]) (rest := []) ⟨hx, hb, hml, hown, hts⟩ (c_addByte l D tk tx 0 cx tfs f0 b2 s.heap.size hlk hk0 hk1 (by decide)) (cwV 1 hts g_v_c_feed_3 rfl rfl rfl (by decide +kernel) ⟨Nat.le_of_ble_eq_true rfl, Nat.le_of_ble_eq_true rfl⟩) ⟨st_blind, va_recv hKc hPc (ci := 9) (q0 := 0) rfl rfl, fun U hU hW => ⟨rfl, st_call hU hW hPc hKc hDc hZ hS hFc hE⟩⟩ rfl rfl hl.1 rfl (lv_room (Nat.le_of_ble_eq_true rfl)) dX11_feed_67 ⟨Nat.le_of_ble_eq_true rfl, Nat.le_of_ble_eq_true rfl⟩) hS (fun q _ h => hFc q h) hFc (fun  u3 t H1 locs ht hvm hw hB hz1 hk1 hS => ?_)
  have lu3 : u3.length = 10 := by rw [hw, List.length_set]; exact hlk
  have gu3_0 : u3[0]? = some (.ref tx) := by rw [hw]; exact se_ne hk0 (by decide)
  have gu3_1 : u3[1]? = some (.int 1) := by rw [hw]; exact se_eq (by rw [hlk]; decide)
  obtain ⟨fy4, hP1, hK1, hD1⟩ := hB
  rw [ht] at hP1
  have hK1 := va_K.moved hvm.symm hK1
  obtain ⟨hP, hD⟩ := va_join (wr := [(h0, .inr (11, xfs)), (tr, .inl (ct, 2, .inr (.inr (.inr (.inr (fun _ => none))))))]) (w1 := [(tk, .inr (9, u3)), (tx, .inl (cx, 3000, .inl fy4))]) hP hD [1, 2] [0, 3] rfl rfl (by decide) (by decide) hk1 hFc hP1 hD1
  have hK := (hK.sub (tys' := [(ct, .object "ScheduleHouse$Trial")]) [1] rfl).app hK1
  generalize H1 = H at hP hS ⊢
  have hP : va_P D vwCl [(h0, .inr (11, xfs)), (tr, .inl (ct, 2, .inr (.inr (.inr (.inr (fun _ => none)))))), (tk, .inr (9, u3)), (tx, .inl (cx, 3000, .inl fy4))] H := hP
  have hD : va_D A [(h0, .inr (11, xfs)), (tr, .inl (ct, 2, .inr (.inr (.inr (.inr (fun _ => none)))))), (tk, .inr (9, u3)), (tx, .inl (cx, 3000, .inl fy4))] := hD
  have hK : va_K D vwCl [(ct, .object "ScheduleHouse$Trial"), (cx, .byte)] s := hK
  refine lv_iinc (v := 1) (lv' := [(4, .int 1), (0, .ref h0), (1, .int 4), (2, .long p1)]) hx hb dX11_feed_70 hl (k := 0) rfl (by decide) (by decide) rfl (fun ls hl => ?_)
  refine lv_goto (tgt := 49) hx hb dX11_feed_73 (by decide) ?_
  refine lv_iload hx hb dX11_feed_49 (lv_at hl 0 rfl) ?_
  refine lv_iload_n hx hb dX11_feed_51 rfl (lv_at hl 2 rfl) ?_
  refine lv_icmp_ge (tgt := 76) hx hb dX11_feed_52 (by decide) (fun c9 => False.elim (by revert c9; decide)) (fun _ => ?_)
  refine lv_aload_n hx hb dX11_feed_55 rfl (lv_at hl 1 rfl) ?_
  refine va_get (D := D) (ci := 11) (v := .ref tk) (C := RX11) (T := TX11) (N := 13) hx hb hts i_v_c_feed_X11 hown hK hP 0 rfl rfl 0 (by decide) (hts (.fieldLink RX11 10 "ScheduleHouse" "tokens" "LScheduleHouse$Tokens;") (by decide +kernel)) (fun _ h9 => h9) hq0 dX11_feed_56 ?_
  refine lv_lload_n hx hb dX11_feed_59 rfl (lv_at hl 3 rfl) ?_
  refine lv_bipush (v := 8) hx hb dX11_feed_60 (by decide +kernel) ?_
  refine lv_iload hx hb dX11_feed_62 (lv_at hl 0 rfl) ?_
  refine lv_imul hx hb dX11_feed_64 ?_
  rw [show (8 * 1 : Int32) = 8 by decide]
  obtain ⟨z5, hz5⟩ : ∃ z : Int64, z = (p1.toUInt64 >>> ((8 : Int32).toInt64.toUInt64 &&& Int64.toUInt64 63)).toInt64 := ⟨_, rfl⟩
  refine lv_lushr (v := z5) hx hb dX11_feed_65 hz5.symm ?_
  obtain ⟨b6, hb6⟩ : ∃ z : Int32, z = z5.toInt32 := ⟨_, rfl⟩
  refine lv_l2i (v := b6) hx hb dX11_feed_66 hb6.symm ?_
  have hPc := hP.sub (ws' := [(tk, .inr (9, u3)), (tx, .inl (cx, 3000, .inl fy4))]) [2, 3] rfl
  have hDc := hD.sub (ws' := [(tk, .inr (9, u3)), (tx, .inl (cx, 3000, .inl fy4))]) [2, 3] (by decide) rfl
  have hKc := hK.sub (tys' := [(cx, .byte)]) [1] rfl
  have hFc := va_free (wc := [(tk, .inr (9, u3)), (tx, .inl (cx, 3000, .inl fy4))]) hD hS hA [2, 3] rfl
  refine va_callv (va_runV (As := [.int b6]) (rest := []) ⟨hx, hb, hml, hown, hts⟩ (c_addByte l D tk tx 1 cx u3 fy4 b6 H.size lu3 gu3_0 gu3_1 (by decide)) (cwV 1 hts g_v_c_feed_3 rfl rfl rfl (by decide +kernel) ⟨Nat.le_of_ble_eq_true rfl, Nat.le_of_ble_eq_true rfl⟩) ⟨st_blind, va_recv hKc hPc (ci := 9) (q0 := 0) rfl rfl, fun U hU hW => ⟨rfl, st_call hU hW hPc hKc hDc hZ hS hFc hE⟩⟩ rfl rfl hl.1 rfl (lv_room (Nat.le_of_ble_eq_true rfl)) dX11_feed_67 ⟨Nat.le_of_ble_eq_true rfl, Nat.le_of_ble_eq_true rfl⟩) hS (fun q _ h => hFc q h) hFc (fun  u7 t H1 locs ht hvm hw hB hz1 hk1 hS => ?_)
  have lu7 : u7.length = 10 := by rw [hw, List.length_set]; exact lu3
  have gu7_0 : u7[0]? = some (.ref tx) := by rw [hw]; exact se_ne gu3_0 (by decide)
  have gu7_1 : u7[1]? = some (.int 2) := by rw [hw]; exact se_eq (by rw [lu3]; decide)
  obtain ⟨fy8, hP1, hK1, hD1⟩ := hB
  rw [ht] at hP1
  have hK1 := va_K.moved hvm.symm hK1
  obtain ⟨hP, hD⟩ := va_join (wr := [(h0, .inr (11, xfs)), (tr, .inl (ct, 2, .inr (.inr (.inr (.inr (fun _ => none))))))]) (w1 := [(tk, .inr (9, u7)), (tx, .inl (cx, 3000, .inl fy8))]) hP hD [2, 3] [0, 1] rfl rfl (by decide) (by decide) hk1 hFc hP1 hD1
  have hK := (hK.sub (tys' := [(ct, .object "ScheduleHouse$Trial")]) [0] rfl).app hK1
  generalize H1 = H at hP hS ⊢
  have hP : va_P D vwCl [(h0, .inr (11, xfs)), (tr, .inl (ct, 2, .inr (.inr (.inr (.inr (fun _ => none)))))), (tk, .inr (9, u7)), (tx, .inl (cx, 3000, .inl fy8))] H := hP
  have hD : va_D A [(h0, .inr (11, xfs)), (tr, .inl (ct, 2, .inr (.inr (.inr (.inr (fun _ => none)))))), (tk, .inr (9, u7)), (tx, .inl (cx, 3000, .inl fy8))] := hD
  have hK : va_K D vwCl [(ct, .object "ScheduleHouse$Trial"), (cx, .byte)] s := hK
  refine lv_iinc (v := 2) (lv' := [(4, .int 2), (0, .ref h0), (1, .int 4), (2, .long p1)]) hx hb dX11_feed_70 hl (k := 0) rfl (by decide) (by decide) rfl (fun ls hl => ?_)
  refine lv_goto (tgt := 49) hx hb dX11_feed_73 (by decide) ?_
  refine lv_iload hx hb dX11_feed_49 (lv_at hl 0 rfl) ?_
  refine lv_iload_n hx hb dX11_feed_51 rfl (lv_at hl 2 rfl) ?_
  refine lv_icmp_ge (tgt := 76) hx hb dX11_feed_52 (by decide) (fun c9 => False.elim (by revert c9; decide)) (fun _ => ?_)
  refine lv_aload_n hx hb dX11_feed_55 rfl (lv_at hl 1 rfl) ?_
  refine va_get (D := D) (ci := 11) (v := .ref tk) (C := RX11) (T := TX11) (N := 13) hx hb hts i_v_c_feed_X11 hown hK hP 0 rfl rfl 0 (by decide) (hts (.fieldLink RX11 10 "ScheduleHouse" "tokens" "LScheduleHouse$Tokens;") (by decide +kernel)) (fun _ h9 => h9) hq0 dX11_feed_56 ?_
  refine lv_lload_n hx hb dX11_feed_59 rfl (lv_at hl 3 rfl) ?_
  refine lv_bipush (v := 8) hx hb dX11_feed_60 (by decide +kernel) ?_
  refine lv_iload hx hb dX11_feed_62 (lv_at hl 0 rfl) ?_
  refine lv_imul hx hb dX11_feed_64 ?_
  rw [show (8 * 2 : Int32) = 16 by decide]
  obtain ⟨z9, hz9⟩ : ∃ z : Int64, z = (p1.toUInt64 >>> ((16 : Int32).toInt64.toUInt64 &&& Int64.toUInt64 63)).toInt64 := ⟨_, rfl⟩
  refine lv_lushr (v := z9) hx hb dX11_feed_65 hz9.symm ?_
  obtain ⟨b10, hb10⟩ : ∃ z : Int32, z = z9.toInt32 := ⟨_, rfl⟩
  refine lv_l2i (v := b10) hx hb dX11_feed_66 hb10.symm ?_
  have hPc := hP.sub (ws' := [(tk, .inr (9, u7)), (tx, .inl (cx, 3000, .inl fy8))]) [2, 3] rfl
  have hDc := hD.sub (ws' := [(tk, .inr (9, u7)), (tx, .inl (cx, 3000, .inl fy8))]) [2, 3] (by decide) rfl
  have hKc := hK.sub (tys' := [(cx, .byte)]) [1] rfl
  have hFc := va_free (wc := [(tk, .inr (9, u7)), (tx, .inl (cx, 3000, .inl fy8))]) hD hS hA [2, 3] rfl
  refine va_callv (va_runV (As := [.int b10]) (rest := []) ⟨hx, hb, hml, hown, hts⟩ (c_addByte l D tk tx 2 cx u7 fy8 b10 H.size lu7 gu7_0 gu7_1 (by decide)) (cwV 1 hts g_v_c_feed_3 rfl rfl rfl (by decide +kernel) ⟨Nat.le_of_ble_eq_true rfl, Nat.le_of_ble_eq_true rfl⟩) ⟨st_blind, va_recv hKc hPc (ci := 9) (q0 := 0) rfl rfl, fun U hU hW => ⟨rfl, st_call hU hW hPc hKc hDc hZ hS hFc hE⟩⟩ rfl rfl hl.1 rfl (lv_room (Nat.le_of_ble_eq_true rfl)) dX11_feed_67 ⟨Nat.le_of_ble_eq_true rfl, Nat.le_of_ble_eq_true rfl⟩) hS (fun q _ h => hFc q h) hFc (fun  u11 t H1 locs ht hvm hw hB hz1 hk1 hS => ?_)
  have lu11 : u11.length = 10 := by rw [hw, List.length_set]; exact lu7
  have gu11_0 : u11[0]? = some (.ref tx) := by rw [hw]; exact se_ne gu7_0 (by decide)
  have gu11_1 : u11[1]? = some (.int 3) := by rw [hw]; exact se_eq (by rw [lu7]; decide)
  obtain ⟨fy12, hP1, hK1, hD1⟩ := hB
  rw [ht] at hP1
  have hK1 := va_K.moved hvm.symm hK1
  obtain ⟨hP, hD⟩ := va_join (wr := [(h0, .inr (11, xfs)), (tr, .inl (ct, 2, .inr (.inr (.inr (.inr (fun _ => none))))))]) (w1 := [(tk, .inr (9, u11)), (tx, .inl (cx, 3000, .inl fy12))]) hP hD [2, 3] [0, 1] rfl rfl (by decide) (by decide) hk1 hFc hP1 hD1
  have hK := (hK.sub (tys' := [(ct, .object "ScheduleHouse$Trial")]) [0] rfl).app hK1
  generalize H1 = H at hP hS ⊢
  have hP : va_P D vwCl [(h0, .inr (11, xfs)), (tr, .inl (ct, 2, .inr (.inr (.inr (.inr (fun _ => none)))))), (tk, .inr (9, u11)), (tx, .inl (cx, 3000, .inl fy12))] H := hP
  have hD : va_D A [(h0, .inr (11, xfs)), (tr, .inl (ct, 2, .inr (.inr (.inr (.inr (fun _ => none)))))), (tk, .inr (9, u11)), (tx, .inl (cx, 3000, .inl fy12))] := hD
  have hK : va_K D vwCl [(ct, .object "ScheduleHouse$Trial"), (cx, .byte)] s := hK
  refine lv_iinc (v := 3) (lv' := [(4, .int 3), (0, .ref h0), (1, .int 4), (2, .long p1)]) hx hb dX11_feed_70 hl (k := 0) rfl (by decide) (by decide) rfl (fun ls hl => ?_)
  refine lv_goto (tgt := 49) hx hb dX11_feed_73 (by decide) ?_
  refine lv_iload hx hb dX11_feed_49 (lv_at hl 0 rfl) ?_
  refine lv_iload_n hx hb dX11_feed_51 rfl (lv_at hl 2 rfl) ?_
  refine lv_icmp_ge (tgt := 76) hx hb dX11_feed_52 (by decide) (fun c9 => False.elim (by revert c9; decide)) (fun _ => ?_)
  refine lv_aload_n hx hb dX11_feed_55 rfl (lv_at hl 1 rfl) ?_
  refine va_get (D := D) (ci := 11) (v := .ref tk) (C := RX11) (T := TX11) (N := 13) hx hb hts i_v_c_feed_X11 hown hK hP 0 rfl rfl 0 (by decide) (hts (.fieldLink RX11 10 "ScheduleHouse" "tokens" "LScheduleHouse$Tokens;") (by decide +kernel)) (fun _ h9 => h9) hq0 dX11_feed_56 ?_
  refine lv_lload_n hx hb dX11_feed_59 rfl (lv_at hl 3 rfl) ?_
  refine lv_bipush (v := 8) hx hb dX11_feed_60 (by decide +kernel) ?_
  refine lv_iload hx hb dX11_feed_62 (lv_at hl 0 rfl) ?_
  refine lv_imul hx hb dX11_feed_64 ?_
  rw [show (8 * 3 : Int32) = 24 by decide]
  obtain ⟨z13, hz13⟩ : ∃ z : Int64, z = (p1.toUInt64 >>> ((24 : Int32).toInt64.toUInt64 &&& Int64.toUInt64 63)).toInt64 := ⟨_, rfl⟩
  refine lv_lushr (v := z13) hx hb dX11_feed_65 hz13.symm ?_
  obtain ⟨b14, hb14⟩ : ∃ z : Int32, z = z13.toInt32 := ⟨_, rfl⟩
  refine lv_l2i (v := b14) hx hb dX11_feed_66 hb14.symm ?_
  have hPc := hP.sub (ws' := [(tk, .inr (9, u11)), (tx, .inl (cx, 3000, .inl fy12))]) [2, 3] rfl
  have hDc := hD.sub (ws' := [(tk, .inr (9, u11)), (tx, .inl (cx, 3000, .inl fy12))]) [2, 3] (by decide) rfl
  have hKc := hK.sub (tys' := [(cx, .byte)]) [1] rfl
  have hFc := va_free (wc := [(tk, .inr (9, u11)), (tx, .inl (cx, 3000, .inl fy12))]) hD hS hA [2, 3] rfl
  refine va_callv (va_runV (As := [.int b14]) (rest := []) ⟨hx, hb, hml, hown, hts⟩ (c_addByte l D tk tx 3 cx u11 fy12 b14 H.size lu11 gu11_0 gu11_1 (by decide)) (cwV 1 hts g_v_c_feed_3 rfl rfl rfl (by decide +kernel) ⟨Nat.le_of_ble_eq_true rfl, Nat.le_of_ble_eq_true rfl⟩) ⟨st_blind, va_recv hKc hPc (ci := 9) (q0 := 0) rfl rfl, fun U hU hW => ⟨rfl, st_call hU hW hPc hKc hDc hZ hS hFc hE⟩⟩ rfl rfl hl.1 rfl (lv_room (Nat.le_of_ble_eq_true rfl)) dX11_feed_67 ⟨Nat.le_of_ble_eq_true rfl, Nat.le_of_ble_eq_true rfl⟩) hS (fun q _ h => hFc q h) hFc (fun  u15 t H1 locs ht hvm hw hB hz1 hk1 hS => ?_)
  have lu15 : u15.length = 10 := by rw [hw, List.length_set]; exact lu11
  have gu15_0 : u15[0]? = some (.ref tx) := by rw [hw]; exact se_ne gu11_0 (by decide)
  have gu15_1 : u15[1]? = some (.int 4) := by rw [hw]; exact se_eq (by rw [lu11]; decide)
  obtain ⟨fy16, hP1, hK1, hD1⟩ := hB
  rw [ht] at hP1
  have hK1 := va_K.moved hvm.symm hK1
  obtain ⟨hP, hD⟩ := va_join (wr := [(h0, .inr (11, xfs)), (tr, .inl (ct, 2, .inr (.inr (.inr (.inr (fun _ => none))))))]) (w1 := [(tk, .inr (9, u15)), (tx, .inl (cx, 3000, .inl fy16))]) hP hD [2, 3] [0, 1] rfl rfl (by decide) (by decide) hk1 hFc hP1 hD1
  have hK := (hK.sub (tys' := [(ct, .object "ScheduleHouse$Trial")]) [0] rfl).app hK1
  generalize H1 = H at hP hS ⊢
  have hP : va_P D vwCl [(h0, .inr (11, xfs)), (tr, .inl (ct, 2, .inr (.inr (.inr (.inr (fun _ => none)))))), (tk, .inr (9, u15)), (tx, .inl (cx, 3000, .inl fy16))] H := hP
  have hD : va_D A [(h0, .inr (11, xfs)), (tr, .inl (ct, 2, .inr (.inr (.inr (.inr (fun _ => none)))))), (tk, .inr (9, u15)), (tx, .inl (cx, 3000, .inl fy16))] := hD
  have hK : va_K D vwCl [(ct, .object "ScheduleHouse$Trial"), (cx, .byte)] s := hK
  refine lv_iinc (v := 4) (lv' := [(4, .int 4), (0, .ref h0), (1, .int 4), (2, .long p1)]) hx hb dX11_feed_70 hl (k := 0) rfl (by decide) (by decide) rfl (fun ls hl => ?_)
  refine lv_goto (tgt := 49) hx hb dX11_feed_73 (by decide) ?_
  refine lv_iload hx hb dX11_feed_49 (lv_at hl 0 rfl) ?_
  refine lv_iload_n hx hb dX11_feed_51 rfl (lv_at hl 2 rfl) ?_
  refine lv_icmp_ge (tgt := 76) hx hb dX11_feed_52 (by decide) (fun _ => ?_) (fun c9 => False.elim (by revert c9; decide))
  refine lv_aload_n hx hb dX11_feed_76 rfl (lv_at hl 1 rfl) ?_
  have hPc := hP.sub (ws' := [(h0, .inr (11, xfs)), (tr, .inl (ct, 2, .inr (.inr (.inr (.inr (fun _ => none))))))]) [0, 1] rfl
  have hDc := hD.sub (ws' := [(h0, .inr (11, xfs)), (tr, .inl (ct, 2, .inr (.inr (.inr (.inr (fun _ => none))))))]) [0, 1] (by decide) rfl
  have hKc := hK.sub (tys' := [(ct, .object "ScheduleHouse$Trial")]) [0] rfl
  have hFc := va_free (wc := [(h0, .inr (11, xfs)), (tr, .inl (ct, 2, .inr (.inr (.inr (.inr (fun _ => none))))))]) hD hS hA [0, 1] rfl
  refine va_callv (va_runV (As := []) (rest := []) ⟨hx, hb, hml, hown, hts⟩ (c_forgetAll l D h0 tr ct xfs H.size hlen hq6) (cwV 0 hts g_v_c_feed_4 rfl rfl rfl (by decide +kernel) ⟨Nat.le_of_ble_eq_true rfl, Nat.le_of_ble_eq_true rfl⟩) ⟨st_blind, va_recv hKc hPc (ci := 11) (q0 := 0) rfl rfl, fun U hU hW => ⟨rfl, st_call hU hW hPc hKc hDc hZ hS hFc hE⟩⟩ rfl rfl hl.1 rfl (lv_room (Nat.le_of_ble_eq_true rfl)) dX11_feed_77 ⟨Nat.le_of_ble_eq_true rfl, Nat.le_of_ble_eq_true rfl⟩) hS (fun q _ h => hFc q h) hFc (fun  u17 t H1 locs ht hvm hw hB hz1 hk1 hS => ?_)
  have lu17 : u17.length = 13 := by rw [hw, List.length_set, List.length_set]; exact hlen
  have gu17_0 : u17[0]? = some (.ref tk) := by rw [hw]; exact se_ne (se_ne hq0 (by decide)) (by decide)
  have gu17_6 : u17[6]? = some (.ref tr) := by rw [hw]; exact se_ne (se_ne hq6 (by decide)) (by decide)
  obtain ⟨hP1, hK1, hD1⟩ := hB
  rw [ht] at hP1
  have hK1 := va_K.moved hvm.symm hK1
  obtain ⟨hP, hD⟩ := va_join (wr := [(tk, .inr (9, u15)), (tx, .inl (cx, 3000, .inl fy16))]) (w1 := [(h0, .inr (11, u17)), (tr, .inl (ct, 2, .inr (.inr (.inr (.inr (fun _ => none))))))]) hP hD [0, 1] [2, 3] rfl rfl (by decide) (by decide) hk1 hFc hP1 hD1
  have hK := (hK.sub (tys' := [(cx, .byte)]) [1] rfl).app hK1
  generalize H1 = H at hP hS ⊢
  have hP : va_P D vwCl [(tk, .inr (9, u15)), (tx, .inl (cx, 3000, .inl fy16)), (h0, .inr (11, u17)), (tr, .inl (ct, 2, .inr (.inr (.inr (.inr (fun _ => none))))))] H := hP
  have hD : va_D A [(tk, .inr (9, u15)), (tx, .inl (cx, 3000, .inl fy16)), (h0, .inr (11, u17)), (tr, .inl (ct, 2, .inr (.inr (.inr (.inr (fun _ => none))))))] := hD
  have hK : va_K D vwCl [(cx, .byte), (ct, .object "ScheduleHouse$Trial")] s := hK
  refine lv_aload_n hx hb dX11_feed_80 rfl (lv_at hl 1 rfl) ?_
  refine va_get (D := D) (ci := 11) (v := .ref tk) (C := RX11) (T := TX11) (N := 13) hx hb hts i_v_c_feed_X11 hown hK hP 2 rfl rfl 0 (by decide) (hts (.fieldLink RX11 10 "ScheduleHouse" "tokens" "LScheduleHouse$Tokens;") (by decide +kernel)) (fun _ h9 => h9) gu17_0 dX11_feed_81 ?_
  refine va_get (D := D) (ci := 9) (v := .int 4) (C := RX9) (T := TX9) (N := 10) hx hb hts i_v_c_feed_X9 hown hK hP 0 rfl rfl 1 (by decide) (hts (.fieldLink RX11 77 "ScheduleHouse$Tokens" "length" "I") (by decide +kernel)) (fun _ h9 => h9) gu15_1 dX11_feed_84 ?_
  refine vx_ret (W.widen (k := 1) (n := 6) (Nat.le_of_ble_eq_true rfl) (Nat.le_of_ble_eq_true rfl) ?_)
  exact W.iret (v := 4) hx hb hr (fun t ht hW => ⟨⟨4, (), rfl, ⟨rfl, by decide, by decide⟩, trivial⟩, hS.F ht⟩) hS.2.2 dX11_feed_87
set_option maxHeartbeats 400000 in
set_option maxRecDepth 100000 in
/-- feed(5, bytes) of a new house -/
theorem c_feed_5 (l : Launch) (hlt : l.stackTraces = false) (D : va_G) (h0 tk tx tr : Nat) (cx ct : ClassId) (xfs tfs : List Value) (f0 : Nat → Int32) (p1 : Int64) (sz : Nat) (hlen : xfs.length = 13) (hq0 : xfs[0]? = some (.ref tk)) (hq6 : xfs[6]? = some (.ref tr)) (hlk : tfs.length = 10) (hk0 : tfs[0]? = some (.ref tx)) (hk1 : tfs[1]? = some (.int 0)) : vx_Met l yX11_feed v_c_feed ({ frames := 6, cells := 1, slots := 6, locals := 110 }) (va_Pc [.ref h0, .int 5, .long p1] (st_ D [(h0, .inr (11, xfs)), (tk, .inr (9, tfs)), (tx, .inl (cx, 3000, .inl f0)), (tr, .inl (ct, 2, .inr (.inr (.inr (.inr (fun _ => none))))))] [(cx, .byte), (ct, .object "ScheduleHouse$Trial")] sz)) (va_Qi (fun (r : Int32) (_ : Unit) => r = (5 : Int32) ∧ ¬ (5 : Int32) < 1 ∧ (5 : Int32) ≤ 8) (fun _ _ => True) (va_A [(h0, .inr (11, xfs)), (tk, .inr (9, tfs)), (tx, .inl (cx, 3000, .inl f0)), (tr, .inl (ct, 2, .inr (.inr (.inr (.inr (fun _ => none))))))] sz)) (vx_X (fun _ : Unit => True) (fun E _ _ => E = iAE ∧ ((5 : Int32) < 1 ∨ ¬ (5 : Int32) ≤ 8)) (va_A [(h0, .inr (11, xfs)), (tk, .inr (9, tfs)), (tx, .inl (cx, 3000, .inl f0)), (tr, .inl (ct, 2, .inr (.inr (.inr (.inr (fun _ => none))))))] sz)) 1 6 (va_A [(h0, .inr (11, xfs)), (tk, .inr (9, tfs)), (tx, .inl (cx, 3000, .inl f0)), (tr, .inl (ct, 2, .inr (.inr (.inr (.inr (fun _ => none))))))] sz) := by
  refine vx_ofW (cc := cX11_feed) (maxL := 5) (ret := (some .int)) (by decide) rfl ?_
  intro p e s m args below meth c s₁ B hml hno hv
  obtain ⟨rfl, hsz, hP, hK, hD0, hZ, hE⟩ := hv
  have hx := B.exec
  have hb := B.bytes
  have hr := B.returns
  have hts := atoms_spec (ws := v_c_feed) B.pre
  have hown : s.vm.findClass RX11 = some m.cls := findClass_of_methodNamed B.named
  have hlocks := B.notSynchronized
  subst hsz
  have hD := hD0.self (sz := s.heap.size)
  generalize hAe : va_A [(h0, .inr (11, xfs)), (tk, .inr (9, tfs)), (tx, .inl (cx, 3000, .inl f0)), (tr, .inl (ct, 2, .inr (.inr (.inr (.inr (fun _ => none))))))] s.heap.size = A at hD hZ ⊢
  have hA : ∀ q : Nat, s.heap.size ≤ q → A q := fun q h => by rw [← hAe]; exact Or.inr h
  have hS : va_S A s.heap s.heap [] := va_S.rf
  have hAO := hE.2.2.2.1
  have hP : va_P D vwCl [(h0, .inr (11, xfs)), (tk, .inr (9, tfs)), (tx, .inl (cx, 3000, .inl f0)), (tr, .inl (ct, 2, .inr (.inr (.inr (.inr (fun _ => none))))))] s.heap := hP
  have hl := lv_entry ([.ref h0, .int 5, .long p1]) (n := 5) (Nat.le_of_ble_eq_true rfl)
  rw [lg_entry_eq]
  generalize (lg_sl ([.ref h0, .int 5, .long p1]) ++ List.replicate (5 - (lg_sl ([.ref h0, .int 5, .long p1])).length) Slot.unset).toArray = ls at hl ⊢
  have hl : lv_has ls 5 [(0, .ref h0), (1, .int 5), (2, .long p1)] := hl
  refine lv_iload_n hx hb dX11_feed_0 rfl (lv_at hl 1 rfl) ?_
  refine lv_iconst (v := 1) hx hb dX11_feed_1 (by decide +kernel) ?_
  refine lv_icmp_lt (tgt := 11) hx hb dX11_feed_2 (by decide) (fun c9 => False.elim (by revert c9; decide)) (fun _ => ?_)
  refine lv_iload_n hx hb dX11_feed_5 rfl (lv_at hl 1 rfl) ?_
  refine lv_bipush (v := 8) hx hb dX11_feed_6 (by decide +kernel) ?_
  refine lv_icmp_le (tgt := 21) hx hb dX11_feed_8 (by decide) (fun _ => ?_) (fun c9 => False.elim (by revert c9; decide))
  refine lv_aload_n hx hb dX11_feed_21 rfl (lv_at hl 0 rfl) ?_
  refine va_get (D := D) (ci := 11) (v := .ref tk) (C := RX11) (T := TX11) (N := 13) hx hb hts i_v_c_feed_X11 hown hK hP 0 rfl rfl 0 (by decide) (hts (.fieldLink RX11 10 "ScheduleHouse" "tokens" "LScheduleHouse$Tokens;") (by decide +kernel)) (fun _ h9 => h9) hq0 dX11_feed_22 ?_
  refine va_get (D := D) (ci := 9) (v := .int 0) (C := RX9) (T := TX9) (N := 10) hx hb hts i_v_c_feed_X9 hown hK hP 1 rfl rfl 1 (by decide) (hts (.fieldLink RX11 77 "ScheduleHouse$Tokens" "length" "I") (by decide +kernel)) (fun _ h9 => h9) hk1 dX11_feed_25 ?_
  refine lv_iload_n hx hb dX11_feed_28 rfl (lv_at hl 1 rfl) ?_
  refine lv_iadd hx hb dX11_feed_29 ?_
  rw [show (0 + 5 : Int32) = 5 by decide]
  refine lv_sipush (v := 3000) hx hb dX11_feed_30 (by decide +kernel) ?_
  refine lv_icmp_le (tgt := 46) hx hb dX11_feed_33 (by decide) (fun _ => ?_) (fun c9 => False.elim (by revert c9; decide))
  refine lv_iconst (v := 0) hx hb dX11_feed_46 (by decide +kernel) ?_
  refine lv_istore (lv' := [(4, .int 0), (0, .ref h0), (1, .int 5), (2, .long p1)]) hx hb dX11_feed_47 hl (by decide) rfl (fun ls hl => ?_)
  refine lv_iload hx hb dX11_feed_49 (lv_at hl 0 rfl) ?_
  refine lv_iload_n hx hb dX11_feed_51 rfl (lv_at hl 2 rfl) ?_
  refine lv_icmp_ge (tgt := 76) hx hb dX11_feed_52 (by decide) (fun c9 => False.elim (by revert c9; decide)) (fun _ => ?_)
  refine lv_aload_n hx hb dX11_feed_55 rfl (lv_at hl 1 rfl) ?_
  refine va_get (D := D) (ci := 11) (v := .ref tk) (C := RX11) (T := TX11) (N := 13) hx hb hts i_v_c_feed_X11 hown hK hP 0 rfl rfl 0 (by decide) (hts (.fieldLink RX11 10 "ScheduleHouse" "tokens" "LScheduleHouse$Tokens;") (by decide +kernel)) (fun _ h9 => h9) hq0 dX11_feed_56 ?_
  refine lv_lload_n hx hb dX11_feed_59 rfl (lv_at hl 3 rfl) ?_
  refine lv_bipush (v := 8) hx hb dX11_feed_60 (by decide +kernel) ?_
  refine lv_iload hx hb dX11_feed_62 (lv_at hl 0 rfl) ?_
  refine lv_imul hx hb dX11_feed_64 ?_
  rw [show (8 * 0 : Int32) = 0 by decide]
  obtain ⟨z1, hz1⟩ : ∃ z : Int64, z = (p1.toUInt64 >>> ((0 : Int32).toInt64.toUInt64 &&& Int64.toUInt64 63)).toInt64 := ⟨_, rfl⟩
  refine lv_lushr (v := z1) hx hb dX11_feed_65 hz1.symm ?_
  obtain ⟨b2, hb2⟩ : ∃ z : Int32, z = z1.toInt32 := ⟨_, rfl⟩
  refine lv_l2i (v := b2) hx hb dX11_feed_66 hb2.symm ?_
  have hPc := hP.sub (ws' := [(tk, .inr (9, tfs)), (tx, .inl (cx, 3000, .inl f0))]) [1, 2] rfl
  have hDc := hD.sub (ws' := [(tk, .inr (9, tfs)), (tx, .inl (cx, 3000, .inl f0))]) [1, 2] (by decide) rfl
  have hKc := hK.sub (tys' := [(cx, .byte)]) [0] rfl
  have hFc := va_free (wc := [(tk, .inr (9, tfs)), (tx, .inl (cx, 3000, .inl f0))]) hD hS hA [1, 2] rfl
  refine va_callv (va_runV (As := [.int b2]) (rest := []) ⟨hx, hb, hml, hown, hts⟩ (c_addByte l D tk tx 0 cx tfs f0 b2 s.heap.size hlk hk0 hk1 (by decide)) (cwV 1 hts g_v_c_feed_3 rfl rfl rfl (by decide +kernel) ⟨Nat.le_of_ble_eq_true rfl, Nat.le_of_ble_eq_true rfl⟩) ⟨st_blind, va_recv hKc hPc (ci := 9) (q0 := 0) rfl rfl, fun U hU hW => ⟨rfl, st_call hU hW hPc hKc hDc hZ hS hFc hE⟩⟩ rfl rfl hl.1 rfl (lv_room (Nat.le_of_ble_eq_true rfl)) dX11_feed_67 ⟨Nat.le_of_ble_eq_true rfl, Nat.le_of_ble_eq_true rfl⟩) hS (fun q _ h => hFc q h) hFc (fun  u3 t H1 locs ht hvm hw hB hz1 hk1 hS => ?_)
  have lu3 : u3.length = 10 := by rw [hw, List.length_set]; exact hlk
  have gu3_0 : u3[0]? = some (.ref tx) := by rw [hw]; exact se_ne hk0 (by decide)
  have gu3_1 : u3[1]? = some (.int 1) := by rw [hw]; exact se_eq (by rw [hlk]; decide)
  obtain ⟨fy4, hP1, hK1, hD1⟩ := hB
  rw [ht] at hP1
  have hK1 := va_K.moved hvm.symm hK1
  obtain ⟨hP, hD⟩ := va_join (wr := [(h0, .inr (11, xfs)), (tr, .inl (ct, 2, .inr (.inr (.inr (.inr (fun _ => none))))))]) (w1 := [(tk, .inr (9, u3)), (tx, .inl (cx, 3000, .inl fy4))]) hP hD [1, 2] [0, 3] rfl rfl (by decide) (by decide) hk1 hFc hP1 hD1
  have hK := (hK.sub (tys' := [(ct, .object "ScheduleHouse$Trial")]) [1] rfl).app hK1
  generalize H1 = H at hP hS ⊢
  have hP : va_P D vwCl [(h0, .inr (11, xfs)), (tr, .inl (ct, 2, .inr (.inr (.inr (.inr (fun _ => none)))))), (tk, .inr (9, u3)), (tx, .inl (cx, 3000, .inl fy4))] H := hP
  have hD : va_D A [(h0, .inr (11, xfs)), (tr, .inl (ct, 2, .inr (.inr (.inr (.inr (fun _ => none)))))), (tk, .inr (9, u3)), (tx, .inl (cx, 3000, .inl fy4))] := hD
  have hK : va_K D vwCl [(ct, .object "ScheduleHouse$Trial"), (cx, .byte)] s := hK
  refine lv_iinc (v := 1) (lv' := [(4, .int 1), (0, .ref h0), (1, .int 5), (2, .long p1)]) hx hb dX11_feed_70 hl (k := 0) rfl (by decide) (by decide) rfl (fun ls hl => ?_)
  refine lv_goto (tgt := 49) hx hb dX11_feed_73 (by decide) ?_
  refine lv_iload hx hb dX11_feed_49 (lv_at hl 0 rfl) ?_
  refine lv_iload_n hx hb dX11_feed_51 rfl (lv_at hl 2 rfl) ?_
  refine lv_icmp_ge (tgt := 76) hx hb dX11_feed_52 (by decide) (fun c9 => False.elim (by revert c9; decide)) (fun _ => ?_)
  refine lv_aload_n hx hb dX11_feed_55 rfl (lv_at hl 1 rfl) ?_
  refine va_get (D := D) (ci := 11) (v := .ref tk) (C := RX11) (T := TX11) (N := 13) hx hb hts i_v_c_feed_X11 hown hK hP 0 rfl rfl 0 (by decide) (hts (.fieldLink RX11 10 "ScheduleHouse" "tokens" "LScheduleHouse$Tokens;") (by decide +kernel)) (fun _ h9 => h9) hq0 dX11_feed_56 ?_
  refine lv_lload_n hx hb dX11_feed_59 rfl (lv_at hl 3 rfl) ?_
  refine lv_bipush (v := 8) hx hb dX11_feed_60 (by decide +kernel) ?_
  refine lv_iload hx hb dX11_feed_62 (lv_at hl 0 rfl) ?_
  refine lv_imul hx hb dX11_feed_64 ?_
  rw [show (8 * 1 : Int32) = 8 by decide]
  obtain ⟨z5, hz5⟩ : ∃ z : Int64, z = (p1.toUInt64 >>> ((8 : Int32).toInt64.toUInt64 &&& Int64.toUInt64 63)).toInt64 := ⟨_, rfl⟩
  refine lv_lushr (v := z5) hx hb dX11_feed_65 hz5.symm ?_
  obtain ⟨b6, hb6⟩ : ∃ z : Int32, z = z5.toInt32 := ⟨_, rfl⟩
  refine lv_l2i (v := b6) hx hb dX11_feed_66 hb6.symm ?_
  have hPc := hP.sub (ws' := [(tk, .inr (9, u3)), (tx, .inl (cx, 3000, .inl fy4))]) [2, 3] rfl
  have hDc := hD.sub (ws' := [(tk, .inr (9, u3)), (tx, .inl (cx, 3000, .inl fy4))]) [2, 3] (by decide) rfl
  have hKc := hK.sub (tys' := [(cx, .byte)]) [1] rfl
  have hFc := va_free (wc := [(tk, .inr (9, u3)), (tx, .inl (cx, 3000, .inl fy4))]) hD hS hA [2, 3] rfl
  refine va_callv (va_runV (As := [.int b6]) (rest := []) ⟨hx, hb, hml, hown, hts⟩ (c_addByte l D tk tx 1 cx u3 fy4 b6 H.size lu3 gu3_0 gu3_1 (by decide)) (cwV 1 hts g_v_c_feed_3 rfl rfl rfl (by decide +kernel) ⟨Nat.le_of_ble_eq_true rfl, Nat.le_of_ble_eq_true rfl⟩) ⟨st_blind, va_recv hKc hPc (ci := 9) (q0 := 0) rfl rfl, fun U hU hW => ⟨rfl, st_call hU hW hPc hKc hDc hZ hS hFc hE⟩⟩ rfl rfl hl.1 rfl (lv_room (Nat.le_of_ble_eq_true rfl)) dX11_feed_67 ⟨Nat.le_of_ble_eq_true rfl, Nat.le_of_ble_eq_true rfl⟩) hS (fun q _ h => hFc q h) hFc (fun  u7 t H1 locs ht hvm hw hB hz1 hk1 hS => ?_)
  have lu7 : u7.length = 10 := by rw [hw, List.length_set]; exact lu3
  have gu7_0 : u7[0]? = some (.ref tx) := by rw [hw]; exact se_ne gu3_0 (by decide)
  have gu7_1 : u7[1]? = some (.int 2) := by rw [hw]; exact se_eq (by rw [lu3]; decide)
  obtain ⟨fy8, hP1, hK1, hD1⟩ := hB
  rw [ht] at hP1
  have hK1 := va_K.moved hvm.symm hK1
  obtain ⟨hP, hD⟩ := va_join (wr := [(h0, .inr (11, xfs)), (tr, .inl (ct, 2, .inr (.inr (.inr (.inr (fun _ => none))))))]) (w1 := [(tk, .inr (9, u7)), (tx, .inl (cx, 3000, .inl fy8))]) hP hD [2, 3] [0, 1] rfl rfl (by decide) (by decide) hk1 hFc hP1 hD1
  have hK := (hK.sub (tys' := [(ct, .object "ScheduleHouse$Trial")]) [0] rfl).app hK1
  generalize H1 = H at hP hS ⊢
  have hP : va_P D vwCl [(h0, .inr (11, xfs)), (tr, .inl (ct, 2, .inr (.inr (.inr (.inr (fun _ => none)))))), (tk, .inr (9, u7)), (tx, .inl (cx, 3000, .inl fy8))] H := hP
  have hD : va_D A [(h0, .inr (11, xfs)), (tr, .inl (ct, 2, .inr (.inr (.inr (.inr (fun _ => none)))))), (tk, .inr (9, u7)), (tx, .inl (cx, 3000, .inl fy8))] := hD
  have hK : va_K D vwCl [(ct, .object "ScheduleHouse$Trial"), (cx, .byte)] s := hK
  refine lv_iinc (v := 2) (lv' := [(4, .int 2), (0, .ref h0), (1, .int 5), (2, .long p1)]) hx hb dX11_feed_70 hl (k := 0) rfl (by decide) (by decide) rfl (fun ls hl => ?_)
  refine lv_goto (tgt := 49) hx hb dX11_feed_73 (by decide) ?_
  refine lv_iload hx hb dX11_feed_49 (lv_at hl 0 rfl) ?_
  refine lv_iload_n hx hb dX11_feed_51 rfl (lv_at hl 2 rfl) ?_
  refine lv_icmp_ge (tgt := 76) hx hb dX11_feed_52 (by decide) (fun c9 => False.elim (by revert c9; decide)) (fun _ => ?_)
  refine lv_aload_n hx hb dX11_feed_55 rfl (lv_at hl 1 rfl) ?_
  refine va_get (D := D) (ci := 11) (v := .ref tk) (C := RX11) (T := TX11) (N := 13) hx hb hts i_v_c_feed_X11 hown hK hP 0 rfl rfl 0 (by decide) (hts (.fieldLink RX11 10 "ScheduleHouse" "tokens" "LScheduleHouse$Tokens;") (by decide +kernel)) (fun _ h9 => h9) hq0 dX11_feed_56 ?_
  refine lv_lload_n hx hb dX11_feed_59 rfl (lv_at hl 3 rfl) ?_
  refine lv_bipush (v := 8) hx hb dX11_feed_60 (by decide +kernel) ?_
  refine lv_iload hx hb dX11_feed_62 (lv_at hl 0 rfl) ?_
  refine lv_imul hx hb dX11_feed_64 ?_
  rw [show (8 * 2 : Int32) = 16 by decide]
  obtain ⟨z9, hz9⟩ : ∃ z : Int64, z = (p1.toUInt64 >>> ((16 : Int32).toInt64.toUInt64 &&& Int64.toUInt64 63)).toInt64 := ⟨_, rfl⟩
  refine lv_lushr (v := z9) hx hb dX11_feed_65 hz9.symm ?_
  obtain ⟨b10, hb10⟩ : ∃ z : Int32, z = z9.toInt32 := ⟨_, rfl⟩
  refine lv_l2i (v := b10) hx hb dX11_feed_66 hb10.symm ?_
  have hPc := hP.sub (ws' := [(tk, .inr (9, u7)), (tx, .inl (cx, 3000, .inl fy8))]) [2, 3] rfl
  have hDc := hD.sub (ws' := [(tk, .inr (9, u7)), (tx, .inl (cx, 3000, .inl fy8))]) [2, 3] (by decide) rfl
  have hKc := hK.sub (tys' := [(cx, .byte)]) [1] rfl
  have hFc := va_free (wc := [(tk, .inr (9, u7)), (tx, .inl (cx, 3000, .inl fy8))]) hD hS hA [2, 3] rfl
  refine va_callv (va_runV (As := [.int b10]) (rest := []) ⟨hx, hb, hml, hown, hts⟩ (c_addByte l D tk tx 2 cx u7 fy8 b10 H.size lu7 gu7_0 gu7_1 (by decide)) (cwV 1 hts g_v_c_feed_3 rfl rfl rfl (by decide +kernel) ⟨Nat.le_of_ble_eq_true rfl, Nat.le_of_ble_eq_true rfl⟩) ⟨st_blind, va_recv hKc hPc (ci := 9) (q0 := 0) rfl rfl, fun U hU hW => ⟨rfl, st_call hU hW hPc hKc hDc hZ hS hFc hE⟩⟩ rfl rfl hl.1 rfl (lv_room (Nat.le_of_ble_eq_true rfl)) dX11_feed_67 ⟨Nat.le_of_ble_eq_true rfl, Nat.le_of_ble_eq_true rfl⟩) hS (fun q _ h => hFc q h) hFc (fun  u11 t H1 locs ht hvm hw hB hz1 hk1 hS => ?_)
  have lu11 : u11.length = 10 := by rw [hw, List.length_set]; exact lu7
  have gu11_0 : u11[0]? = some (.ref tx) := by rw [hw]; exact se_ne gu7_0 (by decide)
  have gu11_1 : u11[1]? = some (.int 3) := by rw [hw]; exact se_eq (by rw [lu7]; decide)
  obtain ⟨fy12, hP1, hK1, hD1⟩ := hB
  rw [ht] at hP1
  have hK1 := va_K.moved hvm.symm hK1
  obtain ⟨hP, hD⟩ := va_join (wr := [(h0, .inr (11, xfs)), (tr, .inl (ct, 2, .inr (.inr (.inr (.inr (fun _ => none))))))]) (w1 := [(tk, .inr (9, u11)), (tx, .inl (cx, 3000, .inl fy12))]) hP hD [2, 3] [0, 1] rfl rfl (by decide) (by decide) hk1 hFc hP1 hD1
  have hK := (hK.sub (tys' := [(ct, .object "ScheduleHouse$Trial")]) [0] rfl).app hK1
  generalize H1 = H at hP hS ⊢
  have hP : va_P D vwCl [(h0, .inr (11, xfs)), (tr, .inl (ct, 2, .inr (.inr (.inr (.inr (fun _ => none)))))), (tk, .inr (9, u11)), (tx, .inl (cx, 3000, .inl fy12))] H := hP
  have hD : va_D A [(h0, .inr (11, xfs)), (tr, .inl (ct, 2, .inr (.inr (.inr (.inr (fun _ => none)))))), (tk, .inr (9, u11)), (tx, .inl (cx, 3000, .inl fy12))] := hD
  have hK : va_K D vwCl [(ct, .object "ScheduleHouse$Trial"), (cx, .byte)] s := hK
  refine lv_iinc (v := 3) (lv' := [(4, .int 3), (0, .ref h0), (1, .int 5), (2, .long p1)]) hx hb dX11_feed_70 hl (k := 0) rfl (by decide) (by decide) rfl (fun ls hl => ?_)
  refine lv_goto (tgt := 49) hx hb dX11_feed_73 (by decide) ?_
  refine lv_iload hx hb dX11_feed_49 (lv_at hl 0 rfl) ?_
  refine lv_iload_n hx hb dX11_feed_51 rfl (lv_at hl 2 rfl) ?_
  refine lv_icmp_ge (tgt := 76) hx hb dX11_feed_52 (by decide) (fun c9 => False.elim (by revert c9; decide)) (fun _ => ?_)
  refine lv_aload_n hx hb dX11_feed_55 rfl (lv_at hl 1 rfl) ?_
  refine va_get (D := D) (ci := 11) (v := .ref tk) (C := RX11) (T := TX11) (N := 13) hx hb hts i_v_c_feed_X11 hown hK hP 0 rfl rfl 0 (by decide) (hts (.fieldLink RX11 10 "ScheduleHouse" "tokens" "LScheduleHouse$Tokens;") (by decide +kernel)) (fun _ h9 => h9) hq0 dX11_feed_56 ?_
  refine lv_lload_n hx hb dX11_feed_59 rfl (lv_at hl 3 rfl) ?_
  refine lv_bipush (v := 8) hx hb dX11_feed_60 (by decide +kernel) ?_
  refine lv_iload hx hb dX11_feed_62 (lv_at hl 0 rfl) ?_
  refine lv_imul hx hb dX11_feed_64 ?_
  rw [show (8 * 3 : Int32) = 24 by decide]
  obtain ⟨z13, hz13⟩ : ∃ z : Int64, z = (p1.toUInt64 >>> ((24 : Int32).toInt64.toUInt64 &&& Int64.toUInt64 63)).toInt64 := ⟨_, rfl⟩
  refine lv_lushr (v := z13) hx hb dX11_feed_65 hz13.symm ?_
  obtain ⟨b14, hb14⟩ : ∃ z : Int32, z = z13.toInt32 := ⟨_, rfl⟩
  refine lv_l2i (v := b14) hx hb dX11_feed_66 hb14.symm ?_
  have hPc := hP.sub (ws' := [(tk, .inr (9, u11)), (tx, .inl (cx, 3000, .inl fy12))]) [2, 3] rfl
  have hDc := hD.sub (ws' := [(tk, .inr (9, u11)), (tx, .inl (cx, 3000, .inl fy12))]) [2, 3] (by decide) rfl
  have hKc := hK.sub (tys' := [(cx, .byte)]) [1] rfl
  have hFc := va_free (wc := [(tk, .inr (9, u11)), (tx, .inl (cx, 3000, .inl fy12))]) hD hS hA [2, 3] rfl
  refine va_callv (va_runV (As := [.int b14]) (rest := []) ⟨hx, hb, hml, hown, hts⟩ (c_addByte l D tk tx 3 cx u11 fy12 b14 H.size lu11 gu11_0 gu11_1 (by decide)) (cwV 1 hts g_v_c_feed_3 rfl rfl rfl (by decide +kernel) ⟨Nat.le_of_ble_eq_true rfl, Nat.le_of_ble_eq_true rfl⟩) ⟨st_blind, va_recv hKc hPc (ci := 9) (q0 := 0) rfl rfl, fun U hU hW => ⟨rfl, st_call hU hW hPc hKc hDc hZ hS hFc hE⟩⟩ rfl rfl hl.1 rfl (lv_room (Nat.le_of_ble_eq_true rfl)) dX11_feed_67 ⟨Nat.le_of_ble_eq_true rfl, Nat.le_of_ble_eq_true rfl⟩) hS (fun q _ h => hFc q h) hFc (fun  u15 t H1 locs ht hvm hw hB hz1 hk1 hS => ?_)
  have lu15 : u15.length = 10 := by rw [hw, List.length_set]; exact lu11
  have gu15_0 : u15[0]? = some (.ref tx) := by rw [hw]; exact se_ne gu11_0 (by decide)
  have gu15_1 : u15[1]? = some (.int 4) := by rw [hw]; exact se_eq (by rw [lu11]; decide)
  obtain ⟨fy16, hP1, hK1, hD1⟩ := hB
  rw [ht] at hP1
  have hK1 := va_K.moved hvm.symm hK1
  obtain ⟨hP, hD⟩ := va_join (wr := [(h0, .inr (11, xfs)), (tr, .inl (ct, 2, .inr (.inr (.inr (.inr (fun _ => none))))))]) (w1 := [(tk, .inr (9, u15)), (tx, .inl (cx, 3000, .inl fy16))]) hP hD [2, 3] [0, 1] rfl rfl (by decide) (by decide) hk1 hFc hP1 hD1
  have hK := (hK.sub (tys' := [(ct, .object "ScheduleHouse$Trial")]) [0] rfl).app hK1
  generalize H1 = H at hP hS ⊢
  have hP : va_P D vwCl [(h0, .inr (11, xfs)), (tr, .inl (ct, 2, .inr (.inr (.inr (.inr (fun _ => none)))))), (tk, .inr (9, u15)), (tx, .inl (cx, 3000, .inl fy16))] H := hP
  have hD : va_D A [(h0, .inr (11, xfs)), (tr, .inl (ct, 2, .inr (.inr (.inr (.inr (fun _ => none)))))), (tk, .inr (9, u15)), (tx, .inl (cx, 3000, .inl fy16))] := hD
  have hK : va_K D vwCl [(ct, .object "ScheduleHouse$Trial"), (cx, .byte)] s := hK
  refine lv_iinc (v := 4) (lv' := [(4, .int 4), (0, .ref h0), (1, .int 5), (2, .long p1)]) hx hb dX11_feed_70 hl (k := 0) rfl (by decide) (by decide) rfl (fun ls hl => ?_)
  refine lv_goto (tgt := 49) hx hb dX11_feed_73 (by decide) ?_
  refine lv_iload hx hb dX11_feed_49 (lv_at hl 0 rfl) ?_
  refine lv_iload_n hx hb dX11_feed_51 rfl (lv_at hl 2 rfl) ?_
  refine lv_icmp_ge (tgt := 76) hx hb dX11_feed_52 (by decide) (fun c9 => False.elim (by revert c9; decide)) (fun _ => ?_)
  refine lv_aload_n hx hb dX11_feed_55 rfl (lv_at hl 1 rfl) ?_
  refine va_get (D := D) (ci := 11) (v := .ref tk) (C := RX11) (T := TX11) (N := 13) hx hb hts i_v_c_feed_X11 hown hK hP 0 rfl rfl 0 (by decide) (hts (.fieldLink RX11 10 "ScheduleHouse" "tokens" "LScheduleHouse$Tokens;") (by decide +kernel)) (fun _ h9 => h9) hq0 dX11_feed_56 ?_
  refine lv_lload_n hx hb dX11_feed_59 rfl (lv_at hl 3 rfl) ?_
  refine lv_bipush (v := 8) hx hb dX11_feed_60 (by decide +kernel) ?_
  refine lv_iload hx hb dX11_feed_62 (lv_at hl 0 rfl) ?_
  refine lv_imul hx hb dX11_feed_64 ?_
  rw [show (8 * 4 : Int32) = 32 by decide]
  obtain ⟨z17, hz17⟩ : ∃ z : Int64, z = (p1.toUInt64 >>> ((32 : Int32).toInt64.toUInt64 &&& Int64.toUInt64 63)).toInt64 := ⟨_, rfl⟩
  refine lv_lushr (v := z17) hx hb dX11_feed_65 hz17.symm ?_
  obtain ⟨b18, hb18⟩ : ∃ z : Int32, z = z17.toInt32 := ⟨_, rfl⟩
  refine lv_l2i (v := b18) hx hb dX11_feed_66 hb18.symm ?_
  have hPc := hP.sub (ws' := [(tk, .inr (9, u15)), (tx, .inl (cx, 3000, .inl fy16))]) [2, 3] rfl
  have hDc := hD.sub (ws' := [(tk, .inr (9, u15)), (tx, .inl (cx, 3000, .inl fy16))]) [2, 3] (by decide) rfl
  have hKc := hK.sub (tys' := [(cx, .byte)]) [1] rfl
  have hFc := va_free (wc := [(tk, .inr (9, u15)), (tx, .inl (cx, 3000, .inl fy16))]) hD hS hA [2, 3] rfl
  refine va_callv (va_runV (As := [.int b18]) (rest := []) ⟨hx, hb, hml, hown, hts⟩ (c_addByte l D tk tx 4 cx u15 fy16 b18 H.size lu15 gu15_0 gu15_1 (by decide)) (cwV 1 hts g_v_c_feed_3 rfl rfl rfl (by decide +kernel) ⟨Nat.le_of_ble_eq_true rfl, Nat.le_of_ble_eq_true rfl⟩) ⟨st_blind, va_recv hKc hPc (ci := 9) (q0 := 0) rfl rfl, fun U hU hW => ⟨rfl, st_call hU hW hPc hKc hDc hZ hS hFc hE⟩⟩ rfl rfl hl.1 rfl (lv_room (Nat.le_of_ble_eq_true rfl)) dX11_feed_67 ⟨Nat.le_of_ble_eq_true rfl, Nat.le_of_ble_eq_true rfl⟩) hS (fun q _ h => hFc q h) hFc (fun  u19 t H1 locs ht hvm hw hB hz1 hk1 hS => ?_)
  have lu19 : u19.length = 10 := by rw [hw, List.length_set]; exact lu15
  have gu19_0 : u19[0]? = some (.ref tx) := by rw [hw]; exact se_ne gu15_0 (by decide)
  have gu19_1 : u19[1]? = some (.int 5) := by rw [hw]; exact se_eq (by rw [lu15]; decide)
  obtain ⟨fy20, hP1, hK1, hD1⟩ := hB
  rw [ht] at hP1
  have hK1 := va_K.moved hvm.symm hK1
  obtain ⟨hP, hD⟩ := va_join (wr := [(h0, .inr (11, xfs)), (tr, .inl (ct, 2, .inr (.inr (.inr (.inr (fun _ => none))))))]) (w1 := [(tk, .inr (9, u19)), (tx, .inl (cx, 3000, .inl fy20))]) hP hD [2, 3] [0, 1] rfl rfl (by decide) (by decide) hk1 hFc hP1 hD1
  have hK := (hK.sub (tys' := [(ct, .object "ScheduleHouse$Trial")]) [0] rfl).app hK1
  generalize H1 = H at hP hS ⊢
  have hP : va_P D vwCl [(h0, .inr (11, xfs)), (tr, .inl (ct, 2, .inr (.inr (.inr (.inr (fun _ => none)))))), (tk, .inr (9, u19)), (tx, .inl (cx, 3000, .inl fy20))] H := hP
  have hD : va_D A [(h0, .inr (11, xfs)), (tr, .inl (ct, 2, .inr (.inr (.inr (.inr (fun _ => none)))))), (tk, .inr (9, u19)), (tx, .inl (cx, 3000, .inl fy20))] := hD
  have hK : va_K D vwCl [(ct, .object "ScheduleHouse$Trial"), (cx, .byte)] s := hK
  refine lv_iinc (v := 5) (lv' := [(4, .int 5), (0, .ref h0), (1, .int 5), (2, .long p1)]) hx hb dX11_feed_70 hl (k := 0) rfl (by decide) (by decide) rfl (fun ls hl => ?_)
  refine lv_goto (tgt := 49) hx hb dX11_feed_73 (by decide) ?_
  refine lv_iload hx hb dX11_feed_49 (lv_at hl 0 rfl) ?_
  refine lv_iload_n hx hb dX11_feed_51 rfl (lv_at hl 2 rfl) ?_
  refine lv_icmp_ge (tgt := 76) hx hb dX11_feed_52 (by decide) (fun _ => ?_) (fun c9 => False.elim (by revert c9; decide))
  refine lv_aload_n hx hb dX11_feed_76 rfl (lv_at hl 1 rfl) ?_
  have hPc := hP.sub (ws' := [(h0, .inr (11, xfs)), (tr, .inl (ct, 2, .inr (.inr (.inr (.inr (fun _ => none))))))]) [0, 1] rfl
  have hDc := hD.sub (ws' := [(h0, .inr (11, xfs)), (tr, .inl (ct, 2, .inr (.inr (.inr (.inr (fun _ => none))))))]) [0, 1] (by decide) rfl
  have hKc := hK.sub (tys' := [(ct, .object "ScheduleHouse$Trial")]) [0] rfl
  have hFc := va_free (wc := [(h0, .inr (11, xfs)), (tr, .inl (ct, 2, .inr (.inr (.inr (.inr (fun _ => none))))))]) hD hS hA [0, 1] rfl
  refine va_callv (va_runV (As := []) (rest := []) ⟨hx, hb, hml, hown, hts⟩ (c_forgetAll l D h0 tr ct xfs H.size hlen hq6) (cwV 0 hts g_v_c_feed_4 rfl rfl rfl (by decide +kernel) ⟨Nat.le_of_ble_eq_true rfl, Nat.le_of_ble_eq_true rfl⟩) ⟨st_blind, va_recv hKc hPc (ci := 11) (q0 := 0) rfl rfl, fun U hU hW => ⟨rfl, st_call hU hW hPc hKc hDc hZ hS hFc hE⟩⟩ rfl rfl hl.1 rfl (lv_room (Nat.le_of_ble_eq_true rfl)) dX11_feed_77 ⟨Nat.le_of_ble_eq_true rfl, Nat.le_of_ble_eq_true rfl⟩) hS (fun q _ h => hFc q h) hFc (fun  u21 t H1 locs ht hvm hw hB hz1 hk1 hS => ?_)
  have lu21 : u21.length = 13 := by rw [hw, List.length_set, List.length_set]; exact hlen
  have gu21_0 : u21[0]? = some (.ref tk) := by rw [hw]; exact se_ne (se_ne hq0 (by decide)) (by decide)
  have gu21_6 : u21[6]? = some (.ref tr) := by rw [hw]; exact se_ne (se_ne hq6 (by decide)) (by decide)
  obtain ⟨hP1, hK1, hD1⟩ := hB
  rw [ht] at hP1
  have hK1 := va_K.moved hvm.symm hK1
  obtain ⟨hP, hD⟩ := va_join (wr := [(tk, .inr (9, u19)), (tx, .inl (cx, 3000, .inl fy20))]) (w1 := [(h0, .inr (11, u21)), (tr, .inl (ct, 2, .inr (.inr (.inr (.inr (fun _ => none))))))]) hP hD [0, 1] [2, 3] rfl rfl (by decide) (by decide) hk1 hFc hP1 hD1
  have hK := (hK.sub (tys' := [(cx, .byte)]) [1] rfl).app hK1
  generalize H1 = H at hP hS ⊢
  have hP : va_P D vwCl [(tk, .inr (9, u19)), (tx, .inl (cx, 3000, .inl fy20)), (h0, .inr (11, u21)), (tr, .inl (ct, 2, .inr (.inr (.inr (.inr (fun _ => none))))))] H := hP
  have hD : va_D A [(tk, .inr (9, u19)), (tx, .inl (cx, 3000, .inl fy20)), (h0, .inr (11, u21)), (tr, .inl (ct, 2, .inr (.inr (.inr (.inr (fun _ => none))))))] := hD
  have hK : va_K D vwCl [(cx, .byte), (ct, .object "ScheduleHouse$Trial")] s := hK
  refine lv_aload_n hx hb dX11_feed_80 rfl (lv_at hl 1 rfl) ?_
  refine va_get (D := D) (ci := 11) (v := .ref tk) (C := RX11) (T := TX11) (N := 13) hx hb hts i_v_c_feed_X11 hown hK hP 2 rfl rfl 0 (by decide) (hts (.fieldLink RX11 10 "ScheduleHouse" "tokens" "LScheduleHouse$Tokens;") (by decide +kernel)) (fun _ h9 => h9) gu21_0 dX11_feed_81 ?_
  refine va_get (D := D) (ci := 9) (v := .int 5) (C := RX9) (T := TX9) (N := 10) hx hb hts i_v_c_feed_X9 hown hK hP 0 rfl rfl 1 (by decide) (hts (.fieldLink RX11 77 "ScheduleHouse$Tokens" "length" "I") (by decide +kernel)) (fun _ h9 => h9) gu19_1 dX11_feed_84 ?_
  refine vx_ret (W.widen (k := 1) (n := 6) (Nat.le_of_ble_eq_true rfl) (Nat.le_of_ble_eq_true rfl) ?_)
  exact W.iret (v := 5) hx hb hr (fun t ht hW => ⟨⟨5, (), rfl, ⟨rfl, by decide, by decide⟩, trivial⟩, hS.F ht⟩) hS.2.2 dX11_feed_87
set_option maxHeartbeats 400000 in
set_option maxRecDepth 100000 in
/-- feed(6, bytes) of a new house -/
theorem c_feed_6 (l : Launch) (hlt : l.stackTraces = false) (D : va_G) (h0 tk tx tr : Nat) (cx ct : ClassId) (xfs tfs : List Value) (f0 : Nat → Int32) (p1 : Int64) (sz : Nat) (hlen : xfs.length = 13) (hq0 : xfs[0]? = some (.ref tk)) (hq6 : xfs[6]? = some (.ref tr)) (hlk : tfs.length = 10) (hk0 : tfs[0]? = some (.ref tx)) (hk1 : tfs[1]? = some (.int 0)) : vx_Met l yX11_feed v_c_feed ({ frames := 6, cells := 1, slots := 6, locals := 110 }) (va_Pc [.ref h0, .int 6, .long p1] (st_ D [(h0, .inr (11, xfs)), (tk, .inr (9, tfs)), (tx, .inl (cx, 3000, .inl f0)), (tr, .inl (ct, 2, .inr (.inr (.inr (.inr (fun _ => none))))))] [(cx, .byte), (ct, .object "ScheduleHouse$Trial")] sz)) (va_Qi (fun (r : Int32) (_ : Unit) => r = (6 : Int32) ∧ ¬ (6 : Int32) < 1 ∧ (6 : Int32) ≤ 8) (fun _ _ => True) (va_A [(h0, .inr (11, xfs)), (tk, .inr (9, tfs)), (tx, .inl (cx, 3000, .inl f0)), (tr, .inl (ct, 2, .inr (.inr (.inr (.inr (fun _ => none))))))] sz)) (vx_X (fun _ : Unit => True) (fun E _ _ => E = iAE ∧ ((6 : Int32) < 1 ∨ ¬ (6 : Int32) ≤ 8)) (va_A [(h0, .inr (11, xfs)), (tk, .inr (9, tfs)), (tx, .inl (cx, 3000, .inl f0)), (tr, .inl (ct, 2, .inr (.inr (.inr (.inr (fun _ => none))))))] sz)) 1 6 (va_A [(h0, .inr (11, xfs)), (tk, .inr (9, tfs)), (tx, .inl (cx, 3000, .inl f0)), (tr, .inl (ct, 2, .inr (.inr (.inr (.inr (fun _ => none))))))] sz) := by
  refine vx_ofW (cc := cX11_feed) (maxL := 5) (ret := (some .int)) (by decide) rfl ?_
  intro p e s m args below meth c s₁ B hml hno hv
  obtain ⟨rfl, hsz, hP, hK, hD0, hZ, hE⟩ := hv
  have hx := B.exec
  have hb := B.bytes
  have hr := B.returns
  have hts := atoms_spec (ws := v_c_feed) B.pre
  have hown : s.vm.findClass RX11 = some m.cls := findClass_of_methodNamed B.named
  have hlocks := B.notSynchronized
  subst hsz
  have hD := hD0.self (sz := s.heap.size)
  generalize hAe : va_A [(h0, .inr (11, xfs)), (tk, .inr (9, tfs)), (tx, .inl (cx, 3000, .inl f0)), (tr, .inl (ct, 2, .inr (.inr (.inr (.inr (fun _ => none))))))] s.heap.size = A at hD hZ ⊢
  have hA : ∀ q : Nat, s.heap.size ≤ q → A q := fun q h => by rw [← hAe]; exact Or.inr h
  have hS : va_S A s.heap s.heap [] := va_S.rf
  have hAO := hE.2.2.2.1
  have hP : va_P D vwCl [(h0, .inr (11, xfs)), (tk, .inr (9, tfs)), (tx, .inl (cx, 3000, .inl f0)), (tr, .inl (ct, 2, .inr (.inr (.inr (.inr (fun _ => none))))))] s.heap := hP
  have hl := lv_entry ([.ref h0, .int 6, .long p1]) (n := 5) (Nat.le_of_ble_eq_true rfl)
  rw [lg_entry_eq]
  generalize (lg_sl ([.ref h0, .int 6, .long p1]) ++ List.replicate (5 - (lg_sl ([.ref h0, .int 6, .long p1])).length) Slot.unset).toArray = ls at hl ⊢
  have hl : lv_has ls 5 [(0, .ref h0), (1, .int 6), (2, .long p1)] := hl
  refine lv_iload_n hx hb dX11_feed_0 rfl (lv_at hl 1 rfl) ?_
  refine lv_iconst (v := 1) hx hb dX11_feed_1 (by decide +kernel) ?_
  refine lv_icmp_lt (tgt := 11) hx hb dX11_feed_2 (by decide) (fun c9 => False.elim (by revert c9; decide)) (fun _ => ?_)
  refine lv_iload_n hx hb dX11_feed_5 rfl (lv_at hl 1 rfl) ?_
  refine lv_bipush (v := 8) hx hb dX11_feed_6 (by decide +kernel) ?_
  refine lv_icmp_le (tgt := 21) hx hb dX11_feed_8 (by decide) (fun _ => ?_) (fun c9 => False.elim (by revert c9; decide))
  refine lv_aload_n hx hb dX11_feed_21 rfl (lv_at hl 0 rfl) ?_
  refine va_get (D := D) (ci := 11) (v := .ref tk) (C := RX11) (T := TX11) (N := 13) hx hb hts i_v_c_feed_X11 hown hK hP 0 rfl rfl 0 (by decide) (hts (.fieldLink RX11 10 "ScheduleHouse" "tokens" "LScheduleHouse$Tokens;") (by decide +kernel)) (fun _ h9 => h9) hq0 dX11_feed_22 ?_
  refine va_get (D := D) (ci := 9) (v := .int 0) (C := RX9) (T := TX9) (N := 10) hx hb hts i_v_c_feed_X9 hown hK hP 1 rfl rfl 1 (by decide) (hts (.fieldLink RX11 77 "ScheduleHouse$Tokens" "length" "I") (by decide +kernel)) (fun _ h9 => h9) hk1 dX11_feed_25 ?_
  refine lv_iload_n hx hb dX11_feed_28 rfl (lv_at hl 1 rfl) ?_
  refine lv_iadd hx hb dX11_feed_29 ?_
  rw [show (0 + 6 : Int32) = 6 by decide]
  refine lv_sipush (v := 3000) hx hb dX11_feed_30 (by decide +kernel) ?_
  refine lv_icmp_le (tgt := 46) hx hb dX11_feed_33 (by decide) (fun _ => ?_) (fun c9 => False.elim (by revert c9; decide))
  refine lv_iconst (v := 0) hx hb dX11_feed_46 (by decide +kernel) ?_
  refine lv_istore (lv' := [(4, .int 0), (0, .ref h0), (1, .int 6), (2, .long p1)]) hx hb dX11_feed_47 hl (by decide) rfl (fun ls hl => ?_)
  refine lv_iload hx hb dX11_feed_49 (lv_at hl 0 rfl) ?_
  refine lv_iload_n hx hb dX11_feed_51 rfl (lv_at hl 2 rfl) ?_
  refine lv_icmp_ge (tgt := 76) hx hb dX11_feed_52 (by decide) (fun c9 => False.elim (by revert c9; decide)) (fun _ => ?_)
  refine lv_aload_n hx hb dX11_feed_55 rfl (lv_at hl 1 rfl) ?_
  refine va_get (D := D) (ci := 11) (v := .ref tk) (C := RX11) (T := TX11) (N := 13) hx hb hts i_v_c_feed_X11 hown hK hP 0 rfl rfl 0 (by decide) (hts (.fieldLink RX11 10 "ScheduleHouse" "tokens" "LScheduleHouse$Tokens;") (by decide +kernel)) (fun _ h9 => h9) hq0 dX11_feed_56 ?_
  refine lv_lload_n hx hb dX11_feed_59 rfl (lv_at hl 3 rfl) ?_
  refine lv_bipush (v := 8) hx hb dX11_feed_60 (by decide +kernel) ?_
  refine lv_iload hx hb dX11_feed_62 (lv_at hl 0 rfl) ?_
  refine lv_imul hx hb dX11_feed_64 ?_
  rw [show (8 * 0 : Int32) = 0 by decide]
  obtain ⟨z1, hz1⟩ : ∃ z : Int64, z = (p1.toUInt64 >>> ((0 : Int32).toInt64.toUInt64 &&& Int64.toUInt64 63)).toInt64 := ⟨_, rfl⟩
  refine lv_lushr (v := z1) hx hb dX11_feed_65 hz1.symm ?_
  obtain ⟨b2, hb2⟩ : ∃ z : Int32, z = z1.toInt32 := ⟨_, rfl⟩
  refine lv_l2i (v := b2) hx hb dX11_feed_66 hb2.symm ?_
  have hPc := hP.sub (ws' := [(tk, .inr (9, tfs)), (tx, .inl (cx, 3000, .inl f0))]) [1, 2] rfl
  have hDc := hD.sub (ws' := [(tk, .inr (9, tfs)), (tx, .inl (cx, 3000, .inl f0))]) [1, 2] (by decide) rfl
  have hKc := hK.sub (tys' := [(cx, .byte)]) [0] rfl
  have hFc := va_free (wc := [(tk, .inr (9, tfs)), (tx, .inl (cx, 3000, .inl f0))]) hD hS hA [1, 2] rfl
  refine va_callv (va_runV (As := [.int b2]) (rest := []) ⟨hx, hb, hml, hown, hts⟩ (c_addByte l D tk tx 0 cx tfs f0 b2 s.heap.size hlk hk0 hk1 (by decide)) (cwV 1 hts g_v_c_feed_3 rfl rfl rfl (by decide +kernel) ⟨Nat.le_of_ble_eq_true rfl, Nat.le_of_ble_eq_true rfl⟩) ⟨st_blind, va_recv hKc hPc (ci := 9) (q0 := 0) rfl rfl, fun U hU hW => ⟨rfl, st_call hU hW hPc hKc hDc hZ hS hFc hE⟩⟩ rfl rfl hl.1 rfl (lv_room (Nat.le_of_ble_eq_true rfl)) dX11_feed_67 ⟨Nat.le_of_ble_eq_true rfl, Nat.le_of_ble_eq_true rfl⟩) hS (fun q _ h => hFc q h) hFc (fun  u3 t H1 locs ht hvm hw hB hz1 hk1 hS => ?_)
  have lu3 : u3.length = 10 := by rw [hw, List.length_set]; exact hlk
  have gu3_0 : u3[0]? = some (.ref tx) := by rw [hw]; exact se_ne hk0 (by decide)
  have gu3_1 : u3[1]? = some (.int 1) := by rw [hw]; exact se_eq (by rw [hlk]; decide)
  obtain ⟨fy4, hP1, hK1, hD1⟩ := hB
  rw [ht] at hP1
  have hK1 := va_K.moved hvm.symm hK1
  obtain ⟨hP, hD⟩ := va_join (wr := [(h0, .inr (11, xfs)), (tr, .inl (ct, 2, .inr (.inr (.inr (.inr (fun _ => none))))))]) (w1 := [(tk, .inr (9, u3)), (tx, .inl (cx, 3000, .inl fy4))]) hP hD [1, 2] [0, 3] rfl rfl (by decide) (by decide) hk1 hFc hP1 hD1
  have hK := (hK.sub (tys' := [(ct, .object "ScheduleHouse$Trial")]) [1] rfl).app hK1
  generalize H1 = H at hP hS ⊢
  have hP : va_P D vwCl [(h0, .inr (11, xfs)), (tr, .inl (ct, 2, .inr (.inr (.inr (.inr (fun _ => none)))))), (tk, .inr (9, u3)), (tx, .inl (cx, 3000, .inl fy4))] H := hP
  have hD : va_D A [(h0, .inr (11, xfs)), (tr, .inl (ct, 2, .inr (.inr (.inr (.inr (fun _ => none)))))), (tk, .inr (9, u3)), (tx, .inl (cx, 3000, .inl fy4))] := hD
  have hK : va_K D vwCl [(ct, .object "ScheduleHouse$Trial"), (cx, .byte)] s := hK
  refine lv_iinc (v := 1) (lv' := [(4, .int 1), (0, .ref h0), (1, .int 6), (2, .long p1)]) hx hb dX11_feed_70 hl (k := 0) rfl (by decide) (by decide) rfl (fun ls hl => ?_)
  refine lv_goto (tgt := 49) hx hb dX11_feed_73 (by decide) ?_
  refine lv_iload hx hb dX11_feed_49 (lv_at hl 0 rfl) ?_
  refine lv_iload_n hx hb dX11_feed_51 rfl (lv_at hl 2 rfl) ?_
  refine lv_icmp_ge (tgt := 76) hx hb dX11_feed_52 (by decide) (fun c9 => False.elim (by revert c9; decide)) (fun _ => ?_)
  refine lv_aload_n hx hb dX11_feed_55 rfl (lv_at hl 1 rfl) ?_
  refine va_get (D := D) (ci := 11) (v := .ref tk) (C := RX11) (T := TX11) (N := 13) hx hb hts i_v_c_feed_X11 hown hK hP 0 rfl rfl 0 (by decide) (hts (.fieldLink RX11 10 "ScheduleHouse" "tokens" "LScheduleHouse$Tokens;") (by decide +kernel)) (fun _ h9 => h9) hq0 dX11_feed_56 ?_
  refine lv_lload_n hx hb dX11_feed_59 rfl (lv_at hl 3 rfl) ?_
  refine lv_bipush (v := 8) hx hb dX11_feed_60 (by decide +kernel) ?_
  refine lv_iload hx hb dX11_feed_62 (lv_at hl 0 rfl) ?_
  refine lv_imul hx hb dX11_feed_64 ?_
  rw [show (8 * 1 : Int32) = 8 by decide]
  obtain ⟨z5, hz5⟩ : ∃ z : Int64, z = (p1.toUInt64 >>> ((8 : Int32).toInt64.toUInt64 &&& Int64.toUInt64 63)).toInt64 := ⟨_, rfl⟩
  refine lv_lushr (v := z5) hx hb dX11_feed_65 hz5.symm ?_
  obtain ⟨b6, hb6⟩ : ∃ z : Int32, z = z5.toInt32 := ⟨_, rfl⟩
  refine lv_l2i (v := b6) hx hb dX11_feed_66 hb6.symm ?_
  have hPc := hP.sub (ws' := [(tk, .inr (9, u3)), (tx, .inl (cx, 3000, .inl fy4))]) [2, 3] rfl
  have hDc := hD.sub (ws' := [(tk, .inr (9, u3)), (tx, .inl (cx, 3000, .inl fy4))]) [2, 3] (by decide) rfl
  have hKc := hK.sub (tys' := [(cx, .byte)]) [1] rfl
  have hFc := va_free (wc := [(tk, .inr (9, u3)), (tx, .inl (cx, 3000, .inl fy4))]) hD hS hA [2, 3] rfl
  refine va_callv (va_runV (As := [.int b6]) (rest := []) ⟨hx, hb, hml, hown, hts⟩ (c_addByte l D tk tx 1 cx u3 fy4 b6 H.size lu3 gu3_0 gu3_1 (by decide)) (cwV 1 hts g_v_c_feed_3 rfl rfl rfl (by decide +kernel) ⟨Nat.le_of_ble_eq_true rfl, Nat.le_of_ble_eq_true rfl⟩) ⟨st_blind, va_recv hKc hPc (ci := 9) (q0 := 0) rfl rfl, fun U hU hW => ⟨rfl, st_call hU hW hPc hKc hDc hZ hS hFc hE⟩⟩ rfl rfl hl.1 rfl (lv_room (Nat.le_of_ble_eq_true rfl)) dX11_feed_67 ⟨Nat.le_of_ble_eq_true rfl, Nat.le_of_ble_eq_true rfl⟩) hS (fun q _ h => hFc q h) hFc (fun  u7 t H1 locs ht hvm hw hB hz1 hk1 hS => ?_)
  have lu7 : u7.length = 10 := by rw [hw, List.length_set]; exact lu3
  have gu7_0 : u7[0]? = some (.ref tx) := by rw [hw]; exact se_ne gu3_0 (by decide)
  have gu7_1 : u7[1]? = some (.int 2) := by rw [hw]; exact se_eq (by rw [lu3]; decide)
  obtain ⟨fy8, hP1, hK1, hD1⟩ := hB
  rw [ht] at hP1
  have hK1 := va_K.moved hvm.symm hK1
  obtain ⟨hP, hD⟩ := va_join (wr := [(h0, .inr (11, xfs)), (tr, .inl (ct, 2, .inr (.inr (.inr (.inr (fun _ => none))))))]) (w1 := [(tk, .inr (9, u7)), (tx, .inl (cx, 3000, .inl fy8))]) hP hD [2, 3] [0, 1] rfl rfl (by decide) (by decide) hk1 hFc hP1 hD1
  have hK := (hK.sub (tys' := [(ct, .object "ScheduleHouse$Trial")]) [0] rfl).app hK1
  generalize H1 = H at hP hS ⊢
  have hP : va_P D vwCl [(h0, .inr (11, xfs)), (tr, .inl (ct, 2, .inr (.inr (.inr (.inr (fun _ => none)))))), (tk, .inr (9, u7)), (tx, .inl (cx, 3000, .inl fy8))] H := hP
  have hD : va_D A [(h0, .inr (11, xfs)), (tr, .inl (ct, 2, .inr (.inr (.inr (.inr (fun _ => none)))))), (tk, .inr (9, u7)), (tx, .inl (cx, 3000, .inl fy8))] := hD
  have hK : va_K D vwCl [(ct, .object "ScheduleHouse$Trial"), (cx, .byte)] s := hK
  refine lv_iinc (v := 2) (lv' := [(4, .int 2), (0, .ref h0), (1, .int 6), (2, .long p1)]) hx hb dX11_feed_70 hl (k := 0) rfl (by decide) (by decide) rfl (fun ls hl => ?_)
  refine lv_goto (tgt := 49) hx hb dX11_feed_73 (by decide) ?_
  refine lv_iload hx hb dX11_feed_49 (lv_at hl 0 rfl) ?_
  refine lv_iload_n hx hb dX11_feed_51 rfl (lv_at hl 2 rfl) ?_
  refine lv_icmp_ge (tgt := 76) hx hb dX11_feed_52 (by decide) (fun c9 => False.elim (by revert c9; decide)) (fun _ => ?_)
  refine lv_aload_n hx hb dX11_feed_55 rfl (lv_at hl 1 rfl) ?_
  refine va_get (D := D) (ci := 11) (v := .ref tk) (C := RX11) (T := TX11) (N := 13) hx hb hts i_v_c_feed_X11 hown hK hP 0 rfl rfl 0 (by decide) (hts (.fieldLink RX11 10 "ScheduleHouse" "tokens" "LScheduleHouse$Tokens;") (by decide +kernel)) (fun _ h9 => h9) hq0 dX11_feed_56 ?_
  refine lv_lload_n hx hb dX11_feed_59 rfl (lv_at hl 3 rfl) ?_
  refine lv_bipush (v := 8) hx hb dX11_feed_60 (by decide +kernel) ?_
  refine lv_iload hx hb dX11_feed_62 (lv_at hl 0 rfl) ?_
  refine lv_imul hx hb dX11_feed_64 ?_
  rw [show (8 * 2 : Int32) = 16 by decide]
  obtain ⟨z9, hz9⟩ : ∃ z : Int64, z = (p1.toUInt64 >>> ((16 : Int32).toInt64.toUInt64 &&& Int64.toUInt64 63)).toInt64 := ⟨_, rfl⟩
  refine lv_lushr (v := z9) hx hb dX11_feed_65 hz9.symm ?_
  obtain ⟨b10, hb10⟩ : ∃ z : Int32, z = z9.toInt32 := ⟨_, rfl⟩
  refine lv_l2i (v := b10) hx hb dX11_feed_66 hb10.symm ?_
  have hPc := hP.sub (ws' := [(tk, .inr (9, u7)), (tx, .inl (cx, 3000, .inl fy8))]) [2, 3] rfl
  have hDc := hD.sub (ws' := [(tk, .inr (9, u7)), (tx, .inl (cx, 3000, .inl fy8))]) [2, 3] (by decide) rfl
  have hKc := hK.sub (tys' := [(cx, .byte)]) [1] rfl
  have hFc := va_free (wc := [(tk, .inr (9, u7)), (tx, .inl (cx, 3000, .inl fy8))]) hD hS hA [2, 3] rfl
  refine va_callv (va_runV (As := [.int b10]) (rest := []) ⟨hx, hb, hml, hown, hts⟩ (c_addByte l D tk tx 2 cx u7 fy8 b10 H.size lu7 gu7_0 gu7_1 (by decide)) (cwV 1 hts g_v_c_feed_3 rfl rfl rfl (by decide +kernel) ⟨Nat.le_of_ble_eq_true rfl, Nat.le_of_ble_eq_true rfl⟩) ⟨st_blind, va_recv hKc hPc (ci := 9) (q0 := 0) rfl rfl, fun U hU hW => ⟨rfl, st_call hU hW hPc hKc hDc hZ hS hFc hE⟩⟩ rfl rfl hl.1 rfl (lv_room (Nat.le_of_ble_eq_true rfl)) dX11_feed_67 ⟨Nat.le_of_ble_eq_true rfl, Nat.le_of_ble_eq_true rfl⟩) hS (fun q _ h => hFc q h) hFc (fun  u11 t H1 locs ht hvm hw hB hz1 hk1 hS => ?_)
  have lu11 : u11.length = 10 := by rw [hw, List.length_set]; exact lu7
  have gu11_0 : u11[0]? = some (.ref tx) := by rw [hw]; exact se_ne gu7_0 (by decide)
  have gu11_1 : u11[1]? = some (.int 3) := by rw [hw]; exact se_eq (by rw [lu7]; decide)
  obtain ⟨fy12, hP1, hK1, hD1⟩ := hB
  rw [ht] at hP1
  have hK1 := va_K.moved hvm.symm hK1
  obtain ⟨hP, hD⟩ := va_join (wr := [(h0, .inr (11, xfs)), (tr, .inl (ct, 2, .inr (.inr (.inr (.inr (fun _ => none))))))]) (w1 := [(tk, .inr (9, u11)), (tx, .inl (cx, 3000, .inl fy12))]) hP hD [2, 3] [0, 1] rfl rfl (by decide) (by decide) hk1 hFc hP1 hD1
  have hK := (hK.sub (tys' := [(ct, .object "ScheduleHouse$Trial")]) [0] rfl).app hK1
  generalize H1 = H at hP hS ⊢
  have hP : va_P D vwCl [(h0, .inr (11, xfs)), (tr, .inl (ct, 2, .inr (.inr (.inr (.inr (fun _ => none)))))), (tk, .inr (9, u11)), (tx, .inl (cx, 3000, .inl fy12))] H := hP
  have hD : va_D A [(h0, .inr (11, xfs)), (tr, .inl (ct, 2, .inr (.inr (.inr (.inr (fun _ => none)))))), (tk, .inr (9, u11)), (tx, .inl (cx, 3000, .inl fy12))] := hD
  have hK : va_K D vwCl [(ct, .object "ScheduleHouse$Trial"), (cx, .byte)] s := hK
  refine lv_iinc (v := 3) (lv' := [(4, .int 3), (0, .ref h0), (1, .int 6), (2, .long p1)]) hx hb dX11_feed_70 hl (k := 0) rfl (by decide) (by decide) rfl (fun ls hl => ?_)
  refine lv_goto (tgt := 49) hx hb dX11_feed_73 (by decide) ?_
  refine lv_iload hx hb dX11_feed_49 (lv_at hl 0 rfl) ?_
  refine lv_iload_n hx hb dX11_feed_51 rfl (lv_at hl 2 rfl) ?_
  refine lv_icmp_ge (tgt := 76) hx hb dX11_feed_52 (by decide) (fun c9 => False.elim (by revert c9; decide)) (fun _ => ?_)
  refine lv_aload_n hx hb dX11_feed_55 rfl (lv_at hl 1 rfl) ?_
  refine va_get (D := D) (ci := 11) (v := .ref tk) (C := RX11) (T := TX11) (N := 13) hx hb hts i_v_c_feed_X11 hown hK hP 0 rfl rfl 0 (by decide) (hts (.fieldLink RX11 10 "ScheduleHouse" "tokens" "LScheduleHouse$Tokens;") (by decide +kernel)) (fun _ h9 => h9) hq0 dX11_feed_56 ?_
  refine lv_lload_n hx hb dX11_feed_59 rfl (lv_at hl 3 rfl) ?_
  refine lv_bipush (v := 8) hx hb dX11_feed_60 (by decide +kernel) ?_
  refine lv_iload hx hb dX11_feed_62 (lv_at hl 0 rfl) ?_
  refine lv_imul hx hb dX11_feed_64 ?_
  rw [show (8 * 3 : Int32) = 24 by decide]
  obtain ⟨z13, hz13⟩ : ∃ z : Int64, z = (p1.toUInt64 >>> ((24 : Int32).toInt64.toUInt64 &&& Int64.toUInt64 63)).toInt64 := ⟨_, rfl⟩
  refine lv_lushr (v := z13) hx hb dX11_feed_65 hz13.symm ?_
  obtain ⟨b14, hb14⟩ : ∃ z : Int32, z = z13.toInt32 := ⟨_, rfl⟩
  refine lv_l2i (v := b14) hx hb dX11_feed_66 hb14.symm ?_
  have hPc := hP.sub (ws' := [(tk, .inr (9, u11)), (tx, .inl (cx, 3000, .inl fy12))]) [2, 3] rfl
  have hDc := hD.sub (ws' := [(tk, .inr (9, u11)), (tx, .inl (cx, 3000, .inl fy12))]) [2, 3] (by decide) rfl
  have hKc := hK.sub (tys' := [(cx, .byte)]) [1] rfl
  have hFc := va_free (wc := [(tk, .inr (9, u11)), (tx, .inl (cx, 3000, .inl fy12))]) hD hS hA [2, 3] rfl
  refine va_callv (va_runV (As := [.int b14]) (rest := []) ⟨hx, hb, hml, hown, hts⟩ (c_addByte l D tk tx 3 cx u11 fy12 b14 H.size lu11 gu11_0 gu11_1 (by decide)) (cwV 1 hts g_v_c_feed_3 rfl rfl rfl (by decide +kernel) ⟨Nat.le_of_ble_eq_true rfl, Nat.le_of_ble_eq_true rfl⟩) ⟨st_blind, va_recv hKc hPc (ci := 9) (q0 := 0) rfl rfl, fun U hU hW => ⟨rfl, st_call hU hW hPc hKc hDc hZ hS hFc hE⟩⟩ rfl rfl hl.1 rfl (lv_room (Nat.le_of_ble_eq_true rfl)) dX11_feed_67 ⟨Nat.le_of_ble_eq_true rfl, Nat.le_of_ble_eq_true rfl⟩) hS (fun q _ h => hFc q h) hFc (fun  u15 t H1 locs ht hvm hw hB hz1 hk1 hS => ?_)
  have lu15 : u15.length = 10 := by rw [hw, List.length_set]; exact lu11
  have gu15_0 : u15[0]? = some (.ref tx) := by rw [hw]; exact se_ne gu11_0 (by decide)
  have gu15_1 : u15[1]? = some (.int 4) := by rw [hw]; exact se_eq (by rw [lu11]; decide)
  obtain ⟨fy16, hP1, hK1, hD1⟩ := hB
  rw [ht] at hP1
  have hK1 := va_K.moved hvm.symm hK1
  obtain ⟨hP, hD⟩ := va_join (wr := [(h0, .inr (11, xfs)), (tr, .inl (ct, 2, .inr (.inr (.inr (.inr (fun _ => none))))))]) (w1 := [(tk, .inr (9, u15)), (tx, .inl (cx, 3000, .inl fy16))]) hP hD [2, 3] [0, 1] rfl rfl (by decide) (by decide) hk1 hFc hP1 hD1
  have hK := (hK.sub (tys' := [(ct, .object "ScheduleHouse$Trial")]) [0] rfl).app hK1
  generalize H1 = H at hP hS ⊢
  have hP : va_P D vwCl [(h0, .inr (11, xfs)), (tr, .inl (ct, 2, .inr (.inr (.inr (.inr (fun _ => none)))))), (tk, .inr (9, u15)), (tx, .inl (cx, 3000, .inl fy16))] H := hP
  have hD : va_D A [(h0, .inr (11, xfs)), (tr, .inl (ct, 2, .inr (.inr (.inr (.inr (fun _ => none)))))), (tk, .inr (9, u15)), (tx, .inl (cx, 3000, .inl fy16))] := hD
  have hK : va_K D vwCl [(ct, .object "ScheduleHouse$Trial"), (cx, .byte)] s := hK
  refine lv_iinc (v := 4) (lv' := [(4, .int 4), (0, .ref h0), (1, .int 6), (2, .long p1)]) hx hb dX11_feed_70 hl (k := 0) rfl (by decide) (by decide) rfl (fun ls hl => ?_)
  refine lv_goto (tgt := 49) hx hb dX11_feed_73 (by decide) ?_
  refine lv_iload hx hb dX11_feed_49 (lv_at hl 0 rfl) ?_
  refine lv_iload_n hx hb dX11_feed_51 rfl (lv_at hl 2 rfl) ?_
  refine lv_icmp_ge (tgt := 76) hx hb dX11_feed_52 (by decide) (fun c9 => False.elim (by revert c9; decide)) (fun _ => ?_)
  refine lv_aload_n hx hb dX11_feed_55 rfl (lv_at hl 1 rfl) ?_
  refine va_get (D := D) (ci := 11) (v := .ref tk) (C := RX11) (T := TX11) (N := 13) hx hb hts i_v_c_feed_X11 hown hK hP 0 rfl rfl 0 (by decide) (hts (.fieldLink RX11 10 "ScheduleHouse" "tokens" "LScheduleHouse$Tokens;") (by decide +kernel)) (fun _ h9 => h9) hq0 dX11_feed_56 ?_
  refine lv_lload_n hx hb dX11_feed_59 rfl (lv_at hl 3 rfl) ?_
  refine lv_bipush (v := 8) hx hb dX11_feed_60 (by decide +kernel) ?_
  refine lv_iload hx hb dX11_feed_62 (lv_at hl 0 rfl) ?_
  refine lv_imul hx hb dX11_feed_64 ?_
  rw [show (8 * 4 : Int32) = 32 by decide]
  obtain ⟨z17, hz17⟩ : ∃ z : Int64, z = (p1.toUInt64 >>> ((32 : Int32).toInt64.toUInt64 &&& Int64.toUInt64 63)).toInt64 := ⟨_, rfl⟩
  refine lv_lushr (v := z17) hx hb dX11_feed_65 hz17.symm ?_
  obtain ⟨b18, hb18⟩ : ∃ z : Int32, z = z17.toInt32 := ⟨_, rfl⟩
  refine lv_l2i (v := b18) hx hb dX11_feed_66 hb18.symm ?_
  have hPc := hP.sub (ws' := [(tk, .inr (9, u15)), (tx, .inl (cx, 3000, .inl fy16))]) [2, 3] rfl
  have hDc := hD.sub (ws' := [(tk, .inr (9, u15)), (tx, .inl (cx, 3000, .inl fy16))]) [2, 3] (by decide) rfl
  have hKc := hK.sub (tys' := [(cx, .byte)]) [1] rfl
  have hFc := va_free (wc := [(tk, .inr (9, u15)), (tx, .inl (cx, 3000, .inl fy16))]) hD hS hA [2, 3] rfl
  refine va_callv (va_runV (As := [.int b18]) (rest := []) ⟨hx, hb, hml, hown, hts⟩ (c_addByte l D tk tx 4 cx u15 fy16 b18 H.size lu15 gu15_0 gu15_1 (by decide)) (cwV 1 hts g_v_c_feed_3 rfl rfl rfl (by decide +kernel) ⟨Nat.le_of_ble_eq_true rfl, Nat.le_of_ble_eq_true rfl⟩) ⟨st_blind, va_recv hKc hPc (ci := 9) (q0 := 0) rfl rfl, fun U hU hW => ⟨rfl, st_call hU hW hPc hKc hDc hZ hS hFc hE⟩⟩ rfl rfl hl.1 rfl (lv_room (Nat.le_of_ble_eq_true rfl)) dX11_feed_67 ⟨Nat.le_of_ble_eq_true rfl, Nat.le_of_ble_eq_true rfl⟩) hS (fun q _ h => hFc q h) hFc (fun  u19 t H1 locs ht hvm hw hB hz1 hk1 hS => ?_)
  have lu19 : u19.length = 10 := by rw [hw, List.length_set]; exact lu15
  have gu19_0 : u19[0]? = some (.ref tx) := by rw [hw]; exact se_ne gu15_0 (by decide)
  have gu19_1 : u19[1]? = some (.int 5) := by rw [hw]; exact se_eq (by rw [lu15]; decide)
  obtain ⟨fy20, hP1, hK1, hD1⟩ := hB
  rw [ht] at hP1
  have hK1 := va_K.moved hvm.symm hK1
  obtain ⟨hP, hD⟩ := va_join (wr := [(h0, .inr (11, xfs)), (tr, .inl (ct, 2, .inr (.inr (.inr (.inr (fun _ => none))))))]) (w1 := [(tk, .inr (9, u19)), (tx, .inl (cx, 3000, .inl fy20))]) hP hD [2, 3] [0, 1] rfl rfl (by decide) (by decide) hk1 hFc hP1 hD1
  have hK := (hK.sub (tys' := [(ct, .object "ScheduleHouse$Trial")]) [0] rfl).app hK1
  generalize H1 = H at hP hS ⊢
  have hP : va_P D vwCl [(h0, .inr (11, xfs)), (tr, .inl (ct, 2, .inr (.inr (.inr (.inr (fun _ => none)))))), (tk, .inr (9, u19)), (tx, .inl (cx, 3000, .inl fy20))] H := hP
  have hD : va_D A [(h0, .inr (11, xfs)), (tr, .inl (ct, 2, .inr (.inr (.inr (.inr (fun _ => none)))))), (tk, .inr (9, u19)), (tx, .inl (cx, 3000, .inl fy20))] := hD
  have hK : va_K D vwCl [(ct, .object "ScheduleHouse$Trial"), (cx, .byte)] s := hK
  refine lv_iinc (v := 5) (lv' := [(4, .int 5), (0, .ref h0), (1, .int 6), (2, .long p1)]) hx hb dX11_feed_70 hl (k := 0) rfl (by decide) (by decide) rfl (fun ls hl => ?_)
  refine lv_goto (tgt := 49) hx hb dX11_feed_73 (by decide) ?_
  refine lv_iload hx hb dX11_feed_49 (lv_at hl 0 rfl) ?_
  refine lv_iload_n hx hb dX11_feed_51 rfl (lv_at hl 2 rfl) ?_
  refine lv_icmp_ge (tgt := 76) hx hb dX11_feed_52 (by decide) (fun c9 => False.elim (by revert c9; decide)) (fun _ => ?_)
  refine lv_aload_n hx hb dX11_feed_55 rfl (lv_at hl 1 rfl) ?_
  refine va_get (D := D) (ci := 11) (v := .ref tk) (C := RX11) (T := TX11) (N := 13) hx hb hts i_v_c_feed_X11 hown hK hP 0 rfl rfl 0 (by decide) (hts (.fieldLink RX11 10 "ScheduleHouse" "tokens" "LScheduleHouse$Tokens;") (by decide +kernel)) (fun _ h9 => h9) hq0 dX11_feed_56 ?_
  refine lv_lload_n hx hb dX11_feed_59 rfl (lv_at hl 3 rfl) ?_
  refine lv_bipush (v := 8) hx hb dX11_feed_60 (by decide +kernel) ?_
  refine lv_iload hx hb dX11_feed_62 (lv_at hl 0 rfl) ?_
  refine lv_imul hx hb dX11_feed_64 ?_
  rw [show (8 * 5 : Int32) = 40 by decide]
  obtain ⟨z21, hz21⟩ : ∃ z : Int64, z = (p1.toUInt64 >>> ((40 : Int32).toInt64.toUInt64 &&& Int64.toUInt64 63)).toInt64 := ⟨_, rfl⟩
  refine lv_lushr (v := z21) hx hb dX11_feed_65 hz21.symm ?_
  obtain ⟨b22, hb22⟩ : ∃ z : Int32, z = z21.toInt32 := ⟨_, rfl⟩
  refine lv_l2i (v := b22) hx hb dX11_feed_66 hb22.symm ?_
  have hPc := hP.sub (ws' := [(tk, .inr (9, u19)), (tx, .inl (cx, 3000, .inl fy20))]) [2, 3] rfl
  have hDc := hD.sub (ws' := [(tk, .inr (9, u19)), (tx, .inl (cx, 3000, .inl fy20))]) [2, 3] (by decide) rfl
  have hKc := hK.sub (tys' := [(cx, .byte)]) [1] rfl
  have hFc := va_free (wc := [(tk, .inr (9, u19)), (tx, .inl (cx, 3000, .inl fy20))]) hD hS hA [2, 3] rfl
  refine va_callv (va_runV (As := [.int b22]) (rest := []) ⟨hx, hb, hml, hown, hts⟩ (c_addByte l D tk tx 5 cx u19 fy20 b22 H.size lu19 gu19_0 gu19_1 (by decide)) (cwV 1 hts g_v_c_feed_3 rfl rfl rfl (by decide +kernel) ⟨Nat.le_of_ble_eq_true rfl, Nat.le_of_ble_eq_true rfl⟩) ⟨st_blind, va_recv hKc hPc (ci := 9) (q0 := 0) rfl rfl, fun U hU hW => ⟨rfl, st_call hU hW hPc hKc hDc hZ hS hFc hE⟩⟩ rfl rfl hl.1 rfl (lv_room (Nat.le_of_ble_eq_true rfl)) dX11_feed_67 ⟨Nat.le_of_ble_eq_true rfl, Nat.le_of_ble_eq_true rfl⟩) hS (fun q _ h => hFc q h) hFc (fun  u23 t H1 locs ht hvm hw hB hz1 hk1 hS => ?_)
  have lu23 : u23.length = 10 := by rw [hw, List.length_set]; exact lu19
  have gu23_0 : u23[0]? = some (.ref tx) := by rw [hw]; exact se_ne gu19_0 (by decide)
  have gu23_1 : u23[1]? = some (.int 6) := by rw [hw]; exact se_eq (by rw [lu19]; decide)
  obtain ⟨fy24, hP1, hK1, hD1⟩ := hB
  rw [ht] at hP1
  have hK1 := va_K.moved hvm.symm hK1
  obtain ⟨hP, hD⟩ := va_join (wr := [(h0, .inr (11, xfs)), (tr, .inl (ct, 2, .inr (.inr (.inr (.inr (fun _ => none))))))]) (w1 := [(tk, .inr (9, u23)), (tx, .inl (cx, 3000, .inl fy24))]) hP hD [2, 3] [0, 1] rfl rfl (by decide) (by decide) hk1 hFc hP1 hD1
  have hK := (hK.sub (tys' := [(ct, .object "ScheduleHouse$Trial")]) [0] rfl).app hK1
  generalize H1 = H at hP hS ⊢
  have hP : va_P D vwCl [(h0, .inr (11, xfs)), (tr, .inl (ct, 2, .inr (.inr (.inr (.inr (fun _ => none)))))), (tk, .inr (9, u23)), (tx, .inl (cx, 3000, .inl fy24))] H := hP
  have hD : va_D A [(h0, .inr (11, xfs)), (tr, .inl (ct, 2, .inr (.inr (.inr (.inr (fun _ => none)))))), (tk, .inr (9, u23)), (tx, .inl (cx, 3000, .inl fy24))] := hD
  have hK : va_K D vwCl [(ct, .object "ScheduleHouse$Trial"), (cx, .byte)] s := hK
  refine lv_iinc (v := 6) (lv' := [(4, .int 6), (0, .ref h0), (1, .int 6), (2, .long p1)]) hx hb dX11_feed_70 hl (k := 0) rfl (by decide) (by decide) rfl (fun ls hl => ?_)
  refine lv_goto (tgt := 49) hx hb dX11_feed_73 (by decide) ?_
  refine lv_iload hx hb dX11_feed_49 (lv_at hl 0 rfl) ?_
  refine lv_iload_n hx hb dX11_feed_51 rfl (lv_at hl 2 rfl) ?_
  refine lv_icmp_ge (tgt := 76) hx hb dX11_feed_52 (by decide) (fun _ => ?_) (fun c9 => False.elim (by revert c9; decide))
  refine lv_aload_n hx hb dX11_feed_76 rfl (lv_at hl 1 rfl) ?_
  have hPc := hP.sub (ws' := [(h0, .inr (11, xfs)), (tr, .inl (ct, 2, .inr (.inr (.inr (.inr (fun _ => none))))))]) [0, 1] rfl
  have hDc := hD.sub (ws' := [(h0, .inr (11, xfs)), (tr, .inl (ct, 2, .inr (.inr (.inr (.inr (fun _ => none))))))]) [0, 1] (by decide) rfl
  have hKc := hK.sub (tys' := [(ct, .object "ScheduleHouse$Trial")]) [0] rfl
  have hFc := va_free (wc := [(h0, .inr (11, xfs)), (tr, .inl (ct, 2, .inr (.inr (.inr (.inr (fun _ => none))))))]) hD hS hA [0, 1] rfl
  refine va_callv (va_runV (As := []) (rest := []) ⟨hx, hb, hml, hown, hts⟩ (c_forgetAll l D h0 tr ct xfs H.size hlen hq6) (cwV 0 hts g_v_c_feed_4 rfl rfl rfl (by decide +kernel) ⟨Nat.le_of_ble_eq_true rfl, Nat.le_of_ble_eq_true rfl⟩) ⟨st_blind, va_recv hKc hPc (ci := 11) (q0 := 0) rfl rfl, fun U hU hW => ⟨rfl, st_call hU hW hPc hKc hDc hZ hS hFc hE⟩⟩ rfl rfl hl.1 rfl (lv_room (Nat.le_of_ble_eq_true rfl)) dX11_feed_77 ⟨Nat.le_of_ble_eq_true rfl, Nat.le_of_ble_eq_true rfl⟩) hS (fun q _ h => hFc q h) hFc (fun  u25 t H1 locs ht hvm hw hB hz1 hk1 hS => ?_)
  have lu25 : u25.length = 13 := by rw [hw, List.length_set, List.length_set]; exact hlen
  have gu25_0 : u25[0]? = some (.ref tk) := by rw [hw]; exact se_ne (se_ne hq0 (by decide)) (by decide)
  have gu25_6 : u25[6]? = some (.ref tr) := by rw [hw]; exact se_ne (se_ne hq6 (by decide)) (by decide)
  obtain ⟨hP1, hK1, hD1⟩ := hB
  rw [ht] at hP1
  have hK1 := va_K.moved hvm.symm hK1
  obtain ⟨hP, hD⟩ := va_join (wr := [(tk, .inr (9, u23)), (tx, .inl (cx, 3000, .inl fy24))]) (w1 := [(h0, .inr (11, u25)), (tr, .inl (ct, 2, .inr (.inr (.inr (.inr (fun _ => none))))))]) hP hD [0, 1] [2, 3] rfl rfl (by decide) (by decide) hk1 hFc hP1 hD1
  have hK := (hK.sub (tys' := [(cx, .byte)]) [1] rfl).app hK1
  generalize H1 = H at hP hS ⊢
  have hP : va_P D vwCl [(tk, .inr (9, u23)), (tx, .inl (cx, 3000, .inl fy24)), (h0, .inr (11, u25)), (tr, .inl (ct, 2, .inr (.inr (.inr (.inr (fun _ => none))))))] H := hP
  have hD : va_D A [(tk, .inr (9, u23)), (tx, .inl (cx, 3000, .inl fy24)), (h0, .inr (11, u25)), (tr, .inl (ct, 2, .inr (.inr (.inr (.inr (fun _ => none))))))] := hD
  have hK : va_K D vwCl [(cx, .byte), (ct, .object "ScheduleHouse$Trial")] s := hK
  refine lv_aload_n hx hb dX11_feed_80 rfl (lv_at hl 1 rfl) ?_
  refine va_get (D := D) (ci := 11) (v := .ref tk) (C := RX11) (T := TX11) (N := 13) hx hb hts i_v_c_feed_X11 hown hK hP 2 rfl rfl 0 (by decide) (hts (.fieldLink RX11 10 "ScheduleHouse" "tokens" "LScheduleHouse$Tokens;") (by decide +kernel)) (fun _ h9 => h9) gu25_0 dX11_feed_81 ?_
  refine va_get (D := D) (ci := 9) (v := .int 6) (C := RX9) (T := TX9) (N := 10) hx hb hts i_v_c_feed_X9 hown hK hP 0 rfl rfl 1 (by decide) (hts (.fieldLink RX11 77 "ScheduleHouse$Tokens" "length" "I") (by decide +kernel)) (fun _ h9 => h9) gu23_1 dX11_feed_84 ?_
  refine vx_ret (W.widen (k := 1) (n := 6) (Nat.le_of_ble_eq_true rfl) (Nat.le_of_ble_eq_true rfl) ?_)
  exact W.iret (v := 6) hx hb hr (fun t ht hW => ⟨⟨6, (), rfl, ⟨rfl, by decide, by decide⟩, trivial⟩, hS.F ht⟩) hS.2.2 dX11_feed_87
set_option maxHeartbeats 400000 in
set_option maxRecDepth 100000 in
/-- feed(7, bytes) of a new house -/
theorem c_feed_7 (l : Launch) (hlt : l.stackTraces = false) (D : va_G) (h0 tk tx tr : Nat) (cx ct : ClassId) (xfs tfs : List Value) (f0 : Nat → Int32) (p1 : Int64) (sz : Nat) (hlen : xfs.length = 13) (hq0 : xfs[0]? = some (.ref tk)) (hq6 : xfs[6]? = some (.ref tr)) (hlk : tfs.length = 10) (hk0 : tfs[0]? = some (.ref tx)) (hk1 : tfs[1]? = some (.int 0)) : vx_Met l yX11_feed v_c_feed ({ frames := 6, cells := 1, slots := 6, locals := 110 }) (va_Pc [.ref h0, .int 7, .long p1] (st_ D [(h0, .inr (11, xfs)), (tk, .inr (9, tfs)), (tx, .inl (cx, 3000, .inl f0)), (tr, .inl (ct, 2, .inr (.inr (.inr (.inr (fun _ => none))))))] [(cx, .byte), (ct, .object "ScheduleHouse$Trial")] sz)) (va_Qi (fun (r : Int32) (_ : Unit) => r = (7 : Int32) ∧ ¬ (7 : Int32) < 1 ∧ (7 : Int32) ≤ 8) (fun _ _ => True) (va_A [(h0, .inr (11, xfs)), (tk, .inr (9, tfs)), (tx, .inl (cx, 3000, .inl f0)), (tr, .inl (ct, 2, .inr (.inr (.inr (.inr (fun _ => none))))))] sz)) (vx_X (fun _ : Unit => True) (fun E _ _ => E = iAE ∧ ((7 : Int32) < 1 ∨ ¬ (7 : Int32) ≤ 8)) (va_A [(h0, .inr (11, xfs)), (tk, .inr (9, tfs)), (tx, .inl (cx, 3000, .inl f0)), (tr, .inl (ct, 2, .inr (.inr (.inr (.inr (fun _ => none))))))] sz)) 1 6 (va_A [(h0, .inr (11, xfs)), (tk, .inr (9, tfs)), (tx, .inl (cx, 3000, .inl f0)), (tr, .inl (ct, 2, .inr (.inr (.inr (.inr (fun _ => none))))))] sz) := by
  refine vx_ofW (cc := cX11_feed) (maxL := 5) (ret := (some .int)) (by decide) rfl ?_
  intro p e s m args below meth c s₁ B hml hno hv
  obtain ⟨rfl, hsz, hP, hK, hD0, hZ, hE⟩ := hv
  have hx := B.exec
  have hb := B.bytes
  have hr := B.returns
  have hts := atoms_spec (ws := v_c_feed) B.pre
  have hown : s.vm.findClass RX11 = some m.cls := findClass_of_methodNamed B.named
  have hlocks := B.notSynchronized
  subst hsz
  have hD := hD0.self (sz := s.heap.size)
  generalize hAe : va_A [(h0, .inr (11, xfs)), (tk, .inr (9, tfs)), (tx, .inl (cx, 3000, .inl f0)), (tr, .inl (ct, 2, .inr (.inr (.inr (.inr (fun _ => none))))))] s.heap.size = A at hD hZ ⊢
  have hA : ∀ q : Nat, s.heap.size ≤ q → A q := fun q h => by rw [← hAe]; exact Or.inr h
  have hS : va_S A s.heap s.heap [] := va_S.rf
  have hAO := hE.2.2.2.1
  have hP : va_P D vwCl [(h0, .inr (11, xfs)), (tk, .inr (9, tfs)), (tx, .inl (cx, 3000, .inl f0)), (tr, .inl (ct, 2, .inr (.inr (.inr (.inr (fun _ => none))))))] s.heap := hP
  have hl := lv_entry ([.ref h0, .int 7, .long p1]) (n := 5) (Nat.le_of_ble_eq_true rfl)
  rw [lg_entry_eq]
  generalize (lg_sl ([.ref h0, .int 7, .long p1]) ++ List.replicate (5 - (lg_sl ([.ref h0, .int 7, .long p1])).length) Slot.unset).toArray = ls at hl ⊢
  have hl : lv_has ls 5 [(0, .ref h0), (1, .int 7), (2, .long p1)] := hl
  refine lv_iload_n hx hb dX11_feed_0 rfl (lv_at hl 1 rfl) ?_
  refine lv_iconst (v := 1) hx hb dX11_feed_1 (by decide +kernel) ?_
  refine lv_icmp_lt (tgt := 11) hx hb dX11_feed_2 (by decide) (fun c9 => False.elim (by revert c9; decide)) (fun _ => ?_)
  refine lv_iload_n hx hb dX11_feed_5 rfl (lv_at hl 1 rfl) ?_
  refine lv_bipush (v := 8) hx hb dX11_feed_6 (by decide +kernel) ?_
  refine lv_icmp_le (tgt := 21) hx hb dX11_feed_8 (by decide) (fun _ => ?_) (fun c9 => False.elim (by revert c9; decide))
  refine lv_aload_n hx hb dX11_feed_21 rfl (lv_at hl 0 rfl) ?_
  refine va_get (D := D) (ci := 11) (v := .ref tk) (C := RX11) (T := TX11) (N := 13) hx hb hts i_v_c_feed_X11 hown hK hP 0 rfl rfl 0 (by decide) (hts (.fieldLink RX11 10 "ScheduleHouse" "tokens" "LScheduleHouse$Tokens;") (by decide +kernel)) (fun _ h9 => h9) hq0 dX11_feed_22 ?_
  refine va_get (D := D) (ci := 9) (v := .int 0) (C := RX9) (T := TX9) (N := 10) hx hb hts i_v_c_feed_X9 hown hK hP 1 rfl rfl 1 (by decide) (hts (.fieldLink RX11 77 "ScheduleHouse$Tokens" "length" "I") (by decide +kernel)) (fun _ h9 => h9) hk1 dX11_feed_25 ?_
  refine lv_iload_n hx hb dX11_feed_28 rfl (lv_at hl 1 rfl) ?_
  refine lv_iadd hx hb dX11_feed_29 ?_
  rw [show (0 + 7 : Int32) = 7 by decide]
  refine lv_sipush (v := 3000) hx hb dX11_feed_30 (by decide +kernel) ?_
  refine lv_icmp_le (tgt := 46) hx hb dX11_feed_33 (by decide) (fun _ => ?_) (fun c9 => False.elim (by revert c9; decide))
  refine lv_iconst (v := 0) hx hb dX11_feed_46 (by decide +kernel) ?_
  refine lv_istore (lv' := [(4, .int 0), (0, .ref h0), (1, .int 7), (2, .long p1)]) hx hb dX11_feed_47 hl (by decide) rfl (fun ls hl => ?_)
  refine lv_iload hx hb dX11_feed_49 (lv_at hl 0 rfl) ?_
  refine lv_iload_n hx hb dX11_feed_51 rfl (lv_at hl 2 rfl) ?_
  refine lv_icmp_ge (tgt := 76) hx hb dX11_feed_52 (by decide) (fun c9 => False.elim (by revert c9; decide)) (fun _ => ?_)
  refine lv_aload_n hx hb dX11_feed_55 rfl (lv_at hl 1 rfl) ?_
  refine va_get (D := D) (ci := 11) (v := .ref tk) (C := RX11) (T := TX11) (N := 13) hx hb hts i_v_c_feed_X11 hown hK hP 0 rfl rfl 0 (by decide) (hts (.fieldLink RX11 10 "ScheduleHouse" "tokens" "LScheduleHouse$Tokens;") (by decide +kernel)) (fun _ h9 => h9) hq0 dX11_feed_56 ?_
  refine lv_lload_n hx hb dX11_feed_59 rfl (lv_at hl 3 rfl) ?_
  refine lv_bipush (v := 8) hx hb dX11_feed_60 (by decide +kernel) ?_
  refine lv_iload hx hb dX11_feed_62 (lv_at hl 0 rfl) ?_
  refine lv_imul hx hb dX11_feed_64 ?_
  rw [show (8 * 0 : Int32) = 0 by decide]
  obtain ⟨z1, hz1⟩ : ∃ z : Int64, z = (p1.toUInt64 >>> ((0 : Int32).toInt64.toUInt64 &&& Int64.toUInt64 63)).toInt64 := ⟨_, rfl⟩
  refine lv_lushr (v := z1) hx hb dX11_feed_65 hz1.symm ?_
  obtain ⟨b2, hb2⟩ : ∃ z : Int32, z = z1.toInt32 := ⟨_, rfl⟩
  refine lv_l2i (v := b2) hx hb dX11_feed_66 hb2.symm ?_
  have hPc := hP.sub (ws' := [(tk, .inr (9, tfs)), (tx, .inl (cx, 3000, .inl f0))]) [1, 2] rfl
  have hDc := hD.sub (ws' := [(tk, .inr (9, tfs)), (tx, .inl (cx, 3000, .inl f0))]) [1, 2] (by decide) rfl
  have hKc := hK.sub (tys' := [(cx, .byte)]) [0] rfl
  have hFc := va_free (wc := [(tk, .inr (9, tfs)), (tx, .inl (cx, 3000, .inl f0))]) hD hS hA [1, 2] rfl
  refine va_callv (va_runV (As := [.int b2]) (rest := []) ⟨hx, hb, hml, hown, hts⟩ (c_addByte l D tk tx 0 cx tfs f0 b2 s.heap.size hlk hk0 hk1 (by decide)) (cwV 1 hts g_v_c_feed_3 rfl rfl rfl (by decide +kernel) ⟨Nat.le_of_ble_eq_true rfl, Nat.le_of_ble_eq_true rfl⟩) ⟨st_blind, va_recv hKc hPc (ci := 9) (q0 := 0) rfl rfl, fun U hU hW => ⟨rfl, st_call hU hW hPc hKc hDc hZ hS hFc hE⟩⟩ rfl rfl hl.1 rfl (lv_room (Nat.le_of_ble_eq_true rfl)) dX11_feed_67 ⟨Nat.le_of_ble_eq_true rfl, Nat.le_of_ble_eq_true rfl⟩) hS (fun q _ h => hFc q h) hFc (fun  u3 t H1 locs ht hvm hw hB hz1 hk1 hS => ?_)
  have lu3 : u3.length = 10 := by rw [hw, List.length_set]; exact hlk
  have gu3_0 : u3[0]? = some (.ref tx) := by rw [hw]; exact se_ne hk0 (by decide)
  have gu3_1 : u3[1]? = some (.int 1) := by rw [hw]; exact se_eq (by rw [hlk]; decide)
  obtain ⟨fy4, hP1, hK1, hD1⟩ := hB
  rw [ht] at hP1
  have hK1 := va_K.moved hvm.symm hK1
  obtain ⟨hP, hD⟩ := va_join (wr := [(h0, .inr (11, xfs)), (tr, .inl (ct, 2, .inr (.inr (.inr (.inr (fun _ => none))))))]) (w1 := [(tk, .inr (9, u3)), (tx, .inl (cx, 3000, .inl fy4))]) hP hD [1, 2] [0, 3] rfl rfl (by decide) (by decide) hk1 hFc hP1 hD1
  have hK := (hK.sub (tys' := [(ct, .object "ScheduleHouse$Trial")]) [1] rfl).app hK1
  generalize H1 = H at hP hS ⊢
  have hP : va_P D vwCl [(h0, .inr (11, xfs)), (tr, .inl (ct, 2, .inr (.inr (.inr (.inr (fun _ => none)))))), (tk, .inr (9, u3)), (tx, .inl (cx, 3000, .inl fy4))] H := hP
  have hD : va_D A [(h0, .inr (11, xfs)), (tr, .inl (ct, 2, .inr (.inr (.inr (.inr (fun _ => none)))))), (tk, .inr (9, u3)), (tx, .inl (cx, 3000, .inl fy4))] := hD
  have hK : va_K D vwCl [(ct, .object "ScheduleHouse$Trial"), (cx, .byte)] s := hK
  refine lv_iinc (v := 1) (lv' := [(4, .int 1), (0, .ref h0), (1, .int 7), (2, .long p1)]) hx hb dX11_feed_70 hl (k := 0) rfl (by decide) (by decide) rfl (fun ls hl => ?_)
  refine lv_goto (tgt := 49) hx hb dX11_feed_73 (by decide) ?_
  refine lv_iload hx hb dX11_feed_49 (lv_at hl 0 rfl) ?_
  refine lv_iload_n hx hb dX11_feed_51 rfl (lv_at hl 2 rfl) ?_
  refine lv_icmp_ge (tgt := 76) hx hb dX11_feed_52 (by decide) (fun c9 => False.elim (by revert c9; decide)) (fun _ => ?_)
  refine lv_aload_n hx hb dX11_feed_55 rfl (lv_at hl 1 rfl) ?_
  refine va_get (D := D) (ci := 11) (v := .ref tk) (C := RX11) (T := TX11) (N := 13) hx hb hts i_v_c_feed_X11 hown hK hP 0 rfl rfl 0 (by decide) (hts (.fieldLink RX11 10 "ScheduleHouse" "tokens" "LScheduleHouse$Tokens;") (by decide +kernel)) (fun _ h9 => h9) hq0 dX11_feed_56 ?_
  refine lv_lload_n hx hb dX11_feed_59 rfl (lv_at hl 3 rfl) ?_
  refine lv_bipush (v := 8) hx hb dX11_feed_60 (by decide +kernel) ?_
  refine lv_iload hx hb dX11_feed_62 (lv_at hl 0 rfl) ?_
  refine lv_imul hx hb dX11_feed_64 ?_
  rw [show (8 * 1 : Int32) = 8 by decide]
  obtain ⟨z5, hz5⟩ : ∃ z : Int64, z = (p1.toUInt64 >>> ((8 : Int32).toInt64.toUInt64 &&& Int64.toUInt64 63)).toInt64 := ⟨_, rfl⟩
  refine lv_lushr (v := z5) hx hb dX11_feed_65 hz5.symm ?_
  obtain ⟨b6, hb6⟩ : ∃ z : Int32, z = z5.toInt32 := ⟨_, rfl⟩
  refine lv_l2i (v := b6) hx hb dX11_feed_66 hb6.symm ?_
  have hPc := hP.sub (ws' := [(tk, .inr (9, u3)), (tx, .inl (cx, 3000, .inl fy4))]) [2, 3] rfl
  have hDc := hD.sub (ws' := [(tk, .inr (9, u3)), (tx, .inl (cx, 3000, .inl fy4))]) [2, 3] (by decide) rfl
  have hKc := hK.sub (tys' := [(cx, .byte)]) [1] rfl
  have hFc := va_free (wc := [(tk, .inr (9, u3)), (tx, .inl (cx, 3000, .inl fy4))]) hD hS hA [2, 3] rfl
  refine va_callv (va_runV (As := [.int b6]) (rest := []) ⟨hx, hb, hml, hown, hts⟩ (c_addByte l D tk tx 1 cx u3 fy4 b6 H.size lu3 gu3_0 gu3_1 (by decide)) (cwV 1 hts g_v_c_feed_3 rfl rfl rfl (by decide +kernel) ⟨Nat.le_of_ble_eq_true rfl, Nat.le_of_ble_eq_true rfl⟩) ⟨st_blind, va_recv hKc hPc (ci := 9) (q0 := 0) rfl rfl, fun U hU hW => ⟨rfl, st_call hU hW hPc hKc hDc hZ hS hFc hE⟩⟩ rfl rfl hl.1 rfl (lv_room (Nat.le_of_ble_eq_true rfl)) dX11_feed_67 ⟨Nat.le_of_ble_eq_true rfl, Nat.le_of_ble_eq_true rfl⟩) hS (fun q _ h => hFc q h) hFc (fun  u7 t H1 locs ht hvm hw hB hz1 hk1 hS => ?_)
  have lu7 : u7.length = 10 := by rw [hw, List.length_set]; exact lu3
  have gu7_0 : u7[0]? = some (.ref tx) := by rw [hw]; exact se_ne gu3_0 (by decide)
  have gu7_1 : u7[1]? = some (.int 2) := by rw [hw]; exact se_eq (by rw [lu3]; decide)
  obtain ⟨fy8, hP1, hK1, hD1⟩ := hB
  rw [ht] at hP1
  have hK1 := va_K.moved hvm.symm hK1
  obtain ⟨hP, hD⟩ := va_join (wr := [(h0, .inr (11, xfs)), (tr, .inl (ct, 2, .inr (.inr (.inr (.inr (fun _ => none))))))]) (w1 := [(tk, .inr (9, u7)), (tx, .inl (cx, 3000, .inl fy8))]) hP hD [2, 3] [0, 1] rfl rfl (by decide) (by decide) hk1 hFc hP1 hD1
  have hK := (hK.sub (tys' := [(ct, .object "ScheduleHouse$Trial")]) [0] rfl).app hK1
  generalize H1 = H at hP hS ⊢
  have hP : va_P D vwCl [(h0, .inr (11, xfs)), (tr, .inl (ct, 2, .inr (.inr (.inr (.inr (fun _ => none)))))), (tk, .inr (9, u7)), (tx, .inl (cx, 3000, .inl fy8))] H := hP
  have hD : va_D A [(h0, .inr (11, xfs)), (tr, .inl (ct, 2, .inr (.inr (.inr (.inr (fun _ => none)))))), (tk, .inr (9, u7)), (tx, .inl (cx, 3000, .inl fy8))] := hD
  have hK : va_K D vwCl [(ct, .object "ScheduleHouse$Trial"), (cx, .byte)] s := hK
  refine lv_iinc (v := 2) (lv' := [(4, .int 2), (0, .ref h0), (1, .int 7), (2, .long p1)]) hx hb dX11_feed_70 hl (k := 0) rfl (by decide) (by decide) rfl (fun ls hl => ?_)
  refine lv_goto (tgt := 49) hx hb dX11_feed_73 (by decide) ?_
  refine lv_iload hx hb dX11_feed_49 (lv_at hl 0 rfl) ?_
  refine lv_iload_n hx hb dX11_feed_51 rfl (lv_at hl 2 rfl) ?_
  refine lv_icmp_ge (tgt := 76) hx hb dX11_feed_52 (by decide) (fun c9 => False.elim (by revert c9; decide)) (fun _ => ?_)
  refine lv_aload_n hx hb dX11_feed_55 rfl (lv_at hl 1 rfl) ?_
  refine va_get (D := D) (ci := 11) (v := .ref tk) (C := RX11) (T := TX11) (N := 13) hx hb hts i_v_c_feed_X11 hown hK hP 0 rfl rfl 0 (by decide) (hts (.fieldLink RX11 10 "ScheduleHouse" "tokens" "LScheduleHouse$Tokens;") (by decide +kernel)) (fun _ h9 => h9) hq0 dX11_feed_56 ?_
  refine lv_lload_n hx hb dX11_feed_59 rfl (lv_at hl 3 rfl) ?_
  refine lv_bipush (v := 8) hx hb dX11_feed_60 (by decide +kernel) ?_
  refine lv_iload hx hb dX11_feed_62 (lv_at hl 0 rfl) ?_
  refine lv_imul hx hb dX11_feed_64 ?_
  rw [show (8 * 2 : Int32) = 16 by decide]
  obtain ⟨z9, hz9⟩ : ∃ z : Int64, z = (p1.toUInt64 >>> ((16 : Int32).toInt64.toUInt64 &&& Int64.toUInt64 63)).toInt64 := ⟨_, rfl⟩
  refine lv_lushr (v := z9) hx hb dX11_feed_65 hz9.symm ?_
  obtain ⟨b10, hb10⟩ : ∃ z : Int32, z = z9.toInt32 := ⟨_, rfl⟩
  refine lv_l2i (v := b10) hx hb dX11_feed_66 hb10.symm ?_
  have hPc := hP.sub (ws' := [(tk, .inr (9, u7)), (tx, .inl (cx, 3000, .inl fy8))]) [2, 3] rfl
  have hDc := hD.sub (ws' := [(tk, .inr (9, u7)), (tx, .inl (cx, 3000, .inl fy8))]) [2, 3] (by decide) rfl
  have hKc := hK.sub (tys' := [(cx, .byte)]) [1] rfl
  have hFc := va_free (wc := [(tk, .inr (9, u7)), (tx, .inl (cx, 3000, .inl fy8))]) hD hS hA [2, 3] rfl
  refine va_callv (va_runV (As := [.int b10]) (rest := []) ⟨hx, hb, hml, hown, hts⟩ (c_addByte l D tk tx 2 cx u7 fy8 b10 H.size lu7 gu7_0 gu7_1 (by decide)) (cwV 1 hts g_v_c_feed_3 rfl rfl rfl (by decide +kernel) ⟨Nat.le_of_ble_eq_true rfl, Nat.le_of_ble_eq_true rfl⟩) ⟨st_blind, va_recv hKc hPc (ci := 9) (q0 := 0) rfl rfl, fun U hU hW => ⟨rfl, st_call hU hW hPc hKc hDc hZ hS hFc hE⟩⟩ rfl rfl hl.1 rfl (lv_room (Nat.le_of_ble_eq_true rfl)) dX11_feed_67 ⟨Nat.le_of_ble_eq_true rfl, Nat.le_of_ble_eq_true rfl⟩) hS (fun q _ h => hFc q h) hFc (fun  u11 t H1 locs ht hvm hw hB hz1 hk1 hS => ?_)
  have lu11 : u11.length = 10 := by rw [hw, List.length_set]; exact lu7
  have gu11_0 : u11[0]? = some (.ref tx) := by rw [hw]; exact se_ne gu7_0 (by decide)
  have gu11_1 : u11[1]? = some (.int 3) := by rw [hw]; exact se_eq (by rw [lu7]; decide)
  obtain ⟨fy12, hP1, hK1, hD1⟩ := hB
  rw [ht] at hP1
  have hK1 := va_K.moved hvm.symm hK1
  obtain ⟨hP, hD⟩ := va_join (wr := [(h0, .inr (11, xfs)), (tr, .inl (ct, 2, .inr (.inr (.inr (.inr (fun _ => none))))))]) (w1 := [(tk, .inr (9, u11)), (tx, .inl (cx, 3000, .inl fy12))]) hP hD [2, 3] [0, 1] rfl rfl (by decide) (by decide) hk1 hFc hP1 hD1
  have hK := (hK.sub (tys' := [(ct, .object "ScheduleHouse$Trial")]) [0] rfl).app hK1
  generalize H1 = H at hP hS ⊢
  have hP : va_P D vwCl [(h0, .inr (11, xfs)), (tr, .inl (ct, 2, .inr (.inr (.inr (.inr (fun _ => none)))))), (tk, .inr (9, u11)), (tx, .inl (cx, 3000, .inl fy12))] H := hP
  have hD : va_D A [(h0, .inr (11, xfs)), (tr, .inl (ct, 2, .inr (.inr (.inr (.inr (fun _ => none)))))), (tk, .inr (9, u11)), (tx, .inl (cx, 3000, .inl fy12))] := hD
  have hK : va_K D vwCl [(ct, .object "ScheduleHouse$Trial"), (cx, .byte)] s := hK
  refine lv_iinc (v := 3) (lv' := [(4, .int 3), (0, .ref h0), (1, .int 7), (2, .long p1)]) hx hb dX11_feed_70 hl (k := 0) rfl (by decide) (by decide) rfl (fun ls hl => ?_)
  refine lv_goto (tgt := 49) hx hb dX11_feed_73 (by decide) ?_
  refine lv_iload hx hb dX11_feed_49 (lv_at hl 0 rfl) ?_
  refine lv_iload_n hx hb dX11_feed_51 rfl (lv_at hl 2 rfl) ?_
  refine lv_icmp_ge (tgt := 76) hx hb dX11_feed_52 (by decide) (fun c9 => False.elim (by revert c9; decide)) (fun _ => ?_)
  refine lv_aload_n hx hb dX11_feed_55 rfl (lv_at hl 1 rfl) ?_
  refine va_get (D := D) (ci := 11) (v := .ref tk) (C := RX11) (T := TX11) (N := 13) hx hb hts i_v_c_feed_X11 hown hK hP 0 rfl rfl 0 (by decide) (hts (.fieldLink RX11 10 "ScheduleHouse" "tokens" "LScheduleHouse$Tokens;") (by decide +kernel)) (fun _ h9 => h9) hq0 dX11_feed_56 ?_
  refine lv_lload_n hx hb dX11_feed_59 rfl (lv_at hl 3 rfl) ?_
  refine lv_bipush (v := 8) hx hb dX11_feed_60 (by decide +kernel) ?_
  refine lv_iload hx hb dX11_feed_62 (lv_at hl 0 rfl) ?_
  refine lv_imul hx hb dX11_feed_64 ?_
  rw [show (8 * 3 : Int32) = 24 by decide]
  obtain ⟨z13, hz13⟩ : ∃ z : Int64, z = (p1.toUInt64 >>> ((24 : Int32).toInt64.toUInt64 &&& Int64.toUInt64 63)).toInt64 := ⟨_, rfl⟩
  refine lv_lushr (v := z13) hx hb dX11_feed_65 hz13.symm ?_
  obtain ⟨b14, hb14⟩ : ∃ z : Int32, z = z13.toInt32 := ⟨_, rfl⟩
  refine lv_l2i (v := b14) hx hb dX11_feed_66 hb14.symm ?_
  have hPc := hP.sub (ws' := [(tk, .inr (9, u11)), (tx, .inl (cx, 3000, .inl fy12))]) [2, 3] rfl
  have hDc := hD.sub (ws' := [(tk, .inr (9, u11)), (tx, .inl (cx, 3000, .inl fy12))]) [2, 3] (by decide) rfl
  have hKc := hK.sub (tys' := [(cx, .byte)]) [1] rfl
  have hFc := va_free (wc := [(tk, .inr (9, u11)), (tx, .inl (cx, 3000, .inl fy12))]) hD hS hA [2, 3] rfl
  refine va_callv (va_runV (As := [.int b14]) (rest := []) ⟨hx, hb, hml, hown, hts⟩ (c_addByte l D tk tx 3 cx u11 fy12 b14 H.size lu11 gu11_0 gu11_1 (by decide)) (cwV 1 hts g_v_c_feed_3 rfl rfl rfl (by decide +kernel) ⟨Nat.le_of_ble_eq_true rfl, Nat.le_of_ble_eq_true rfl⟩) ⟨st_blind, va_recv hKc hPc (ci := 9) (q0 := 0) rfl rfl, fun U hU hW => ⟨rfl, st_call hU hW hPc hKc hDc hZ hS hFc hE⟩⟩ rfl rfl hl.1 rfl (lv_room (Nat.le_of_ble_eq_true rfl)) dX11_feed_67 ⟨Nat.le_of_ble_eq_true rfl, Nat.le_of_ble_eq_true rfl⟩) hS (fun q _ h => hFc q h) hFc (fun  u15 t H1 locs ht hvm hw hB hz1 hk1 hS => ?_)
  have lu15 : u15.length = 10 := by rw [hw, List.length_set]; exact lu11
  have gu15_0 : u15[0]? = some (.ref tx) := by rw [hw]; exact se_ne gu11_0 (by decide)
  have gu15_1 : u15[1]? = some (.int 4) := by rw [hw]; exact se_eq (by rw [lu11]; decide)
  obtain ⟨fy16, hP1, hK1, hD1⟩ := hB
  rw [ht] at hP1
  have hK1 := va_K.moved hvm.symm hK1
  obtain ⟨hP, hD⟩ := va_join (wr := [(h0, .inr (11, xfs)), (tr, .inl (ct, 2, .inr (.inr (.inr (.inr (fun _ => none))))))]) (w1 := [(tk, .inr (9, u15)), (tx, .inl (cx, 3000, .inl fy16))]) hP hD [2, 3] [0, 1] rfl rfl (by decide) (by decide) hk1 hFc hP1 hD1
  have hK := (hK.sub (tys' := [(ct, .object "ScheduleHouse$Trial")]) [0] rfl).app hK1
  generalize H1 = H at hP hS ⊢
  have hP : va_P D vwCl [(h0, .inr (11, xfs)), (tr, .inl (ct, 2, .inr (.inr (.inr (.inr (fun _ => none)))))), (tk, .inr (9, u15)), (tx, .inl (cx, 3000, .inl fy16))] H := hP
  have hD : va_D A [(h0, .inr (11, xfs)), (tr, .inl (ct, 2, .inr (.inr (.inr (.inr (fun _ => none)))))), (tk, .inr (9, u15)), (tx, .inl (cx, 3000, .inl fy16))] := hD
  have hK : va_K D vwCl [(ct, .object "ScheduleHouse$Trial"), (cx, .byte)] s := hK
  refine lv_iinc (v := 4) (lv' := [(4, .int 4), (0, .ref h0), (1, .int 7), (2, .long p1)]) hx hb dX11_feed_70 hl (k := 0) rfl (by decide) (by decide) rfl (fun ls hl => ?_)
  refine lv_goto (tgt := 49) hx hb dX11_feed_73 (by decide) ?_
  refine lv_iload hx hb dX11_feed_49 (lv_at hl 0 rfl) ?_
  refine lv_iload_n hx hb dX11_feed_51 rfl (lv_at hl 2 rfl) ?_
  refine lv_icmp_ge (tgt := 76) hx hb dX11_feed_52 (by decide) (fun c9 => False.elim (by revert c9; decide)) (fun _ => ?_)
  refine lv_aload_n hx hb dX11_feed_55 rfl (lv_at hl 1 rfl) ?_
  refine va_get (D := D) (ci := 11) (v := .ref tk) (C := RX11) (T := TX11) (N := 13) hx hb hts i_v_c_feed_X11 hown hK hP 0 rfl rfl 0 (by decide) (hts (.fieldLink RX11 10 "ScheduleHouse" "tokens" "LScheduleHouse$Tokens;") (by decide +kernel)) (fun _ h9 => h9) hq0 dX11_feed_56 ?_
  refine lv_lload_n hx hb dX11_feed_59 rfl (lv_at hl 3 rfl) ?_
  refine lv_bipush (v := 8) hx hb dX11_feed_60 (by decide +kernel) ?_
  refine lv_iload hx hb dX11_feed_62 (lv_at hl 0 rfl) ?_
  refine lv_imul hx hb dX11_feed_64 ?_
  rw [show (8 * 4 : Int32) = 32 by decide]
  obtain ⟨z17, hz17⟩ : ∃ z : Int64, z = (p1.toUInt64 >>> ((32 : Int32).toInt64.toUInt64 &&& Int64.toUInt64 63)).toInt64 := ⟨_, rfl⟩
  refine lv_lushr (v := z17) hx hb dX11_feed_65 hz17.symm ?_
  obtain ⟨b18, hb18⟩ : ∃ z : Int32, z = z17.toInt32 := ⟨_, rfl⟩
  refine lv_l2i (v := b18) hx hb dX11_feed_66 hb18.symm ?_
  have hPc := hP.sub (ws' := [(tk, .inr (9, u15)), (tx, .inl (cx, 3000, .inl fy16))]) [2, 3] rfl
  have hDc := hD.sub (ws' := [(tk, .inr (9, u15)), (tx, .inl (cx, 3000, .inl fy16))]) [2, 3] (by decide) rfl
  have hKc := hK.sub (tys' := [(cx, .byte)]) [1] rfl
  have hFc := va_free (wc := [(tk, .inr (9, u15)), (tx, .inl (cx, 3000, .inl fy16))]) hD hS hA [2, 3] rfl
  refine va_callv (va_runV (As := [.int b18]) (rest := []) ⟨hx, hb, hml, hown, hts⟩ (c_addByte l D tk tx 4 cx u15 fy16 b18 H.size lu15 gu15_0 gu15_1 (by decide)) (cwV 1 hts g_v_c_feed_3 rfl rfl rfl (by decide +kernel) ⟨Nat.le_of_ble_eq_true rfl, Nat.le_of_ble_eq_true rfl⟩) ⟨st_blind, va_recv hKc hPc (ci := 9) (q0 := 0) rfl rfl, fun U hU hW => ⟨rfl, st_call hU hW hPc hKc hDc hZ hS hFc hE⟩⟩ rfl rfl hl.1 rfl (lv_room (Nat.le_of_ble_eq_true rfl)) dX11_feed_67 ⟨Nat.le_of_ble_eq_true rfl, Nat.le_of_ble_eq_true rfl⟩) hS (fun q _ h => hFc q h) hFc (fun  u19 t H1 locs ht hvm hw hB hz1 hk1 hS => ?_)
  have lu19 : u19.length = 10 := by rw [hw, List.length_set]; exact lu15
  have gu19_0 : u19[0]? = some (.ref tx) := by rw [hw]; exact se_ne gu15_0 (by decide)
  have gu19_1 : u19[1]? = some (.int 5) := by rw [hw]; exact se_eq (by rw [lu15]; decide)
  obtain ⟨fy20, hP1, hK1, hD1⟩ := hB
  rw [ht] at hP1
  have hK1 := va_K.moved hvm.symm hK1
  obtain ⟨hP, hD⟩ := va_join (wr := [(h0, .inr (11, xfs)), (tr, .inl (ct, 2, .inr (.inr (.inr (.inr (fun _ => none))))))]) (w1 := [(tk, .inr (9, u19)), (tx, .inl (cx, 3000, .inl fy20))]) hP hD [2, 3] [0, 1] rfl rfl (by decide) (by decide) hk1 hFc hP1 hD1
  have hK := (hK.sub (tys' := [(ct, .object "ScheduleHouse$Trial")]) [0] rfl).app hK1
  generalize H1 = H at hP hS ⊢
  have hP : va_P D vwCl [(h0, .inr (11, xfs)), (tr, .inl (ct, 2, .inr (.inr (.inr (.inr (fun _ => none)))))), (tk, .inr (9, u19)), (tx, .inl (cx, 3000, .inl fy20))] H := hP
  have hD : va_D A [(h0, .inr (11, xfs)), (tr, .inl (ct, 2, .inr (.inr (.inr (.inr (fun _ => none)))))), (tk, .inr (9, u19)), (tx, .inl (cx, 3000, .inl fy20))] := hD
  have hK : va_K D vwCl [(ct, .object "ScheduleHouse$Trial"), (cx, .byte)] s := hK
  refine lv_iinc (v := 5) (lv' := [(4, .int 5), (0, .ref h0), (1, .int 7), (2, .long p1)]) hx hb dX11_feed_70 hl (k := 0) rfl (by decide) (by decide) rfl (fun ls hl => ?_)
  refine lv_goto (tgt := 49) hx hb dX11_feed_73 (by decide) ?_
  refine lv_iload hx hb dX11_feed_49 (lv_at hl 0 rfl) ?_
  refine lv_iload_n hx hb dX11_feed_51 rfl (lv_at hl 2 rfl) ?_
  refine lv_icmp_ge (tgt := 76) hx hb dX11_feed_52 (by decide) (fun c9 => False.elim (by revert c9; decide)) (fun _ => ?_)
  refine lv_aload_n hx hb dX11_feed_55 rfl (lv_at hl 1 rfl) ?_
  refine va_get (D := D) (ci := 11) (v := .ref tk) (C := RX11) (T := TX11) (N := 13) hx hb hts i_v_c_feed_X11 hown hK hP 0 rfl rfl 0 (by decide) (hts (.fieldLink RX11 10 "ScheduleHouse" "tokens" "LScheduleHouse$Tokens;") (by decide +kernel)) (fun _ h9 => h9) hq0 dX11_feed_56 ?_
  refine lv_lload_n hx hb dX11_feed_59 rfl (lv_at hl 3 rfl) ?_
  refine lv_bipush (v := 8) hx hb dX11_feed_60 (by decide +kernel) ?_
  refine lv_iload hx hb dX11_feed_62 (lv_at hl 0 rfl) ?_
  refine lv_imul hx hb dX11_feed_64 ?_
  rw [show (8 * 5 : Int32) = 40 by decide]
  obtain ⟨z21, hz21⟩ : ∃ z : Int64, z = (p1.toUInt64 >>> ((40 : Int32).toInt64.toUInt64 &&& Int64.toUInt64 63)).toInt64 := ⟨_, rfl⟩
  refine lv_lushr (v := z21) hx hb dX11_feed_65 hz21.symm ?_
  obtain ⟨b22, hb22⟩ : ∃ z : Int32, z = z21.toInt32 := ⟨_, rfl⟩
  refine lv_l2i (v := b22) hx hb dX11_feed_66 hb22.symm ?_
  have hPc := hP.sub (ws' := [(tk, .inr (9, u19)), (tx, .inl (cx, 3000, .inl fy20))]) [2, 3] rfl
  have hDc := hD.sub (ws' := [(tk, .inr (9, u19)), (tx, .inl (cx, 3000, .inl fy20))]) [2, 3] (by decide) rfl
  have hKc := hK.sub (tys' := [(cx, .byte)]) [1] rfl
  have hFc := va_free (wc := [(tk, .inr (9, u19)), (tx, .inl (cx, 3000, .inl fy20))]) hD hS hA [2, 3] rfl
  refine va_callv (va_runV (As := [.int b22]) (rest := []) ⟨hx, hb, hml, hown, hts⟩ (c_addByte l D tk tx 5 cx u19 fy20 b22 H.size lu19 gu19_0 gu19_1 (by decide)) (cwV 1 hts g_v_c_feed_3 rfl rfl rfl (by decide +kernel) ⟨Nat.le_of_ble_eq_true rfl, Nat.le_of_ble_eq_true rfl⟩) ⟨st_blind, va_recv hKc hPc (ci := 9) (q0 := 0) rfl rfl, fun U hU hW => ⟨rfl, st_call hU hW hPc hKc hDc hZ hS hFc hE⟩⟩ rfl rfl hl.1 rfl (lv_room (Nat.le_of_ble_eq_true rfl)) dX11_feed_67 ⟨Nat.le_of_ble_eq_true rfl, Nat.le_of_ble_eq_true rfl⟩) hS (fun q _ h => hFc q h) hFc (fun  u23 t H1 locs ht hvm hw hB hz1 hk1 hS => ?_)
  have lu23 : u23.length = 10 := by rw [hw, List.length_set]; exact lu19
  have gu23_0 : u23[0]? = some (.ref tx) := by rw [hw]; exact se_ne gu19_0 (by decide)
  have gu23_1 : u23[1]? = some (.int 6) := by rw [hw]; exact se_eq (by rw [lu19]; decide)
  obtain ⟨fy24, hP1, hK1, hD1⟩ := hB
  rw [ht] at hP1
  have hK1 := va_K.moved hvm.symm hK1
  obtain ⟨hP, hD⟩ := va_join (wr := [(h0, .inr (11, xfs)), (tr, .inl (ct, 2, .inr (.inr (.inr (.inr (fun _ => none))))))]) (w1 := [(tk, .inr (9, u23)), (tx, .inl (cx, 3000, .inl fy24))]) hP hD [2, 3] [0, 1] rfl rfl (by decide) (by decide) hk1 hFc hP1 hD1
  have hK := (hK.sub (tys' := [(ct, .object "ScheduleHouse$Trial")]) [0] rfl).app hK1
  generalize H1 = H at hP hS ⊢
  have hP : va_P D vwCl [(h0, .inr (11, xfs)), (tr, .inl (ct, 2, .inr (.inr (.inr (.inr (fun _ => none)))))), (tk, .inr (9, u23)), (tx, .inl (cx, 3000, .inl fy24))] H := hP
  have hD : va_D A [(h0, .inr (11, xfs)), (tr, .inl (ct, 2, .inr (.inr (.inr (.inr (fun _ => none)))))), (tk, .inr (9, u23)), (tx, .inl (cx, 3000, .inl fy24))] := hD
  have hK : va_K D vwCl [(ct, .object "ScheduleHouse$Trial"), (cx, .byte)] s := hK
  refine lv_iinc (v := 6) (lv' := [(4, .int 6), (0, .ref h0), (1, .int 7), (2, .long p1)]) hx hb dX11_feed_70 hl (k := 0) rfl (by decide) (by decide) rfl (fun ls hl => ?_)
  refine lv_goto (tgt := 49) hx hb dX11_feed_73 (by decide) ?_
  refine lv_iload hx hb dX11_feed_49 (lv_at hl 0 rfl) ?_
  refine lv_iload_n hx hb dX11_feed_51 rfl (lv_at hl 2 rfl) ?_
  refine lv_icmp_ge (tgt := 76) hx hb dX11_feed_52 (by decide) (fun c9 => False.elim (by revert c9; decide)) (fun _ => ?_)
  refine lv_aload_n hx hb dX11_feed_55 rfl (lv_at hl 1 rfl) ?_
  refine va_get (D := D) (ci := 11) (v := .ref tk) (C := RX11) (T := TX11) (N := 13) hx hb hts i_v_c_feed_X11 hown hK hP 0 rfl rfl 0 (by decide) (hts (.fieldLink RX11 10 "ScheduleHouse" "tokens" "LScheduleHouse$Tokens;") (by decide +kernel)) (fun _ h9 => h9) hq0 dX11_feed_56 ?_
  refine lv_lload_n hx hb dX11_feed_59 rfl (lv_at hl 3 rfl) ?_
  refine lv_bipush (v := 8) hx hb dX11_feed_60 (by decide +kernel) ?_
  refine lv_iload hx hb dX11_feed_62 (lv_at hl 0 rfl) ?_
  refine lv_imul hx hb dX11_feed_64 ?_
  rw [show (8 * 6 : Int32) = 48 by decide]
  obtain ⟨z25, hz25⟩ : ∃ z : Int64, z = (p1.toUInt64 >>> ((48 : Int32).toInt64.toUInt64 &&& Int64.toUInt64 63)).toInt64 := ⟨_, rfl⟩
  refine lv_lushr (v := z25) hx hb dX11_feed_65 hz25.symm ?_
  obtain ⟨b26, hb26⟩ : ∃ z : Int32, z = z25.toInt32 := ⟨_, rfl⟩
  refine lv_l2i (v := b26) hx hb dX11_feed_66 hb26.symm ?_
  have hPc := hP.sub (ws' := [(tk, .inr (9, u23)), (tx, .inl (cx, 3000, .inl fy24))]) [2, 3] rfl
  have hDc := hD.sub (ws' := [(tk, .inr (9, u23)), (tx, .inl (cx, 3000, .inl fy24))]) [2, 3] (by decide) rfl
  have hKc := hK.sub (tys' := [(cx, .byte)]) [1] rfl
  have hFc := va_free (wc := [(tk, .inr (9, u23)), (tx, .inl (cx, 3000, .inl fy24))]) hD hS hA [2, 3] rfl
  refine va_callv (va_runV (As := [.int b26]) (rest := []) ⟨hx, hb, hml, hown, hts⟩ (c_addByte l D tk tx 6 cx u23 fy24 b26 H.size lu23 gu23_0 gu23_1 (by decide)) (cwV 1 hts g_v_c_feed_3 rfl rfl rfl (by decide +kernel) ⟨Nat.le_of_ble_eq_true rfl, Nat.le_of_ble_eq_true rfl⟩) ⟨st_blind, va_recv hKc hPc (ci := 9) (q0 := 0) rfl rfl, fun U hU hW => ⟨rfl, st_call hU hW hPc hKc hDc hZ hS hFc hE⟩⟩ rfl rfl hl.1 rfl (lv_room (Nat.le_of_ble_eq_true rfl)) dX11_feed_67 ⟨Nat.le_of_ble_eq_true rfl, Nat.le_of_ble_eq_true rfl⟩) hS (fun q _ h => hFc q h) hFc (fun  u27 t H1 locs ht hvm hw hB hz1 hk1 hS => ?_)
  have lu27 : u27.length = 10 := by rw [hw, List.length_set]; exact lu23
  have gu27_0 : u27[0]? = some (.ref tx) := by rw [hw]; exact se_ne gu23_0 (by decide)
  have gu27_1 : u27[1]? = some (.int 7) := by rw [hw]; exact se_eq (by rw [lu23]; decide)
  obtain ⟨fy28, hP1, hK1, hD1⟩ := hB
  rw [ht] at hP1
  have hK1 := va_K.moved hvm.symm hK1
  obtain ⟨hP, hD⟩ := va_join (wr := [(h0, .inr (11, xfs)), (tr, .inl (ct, 2, .inr (.inr (.inr (.inr (fun _ => none))))))]) (w1 := [(tk, .inr (9, u27)), (tx, .inl (cx, 3000, .inl fy28))]) hP hD [2, 3] [0, 1] rfl rfl (by decide) (by decide) hk1 hFc hP1 hD1
  have hK := (hK.sub (tys' := [(ct, .object "ScheduleHouse$Trial")]) [0] rfl).app hK1
  generalize H1 = H at hP hS ⊢
  have hP : va_P D vwCl [(h0, .inr (11, xfs)), (tr, .inl (ct, 2, .inr (.inr (.inr (.inr (fun _ => none)))))), (tk, .inr (9, u27)), (tx, .inl (cx, 3000, .inl fy28))] H := hP
  have hD : va_D A [(h0, .inr (11, xfs)), (tr, .inl (ct, 2, .inr (.inr (.inr (.inr (fun _ => none)))))), (tk, .inr (9, u27)), (tx, .inl (cx, 3000, .inl fy28))] := hD
  have hK : va_K D vwCl [(ct, .object "ScheduleHouse$Trial"), (cx, .byte)] s := hK
  refine lv_iinc (v := 7) (lv' := [(4, .int 7), (0, .ref h0), (1, .int 7), (2, .long p1)]) hx hb dX11_feed_70 hl (k := 0) rfl (by decide) (by decide) rfl (fun ls hl => ?_)
  refine lv_goto (tgt := 49) hx hb dX11_feed_73 (by decide) ?_
  refine lv_iload hx hb dX11_feed_49 (lv_at hl 0 rfl) ?_
  refine lv_iload_n hx hb dX11_feed_51 rfl (lv_at hl 2 rfl) ?_
  refine lv_icmp_ge (tgt := 76) hx hb dX11_feed_52 (by decide) (fun _ => ?_) (fun c9 => False.elim (by revert c9; decide))
  refine lv_aload_n hx hb dX11_feed_76 rfl (lv_at hl 1 rfl) ?_
  have hPc := hP.sub (ws' := [(h0, .inr (11, xfs)), (tr, .inl (ct, 2, .inr (.inr (.inr (.inr (fun _ => none))))))]) [0, 1] rfl
  have hDc := hD.sub (ws' := [(h0, .inr (11, xfs)), (tr, .inl (ct, 2, .inr (.inr (.inr (.inr (fun _ => none))))))]) [0, 1] (by decide) rfl
  have hKc := hK.sub (tys' := [(ct, .object "ScheduleHouse$Trial")]) [0] rfl
  have hFc := va_free (wc := [(h0, .inr (11, xfs)), (tr, .inl (ct, 2, .inr (.inr (.inr (.inr (fun _ => none))))))]) hD hS hA [0, 1] rfl
  refine va_callv (va_runV (As := []) (rest := []) ⟨hx, hb, hml, hown, hts⟩ (c_forgetAll l D h0 tr ct xfs H.size hlen hq6) (cwV 0 hts g_v_c_feed_4 rfl rfl rfl (by decide +kernel) ⟨Nat.le_of_ble_eq_true rfl, Nat.le_of_ble_eq_true rfl⟩) ⟨st_blind, va_recv hKc hPc (ci := 11) (q0 := 0) rfl rfl, fun U hU hW => ⟨rfl, st_call hU hW hPc hKc hDc hZ hS hFc hE⟩⟩ rfl rfl hl.1 rfl (lv_room (Nat.le_of_ble_eq_true rfl)) dX11_feed_77 ⟨Nat.le_of_ble_eq_true rfl, Nat.le_of_ble_eq_true rfl⟩) hS (fun q _ h => hFc q h) hFc (fun  u29 t H1 locs ht hvm hw hB hz1 hk1 hS => ?_)
  have lu29 : u29.length = 13 := by rw [hw, List.length_set, List.length_set]; exact hlen
  have gu29_0 : u29[0]? = some (.ref tk) := by rw [hw]; exact se_ne (se_ne hq0 (by decide)) (by decide)
  have gu29_6 : u29[6]? = some (.ref tr) := by rw [hw]; exact se_ne (se_ne hq6 (by decide)) (by decide)
  obtain ⟨hP1, hK1, hD1⟩ := hB
  rw [ht] at hP1
  have hK1 := va_K.moved hvm.symm hK1
  obtain ⟨hP, hD⟩ := va_join (wr := [(tk, .inr (9, u27)), (tx, .inl (cx, 3000, .inl fy28))]) (w1 := [(h0, .inr (11, u29)), (tr, .inl (ct, 2, .inr (.inr (.inr (.inr (fun _ => none))))))]) hP hD [0, 1] [2, 3] rfl rfl (by decide) (by decide) hk1 hFc hP1 hD1
  have hK := (hK.sub (tys' := [(cx, .byte)]) [1] rfl).app hK1
  generalize H1 = H at hP hS ⊢
  have hP : va_P D vwCl [(tk, .inr (9, u27)), (tx, .inl (cx, 3000, .inl fy28)), (h0, .inr (11, u29)), (tr, .inl (ct, 2, .inr (.inr (.inr (.inr (fun _ => none))))))] H := hP
  have hD : va_D A [(tk, .inr (9, u27)), (tx, .inl (cx, 3000, .inl fy28)), (h0, .inr (11, u29)), (tr, .inl (ct, 2, .inr (.inr (.inr (.inr (fun _ => none))))))] := hD
  have hK : va_K D vwCl [(cx, .byte), (ct, .object "ScheduleHouse$Trial")] s := hK
  refine lv_aload_n hx hb dX11_feed_80 rfl (lv_at hl 1 rfl) ?_
  refine va_get (D := D) (ci := 11) (v := .ref tk) (C := RX11) (T := TX11) (N := 13) hx hb hts i_v_c_feed_X11 hown hK hP 2 rfl rfl 0 (by decide) (hts (.fieldLink RX11 10 "ScheduleHouse" "tokens" "LScheduleHouse$Tokens;") (by decide +kernel)) (fun _ h9 => h9) gu29_0 dX11_feed_81 ?_
  refine va_get (D := D) (ci := 9) (v := .int 7) (C := RX9) (T := TX9) (N := 10) hx hb hts i_v_c_feed_X9 hown hK hP 0 rfl rfl 1 (by decide) (hts (.fieldLink RX11 77 "ScheduleHouse$Tokens" "length" "I") (by decide +kernel)) (fun _ h9 => h9) gu27_1 dX11_feed_84 ?_
  refine vx_ret (W.widen (k := 1) (n := 6) (Nat.le_of_ble_eq_true rfl) (Nat.le_of_ble_eq_true rfl) ?_)
  exact W.iret (v := 7) hx hb hr (fun t ht hW => ⟨⟨7, (), rfl, ⟨rfl, by decide, by decide⟩, trivial⟩, hS.F ht⟩) hS.2.2 dX11_feed_87
set_option maxHeartbeats 400000 in
set_option maxRecDepth 100000 in
/-- feed(8, bytes) of a new house -/
theorem c_feed_8 (l : Launch) (hlt : l.stackTraces = false) (D : va_G) (h0 tk tx tr : Nat) (cx ct : ClassId) (xfs tfs : List Value) (f0 : Nat → Int32) (p1 : Int64) (sz : Nat) (hlen : xfs.length = 13) (hq0 : xfs[0]? = some (.ref tk)) (hq6 : xfs[6]? = some (.ref tr)) (hlk : tfs.length = 10) (hk0 : tfs[0]? = some (.ref tx)) (hk1 : tfs[1]? = some (.int 0)) : vx_Met l yX11_feed v_c_feed ({ frames := 6, cells := 1, slots := 6, locals := 110 }) (va_Pc [.ref h0, .int 8, .long p1] (st_ D [(h0, .inr (11, xfs)), (tk, .inr (9, tfs)), (tx, .inl (cx, 3000, .inl f0)), (tr, .inl (ct, 2, .inr (.inr (.inr (.inr (fun _ => none))))))] [(cx, .byte), (ct, .object "ScheduleHouse$Trial")] sz)) (va_Qi (fun (r : Int32) (_ : Unit) => r = (8 : Int32) ∧ ¬ (8 : Int32) < 1 ∧ (8 : Int32) ≤ 8) (fun _ _ => True) (va_A [(h0, .inr (11, xfs)), (tk, .inr (9, tfs)), (tx, .inl (cx, 3000, .inl f0)), (tr, .inl (ct, 2, .inr (.inr (.inr (.inr (fun _ => none))))))] sz)) (vx_X (fun _ : Unit => True) (fun E _ _ => E = iAE ∧ ((8 : Int32) < 1 ∨ ¬ (8 : Int32) ≤ 8)) (va_A [(h0, .inr (11, xfs)), (tk, .inr (9, tfs)), (tx, .inl (cx, 3000, .inl f0)), (tr, .inl (ct, 2, .inr (.inr (.inr (.inr (fun _ => none))))))] sz)) 1 6 (va_A [(h0, .inr (11, xfs)), (tk, .inr (9, tfs)), (tx, .inl (cx, 3000, .inl f0)), (tr, .inl (ct, 2, .inr (.inr (.inr (.inr (fun _ => none))))))] sz) := by
  refine vx_ofW (cc := cX11_feed) (maxL := 5) (ret := (some .int)) (by decide) rfl ?_
  intro p e s m args below meth c s₁ B hml hno hv
  obtain ⟨rfl, hsz, hP, hK, hD0, hZ, hE⟩ := hv
  have hx := B.exec
  have hb := B.bytes
  have hr := B.returns
  have hts := atoms_spec (ws := v_c_feed) B.pre
  have hown : s.vm.findClass RX11 = some m.cls := findClass_of_methodNamed B.named
  have hlocks := B.notSynchronized
  subst hsz
  have hD := hD0.self (sz := s.heap.size)
  generalize hAe : va_A [(h0, .inr (11, xfs)), (tk, .inr (9, tfs)), (tx, .inl (cx, 3000, .inl f0)), (tr, .inl (ct, 2, .inr (.inr (.inr (.inr (fun _ => none))))))] s.heap.size = A at hD hZ ⊢
  have hA : ∀ q : Nat, s.heap.size ≤ q → A q := fun q h => by rw [← hAe]; exact Or.inr h
  have hS : va_S A s.heap s.heap [] := va_S.rf
  have hAO := hE.2.2.2.1
  have hP : va_P D vwCl [(h0, .inr (11, xfs)), (tk, .inr (9, tfs)), (tx, .inl (cx, 3000, .inl f0)), (tr, .inl (ct, 2, .inr (.inr (.inr (.inr (fun _ => none))))))] s.heap := hP
  have hl := lv_entry ([.ref h0, .int 8, .long p1]) (n := 5) (Nat.le_of_ble_eq_true rfl)
  rw [lg_entry_eq]
  generalize (lg_sl ([.ref h0, .int 8, .long p1]) ++ List.replicate (5 - (lg_sl ([.ref h0, .int 8, .long p1])).length) Slot.unset).toArray = ls at hl ⊢
  have hl : lv_has ls 5 [(0, .ref h0), (1, .int 8), (2, .long p1)] := hl
  refine lv_iload_n hx hb dX11_feed_0 rfl (lv_at hl 1 rfl) ?_
  refine lv_iconst (v := 1) hx hb dX11_feed_1 (by decide +kernel) ?_
  refine lv_icmp_lt (tgt := 11) hx hb dX11_feed_2 (by decide) (fun c9 => False.elim (by revert c9; decide)) (fun _ => ?_)
  refine lv_iload_n hx hb dX11_feed_5 rfl (lv_at hl 1 rfl) ?_
  refine lv_bipush (v := 8) hx hb dX11_feed_6 (by decide +kernel) ?_
  refine lv_icmp_le (tgt := 21) hx hb dX11_feed_8 (by decide) (fun _ => ?_) (fun c9 => False.elim (by revert c9; decide))
  refine lv_aload_n hx hb dX11_feed_21 rfl (lv_at hl 0 rfl) ?_
  refine va_get (D := D) (ci := 11) (v := .ref tk) (C := RX11) (T := TX11) (N := 13) hx hb hts i_v_c_feed_X11 hown hK hP 0 rfl rfl 0 (by decide) (hts (.fieldLink RX11 10 "ScheduleHouse" "tokens" "LScheduleHouse$Tokens;") (by decide +kernel)) (fun _ h9 => h9) hq0 dX11_feed_22 ?_
  refine va_get (D := D) (ci := 9) (v := .int 0) (C := RX9) (T := TX9) (N := 10) hx hb hts i_v_c_feed_X9 hown hK hP 1 rfl rfl 1 (by decide) (hts (.fieldLink RX11 77 "ScheduleHouse$Tokens" "length" "I") (by decide +kernel)) (fun _ h9 => h9) hk1 dX11_feed_25 ?_
  refine lv_iload_n hx hb dX11_feed_28 rfl (lv_at hl 1 rfl) ?_
  refine lv_iadd hx hb dX11_feed_29 ?_
  rw [show (0 + 8 : Int32) = 8 by decide]
  refine lv_sipush (v := 3000) hx hb dX11_feed_30 (by decide +kernel) ?_
  refine lv_icmp_le (tgt := 46) hx hb dX11_feed_33 (by decide) (fun _ => ?_) (fun c9 => False.elim (by revert c9; decide))
  refine lv_iconst (v := 0) hx hb dX11_feed_46 (by decide +kernel) ?_
  refine lv_istore (lv' := [(4, .int 0), (0, .ref h0), (1, .int 8), (2, .long p1)]) hx hb dX11_feed_47 hl (by decide) rfl (fun ls hl => ?_)
  refine lv_iload hx hb dX11_feed_49 (lv_at hl 0 rfl) ?_
  refine lv_iload_n hx hb dX11_feed_51 rfl (lv_at hl 2 rfl) ?_
  refine lv_icmp_ge (tgt := 76) hx hb dX11_feed_52 (by decide) (fun c9 => False.elim (by revert c9; decide)) (fun _ => ?_)
  refine lv_aload_n hx hb dX11_feed_55 rfl (lv_at hl 1 rfl) ?_
  refine va_get (D := D) (ci := 11) (v := .ref tk) (C := RX11) (T := TX11) (N := 13) hx hb hts i_v_c_feed_X11 hown hK hP 0 rfl rfl 0 (by decide) (hts (.fieldLink RX11 10 "ScheduleHouse" "tokens" "LScheduleHouse$Tokens;") (by decide +kernel)) (fun _ h9 => h9) hq0 dX11_feed_56 ?_
  refine lv_lload_n hx hb dX11_feed_59 rfl (lv_at hl 3 rfl) ?_
  refine lv_bipush (v := 8) hx hb dX11_feed_60 (by decide +kernel) ?_
  refine lv_iload hx hb dX11_feed_62 (lv_at hl 0 rfl) ?_
  refine lv_imul hx hb dX11_feed_64 ?_
  rw [show (8 * 0 : Int32) = 0 by decide]
  obtain ⟨z1, hz1⟩ : ∃ z : Int64, z = (p1.toUInt64 >>> ((0 : Int32).toInt64.toUInt64 &&& Int64.toUInt64 63)).toInt64 := ⟨_, rfl⟩
  refine lv_lushr (v := z1) hx hb dX11_feed_65 hz1.symm ?_
  obtain ⟨b2, hb2⟩ : ∃ z : Int32, z = z1.toInt32 := ⟨_, rfl⟩
  refine lv_l2i (v := b2) hx hb dX11_feed_66 hb2.symm ?_
  have hPc := hP.sub (ws' := [(tk, .inr (9, tfs)), (tx, .inl (cx, 3000, .inl f0))]) [1, 2] rfl
  have hDc := hD.sub (ws' := [(tk, .inr (9, tfs)), (tx, .inl (cx, 3000, .inl f0))]) [1, 2] (by decide) rfl
  have hKc := hK.sub (tys' := [(cx, .byte)]) [0] rfl
  have hFc := va_free (wc := [(tk, .inr (9, tfs)), (tx, .inl (cx, 3000, .inl f0))]) hD hS hA [1, 2] rfl
  refine va_callv (va_runV (As := [.int b2]) (rest := []) ⟨hx, hb, hml, hown, hts⟩ (c_addByte l D tk tx 0 cx tfs f0 b2 s.heap.size hlk hk0 hk1 (by decide)) (cwV 1 hts g_v_c_feed_3 rfl rfl rfl (by decide +kernel) ⟨Nat.le_of_ble_eq_true rfl, Nat.le_of_ble_eq_true rfl⟩) ⟨st_blind, va_recv hKc hPc (ci := 9) (q0 := 0) rfl rfl, fun U hU hW => ⟨rfl, st_call hU hW hPc hKc hDc hZ hS hFc hE⟩⟩ rfl rfl hl.1 rfl (lv_room (Nat.le_of_ble_eq_true rfl)) dX11_feed_67 ⟨Nat.le_of_ble_eq_true rfl, Nat.le_of_ble_eq_true rfl⟩) hS (fun q _ h => hFc q h) hFc (fun  u3 t H1 locs ht hvm hw hB hz1 hk1 hS => ?_)
  have lu3 : u3.length = 10 := by rw [hw, List.length_set]; exact hlk
  have gu3_0 : u3[0]? = some (.ref tx) := by rw [hw]; exact se_ne hk0 (by decide)
  have gu3_1 : u3[1]? = some (.int 1) := by rw [hw]; exact se_eq (by rw [hlk]; decide)
  obtain ⟨fy4, hP1, hK1, hD1⟩ := hB
  rw [ht] at hP1
  have hK1 := va_K.moved hvm.symm hK1
  obtain ⟨hP, hD⟩ := va_join (wr := [(h0, .inr (11, xfs)), (tr, .inl (ct, 2, .inr (.inr (.inr (.inr (fun _ => none))))))]) (w1 := [(tk, .inr (9, u3)), (tx, .inl (cx, 3000, .inl fy4))]) hP hD [1, 2] [0, 3] rfl rfl (by decide) (by decide) hk1 hFc hP1 hD1
  have hK := (hK.sub (tys' := [(ct, .object "ScheduleHouse$Trial")]) [1] rfl).app hK1
  generalize H1 = H at hP hS ⊢
  have hP : va_P D vwCl [(h0, .inr (11, xfs)), (tr, .inl (ct, 2, .inr (.inr (.inr (.inr (fun _ => none)))))), (tk, .inr (9, u3)), (tx, .inl (cx, 3000, .inl fy4))] H := hP
  have hD : va_D A [(h0, .inr (11, xfs)), (tr, .inl (ct, 2, .inr (.inr (.inr (.inr (fun _ => none)))))), (tk, .inr (9, u3)), (tx, .inl (cx, 3000, .inl fy4))] := hD
  have hK : va_K D vwCl [(ct, .object "ScheduleHouse$Trial"), (cx, .byte)] s := hK
  refine lv_iinc (v := 1) (lv' := [(4, .int 1), (0, .ref h0), (1, .int 8), (2, .long p1)]) hx hb dX11_feed_70 hl (k := 0) rfl (by decide) (by decide) rfl (fun ls hl => ?_)
  refine lv_goto (tgt := 49) hx hb dX11_feed_73 (by decide) ?_
  refine lv_iload hx hb dX11_feed_49 (lv_at hl 0 rfl) ?_
  refine lv_iload_n hx hb dX11_feed_51 rfl (lv_at hl 2 rfl) ?_
  refine lv_icmp_ge (tgt := 76) hx hb dX11_feed_52 (by decide) (fun c9 => False.elim (by revert c9; decide)) (fun _ => ?_)
  refine lv_aload_n hx hb dX11_feed_55 rfl (lv_at hl 1 rfl) ?_
  refine va_get (D := D) (ci := 11) (v := .ref tk) (C := RX11) (T := TX11) (N := 13) hx hb hts i_v_c_feed_X11 hown hK hP 0 rfl rfl 0 (by decide) (hts (.fieldLink RX11 10 "ScheduleHouse" "tokens" "LScheduleHouse$Tokens;") (by decide +kernel)) (fun _ h9 => h9) hq0 dX11_feed_56 ?_
  refine lv_lload_n hx hb dX11_feed_59 rfl (lv_at hl 3 rfl) ?_
  refine lv_bipush (v := 8) hx hb dX11_feed_60 (by decide +kernel) ?_
  refine lv_iload hx hb dX11_feed_62 (lv_at hl 0 rfl) ?_
  refine lv_imul hx hb dX11_feed_64 ?_
  rw [show (8 * 1 : Int32) = 8 by decide]
  obtain ⟨z5, hz5⟩ : ∃ z : Int64, z = (p1.toUInt64 >>> ((8 : Int32).toInt64.toUInt64 &&& Int64.toUInt64 63)).toInt64 := ⟨_, rfl⟩
  refine lv_lushr (v := z5) hx hb dX11_feed_65 hz5.symm ?_
  obtain ⟨b6, hb6⟩ : ∃ z : Int32, z = z5.toInt32 := ⟨_, rfl⟩
  refine lv_l2i (v := b6) hx hb dX11_feed_66 hb6.symm ?_
  have hPc := hP.sub (ws' := [(tk, .inr (9, u3)), (tx, .inl (cx, 3000, .inl fy4))]) [2, 3] rfl
  have hDc := hD.sub (ws' := [(tk, .inr (9, u3)), (tx, .inl (cx, 3000, .inl fy4))]) [2, 3] (by decide) rfl
  have hKc := hK.sub (tys' := [(cx, .byte)]) [1] rfl
  have hFc := va_free (wc := [(tk, .inr (9, u3)), (tx, .inl (cx, 3000, .inl fy4))]) hD hS hA [2, 3] rfl
  refine va_callv (va_runV (As := [.int b6]) (rest := []) ⟨hx, hb, hml, hown, hts⟩ (c_addByte l D tk tx 1 cx u3 fy4 b6 H.size lu3 gu3_0 gu3_1 (by decide)) (cwV 1 hts g_v_c_feed_3 rfl rfl rfl (by decide +kernel) ⟨Nat.le_of_ble_eq_true rfl, Nat.le_of_ble_eq_true rfl⟩) ⟨st_blind, va_recv hKc hPc (ci := 9) (q0 := 0) rfl rfl, fun U hU hW => ⟨rfl, st_call hU hW hPc hKc hDc hZ hS hFc hE⟩⟩ rfl rfl hl.1 rfl (lv_room (Nat.le_of_ble_eq_true rfl)) dX11_feed_67 ⟨Nat.le_of_ble_eq_true rfl, Nat.le_of_ble_eq_true rfl⟩) hS (fun q _ h => hFc q h) hFc (fun  u7 t H1 locs ht hvm hw hB hz1 hk1 hS => ?_)
  have lu7 : u7.length = 10 := by rw [hw, List.length_set]; exact lu3
  have gu7_0 : u7[0]? = some (.ref tx) := by rw [hw]; exact se_ne gu3_0 (by decide)
  have gu7_1 : u7[1]? = some (.int 2) := by rw [hw]; exact se_eq (by rw [lu3]; decide)
  obtain ⟨fy8, hP1, hK1, hD1⟩ := hB
  rw [ht] at hP1
  have hK1 := va_K.moved hvm.symm hK1
  obtain ⟨hP, hD⟩ := va_join (wr := [(h0, .inr (11, xfs)), (tr, .inl (ct, 2, .inr (.inr (.inr (.inr (fun _ => none))))))]) (w1 := [(tk, .inr (9, u7)), (tx, .inl (cx, 3000, .inl fy8))]) hP hD [2, 3] [0, 1] rfl rfl (by decide) (by decide) hk1 hFc hP1 hD1
  have hK := (hK.sub (tys' := [(ct, .object "ScheduleHouse$Trial")]) [0] rfl).app hK1
  generalize H1 = H at hP hS ⊢
  have hP : va_P D vwCl [(h0, .inr (11, xfs)), (tr, .inl (ct, 2, .inr (.inr (.inr (.inr (fun _ => none)))))), (tk, .inr (9, u7)), (tx, .inl (cx, 3000, .inl fy8))] H := hP
  have hD : va_D A [(h0, .inr (11, xfs)), (tr, .inl (ct, 2, .inr (.inr (.inr (.inr (fun _ => none)))))), (tk, .inr (9, u7)), (tx, .inl (cx, 3000, .inl fy8))] := hD
  have hK : va_K D vwCl [(ct, .object "ScheduleHouse$Trial"), (cx, .byte)] s := hK
  refine lv_iinc (v := 2) (lv' := [(4, .int 2), (0, .ref h0), (1, .int 8), (2, .long p1)]) hx hb dX11_feed_70 hl (k := 0) rfl (by decide) (by decide) rfl (fun ls hl => ?_)
  refine lv_goto (tgt := 49) hx hb dX11_feed_73 (by decide) ?_
  refine lv_iload hx hb dX11_feed_49 (lv_at hl 0 rfl) ?_
  refine lv_iload_n hx hb dX11_feed_51 rfl (lv_at hl 2 rfl) ?_
  refine lv_icmp_ge (tgt := 76) hx hb dX11_feed_52 (by decide) (fun c9 => False.elim (by revert c9; decide)) (fun _ => ?_)
  refine lv_aload_n hx hb dX11_feed_55 rfl (lv_at hl 1 rfl) ?_
  refine va_get (D := D) (ci := 11) (v := .ref tk) (C := RX11) (T := TX11) (N := 13) hx hb hts i_v_c_feed_X11 hown hK hP 0 rfl rfl 0 (by decide) (hts (.fieldLink RX11 10 "ScheduleHouse" "tokens" "LScheduleHouse$Tokens;") (by decide +kernel)) (fun _ h9 => h9) hq0 dX11_feed_56 ?_
  refine lv_lload_n hx hb dX11_feed_59 rfl (lv_at hl 3 rfl) ?_
  refine lv_bipush (v := 8) hx hb dX11_feed_60 (by decide +kernel) ?_
  refine lv_iload hx hb dX11_feed_62 (lv_at hl 0 rfl) ?_
  refine lv_imul hx hb dX11_feed_64 ?_
  rw [show (8 * 2 : Int32) = 16 by decide]
  obtain ⟨z9, hz9⟩ : ∃ z : Int64, z = (p1.toUInt64 >>> ((16 : Int32).toInt64.toUInt64 &&& Int64.toUInt64 63)).toInt64 := ⟨_, rfl⟩
  refine lv_lushr (v := z9) hx hb dX11_feed_65 hz9.symm ?_
  obtain ⟨b10, hb10⟩ : ∃ z : Int32, z = z9.toInt32 := ⟨_, rfl⟩
  refine lv_l2i (v := b10) hx hb dX11_feed_66 hb10.symm ?_
  have hPc := hP.sub (ws' := [(tk, .inr (9, u7)), (tx, .inl (cx, 3000, .inl fy8))]) [2, 3] rfl
  have hDc := hD.sub (ws' := [(tk, .inr (9, u7)), (tx, .inl (cx, 3000, .inl fy8))]) [2, 3] (by decide) rfl
  have hKc := hK.sub (tys' := [(cx, .byte)]) [1] rfl
  have hFc := va_free (wc := [(tk, .inr (9, u7)), (tx, .inl (cx, 3000, .inl fy8))]) hD hS hA [2, 3] rfl
  refine va_callv (va_runV (As := [.int b10]) (rest := []) ⟨hx, hb, hml, hown, hts⟩ (c_addByte l D tk tx 2 cx u7 fy8 b10 H.size lu7 gu7_0 gu7_1 (by decide)) (cwV 1 hts g_v_c_feed_3 rfl rfl rfl (by decide +kernel) ⟨Nat.le_of_ble_eq_true rfl, Nat.le_of_ble_eq_true rfl⟩) ⟨st_blind, va_recv hKc hPc (ci := 9) (q0 := 0) rfl rfl, fun U hU hW => ⟨rfl, st_call hU hW hPc hKc hDc hZ hS hFc hE⟩⟩ rfl rfl hl.1 rfl (lv_room (Nat.le_of_ble_eq_true rfl)) dX11_feed_67 ⟨Nat.le_of_ble_eq_true rfl, Nat.le_of_ble_eq_true rfl⟩) hS (fun q _ h => hFc q h) hFc (fun  u11 t H1 locs ht hvm hw hB hz1 hk1 hS => ?_)
  have lu11 : u11.length = 10 := by rw [hw, List.length_set]; exact lu7
  have gu11_0 : u11[0]? = some (.ref tx) := by rw [hw]; exact se_ne gu7_0 (by decide)
  have gu11_1 : u11[1]? = some (.int 3) := by rw [hw]; exact se_eq (by rw [lu7]; decide)
  obtain ⟨fy12, hP1, hK1, hD1⟩ := hB
  rw [ht] at hP1
  have hK1 := va_K.moved hvm.symm hK1
  obtain ⟨hP, hD⟩ := va_join (wr := [(h0, .inr (11, xfs)), (tr, .inl (ct, 2, .inr (.inr (.inr (.inr (fun _ => none))))))]) (w1 := [(tk, .inr (9, u11)), (tx, .inl (cx, 3000, .inl fy12))]) hP hD [2, 3] [0, 1] rfl rfl (by decide) (by decide) hk1 hFc hP1 hD1
  have hK := (hK.sub (tys' := [(ct, .object "ScheduleHouse$Trial")]) [0] rfl).app hK1
  generalize H1 = H at hP hS ⊢
  have hP : va_P D vwCl [(h0, .inr (11, xfs)), (tr, .inl (ct, 2, .inr (.inr (.inr (.inr (fun _ => none)))))), (tk, .inr (9, u11)), (tx, .inl (cx, 3000, .inl fy12))] H := hP
  have hD : va_D A [(h0, .inr (11, xfs)), (tr, .inl (ct, 2, .inr (.inr (.inr (.inr (fun _ => none)))))), (tk, .inr (9, u11)), (tx, .inl (cx, 3000, .inl fy12))] := hD
  have hK : va_K D vwCl [(ct, .object "ScheduleHouse$Trial"), (cx, .byte)] s := hK
  refine lv_iinc (v := 3) (lv' := [(4, .int 3), (0, .ref h0), (1, .int 8), (2, .long p1)]) hx hb dX11_feed_70 hl (k := 0) rfl (by decide) (by decide) rfl (fun ls hl => ?_)
  refine lv_goto (tgt := 49) hx hb dX11_feed_73 (by decide) ?_
  refine lv_iload hx hb dX11_feed_49 (lv_at hl 0 rfl) ?_
  refine lv_iload_n hx hb dX11_feed_51 rfl (lv_at hl 2 rfl) ?_
  refine lv_icmp_ge (tgt := 76) hx hb dX11_feed_52 (by decide) (fun c9 => False.elim (by revert c9; decide)) (fun _ => ?_)
  refine lv_aload_n hx hb dX11_feed_55 rfl (lv_at hl 1 rfl) ?_
  refine va_get (D := D) (ci := 11) (v := .ref tk) (C := RX11) (T := TX11) (N := 13) hx hb hts i_v_c_feed_X11 hown hK hP 0 rfl rfl 0 (by decide) (hts (.fieldLink RX11 10 "ScheduleHouse" "tokens" "LScheduleHouse$Tokens;") (by decide +kernel)) (fun _ h9 => h9) hq0 dX11_feed_56 ?_
  refine lv_lload_n hx hb dX11_feed_59 rfl (lv_at hl 3 rfl) ?_
  refine lv_bipush (v := 8) hx hb dX11_feed_60 (by decide +kernel) ?_
  refine lv_iload hx hb dX11_feed_62 (lv_at hl 0 rfl) ?_
  refine lv_imul hx hb dX11_feed_64 ?_
  rw [show (8 * 3 : Int32) = 24 by decide]
  obtain ⟨z13, hz13⟩ : ∃ z : Int64, z = (p1.toUInt64 >>> ((24 : Int32).toInt64.toUInt64 &&& Int64.toUInt64 63)).toInt64 := ⟨_, rfl⟩
  refine lv_lushr (v := z13) hx hb dX11_feed_65 hz13.symm ?_
  obtain ⟨b14, hb14⟩ : ∃ z : Int32, z = z13.toInt32 := ⟨_, rfl⟩
  refine lv_l2i (v := b14) hx hb dX11_feed_66 hb14.symm ?_
  have hPc := hP.sub (ws' := [(tk, .inr (9, u11)), (tx, .inl (cx, 3000, .inl fy12))]) [2, 3] rfl
  have hDc := hD.sub (ws' := [(tk, .inr (9, u11)), (tx, .inl (cx, 3000, .inl fy12))]) [2, 3] (by decide) rfl
  have hKc := hK.sub (tys' := [(cx, .byte)]) [1] rfl
  have hFc := va_free (wc := [(tk, .inr (9, u11)), (tx, .inl (cx, 3000, .inl fy12))]) hD hS hA [2, 3] rfl
  refine va_callv (va_runV (As := [.int b14]) (rest := []) ⟨hx, hb, hml, hown, hts⟩ (c_addByte l D tk tx 3 cx u11 fy12 b14 H.size lu11 gu11_0 gu11_1 (by decide)) (cwV 1 hts g_v_c_feed_3 rfl rfl rfl (by decide +kernel) ⟨Nat.le_of_ble_eq_true rfl, Nat.le_of_ble_eq_true rfl⟩) ⟨st_blind, va_recv hKc hPc (ci := 9) (q0 := 0) rfl rfl, fun U hU hW => ⟨rfl, st_call hU hW hPc hKc hDc hZ hS hFc hE⟩⟩ rfl rfl hl.1 rfl (lv_room (Nat.le_of_ble_eq_true rfl)) dX11_feed_67 ⟨Nat.le_of_ble_eq_true rfl, Nat.le_of_ble_eq_true rfl⟩) hS (fun q _ h => hFc q h) hFc (fun  u15 t H1 locs ht hvm hw hB hz1 hk1 hS => ?_)
  have lu15 : u15.length = 10 := by rw [hw, List.length_set]; exact lu11
  have gu15_0 : u15[0]? = some (.ref tx) := by rw [hw]; exact se_ne gu11_0 (by decide)
  have gu15_1 : u15[1]? = some (.int 4) := by rw [hw]; exact se_eq (by rw [lu11]; decide)
  obtain ⟨fy16, hP1, hK1, hD1⟩ := hB
  rw [ht] at hP1
  have hK1 := va_K.moved hvm.symm hK1
  obtain ⟨hP, hD⟩ := va_join (wr := [(h0, .inr (11, xfs)), (tr, .inl (ct, 2, .inr (.inr (.inr (.inr (fun _ => none))))))]) (w1 := [(tk, .inr (9, u15)), (tx, .inl (cx, 3000, .inl fy16))]) hP hD [2, 3] [0, 1] rfl rfl (by decide) (by decide) hk1 hFc hP1 hD1
  have hK := (hK.sub (tys' := [(ct, .object "ScheduleHouse$Trial")]) [0] rfl).app hK1
  generalize H1 = H at hP hS ⊢
  have hP : va_P D vwCl [(h0, .inr (11, xfs)), (tr, .inl (ct, 2, .inr (.inr (.inr (.inr (fun _ => none)))))), (tk, .inr (9, u15)), (tx, .inl (cx, 3000, .inl fy16))] H := hP
  have hD : va_D A [(h0, .inr (11, xfs)), (tr, .inl (ct, 2, .inr (.inr (.inr (.inr (fun _ => none)))))), (tk, .inr (9, u15)), (tx, .inl (cx, 3000, .inl fy16))] := hD
  have hK : va_K D vwCl [(ct, .object "ScheduleHouse$Trial"), (cx, .byte)] s := hK
  refine lv_iinc (v := 4) (lv' := [(4, .int 4), (0, .ref h0), (1, .int 8), (2, .long p1)]) hx hb dX11_feed_70 hl (k := 0) rfl (by decide) (by decide) rfl (fun ls hl => ?_)
  refine lv_goto (tgt := 49) hx hb dX11_feed_73 (by decide) ?_
  refine lv_iload hx hb dX11_feed_49 (lv_at hl 0 rfl) ?_
  refine lv_iload_n hx hb dX11_feed_51 rfl (lv_at hl 2 rfl) ?_
  refine lv_icmp_ge (tgt := 76) hx hb dX11_feed_52 (by decide) (fun c9 => False.elim (by revert c9; decide)) (fun _ => ?_)
  refine lv_aload_n hx hb dX11_feed_55 rfl (lv_at hl 1 rfl) ?_
  refine va_get (D := D) (ci := 11) (v := .ref tk) (C := RX11) (T := TX11) (N := 13) hx hb hts i_v_c_feed_X11 hown hK hP 0 rfl rfl 0 (by decide) (hts (.fieldLink RX11 10 "ScheduleHouse" "tokens" "LScheduleHouse$Tokens;") (by decide +kernel)) (fun _ h9 => h9) hq0 dX11_feed_56 ?_
  refine lv_lload_n hx hb dX11_feed_59 rfl (lv_at hl 3 rfl) ?_
  refine lv_bipush (v := 8) hx hb dX11_feed_60 (by decide +kernel) ?_
  refine lv_iload hx hb dX11_feed_62 (lv_at hl 0 rfl) ?_
  refine lv_imul hx hb dX11_feed_64 ?_
  rw [show (8 * 4 : Int32) = 32 by decide]
  obtain ⟨z17, hz17⟩ : ∃ z : Int64, z = (p1.toUInt64 >>> ((32 : Int32).toInt64.toUInt64 &&& Int64.toUInt64 63)).toInt64 := ⟨_, rfl⟩
  refine lv_lushr (v := z17) hx hb dX11_feed_65 hz17.symm ?_
  obtain ⟨b18, hb18⟩ : ∃ z : Int32, z = z17.toInt32 := ⟨_, rfl⟩
  refine lv_l2i (v := b18) hx hb dX11_feed_66 hb18.symm ?_
  have hPc := hP.sub (ws' := [(tk, .inr (9, u15)), (tx, .inl (cx, 3000, .inl fy16))]) [2, 3] rfl
  have hDc := hD.sub (ws' := [(tk, .inr (9, u15)), (tx, .inl (cx, 3000, .inl fy16))]) [2, 3] (by decide) rfl
  have hKc := hK.sub (tys' := [(cx, .byte)]) [1] rfl
  have hFc := va_free (wc := [(tk, .inr (9, u15)), (tx, .inl (cx, 3000, .inl fy16))]) hD hS hA [2, 3] rfl
  refine va_callv (va_runV (As := [.int b18]) (rest := []) ⟨hx, hb, hml, hown, hts⟩ (c_addByte l D tk tx 4 cx u15 fy16 b18 H.size lu15 gu15_0 gu15_1 (by decide)) (cwV 1 hts g_v_c_feed_3 rfl rfl rfl (by decide +kernel) ⟨Nat.le_of_ble_eq_true rfl, Nat.le_of_ble_eq_true rfl⟩) ⟨st_blind, va_recv hKc hPc (ci := 9) (q0 := 0) rfl rfl, fun U hU hW => ⟨rfl, st_call hU hW hPc hKc hDc hZ hS hFc hE⟩⟩ rfl rfl hl.1 rfl (lv_room (Nat.le_of_ble_eq_true rfl)) dX11_feed_67 ⟨Nat.le_of_ble_eq_true rfl, Nat.le_of_ble_eq_true rfl⟩) hS (fun q _ h => hFc q h) hFc (fun  u19 t H1 locs ht hvm hw hB hz1 hk1 hS => ?_)
  have lu19 : u19.length = 10 := by rw [hw, List.length_set]; exact lu15
  have gu19_0 : u19[0]? = some (.ref tx) := by rw [hw]; exact se_ne gu15_0 (by decide)
  have gu19_1 : u19[1]? = some (.int 5) := by rw [hw]; exact se_eq (by rw [lu15]; decide)
  obtain ⟨fy20, hP1, hK1, hD1⟩ := hB
  rw [ht] at hP1
  have hK1 := va_K.moved hvm.symm hK1
  obtain ⟨hP, hD⟩ := va_join (wr := [(h0, .inr (11, xfs)), (tr, .inl (ct, 2, .inr (.inr (.inr (.inr (fun _ => none))))))]) (w1 := [(tk, .inr (9, u19)), (tx, .inl (cx, 3000, .inl fy20))]) hP hD [2, 3] [0, 1] rfl rfl (by decide) (by decide) hk1 hFc hP1 hD1
  have hK := (hK.sub (tys' := [(ct, .object "ScheduleHouse$Trial")]) [0] rfl).app hK1
  generalize H1 = H at hP hS ⊢
  have hP : va_P D vwCl [(h0, .inr (11, xfs)), (tr, .inl (ct, 2, .inr (.inr (.inr (.inr (fun _ => none)))))), (tk, .inr (9, u19)), (tx, .inl (cx, 3000, .inl fy20))] H := hP
  have hD : va_D A [(h0, .inr (11, xfs)), (tr, .inl (ct, 2, .inr (.inr (.inr (.inr (fun _ => none)))))), (tk, .inr (9, u19)), (tx, .inl (cx, 3000, .inl fy20))] := hD
  have hK : va_K D vwCl [(ct, .object "ScheduleHouse$Trial"), (cx, .byte)] s := hK
  refine lv_iinc (v := 5) (lv' := [(4, .int 5), (0, .ref h0), (1, .int 8), (2, .long p1)]) hx hb dX11_feed_70 hl (k := 0) rfl (by decide) (by decide) rfl (fun ls hl => ?_)
  refine lv_goto (tgt := 49) hx hb dX11_feed_73 (by decide) ?_
  refine lv_iload hx hb dX11_feed_49 (lv_at hl 0 rfl) ?_
  refine lv_iload_n hx hb dX11_feed_51 rfl (lv_at hl 2 rfl) ?_
  refine lv_icmp_ge (tgt := 76) hx hb dX11_feed_52 (by decide) (fun c9 => False.elim (by revert c9; decide)) (fun _ => ?_)
  refine lv_aload_n hx hb dX11_feed_55 rfl (lv_at hl 1 rfl) ?_
  refine va_get (D := D) (ci := 11) (v := .ref tk) (C := RX11) (T := TX11) (N := 13) hx hb hts i_v_c_feed_X11 hown hK hP 0 rfl rfl 0 (by decide) (hts (.fieldLink RX11 10 "ScheduleHouse" "tokens" "LScheduleHouse$Tokens;") (by decide +kernel)) (fun _ h9 => h9) hq0 dX11_feed_56 ?_
  refine lv_lload_n hx hb dX11_feed_59 rfl (lv_at hl 3 rfl) ?_
  refine lv_bipush (v := 8) hx hb dX11_feed_60 (by decide +kernel) ?_
  refine lv_iload hx hb dX11_feed_62 (lv_at hl 0 rfl) ?_
  refine lv_imul hx hb dX11_feed_64 ?_
  rw [show (8 * 5 : Int32) = 40 by decide]
  obtain ⟨z21, hz21⟩ : ∃ z : Int64, z = (p1.toUInt64 >>> ((40 : Int32).toInt64.toUInt64 &&& Int64.toUInt64 63)).toInt64 := ⟨_, rfl⟩
  refine lv_lushr (v := z21) hx hb dX11_feed_65 hz21.symm ?_
  obtain ⟨b22, hb22⟩ : ∃ z : Int32, z = z21.toInt32 := ⟨_, rfl⟩
  refine lv_l2i (v := b22) hx hb dX11_feed_66 hb22.symm ?_
  have hPc := hP.sub (ws' := [(tk, .inr (9, u19)), (tx, .inl (cx, 3000, .inl fy20))]) [2, 3] rfl
  have hDc := hD.sub (ws' := [(tk, .inr (9, u19)), (tx, .inl (cx, 3000, .inl fy20))]) [2, 3] (by decide) rfl
  have hKc := hK.sub (tys' := [(cx, .byte)]) [1] rfl
  have hFc := va_free (wc := [(tk, .inr (9, u19)), (tx, .inl (cx, 3000, .inl fy20))]) hD hS hA [2, 3] rfl
  refine va_callv (va_runV (As := [.int b22]) (rest := []) ⟨hx, hb, hml, hown, hts⟩ (c_addByte l D tk tx 5 cx u19 fy20 b22 H.size lu19 gu19_0 gu19_1 (by decide)) (cwV 1 hts g_v_c_feed_3 rfl rfl rfl (by decide +kernel) ⟨Nat.le_of_ble_eq_true rfl, Nat.le_of_ble_eq_true rfl⟩) ⟨st_blind, va_recv hKc hPc (ci := 9) (q0 := 0) rfl rfl, fun U hU hW => ⟨rfl, st_call hU hW hPc hKc hDc hZ hS hFc hE⟩⟩ rfl rfl hl.1 rfl (lv_room (Nat.le_of_ble_eq_true rfl)) dX11_feed_67 ⟨Nat.le_of_ble_eq_true rfl, Nat.le_of_ble_eq_true rfl⟩) hS (fun q _ h => hFc q h) hFc (fun  u23 t H1 locs ht hvm hw hB hz1 hk1 hS => ?_)
  have lu23 : u23.length = 10 := by rw [hw, List.length_set]; exact lu19
  have gu23_0 : u23[0]? = some (.ref tx) := by rw [hw]; exact se_ne gu19_0 (by decide)
  have gu23_1 : u23[1]? = some (.int 6) := by rw [hw]; exact se_eq (by rw [lu19]; decide)
  obtain ⟨fy24, hP1, hK1, hD1⟩ := hB
  rw [ht] at hP1
  have hK1 := va_K.moved hvm.symm hK1
  obtain ⟨hP, hD⟩ := va_join (wr := [(h0, .inr (11, xfs)), (tr, .inl (ct, 2, .inr (.inr (.inr (.inr (fun _ => none))))))]) (w1 := [(tk, .inr (9, u23)), (tx, .inl (cx, 3000, .inl fy24))]) hP hD [2, 3] [0, 1] rfl rfl (by decide) (by decide) hk1 hFc hP1 hD1
  have hK := (hK.sub (tys' := [(ct, .object "ScheduleHouse$Trial")]) [0] rfl).app hK1
  generalize H1 = H at hP hS ⊢
  have hP : va_P D vwCl [(h0, .inr (11, xfs)), (tr, .inl (ct, 2, .inr (.inr (.inr (.inr (fun _ => none)))))), (tk, .inr (9, u23)), (tx, .inl (cx, 3000, .inl fy24))] H := hP
  have hD : va_D A [(h0, .inr (11, xfs)), (tr, .inl (ct, 2, .inr (.inr (.inr (.inr (fun _ => none)))))), (tk, .inr (9, u23)), (tx, .inl (cx, 3000, .inl fy24))] := hD
  have hK : va_K D vwCl [(ct, .object "ScheduleHouse$Trial"), (cx, .byte)] s := hK
  refine lv_iinc (v := 6) (lv' := [(4, .int 6), (0, .ref h0), (1, .int 8), (2, .long p1)]) hx hb dX11_feed_70 hl (k := 0) rfl (by decide) (by decide) rfl (fun ls hl => ?_)
  refine lv_goto (tgt := 49) hx hb dX11_feed_73 (by decide) ?_
  refine lv_iload hx hb dX11_feed_49 (lv_at hl 0 rfl) ?_
  refine lv_iload_n hx hb dX11_feed_51 rfl (lv_at hl 2 rfl) ?_
  refine lv_icmp_ge (tgt := 76) hx hb dX11_feed_52 (by decide) (fun c9 => False.elim (by revert c9; decide)) (fun _ => ?_)
  refine lv_aload_n hx hb dX11_feed_55 rfl (lv_at hl 1 rfl) ?_
  refine va_get (D := D) (ci := 11) (v := .ref tk) (C := RX11) (T := TX11) (N := 13) hx hb hts i_v_c_feed_X11 hown hK hP 0 rfl rfl 0 (by decide) (hts (.fieldLink RX11 10 "ScheduleHouse" "tokens" "LScheduleHouse$Tokens;") (by decide +kernel)) (fun _ h9 => h9) hq0 dX11_feed_56 ?_
  refine lv_lload_n hx hb dX11_feed_59 rfl (lv_at hl 3 rfl) ?_
  refine lv_bipush (v := 8) hx hb dX11_feed_60 (by decide +kernel) ?_
  refine lv_iload hx hb dX11_feed_62 (lv_at hl 0 rfl) ?_
  refine lv_imul hx hb dX11_feed_64 ?_
  rw [show (8 * 6 : Int32) = 48 by decide]
  obtain ⟨z25, hz25⟩ : ∃ z : Int64, z = (p1.toUInt64 >>> ((48 : Int32).toInt64.toUInt64 &&& Int64.toUInt64 63)).toInt64 := ⟨_, rfl⟩
  refine lv_lushr (v := z25) hx hb dX11_feed_65 hz25.symm ?_
  obtain ⟨b26, hb26⟩ : ∃ z : Int32, z = z25.toInt32 := ⟨_, rfl⟩
  refine lv_l2i (v := b26) hx hb dX11_feed_66 hb26.symm ?_
  have hPc := hP.sub (ws' := [(tk, .inr (9, u23)), (tx, .inl (cx, 3000, .inl fy24))]) [2, 3] rfl
  have hDc := hD.sub (ws' := [(tk, .inr (9, u23)), (tx, .inl (cx, 3000, .inl fy24))]) [2, 3] (by decide) rfl
  have hKc := hK.sub (tys' := [(cx, .byte)]) [1] rfl
  have hFc := va_free (wc := [(tk, .inr (9, u23)), (tx, .inl (cx, 3000, .inl fy24))]) hD hS hA [2, 3] rfl
  refine va_callv (va_runV (As := [.int b26]) (rest := []) ⟨hx, hb, hml, hown, hts⟩ (c_addByte l D tk tx 6 cx u23 fy24 b26 H.size lu23 gu23_0 gu23_1 (by decide)) (cwV 1 hts g_v_c_feed_3 rfl rfl rfl (by decide +kernel) ⟨Nat.le_of_ble_eq_true rfl, Nat.le_of_ble_eq_true rfl⟩) ⟨st_blind, va_recv hKc hPc (ci := 9) (q0 := 0) rfl rfl, fun U hU hW => ⟨rfl, st_call hU hW hPc hKc hDc hZ hS hFc hE⟩⟩ rfl rfl hl.1 rfl (lv_room (Nat.le_of_ble_eq_true rfl)) dX11_feed_67 ⟨Nat.le_of_ble_eq_true rfl, Nat.le_of_ble_eq_true rfl⟩) hS (fun q _ h => hFc q h) hFc (fun  u27 t H1 locs ht hvm hw hB hz1 hk1 hS => ?_)
  have lu27 : u27.length = 10 := by rw [hw, List.length_set]; exact lu23
  have gu27_0 : u27[0]? = some (.ref tx) := by rw [hw]; exact se_ne gu23_0 (by decide)
  have gu27_1 : u27[1]? = some (.int 7) := by rw [hw]; exact se_eq (by rw [lu23]; decide)
  obtain ⟨fy28, hP1, hK1, hD1⟩ := hB
  rw [ht] at hP1
  have hK1 := va_K.moved hvm.symm hK1
  obtain ⟨hP, hD⟩ := va_join (wr := [(h0, .inr (11, xfs)), (tr, .inl (ct, 2, .inr (.inr (.inr (.inr (fun _ => none))))))]) (w1 := [(tk, .inr (9, u27)), (tx, .inl (cx, 3000, .inl fy28))]) hP hD [2, 3] [0, 1] rfl rfl (by decide) (by decide) hk1 hFc hP1 hD1
  have hK := (hK.sub (tys' := [(ct, .object "ScheduleHouse$Trial")]) [0] rfl).app hK1
  generalize H1 = H at hP hS ⊢
  have hP : va_P D vwCl [(h0, .inr (11, xfs)), (tr, .inl (ct, 2, .inr (.inr (.inr (.inr (fun _ => none)))))), (tk, .inr (9, u27)), (tx, .inl (cx, 3000, .inl fy28))] H := hP
  have hD : va_D A [(h0, .inr (11, xfs)), (tr, .inl (ct, 2, .inr (.inr (.inr (.inr (fun _ => none)))))), (tk, .inr (9, u27)), (tx, .inl (cx, 3000, .inl fy28))] := hD
  have hK : va_K D vwCl [(ct, .object "ScheduleHouse$Trial"), (cx, .byte)] s := hK
  refine lv_iinc (v := 7) (lv' := [(4, .int 7), (0, .ref h0), (1, .int 8), (2, .long p1)]) hx hb dX11_feed_70 hl (k := 0) rfl (by decide) (by decide) rfl (fun ls hl => ?_)
  refine lv_goto (tgt := 49) hx hb dX11_feed_73 (by decide) ?_
  refine lv_iload hx hb dX11_feed_49 (lv_at hl 0 rfl) ?_
  refine lv_iload_n hx hb dX11_feed_51 rfl (lv_at hl 2 rfl) ?_
  refine lv_icmp_ge (tgt := 76) hx hb dX11_feed_52 (by decide) (fun c9 => False.elim (by revert c9; decide)) (fun _ => ?_)
  refine lv_aload_n hx hb dX11_feed_55 rfl (lv_at hl 1 rfl) ?_
  refine va_get (D := D) (ci := 11) (v := .ref tk) (C := RX11) (T := TX11) (N := 13) hx hb hts i_v_c_feed_X11 hown hK hP 0 rfl rfl 0 (by decide) (hts (.fieldLink RX11 10 "ScheduleHouse" "tokens" "LScheduleHouse$Tokens;") (by decide +kernel)) (fun _ h9 => h9) hq0 dX11_feed_56 ?_
  refine lv_lload_n hx hb dX11_feed_59 rfl (lv_at hl 3 rfl) ?_
  refine lv_bipush (v := 8) hx hb dX11_feed_60 (by decide +kernel) ?_
  refine lv_iload hx hb dX11_feed_62 (lv_at hl 0 rfl) ?_
  refine lv_imul hx hb dX11_feed_64 ?_
  rw [show (8 * 7 : Int32) = 56 by decide]
  obtain ⟨z29, hz29⟩ : ∃ z : Int64, z = (p1.toUInt64 >>> ((56 : Int32).toInt64.toUInt64 &&& Int64.toUInt64 63)).toInt64 := ⟨_, rfl⟩
  refine lv_lushr (v := z29) hx hb dX11_feed_65 hz29.symm ?_
  obtain ⟨b30, hb30⟩ : ∃ z : Int32, z = z29.toInt32 := ⟨_, rfl⟩
  refine lv_l2i (v := b30) hx hb dX11_feed_66 hb30.symm ?_
  have hPc := hP.sub (ws' := [(tk, .inr (9, u27)), (tx, .inl (cx, 3000, .inl fy28))]) [2, 3] rfl
  have hDc := hD.sub (ws' := [(tk, .inr (9, u27)), (tx, .inl (cx, 3000, .inl fy28))]) [2, 3] (by decide) rfl
  have hKc := hK.sub (tys' := [(cx, .byte)]) [1] rfl
  have hFc := va_free (wc := [(tk, .inr (9, u27)), (tx, .inl (cx, 3000, .inl fy28))]) hD hS hA [2, 3] rfl
  refine va_callv (va_runV (As := [.int b30]) (rest := []) ⟨hx, hb, hml, hown, hts⟩ (c_addByte l D tk tx 7 cx u27 fy28 b30 H.size lu27 gu27_0 gu27_1 (by decide)) (cwV 1 hts g_v_c_feed_3 rfl rfl rfl (by decide +kernel) ⟨Nat.le_of_ble_eq_true rfl, Nat.le_of_ble_eq_true rfl⟩) ⟨st_blind, va_recv hKc hPc (ci := 9) (q0 := 0) rfl rfl, fun U hU hW => ⟨rfl, st_call hU hW hPc hKc hDc hZ hS hFc hE⟩⟩ rfl rfl hl.1 rfl (lv_room (Nat.le_of_ble_eq_true rfl)) dX11_feed_67 ⟨Nat.le_of_ble_eq_true rfl, Nat.le_of_ble_eq_true rfl⟩) hS (fun q _ h => hFc q h) hFc (fun  u31 t H1 locs ht hvm hw hB hz1 hk1 hS => ?_)
  have lu31 : u31.length = 10 := by rw [hw, List.length_set]; exact lu27
  have gu31_0 : u31[0]? = some (.ref tx) := by rw [hw]; exact se_ne gu27_0 (by decide)
  have gu31_1 : u31[1]? = some (.int 8) := by rw [hw]; exact se_eq (by rw [lu27]; decide)
  obtain ⟨fy32, hP1, hK1, hD1⟩ := hB
  rw [ht] at hP1
  have hK1 := va_K.moved hvm.symm hK1
  obtain ⟨hP, hD⟩ := va_join (wr := [(h0, .inr (11, xfs)), (tr, .inl (ct, 2, .inr (.inr (.inr (.inr (fun _ => none))))))]) (w1 := [(tk, .inr (9, u31)), (tx, .inl (cx, 3000, .inl fy32))]) hP hD [2, 3] [0, 1] rfl rfl (by decide) (by decide) hk1 hFc hP1 hD1
  have hK := (hK.sub (tys' := [(ct, .object "ScheduleHouse$Trial")]) [0] rfl).app hK1
  generalize H1 = H at hP hS ⊢
  have hP : va_P D vwCl [(h0, .inr (11, xfs)), (tr, .inl (ct, 2, .inr (.inr (.inr (.inr (fun _ => none)))))), (tk, .inr (9, u31)), (tx, .inl (cx, 3000, .inl fy32))] H := hP
  have hD : va_D A [(h0, .inr (11, xfs)), (tr, .inl (ct, 2, .inr (.inr (.inr (.inr (fun _ => none)))))), (tk, .inr (9, u31)), (tx, .inl (cx, 3000, .inl fy32))] := hD
  have hK : va_K D vwCl [(ct, .object "ScheduleHouse$Trial"), (cx, .byte)] s := hK
  refine lv_iinc (v := 8) (lv' := [(4, .int 8), (0, .ref h0), (1, .int 8), (2, .long p1)]) hx hb dX11_feed_70 hl (k := 0) rfl (by decide) (by decide) rfl (fun ls hl => ?_)
  refine lv_goto (tgt := 49) hx hb dX11_feed_73 (by decide) ?_
  refine lv_iload hx hb dX11_feed_49 (lv_at hl 0 rfl) ?_
  refine lv_iload_n hx hb dX11_feed_51 rfl (lv_at hl 2 rfl) ?_
  refine lv_icmp_ge (tgt := 76) hx hb dX11_feed_52 (by decide) (fun _ => ?_) (fun c9 => False.elim (by revert c9; decide))
  refine lv_aload_n hx hb dX11_feed_76 rfl (lv_at hl 1 rfl) ?_
  have hPc := hP.sub (ws' := [(h0, .inr (11, xfs)), (tr, .inl (ct, 2, .inr (.inr (.inr (.inr (fun _ => none))))))]) [0, 1] rfl
  have hDc := hD.sub (ws' := [(h0, .inr (11, xfs)), (tr, .inl (ct, 2, .inr (.inr (.inr (.inr (fun _ => none))))))]) [0, 1] (by decide) rfl
  have hKc := hK.sub (tys' := [(ct, .object "ScheduleHouse$Trial")]) [0] rfl
  have hFc := va_free (wc := [(h0, .inr (11, xfs)), (tr, .inl (ct, 2, .inr (.inr (.inr (.inr (fun _ => none))))))]) hD hS hA [0, 1] rfl
  refine va_callv (va_runV (As := []) (rest := []) ⟨hx, hb, hml, hown, hts⟩ (c_forgetAll l D h0 tr ct xfs H.size hlen hq6) (cwV 0 hts g_v_c_feed_4 rfl rfl rfl (by decide +kernel) ⟨Nat.le_of_ble_eq_true rfl, Nat.le_of_ble_eq_true rfl⟩) ⟨st_blind, va_recv hKc hPc (ci := 11) (q0 := 0) rfl rfl, fun U hU hW => ⟨rfl, st_call hU hW hPc hKc hDc hZ hS hFc hE⟩⟩ rfl rfl hl.1 rfl (lv_room (Nat.le_of_ble_eq_true rfl)) dX11_feed_77 ⟨Nat.le_of_ble_eq_true rfl, Nat.le_of_ble_eq_true rfl⟩) hS (fun q _ h => hFc q h) hFc (fun  u33 t H1 locs ht hvm hw hB hz1 hk1 hS => ?_)
  have lu33 : u33.length = 13 := by rw [hw, List.length_set, List.length_set]; exact hlen
  have gu33_0 : u33[0]? = some (.ref tk) := by rw [hw]; exact se_ne (se_ne hq0 (by decide)) (by decide)
  have gu33_6 : u33[6]? = some (.ref tr) := by rw [hw]; exact se_ne (se_ne hq6 (by decide)) (by decide)
  obtain ⟨hP1, hK1, hD1⟩ := hB
  rw [ht] at hP1
  have hK1 := va_K.moved hvm.symm hK1
  obtain ⟨hP, hD⟩ := va_join (wr := [(tk, .inr (9, u31)), (tx, .inl (cx, 3000, .inl fy32))]) (w1 := [(h0, .inr (11, u33)), (tr, .inl (ct, 2, .inr (.inr (.inr (.inr (fun _ => none))))))]) hP hD [0, 1] [2, 3] rfl rfl (by decide) (by decide) hk1 hFc hP1 hD1
  have hK := (hK.sub (tys' := [(cx, .byte)]) [1] rfl).app hK1
  generalize H1 = H at hP hS ⊢
  have hP : va_P D vwCl [(tk, .inr (9, u31)), (tx, .inl (cx, 3000, .inl fy32)), (h0, .inr (11, u33)), (tr, .inl (ct, 2, .inr (.inr (.inr (.inr (fun _ => none))))))] H := hP
  have hD : va_D A [(tk, .inr (9, u31)), (tx, .inl (cx, 3000, .inl fy32)), (h0, .inr (11, u33)), (tr, .inl (ct, 2, .inr (.inr (.inr (.inr (fun _ => none))))))] := hD
  have hK : va_K D vwCl [(cx, .byte), (ct, .object "ScheduleHouse$Trial")] s := hK
  refine lv_aload_n hx hb dX11_feed_80 rfl (lv_at hl 1 rfl) ?_
  refine va_get (D := D) (ci := 11) (v := .ref tk) (C := RX11) (T := TX11) (N := 13) hx hb hts i_v_c_feed_X11 hown hK hP 2 rfl rfl 0 (by decide) (hts (.fieldLink RX11 10 "ScheduleHouse" "tokens" "LScheduleHouse$Tokens;") (by decide +kernel)) (fun _ h9 => h9) gu33_0 dX11_feed_81 ?_
  refine va_get (D := D) (ci := 9) (v := .int 8) (C := RX9) (T := TX9) (N := 10) hx hb hts i_v_c_feed_X9 hown hK hP 0 rfl rfl 1 (by decide) (hts (.fieldLink RX11 77 "ScheduleHouse$Tokens" "length" "I") (by decide +kernel)) (fun _ h9 => h9) gu31_1 dX11_feed_84 ?_
  refine vx_ret (W.widen (k := 1) (n := 6) (Nat.le_of_ble_eq_true rfl) (Nat.le_of_ble_eq_true rfl) ?_)
  exact W.iret (v := 8) hx hb hr (fun t ht hW => ⟨⟨8, (), rfl, ⟨rfl, by decide, by decide⟩, trivial⟩, hS.F ht⟩) hS.2.2 dX11_feed_87
theorem feed_cases (x : Int32) : (x < 1 ∨ ¬ x ≤ 8) ∨ x = 1 ∨ x = 2 ∨ x = 3 ∨ x = 4 ∨ x = 5 ∨ x = 6 ∨ x = 7 ∨ x = 8 := by
  by_cases h1 : x < 1
  · exact Or.inl (Or.inl h1)
  by_cases h2 : x ≤ 8
  · right
    rw [Int32.lt_iff_toInt_lt] at h1
    rw [Int32.le_iff_toInt_le] at h2
    have e1 : (1 : Int32).toInt = 1 := by decide
    have e8 : (8 : Int32).toInt = 8 := by decide
    rw [e1] at h1
    rw [e8] at h2
    have hc : x.toInt = 1 ∨ x.toInt = 2 ∨ x.toInt = 3 ∨ x.toInt = 4 ∨ x.toInt = 5 ∨ x.toInt = 6 ∨ x.toInt = 7 ∨ x.toInt = 8 := by omega
    rcases hc with h | h | h | h | h | h | h | h
    · exact Or.inl (Int32.toInt.inj (h.trans (by decide)))
    · exact Or.inr (Or.inl (Int32.toInt.inj (h.trans (by decide))))
    · exact Or.inr (Or.inr (Or.inl (Int32.toInt.inj (h.trans (by decide)))))
    · exact Or.inr (Or.inr (Or.inr (Or.inl (Int32.toInt.inj (h.trans (by decide))))))
    · exact Or.inr (Or.inr (Or.inr (Or.inr (Or.inl (Int32.toInt.inj (h.trans (by decide)))))))
    · exact Or.inr (Or.inr (Or.inr (Or.inr (Or.inr (Or.inl (Int32.toInt.inj (h.trans (by decide))))))))
    · exact Or.inr (Or.inr (Or.inr (Or.inr (Or.inr (Or.inr (Or.inl (Int32.toInt.inj (h.trans (by decide)))))))))
    · exact Or.inr (Or.inr (Or.inr (Or.inr (Or.inr (Or.inr (Or.inr (Int32.toInt.inj (h.trans (by decide)))))))))
  · exact Or.inl (Or.inr h2)
set_option maxHeartbeats 400000 in
set_option maxRecDepth 100000 in
/-- feed(n, bytes) of a new house -/
theorem c_feed (l : Launch) (hlt : l.stackTraces = false) (D : va_G) (h0 tk tx tr : Nat) (cx ct : ClassId) (xfs tfs : List Value) (f0 : Nat → Int32) (p0 : Int32) (p1 : Int64) (sz : Nat) (hlen : xfs.length = 13) (hq0 : xfs[0]? = some (.ref tk)) (hq6 : xfs[6]? = some (.ref tr)) (hlk : tfs.length = 10) (hk0 : tfs[0]? = some (.ref tx)) (hk1 : tfs[1]? = some (.int 0)) : vx_Met l yX11_feed v_c_feed ({ frames := 6, cells := 1, slots := 6, locals := 110 }) (va_Pc [.ref h0, .int p0, .long p1] (st_ D [(h0, .inr (11, xfs)), (tk, .inr (9, tfs)), (tx, .inl (cx, 3000, .inl f0)), (tr, .inl (ct, 2, .inr (.inr (.inr (.inr (fun _ => none))))))] [(cx, .byte), (ct, .object "ScheduleHouse$Trial")] sz)) (va_Qi (fun (r : Int32) (_ : Unit) => r = p0 ∧ ¬ p0 < 1 ∧ p0 ≤ 8) (fun _ _ => True) (va_A [(h0, .inr (11, xfs)), (tk, .inr (9, tfs)), (tx, .inl (cx, 3000, .inl f0)), (tr, .inl (ct, 2, .inr (.inr (.inr (.inr (fun _ => none))))))] sz)) (vx_X (fun _ : Unit => True) (fun E _ _ => E = iAE ∧ (p0 < 1 ∨ ¬ p0 ≤ 8)) (va_A [(h0, .inr (11, xfs)), (tk, .inr (9, tfs)), (tx, .inl (cx, 3000, .inl f0)), (tr, .inl (ct, 2, .inr (.inr (.inr (.inr (fun _ => none))))))] sz)) 1 6 (va_A [(h0, .inr (11, xfs)), (tk, .inr (9, tfs)), (tx, .inl (cx, 3000, .inl f0)), (tr, .inl (ct, 2, .inr (.inr (.inr (.inr (fun _ => none))))))] sz) := by
  rcases feed_cases p0 with h | h | h | h | h | h | h | h | h
  · exact c_feed_no l hlt D h0 tk tx tr cx ct xfs tfs f0 p0 p1 sz hlen hq0 hq6 hlk hk0 hk1 h
  · subst h
    exact c_feed_1 l hlt D h0 tk tx tr cx ct xfs tfs f0 p1 sz hlen hq0 hq6 hlk hk0 hk1
  · subst h
    exact c_feed_2 l hlt D h0 tk tx tr cx ct xfs tfs f0 p1 sz hlen hq0 hq6 hlk hk0 hk1
  · subst h
    exact c_feed_3 l hlt D h0 tk tx tr cx ct xfs tfs f0 p1 sz hlen hq0 hq6 hlk hk0 hk1
  · subst h
    exact c_feed_4 l hlt D h0 tk tx tr cx ct xfs tfs f0 p1 sz hlen hq0 hq6 hlk hk0 hk1
  · subst h
    exact c_feed_5 l hlt D h0 tk tx tr cx ct xfs tfs f0 p1 sz hlen hq0 hq6 hlk hk0 hk1
  · subst h
    exact c_feed_6 l hlt D h0 tk tx tr cx ct xfs tfs f0 p1 sz hlen hq0 hq6 hlk hk0 hk1
  · subst h
    exact c_feed_7 l hlt D h0 tk tx tr cx ct xfs tfs f0 p1 sz hlen hq0 hq6 hlk hk0 hk1
  · subst h
    exact c_feed_8 l hlt D h0 tk tx tr cx ct xfs tfs f0 p1 sz hlen hq0 hq6 hlk hk0 hk1
