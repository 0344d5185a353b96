noncomputable def v_c_Tokens_init : List Cond := .code yX9_init cX9_init 1 none :: ([.methodLink RX9 3 objectInit, .instanceMethod objectInit, .code objectInit ⟨#[0xb1]⟩ 1 none, .arrayClass .byte, .fieldLink RX9 9 "ScheduleHouse$Tokens" "text" "[B", .arrayClass .int, .fieldLink RX9 15 "ScheduleHouse$Tokens" "sort" "[I", .fieldLink RX9 19 "ScheduleHouse$Tokens" "place" "[I", .fieldLink RX9 22 "ScheduleHouse$Tokens" "line" "[I", .fieldLink RX9 25 "ScheduleHouse$Tokens" "size" "[I", .fieldLink RX9 28 "ScheduleHouse$Tokens" "value" "[I"] ++ (wsX90 ++ ([])))
theorem i_v_c_Tokens_init_X9 : ∀ w ∈ wsX90, w ∈ v_c_Tokens_init := fun _ h => List.mem_cons_of_mem _ (List.mem_append_right _ (List.mem_append_left _ h))
theorem t_v_c_Tokens_init : ∀ w ∈ v_c_Tokens_init, w ∈ lw_tbl := tb_c (List.mem_of_getElem? (i := 245) (by decide +kernel)) (tb_a (tb_l (ps := [246, 239, 240, 286, 247, 287, 250, 252, 254, 257, 258]) (by decide +kernel)) (tb_a (tw_wsX90) (tb_n)))
set_option maxHeartbeats 400000 in
set_option maxRecDepth 100000 in
/-- Tokens() -/
theorem c_Tokens_init (l : Launch) (D : va_G) (h0 : Nat) (sz : Nat) : Met l yX9_init v_c_Tokens_init ({ frames := 1, cells := 6, slots := 6510, locals := 12 }) (va_Pc [.ref h0] (st_ D [(h0, .inr (9, [.null, .int 0, .null, .null, .null, .null, .null, .int 0, .int 0, .int 0]))] [] sz)) (va_Qv (fun _ : Unit => True) (fun _ t => ∃ (q1 : Nat) (q2 : Nat) (q3 : Nat) (q4 : Nat) (q5 : Nat) (q6 : Nat) (cq1 : ClassId) (cq2 : ClassId) (cq3 : ClassId) (cq4 : ClassId), va_P D vwCl [(h0, .inr (9, [.ref q1, .int 0, .ref q2, .ref q3, .ref q4, .ref q5, .ref q6, .int 0, .int 0, .int 0])), (q1, .inl (cq1, 3000, .inl (fun _ => 0))), (q2, .inl (cq2, 702, .inl (fun _ => 0))), (q3, .inl (cq3, 702, .inl (fun _ => 0))), (q4, .inl (cq4, 702, .inl (fun _ => 0)))] t.heap ∧ va_K D vwCl [(cq1, .byte), (cq2, .int), (cq3, .int), (cq4, .int)] t ∧ va_D (va_A [(h0, .inr (9, [.null, .int 0, .null, .null, .null, .null, .null, .int 0, .int 0, .int 0]))] sz) [(h0, .inr (9, [.ref q1, .int 0, .ref q2, .ref q3, .ref q4, .ref q5, .ref q6, .int 0, .int 0, .int 0])), (q1, .inl (cq1, 3000, .inl (fun _ => 0))), (q2, .inl (cq2, 702, .inl (fun _ => 0))), (q3, .inl (cq3, 702, .inl (fun _ => 0))), (q4, .inl (cq4, 702, .inl (fun _ => 0)))]) (va_A [(h0, .inr (9, [.null, .int 0, .null, .null, .null, .null, .null, .int 0, .int 0, .int 0]))] sz)) 6 6510 (va_A [(h0, .inr (9, [.null, .int 0, .null, .null, .null, .null, .null, .int 0, .int 0, .int 0]))] sz) := by
  refine Met.ofW (cc := cX9_init) (maxL := 1) (ret := none) (by decide) rfl ?_
  intro p e s m args below meth c s₁ B hml hv
  obtain ⟨rfl, hsz, hP, hK, hD0, hZ, hE⟩ := hv
  have hx := B.exec
  have hb := B.bytes
  have hr := B.returns
  have hts := atoms_spec (ws := v_c_Tokens_init) B.pre
  have hown : s.vm.findClass RX9 = some m.cls := findClass_of_methodNamed B.named
  have hlocks := B.notSynchronized
  have hin : meth.name = "<init>" := (name_of_methodNamed B.named B.method).1
  subst hsz
  have hD := hD0.self (sz := s.heap.size)
  generalize hAe : va_A [(h0, .inr (9, [.null, .int 0, .null, .null, .null, .null, .null, .int 0, .int 0, .int 0]))] s.heap.size = A at hD hZ ⊢
  have hA : ∀ q : Nat, s.heap.size ≤ q → A q := fun q h => by rw [← hAe]; exact Or.inr h
  have hS : va_S A s.heap s.heap [] := va_S.rf
  have hAO := hE.2.2.2.1
  have hP : va_P D vwCl [(h0, .inr (9, [.null, .int 0, .null, .null, .null, .null, .null, .int 0, .int 0, .int 0]))] s.heap := hP
  have hl := lv_entry ([.ref h0]) (n := 1) (Nat.le_of_ble_eq_true rfl)
  rw [lg_entry_eq]
  generalize (lg_sl ([.ref h0]) ++ List.replicate (1 - (lg_sl ([.ref h0])).length) Slot.unset).toArray = ls at hl ⊢
  have hl : lv_has ls 1 [(0, .ref h0)] := hl
  refine lv_aload_n hx hb dX9_init_0 rfl (lv_at hl 0 rfl) ?_
  refine W.objInit hx hb hown (hts (.methodLink RX9 3 objectInit) (by decide +kernel)) (hts (.instanceMethod objectInit) (by decide +kernel)) (hts (.code objectInit ⟨#[0xb1]⟩ 1 none) (by decide +kernel)) rfl (by rw [hml]; exact hl.1) rfl dX9_init_1 (Nat.le_of_ble_eq_true rfl) (Nat.le_of_ble_eq_true rfl) ?_
  refine W.eq (g2 := F0 m 4 ls []) rfl ?_
  refine lv_aload_n hx hb dX9_init_4 rfl (lv_at hl 0 rfl) ?_
  refine lv_sipush (v := 3000) hx hb dX9_init_5 (by decide +kernel) ?_
  refine va_newa (atype := .byte) (ty := .byte) (N' := 3000) (a0 := (3000, .inl (fun _ => 0))) hx hb (hts (.arrayClass .byte) (by decide +kernel)) rfl hK hP hD hS hA (na_byte 3000) (by decide +kernel) (by decide +kernel) (by decide +kernel) (Nat.le_of_ble_eq_true rfl) (Nat.le_of_ble_eq_true rfl) dX9_init_8 (fun q1 cq1 H hK hP hD hS => ?_)
  have hP : va_P D vwCl [(h0, .inr (9, [.null, .int 0, .null, .null, .null, .null, .null, .int 0, .int 0, .int 0])), (q1, .inl (cq1, 3000, .inl (fun _ => 0)))] H := hP
  have hD : va_D A [(h0, .inr (9, [.null, .int 0, .null, .null, .null, .null, .null, .int 0, .int 0, .int 0])), (q1, .inl (cq1, 3000, .inl (fun _ => 0)))] := hD
  have hK : va_K D vwCl [(cq1, .byte)] s := hK
  refine W.widen (k := 1) (n := 3000) (Nat.le_of_ble_eq_true rfl) (Nat.le_of_ble_eq_true rfl) ?_
  refine va_putF (D := D) (ci := 9) (v := .ref q1) (ty := .array .byte) (C := RX9) (T := TX9) (N := 10) hx hb hts i_v_c_Tokens_init_X9 tyX9 tyX9_ok nmX9 hown hK hP hD hS 0 rfl rfl 0 (by decide) (hts (.fieldLink RX9 9 "ScheduleHouse$Tokens" "text" "[B") (by decide +kernel)) (fun _ h9 => h9) rfl hin rfl (by decide +kernel) rfl rfl (Nat.le_of_ble_eq_true rfl) dX9_init_10 (fun H locs hP hD hS => ?_)
  have hP : va_P D vwCl [(h0, .inr (9, [.ref q1, .int 0, .null, .null, .null, .null, .null, .int 0, .int 0, .int 0])), (q1, .inl (cq1, 3000, .inl (fun _ => 0)))] H := hP
  have hD : va_D A [(h0, .inr (9, [.ref q1, .int 0, .null, .null, .null, .null, .null, .int 0, .int 0, .int 0])), (q1, .inl (cq1, 3000, .inl (fun _ => 0)))] := hD
  refine lv_aload_n hx hb dX9_init_13 rfl (lv_at hl 0 rfl) ?_
  refine lv_sipush (v := 702) hx hb dX9_init_14 (by decide +kernel) ?_
  refine va_newa (atype := .int) (ty := .int) (N' := 702) (a0 := (702, .inl (fun _ => 0))) hx hb (hts (.arrayClass .int) (by decide +kernel)) rfl hK hP hD hS hA (na_int 702) (by decide +kernel) (by decide +kernel) (by decide +kernel) (Nat.le_of_ble_eq_true rfl) (Nat.le_of_ble_eq_true rfl) dX9_init_17 (fun q2 cq2 H hK hP hD hS => ?_)
  have hP : va_P D vwCl [(h0, .inr (9, [.ref q1, .int 0, .null, .null, .null, .null, .null, .int 0, .int 0, .int 0])), (q1, .inl (cq1, 3000, .inl (fun _ => 0))), (q2, .inl (cq2, 702, .inl (fun _ => 0)))] H := hP
  have hD : va_D A [(h0, .inr (9, [.ref q1, .int 0, .null, .null, .null, .null, .null, .int 0, .int 0, .int 0])), (q1, .inl (cq1, 3000, .inl (fun _ => 0))), (q2, .inl (cq2, 702, .inl (fun _ => 0)))] := hD
  have hK : va_K D vwCl [(cq1, .byte), (cq2, .int)] s := hK
  refine W.widen (k := 2) (n := 3702) (Nat.le_of_ble_eq_true rfl) (Nat.le_of_ble_eq_true rfl) ?_
  refine va_putF (D := D) (ci := 9) (v := .ref q2) (ty := .array .int) (C := RX9) (T := TX9) (N := 10) hx hb hts i_v_c_Tokens_init_X9 tyX9 tyX9_ok nmX9 hown hK hP hD hS 0 rfl rfl 2 (by decide) (hts (.fieldLink RX9 15 "ScheduleHouse$Tokens" "sort" "[I") (by decide +kernel)) (fun _ h9 => h9) rfl hin rfl (by decide +kernel) rfl rfl (Nat.le_of_ble_eq_true rfl) dX9_init_19 (fun H locs hP hD hS => ?_)
  have hP : va_P D vwCl [(h0, .inr (9, [.ref q1, .int 0, .ref q2, .null, .null, .null, .null, .int 0, .int 0, .int 0])), (q1, .inl (cq1, 3000, .inl (fun _ => 0))), (q2, .inl (cq2, 702, .inl (fun _ => 0)))] H := hP
  have hD : va_D A [(h0, .inr (9, [.ref q1, .int 0, .ref q2, .null, .null, .null, .null, .int 0, .int 0, .int 0])), (q1, .inl (cq1, 3000, .inl (fun _ => 0))), (q2, .inl (cq2, 702, .inl (fun _ => 0)))] := hD
  refine lv_aload_n hx hb dX9_init_22 rfl (lv_at hl 0 rfl) ?_
  refine lv_sipush (v := 702) hx hb dX9_init_23 (by decide +kernel) ?_
  refine va_newa (atype := .int) (ty := .int) (N' := 702) (a0 := (702, .inl (fun _ => 0))) hx hb (hts (.arrayClass .int) (by decide +kernel)) rfl hK hP hD hS hA (na_int 702) (by decide +kernel) (by decide +kernel) (by decide +kernel) (Nat.le_of_ble_eq_true rfl) (Nat.le_of_ble_eq_true rfl) dX9_init_26 (fun q3 cq3 H hK hP hD hS => ?_)
  have hP : va_P D vwCl [(h0, .inr (9, [.ref q1, .int 0, .ref q2, .null, .null, .null, .null, .int 0, .int 0, .int 0])), (q1, .inl (cq1, 3000, .inl (fun _ => 0))), (q2, .inl (cq2, 702, .inl (fun _ => 0))), (q3, .inl (cq3, 702, .inl (fun _ => 0)))] H := hP
  have hD : va_D A [(h0, .inr (9, [.ref q1, .int 0, .ref q2, .null, .null, .null, .null, .int 0, .int 0, .int 0])), (q1, .inl (cq1, 3000, .inl (fun _ => 0))), (q2, .inl (cq2, 702, .inl (fun _ => 0))), (q3, .inl (cq3, 702, .inl (fun _ => 0)))] := hD
  have hK : va_K D vwCl [(cq1, .byte), (cq2, .int), (cq3, .int)] s := hK
  refine W.widen (k := 3) (n := 4404) (Nat.le_of_ble_eq_true rfl) (Nat.le_of_ble_eq_true rfl) ?_
  refine va_putF (D := D) (ci := 9) (v := .ref q3) (ty := .array .int) (C := RX9) (T := TX9) (N := 10) hx hb hts i_v_c_Tokens_init_X9 tyX9 tyX9_ok nmX9 hown hK hP hD hS 0 rfl rfl 3 (by decide) (hts (.fieldLink RX9 19 "ScheduleHouse$Tokens" "place" "[I") (by decide +kernel)) (fun _ h9 => h9) rfl hin rfl (by decide +kernel) rfl rfl (Nat.le_of_ble_eq_true rfl) dX9_init_28 (fun H locs hP hD hS => ?_)
  have hP : va_P D vwCl [(h0, .inr (9, [.ref q1, .int 0, .ref q2, .ref q3, .null, .null, .null, .int 0, .int 0, .int 0])), (q1, .inl (cq1, 3000, .inl (fun _ => 0))), (q2, .inl (cq2, 702, .inl (fun _ => 0))), (q3, .inl (cq3, 702, .inl (fun _ => 0)))] H := hP
  have hD : va_D A [(h0, .inr (9, [.ref q1, .int 0, .ref q2, .ref q3, .null, .null, .null, .int 0, .int 0, .int 0])), (q1, .inl (cq1, 3000, .inl (fun _ => 0))), (q2, .inl (cq2, 702, .inl (fun _ => 0))), (q3, .inl (cq3, 702, .inl (fun _ => 0)))] := hD
  refine lv_aload_n hx hb dX9_init_31 rfl (lv_at hl 0 rfl) ?_
  refine lv_sipush (v := 702) hx hb dX9_init_32 (by decide +kernel) ?_
  refine va_newa (atype := .int) (ty := .int) (N' := 702) (a0 := (702, .inl (fun _ => 0))) hx hb (hts (.arrayClass .int) (by decide +kernel)) rfl hK hP hD hS hA (na_int 702) (by decide +kernel) (by decide +kernel) (by decide +kernel) (Nat.le_of_ble_eq_true rfl) (Nat.le_of_ble_eq_true rfl) dX9_init_35 (fun q4 cq4 H hK hP hD hS => ?_)
  have hP : va_P D vwCl [(h0, .inr (9, [.ref q1, .int 0, .ref q2, .ref q3, .null, .null, .null, .int 0, .int 0, .int 0])), (q1, .inl (cq1, 3000, .inl (fun _ => 0))), (q2, .inl (cq2, 702, .inl (fun _ => 0))), (q3, .inl (cq3, 702, .inl (fun _ => 0))), (q4, .inl (cq4, 702, .inl (fun _ => 0)))] H := hP
  have hD : va_D A [(h0, .inr (9, [.ref q1, .int 0, .ref q2, .ref q3, .null, .null, .null, .int 0, .int 0, .int 0])), (q1, .inl (cq1, 3000, .inl (fun _ => 0))), (q2, .inl (cq2, 702, .inl (fun _ => 0))), (q3, .inl (cq3, 702, .inl (fun _ => 0))), (q4, .inl (cq4, 702, .inl (fun _ => 0)))] := hD
  have hK : va_K D vwCl [(cq1, .byte), (cq2, .int), (cq3, .int), (cq4, .int)] s := hK
  refine W.widen (k := 4) (n := 5106) (Nat.le_of_ble_eq_true rfl) (Nat.le_of_ble_eq_true rfl) ?_
  refine va_putF (D := D) (ci := 9) (v := .ref q4) (ty := .array .int) (C := RX9) (T := TX9) (N := 10) hx hb hts i_v_c_Tokens_init_X9 tyX9 tyX9_ok nmX9 hown hK hP hD hS 0 rfl rfl 4 (by decide) (hts (.fieldLink RX9 22 "ScheduleHouse$Tokens" "line" "[I") (by decide +kernel)) (fun _ h9 => h9) rfl hin rfl (by decide +kernel) rfl rfl (Nat.le_of_ble_eq_true rfl) dX9_init_37 (fun H locs hP hD hS => ?_)
  have hP : va_P D vwCl [(h0, .inr (9, [.ref q1, .int 0, .ref q2, .ref q3, .ref q4, .null, .null, .int 0, .int 0, .int 0])), (q1, .inl (cq1, 3000, .inl (fun _ => 0))), (q2, .inl (cq2, 702, .inl (fun _ => 0))), (q3, .inl (cq3, 702, .inl (fun _ => 0))), (q4, .inl (cq4, 702, .inl (fun _ => 0)))] H := hP
  have hD : va_D A [(h0, .inr (9, [.ref q1, .int 0, .ref q2, .ref q3, .ref q4, .null, .null, .int 0, .int 0, .int 0])), (q1, .inl (cq1, 3000, .inl (fun _ => 0))), (q2, .inl (cq2, 702, .inl (fun _ => 0))), (q3, .inl (cq3, 702, .inl (fun _ => 0))), (q4, .inl (cq4, 702, .inl (fun _ => 0)))] := hD
  refine lv_aload_n hx hb dX9_init_40 rfl (lv_at hl 0 rfl) ?_
  refine lv_sipush (v := 702) hx hb dX9_init_41 (by decide +kernel) ?_
  refine va_newa (atype := .int) (ty := .int) (N' := 702) (a0 := (702, .inl (fun _ => 0))) hx hb (hts (.arrayClass .int) (by decide +kernel)) rfl hK hP hD hS hA (na_int 702) (by decide +kernel) (by decide +kernel) (by decide +kernel) (Nat.le_of_ble_eq_true rfl) (Nat.le_of_ble_eq_true rfl) dX9_init_44 (fun q5 cq5 H hK hP hD hS => ?_)
  have hP : va_P D vwCl [(h0, .inr (9, [.ref q1, .int 0, .ref q2, .ref q3, .ref q4, .null, .null, .int 0, .int 0, .int 0])), (q1, .inl (cq1, 3000, .inl (fun _ => 0))), (q2, .inl (cq2, 702, .inl (fun _ => 0))), (q3, .inl (cq3, 702, .inl (fun _ => 0))), (q4, .inl (cq4, 702, .inl (fun _ => 0))), (q5, .inl (cq5, 702, .inl (fun _ => 0)))] H := hP
  have hD : va_D A [(h0, .inr (9, [.ref q1, .int 0, .ref q2, .ref q3, .ref q4, .null, .null, .int 0, .int 0, .int 0])), (q1, .inl (cq1, 3000, .inl (fun _ => 0))), (q2, .inl (cq2, 702, .inl (fun _ => 0))), (q3, .inl (cq3, 702, .inl (fun _ => 0))), (q4, .inl (cq4, 702, .inl (fun _ => 0))), (q5, .inl (cq5, 702, .inl (fun _ => 0)))] := hD
  have hK : va_K D vwCl [(cq1, .byte), (cq2, .int), (cq3, .int), (cq4, .int), (cq5, .int)] s := hK
  refine W.widen (k := 5) (n := 5808) (Nat.le_of_ble_eq_true rfl) (Nat.le_of_ble_eq_true rfl) ?_
  refine va_putF (D := D) (ci := 9) (v := .ref q5) (ty := .array .int) (C := RX9) (T := TX9) (N := 10) hx hb hts i_v_c_Tokens_init_X9 tyX9 tyX9_ok nmX9 hown hK hP hD hS 0 rfl rfl 5 (by decide) (hts (.fieldLink RX9 25 "ScheduleHouse$Tokens" "size" "[I") (by decide +kernel)) (fun _ h9 => h9) rfl hin rfl (by decide +kernel) rfl rfl (Nat.le_of_ble_eq_true rfl) dX9_init_46 (fun H locs hP hD hS => ?_)
  have hP : va_P D vwCl [(h0, .inr (9, [.ref q1, .int 0, .ref q2, .ref q3, .ref q4, .ref q5, .null, .int 0, .int 0, .int 0])), (q1, .inl (cq1, 3000, .inl (fun _ => 0))), (q2, .inl (cq2, 702, .inl (fun _ => 0))), (q3, .inl (cq3, 702, .inl (fun _ => 0))), (q4, .inl (cq4, 702, .inl (fun _ => 0))), (q5, .inl (cq5, 702, .inl (fun _ => 0)))] H := hP
  have hD : va_D A [(h0, .inr (9, [.ref q1, .int 0, .ref q2, .ref q3, .ref q4, .ref q5, .null, .int 0, .int 0, .int 0])), (q1, .inl (cq1, 3000, .inl (fun _ => 0))), (q2, .inl (cq2, 702, .inl (fun _ => 0))), (q3, .inl (cq3, 702, .inl (fun _ => 0))), (q4, .inl (cq4, 702, .inl (fun _ => 0))), (q5, .inl (cq5, 702, .inl (fun _ => 0)))] := hD
  have hP : va_P D vwCl [(h0, .inr (9, [.ref q1, .int 0, .ref q2, .ref q3, .ref q4, .ref q5, .null, .int 0, .int 0, .int 0])), (q1, .inl (cq1, 3000, .inl (fun _ => 0))), (q2, .inl (cq2, 702, .inl (fun _ => 0))), (q3, .inl (cq3, 702, .inl (fun _ => 0))), (q4, .inl (cq4, 702, .inl (fun _ => 0)))] H := hP.sub [0, 1, 2, 3, 4] rfl
  have hD : va_D A [(h0, .inr (9, [.ref q1, .int 0, .ref q2, .ref q3, .ref q4, .ref q5, .null, .int 0, .int 0, .int 0])), (q1, .inl (cq1, 3000, .inl (fun _ => 0))), (q2, .inl (cq2, 702, .inl (fun _ => 0))), (q3, .inl (cq3, 702, .inl (fun _ => 0))), (q4, .inl (cq4, 702, .inl (fun _ => 0)))] := hD.sub [0, 1, 2, 3, 4] (by decide) rfl
  have hK : va_K D vwCl [(cq1, .byte), (cq2, .int), (cq3, .int), (cq4, .int)] s := hK.sub [0, 1, 2, 3] rfl
  refine lv_aload_n hx hb dX9_init_49 rfl (lv_at hl 0 rfl) ?_
  refine lv_sipush (v := 702) hx hb dX9_init_50 (by decide +kernel) ?_
  refine va_newa (atype := .int) (ty := .int) (N' := 702) (a0 := (702, .inl (fun _ => 0))) hx hb (hts (.arrayClass .int) (by decide +kernel)) rfl hK hP hD hS hA (na_int 702) (by decide +kernel) (by decide +kernel) (by decide +kernel) (Nat.le_of_ble_eq_true rfl) (Nat.le_of_ble_eq_true rfl) dX9_init_53 (fun q6 cq6 H hK hP hD hS => ?_)
  have hP : va_P D vwCl [(h0, .inr (9, [.ref q1, .int 0, .ref q2, .ref q3, .ref q4, .ref q5, .null, .int 0, .int 0, .int 0])), (q1, .inl (cq1, 3000, .inl (fun _ => 0))), (q2, .inl (cq2, 702, .inl (fun _ => 0))), (q3, .inl (cq3, 702, .inl (fun _ => 0))), (q4, .inl (cq4, 702, .inl (fun _ => 0))), (q6, .inl (cq6, 702, .inl (fun _ => 0)))] H := hP
  have hD : va_D A [(h0, .inr (9, [.ref q1, .int 0, .ref q2, .ref q3, .ref q4, .ref q5, .null, .int 0, .int 0, .int 0])), (q1, .inl (cq1, 3000, .inl (fun _ => 0))), (q2, .inl (cq2, 702, .inl (fun _ => 0))), (q3, .inl (cq3, 702, .inl (fun _ => 0))), (q4, .inl (cq4, 702, .inl (fun _ => 0))), (q6, .inl (cq6, 702, .inl (fun _ => 0)))] := hD
  have hK : va_K D vwCl [(cq1, .byte), (cq2, .int), (cq3, .int), (cq4, .int), (cq6, .int)] s := hK
  refine W.widen (k := 6) (n := 6510) (Nat.le_of_ble_eq_true rfl) (Nat.le_of_ble_eq_true rfl) ?_
  refine va_putF (D := D) (ci := 9) (v := .ref q6) (ty := .array .int) (C := RX9) (T := TX9) (N := 10) hx hb hts i_v_c_Tokens_init_X9 tyX9 tyX9_ok nmX9 hown hK hP hD hS 0 rfl rfl 6 (by decide) (hts (.fieldLink RX9 28 "ScheduleHouse$Tokens" "value" "[I") (by decide +kernel)) (fun _ h9 => h9) rfl hin rfl (by decide +kernel) rfl rfl (Nat.le_of_ble_eq_true rfl) dX9_init_55 (fun H locs hP hD hS => ?_)
  have hP : va_P D vwCl [(h0, .inr (9, [.ref q1, .int 0, .ref q2, .ref q3, .ref q4, .ref q5, .ref q6, .int 0, .int 0, .int 0])), (q1, .inl (cq1, 3000, .inl (fun _ => 0))), (q2, .inl (cq2, 702, .inl (fun _ => 0))), (q3, .inl (cq3, 702, .inl (fun _ => 0))), (q4, .inl (cq4, 702, .inl (fun _ => 0))), (q6, .inl (cq6, 702, .inl (fun _ => 0)))] H := hP
  have hD : va_D A [(h0, .inr (9, [.ref q1, .int 0, .ref q2, .ref q3, .ref q4, .ref q5, .ref q6, .int 0, .int 0, .int 0])), (q1, .inl (cq1, 3000, .inl (fun _ => 0))), (q2, .inl (cq2, 702, .inl (fun _ => 0))), (q3, .inl (cq3, 702, .inl (fun _ => 0))), (q4, .inl (cq4, 702, .inl (fun _ => 0))), (q6, .inl (cq6, 702, .inl (fun _ => 0)))] := hD
  have hP : va_P D vwCl [(h0, .inr (9, [.ref q1, .int 0, .ref q2, .ref q3, .ref q4, .ref q5, .ref q6, .int 0, .int 0, .int 0])), (q1, .inl (cq1, 3000, .inl (fun _ => 0))), (q2, .inl (cq2, 702, .inl (fun _ => 0))), (q3, .inl (cq3, 702, .inl (fun _ => 0))), (q4, .inl (cq4, 702, .inl (fun _ => 0)))] H := hP.sub [0, 1, 2, 3, 4] rfl
  have hD : va_D A [(h0, .inr (9, [.ref q1, .int 0, .ref q2, .ref q3, .ref q4, .ref q5, .ref q6, .int 0, .int 0, .int 0])), (q1, .inl (cq1, 3000, .inl (fun _ => 0))), (q2, .inl (cq2, 702, .inl (fun _ => 0))), (q3, .inl (cq3, 702, .inl (fun _ => 0))), (q4, .inl (cq4, 702, .inl (fun _ => 0)))] := hD.sub [0, 1, 2, 3, 4] (by decide) rfl
  have hK : va_K D vwCl [(cq1, .byte), (cq2, .int), (cq3, .int), (cq4, .int)] s := hK.sub [0, 1, 2, 3] rfl
  have hP : va_P D vwCl [(h0, .inr (9, [.ref q1, .int 0, .ref q2, .ref q3, .ref q4, .ref q5, .ref q6, .int 0, .int 0, .int 0])), (q1, .inl (cq1, 3000, .inl (fun _ => 0))), (q2, .inl (cq2, 702, .inl (fun _ => 0))), (q3, .inl (cq3, 702, .inl (fun _ => 0))), (q4, .inl (cq4, 702, .inl (fun _ => 0)))] H := hP.sub [0, 1, 2, 3, 4] rfl
  have hD : va_D A [(h0, .inr (9, [.ref q1, .int 0, .ref q2, .ref q3, .ref q4, .ref q5, .ref q6, .int 0, .int 0, .int 0])), (q1, .inl (cq1, 3000, .inl (fun _ => 0))), (q2, .inl (cq2, 702, .inl (fun _ => 0))), (q3, .inl (cq3, 702, .inl (fun _ => 0))), (q4, .inl (cq4, 702, .inl (fun _ => 0)))] := hD.sub [0, 1, 2, 3, 4] (by decide) rfl
  have hK : va_K D vwCl [(cq1, .byte), (cq2, .int), (cq3, .int), (cq4, .int)] s := hK.sub [0, 1, 2, 3] rfl
  exact W.vret hx hb hr (fun t ht hW => ⟨⟨(), rfl, trivial, q1, q2, q3, q4, q5, q6, cq1, cq2, cq3, cq4, by rw [ht]; exact hP, va_K.moved hW.alike hK, hD⟩, hS.F ht⟩) hS.2.2 dX9_init_58
noncomputable def v_c_Names_init : List Cond := .code yX6_init cX6_init 2 none :: ([.methodLink RX6 3 objectInit, .instanceMethod objectInit, .code objectInit ⟨#[0xb1]⟩ 1 none, .fieldLink RX6 9 "ScheduleHouse$Names" "tokens" "LScheduleHouse$Tokens;", .arrayClass .int, .fieldLink RX6 17 "ScheduleHouse$Names" "use" "[I", .fieldLink RX6 21 "ScheduleHouse$Names" "meaning" "[I", .fieldLink RX6 24 "ScheduleHouse$Names" "cellName" "[I", .fieldLink RX6 27 "ScheduleHouse$Names" "cellFirst" "[I", .fieldLink RX6 30 "ScheduleHouse$Names" "cellRow" "[I", .fieldLink RX6 33 "ScheduleHouse$Names" "lockName" "[I", .fieldLink RX6 36 "ScheduleHouse$Names" "threadName" "[I"] ++ (wsX60 ++ ([])))
theorem i_v_c_Names_init_X6 : ∀ w ∈ wsX60, w ∈ v_c_Names_init := fun _ h => List.mem_cons_of_mem _ (List.mem_append_right _ (List.mem_append_left _ h))
theorem t_v_c_Names_init : ∀ w ∈ v_c_Names_init, w ∈ lw_tbl := tb_c (List.mem_of_getElem? (i := 292) (by decide +kernel)) (tb_a (tb_l (ps := [293, 239, 240, 294, 287, 295, 297, 299, 300, 302, 305, 307]) (by decide +kernel)) (tb_a (tw_wsX60) (tb_n)))
set_option maxHeartbeats 400000 in
set_option maxRecDepth 100000 in
/-- Names(tokens) -/
theorem c_Names_init (l : Launch) (D : va_G) (h0 a1 : Nat) (sz : Nat) : Met l yX6_init v_c_Names_init ({ frames := 1, cells := 7, slots := 1488, locals := 12 }) (va_Pc [.ref h0, .ref a1] (st_ D [(h0, .inr (6, [.null, .null, .null, .null, .null, .null, .int 0, .null, .int 0, .null, .int 0, .int 0]))] [] sz)) (va_Qv (fun _ : Unit => True) (fun _ t => ∃ (q1 : Nat) (q2 : Nat) (q3 : Nat) (q4 : Nat) (q5 : Nat) (q6 : Nat) (q7 : Nat) (cq1 : ClassId) (cq2 : ClassId), va_P D vwCl [(h0, .inr (6, [.ref a1, .ref q1, .ref q2, .ref q3, .ref q4, .ref q5, .int 0, .ref q6, .int 0, .ref q7, .int 0, .int 0])), (q1, .inl (cq1, 702, .inl (fun _ => 0))), (q2, .inl (cq2, 702, .inl (fun _ => 0)))] t.heap ∧ va_K D vwCl [(cq1, .int), (cq2, .int)] t ∧ va_D (va_A [(h0, .inr (6, [.null, .null, .null, .null, .null, .null, .int 0, .null, .int 0, .null, .int 0, .int 0]))] sz) [(h0, .inr (6, [.ref a1, .ref q1, .ref q2, .ref q3, .ref q4, .ref q5, .int 0, .ref q6, .int 0, .ref q7, .int 0, .int 0])), (q1, .inl (cq1, 702, .inl (fun _ => 0))), (q2, .inl (cq2, 702, .inl (fun _ => 0)))]) (va_A [(h0, .inr (6, [.null, .null, .null, .null, .null, .null, .int 0, .null, .int 0, .null, .int 0, .int 0]))] sz)) 7 1488 (va_A [(h0, .inr (6, [.null, .null, .null, .null, .null, .null, .int 0, .null, .int 0, .null, .int 0, .int 0]))] sz) := by
  refine Met.ofW (cc := cX6_init) (maxL := 2) (ret := none) (by decide) rfl ?_
  intro p e s m args below meth c s₁ B hml hv
  obtain ⟨rfl, hsz, hP, hK, hD0, hZ, hE⟩ := hv
  have hx := B.exec
  have hb := B.bytes
  have hr := B.returns
  have hts := atoms_spec (ws := v_c_Names_init) B.pre
  have hown : s.vm.findClass RX6 = some m.cls := findClass_of_methodNamed B.named
  have hlocks := B.notSynchronized
  have hin : meth.name = "<init>" := (name_of_methodNamed B.named B.method).1
  subst hsz
  have hD := hD0.self (sz := s.heap.size)
  generalize hAe : va_A [(h0, .inr (6, [.null, .null, .null, .null, .null, .null, .int 0, .null, .int 0, .null, .int 0, .int 0]))] s.heap.size = A at hD hZ ⊢
  have hA : ∀ q : Nat, s.heap.size ≤ q → A q := fun q h => by rw [← hAe]; exact Or.inr h
  have hS : va_S A s.heap s.heap [] := va_S.rf
  have hAO := hE.2.2.2.1
  have hP : va_P D vwCl [(h0, .inr (6, [.null, .null, .null, .null, .null, .null, .int 0, .null, .int 0, .null, .int 0, .int 0]))] s.heap := hP
  have hl := lv_entry ([.ref h0, .ref a1]) (n := 2) (Nat.le_of_ble_eq_true rfl)
  rw [lg_entry_eq]
  generalize (lg_sl ([.ref h0, .ref a1]) ++ List.replicate (2 - (lg_sl ([.ref h0, .ref a1])).length) Slot.unset).toArray = ls at hl ⊢
  have hl : lv_has ls 2 [(0, .ref h0), (1, .ref a1)] := hl
  refine lv_aload_n hx hb dX6_init_0 rfl (lv_at hl 0 rfl) ?_
  refine W.objInit hx hb hown (hts (.methodLink RX6 3 objectInit) (by decide +kernel)) (hts (.instanceMethod objectInit) (by decide +kernel)) (hts (.code objectInit ⟨#[0xb1]⟩ 1 none) (by decide +kernel)) rfl (by rw [hml]; exact hl.1) rfl dX6_init_1 (Nat.le_of_ble_eq_true rfl) (Nat.le_of_ble_eq_true rfl) ?_
  refine W.eq (g2 := F0 m 4 ls []) rfl ?_
  refine lv_aload_n hx hb dX6_init_4 rfl (lv_at hl 0 rfl) ?_
  refine lv_aload_n hx hb dX6_init_5 rfl (lv_at hl 1 rfl) ?_
  refine va_putF (D := D) (ci := 6) (v := .ref a1) (ty := .object "ScheduleHouse$Tokens") (C := RX6) (T := TX6) (N := 12) hx hb hts i_v_c_Names_init_X6 tyX6 tyX6_ok nmX6 hown hK hP hD hS 0 rfl rfl 0 (by decide) (hts (.fieldLink RX6 9 "ScheduleHouse$Names" "tokens" "LScheduleHouse$Tokens;") (by decide +kernel)) (fun _ h9 => h9) rfl hin rfl (by decide +kernel) rfl rfl (Nat.le_of_ble_eq_true rfl) dX6_init_6 (fun H locs hP hD hS => ?_)
  have hP : va_P D vwCl [(h0, .inr (6, [.ref a1, .null, .null, .null, .null, .null, .int 0, .null, .int 0, .null, .int 0, .int 0]))] H := hP
  have hD : va_D A [(h0, .inr (6, [.ref a1, .null, .null, .null, .null, .null, .int 0, .null, .int 0, .null, .int 0, .int 0]))] := hD
  refine lv_aload_n hx hb dX6_init_9 rfl (lv_at hl 0 rfl) ?_
  refine lv_sipush (v := 702) hx hb dX6_init_10 (by decide +kernel) ?_
  refine va_newa (atype := .int) (ty := .int) (N' := 702) (a0 := (702, .inl (fun _ => 0))) hx hb (hts (.arrayClass .int) (by decide +kernel)) rfl hK hP hD hS hA (na_int 702) (by decide +kernel) (by decide +kernel) (by decide +kernel) (Nat.le_of_ble_eq_true rfl) (Nat.le_of_ble_eq_true rfl) dX6_init_13 (fun q1 cq1 H hK hP hD hS => ?_)
  have hP : va_P D vwCl [(h0, .inr (6, [.ref a1, .null, .null, .null, .null, .null, .int 0, .null, .int 0, .null, .int 0, .int 0])), (q1, .inl (cq1, 702, .inl (fun _ => 0)))] H := hP
  have hD : va_D A [(h0, .inr (6, [.ref a1, .null, .null, .null, .null, .null, .int 0, .null, .int 0, .null, .int 0, .int 0])), (q1, .inl (cq1, 702, .inl (fun _ => 0)))] := hD
  have hK : va_K D vwCl [(cq1, .int)] s := hK
  refine W.widen (k := 1) (n := 702) (Nat.le_of_ble_eq_true rfl) (Nat.le_of_ble_eq_true rfl) ?_
  refine va_putF (D := D) (ci := 6) (v := .ref q1) (ty := .array .int) (C := RX6) (T := TX6) (N := 12) hx hb hts i_v_c_Names_init_X6 tyX6 tyX6_ok nmX6 hown hK hP hD hS 0 rfl rfl 1 (by decide) (hts (.fieldLink RX6 17 "ScheduleHouse$Names" "use" "[I") (by decide +kernel)) (fun _ h9 => h9) rfl hin rfl (by decide +kernel) rfl rfl (Nat.le_of_ble_eq_true rfl) dX6_init_15 (fun H locs hP hD hS => ?_)
  have hP : va_P D vwCl [(h0, .inr (6, [.ref a1, .ref q1, .null, .null, .null, .null, .int 0, .null, .int 0, .null, .int 0, .int 0])), (q1, .inl (cq1, 702, .inl (fun _ => 0)))] H := hP
  have hD : va_D A [(h0, .inr (6, [.ref a1, .ref q1, .null, .null, .null, .null, .int 0, .null, .int 0, .null, .int 0, .int 0])), (q1, .inl (cq1, 702, .inl (fun _ => 0)))] := hD
  refine lv_aload_n hx hb dX6_init_18 rfl (lv_at hl 0 rfl) ?_
  refine lv_sipush (v := 702) hx hb dX6_init_19 (by decide +kernel) ?_
  refine va_newa (atype := .int) (ty := .int) (N' := 702) (a0 := (702, .inl (fun _ => 0))) hx hb (hts (.arrayClass .int) (by decide +kernel)) rfl hK hP hD hS hA (na_int 702) (by decide +kernel) (by decide +kernel) (by decide +kernel) (Nat.le_of_ble_eq_true rfl) (Nat.le_of_ble_eq_true rfl) dX6_init_22 (fun q2 cq2 H hK hP hD hS => ?_)
  have hP : va_P D vwCl [(h0, .inr (6, [.ref a1, .ref q1, .null, .null, .null, .null, .int 0, .null, .int 0, .null, .int 0, .int 0])), (q1, .inl (cq1, 702, .inl (fun _ => 0))), (q2, .inl (cq2, 702, .inl (fun _ => 0)))] H := hP
  have hD : va_D A [(h0, .inr (6, [.ref a1, .ref q1, .null, .null, .null, .null, .int 0, .null, .int 0, .null, .int 0, .int 0])), (q1, .inl (cq1, 702, .inl (fun _ => 0))), (q2, .inl (cq2, 702, .inl (fun _ => 0)))] := hD
  have hK : va_K D vwCl [(cq1, .int), (cq2, .int)] s := hK
  refine W.widen (k := 2) (n := 1404) (Nat.le_of_ble_eq_true rfl) (Nat.le_of_ble_eq_true rfl) ?_
  refine va_putF (D := D) (ci := 6) (v := .ref q2) (ty := .array .int) (C := RX6) (T := TX6) (N := 12) hx hb hts i_v_c_Names_init_X6 tyX6 tyX6_ok nmX6 hown hK hP hD hS 0 rfl rfl 2 (by decide) (hts (.fieldLink RX6 21 "ScheduleHouse$Names" "meaning" "[I") (by decide +kernel)) (fun _ h9 => h9) rfl hin rfl (by decide +kernel) rfl rfl (Nat.le_of_ble_eq_true rfl) dX6_init_24 (fun H locs hP hD hS => ?_)
  have hP : va_P D vwCl [(h0, .inr (6, [.ref a1, .ref q1, .ref q2, .null, .null, .null, .int 0, .null, .int 0, .null, .int 0, .int 0])), (q1, .inl (cq1, 702, .inl (fun _ => 0))), (q2, .inl (cq2, 702, .inl (fun _ => 0)))] H := hP
  have hD : va_D A [(h0, .inr (6, [.ref a1, .ref q1, .ref q2, .null, .null, .null, .int 0, .null, .int 0, .null, .int 0, .int 0])), (q1, .inl (cq1, 702, .inl (fun _ => 0))), (q2, .inl (cq2, 702, .inl (fun _ => 0)))] := hD
  refine lv_aload_n hx hb dX6_init_27 rfl (lv_at hl 0 rfl) ?_
  refine lv_bipush (v := 24) hx hb dX6_init_28 (by decide +kernel) ?_
  refine va_newa (atype := .int) (ty := .int) (N' := 24) (a0 := (24, .inl (fun _ => 0))) hx hb (hts (.arrayClass .int) (by decide +kernel)) rfl hK hP hD hS hA (na_int 24) (by decide +kernel) (by decide +kernel) (by decide +kernel) (Nat.le_of_ble_eq_true rfl) (Nat.le_of_ble_eq_true rfl) dX6_init_30 (fun q3 cq3 H hK hP hD hS => ?_)
  have hP : va_P D vwCl [(h0, .inr (6, [.ref a1, .ref q1, .ref q2, .null, .null, .null, .int 0, .null, .int 0, .null, .int 0, .int 0])), (q1, .inl (cq1, 702, .inl (fun _ => 0))), (q2, .inl (cq2, 702, .inl (fun _ => 0))), (q3, .inl (cq3, 24, .inl (fun _ => 0)))] H := hP
  have hD : va_D A [(h0, .inr (6, [.ref a1, .ref q1, .ref q2, .null, .null, .null, .int 0, .null, .int 0, .null, .int 0, .int 0])), (q1, .inl (cq1, 702, .inl (fun _ => 0))), (q2, .inl (cq2, 702, .inl (fun _ => 0))), (q3, .inl (cq3, 24, .inl (fun _ => 0)))] := hD
  have hK : va_K D vwCl [(cq1, .int), (cq2, .int), (cq3, .int)] s := hK
  refine W.widen (k := 3) (n := 1428) (Nat.le_of_ble_eq_true rfl) (Nat.le_of_ble_eq_true rfl) ?_
  refine va_putF (D := D) (ci := 6) (v := .ref q3) (ty := .array .int) (C := RX6) (T := TX6) (N := 12) hx hb hts i_v_c_Names_init_X6 tyX6 tyX6_ok nmX6 hown hK hP hD hS 0 rfl rfl 3 (by decide) (hts (.fieldLink RX6 24 "ScheduleHouse$Names" "cellName" "[I") (by decide +kernel)) (fun _ h9 => h9) rfl hin rfl (by decide +kernel) rfl rfl (Nat.le_of_ble_eq_true rfl) dX6_init_32 (fun H locs hP hD hS => ?_)
  have hP : va_P D vwCl [(h0, .inr (6, [.ref a1, .ref q1, .ref q2, .ref q3, .null, .null, .int 0, .null, .int 0, .null, .int 0, .int 0])), (q1, .inl (cq1, 702, .inl (fun _ => 0))), (q2, .inl (cq2, 702, .inl (fun _ => 0))), (q3, .inl (cq3, 24, .inl (fun _ => 0)))] H := hP
  have hD : va_D A [(h0, .inr (6, [.ref a1, .ref q1, .ref q2, .ref q3, .null, .null, .int 0, .null, .int 0, .null, .int 0, .int 0])), (q1, .inl (cq1, 702, .inl (fun _ => 0))), (q2, .inl (cq2, 702, .inl (fun _ => 0))), (q3, .inl (cq3, 24, .inl (fun _ => 0)))] := hD
  have hP : va_P D vwCl [(h0, .inr (6, [.ref a1, .ref q1, .ref q2, .ref q3, .null, .null, .int 0, .null, .int 0, .null, .int 0, .int 0])), (q1, .inl (cq1, 702, .inl (fun _ => 0))), (q2, .inl (cq2, 702, .inl (fun _ => 0)))] H := hP.sub [0, 1, 2] rfl
  have hD : va_D A [(h0, .inr (6, [.ref a1, .ref q1, .ref q2, .ref q3, .null, .null, .int 0, .null, .int 0, .null, .int 0, .int 0])), (q1, .inl (cq1, 702, .inl (fun _ => 0))), (q2, .inl (cq2, 702, .inl (fun _ => 0)))] := hD.sub [0, 1, 2] (by decide) rfl
  have hK : va_K D vwCl [(cq1, .int), (cq2, .int)] s := hK.sub [0, 1] rfl
  refine lv_aload_n hx hb dX6_init_35 rfl (lv_at hl 0 rfl) ?_
  refine lv_bipush (v := 24) hx hb dX6_init_36 (by decide +kernel) ?_
  refine va_newa (atype := .int) (ty := .int) (N' := 24) (a0 := (24, .inl (fun _ => 0))) hx hb (hts (.arrayClass .int) (by decide +kernel)) rfl hK hP hD hS hA (na_int 24) (by decide +kernel) (by decide +kernel) (by decide +kernel) (Nat.le_of_ble_eq_true rfl) (Nat.le_of_ble_eq_true rfl) dX6_init_38 (fun q4 cq4 H hK hP hD hS => ?_)
  have hP : va_P D vwCl [(h0, .inr (6, [.ref a1, .ref q1, .ref q2, .ref q3, .null, .null, .int 0, .null, .int 0, .null, .int 0, .int 0])), (q1, .inl (cq1, 702, .inl (fun _ => 0))), (q2, .inl (cq2, 702, .inl (fun _ => 0))), (q4, .inl (cq4, 24, .inl (fun _ => 0)))] H := hP
  have hD : va_D A [(h0, .inr (6, [.ref a1, .ref q1, .ref q2, .ref q3, .null, .null, .int 0, .null, .int 0, .null, .int 0, .int 0])), (q1, .inl (cq1, 702, .inl (fun _ => 0))), (q2, .inl (cq2, 702, .inl (fun _ => 0))), (q4, .inl (cq4, 24, .inl (fun _ => 0)))] := hD
  have hK : va_K D vwCl [(cq1, .int), (cq2, .int), (cq4, .int)] s := hK
  refine W.widen (k := 4) (n := 1452) (Nat.le_of_ble_eq_true rfl) (Nat.le_of_ble_eq_true rfl) ?_
  refine va_putF (D := D) (ci := 6) (v := .ref q4) (ty := .array .int) (C := RX6) (T := TX6) (N := 12) hx hb hts i_v_c_Names_init_X6 tyX6 tyX6_ok nmX6 hown hK hP hD hS 0 rfl rfl 4 (by decide) (hts (.fieldLink RX6 27 "ScheduleHouse$Names" "cellFirst" "[I") (by decide +kernel)) (fun _ h9 => h9) rfl hin rfl (by decide +kernel) rfl rfl (Nat.le_of_ble_eq_true rfl) dX6_init_40 (fun H locs hP hD hS => ?_)
  have hP : va_P D vwCl [(h0, .inr (6, [.ref a1, .ref q1, .ref q2, .ref q3, .ref q4, .null, .int 0, .null, .int 0, .null, .int 0, .int 0])), (q1, .inl (cq1, 702, .inl (fun _ => 0))), (q2, .inl (cq2, 702, .inl (fun _ => 0))), (q4, .inl (cq4, 24, .inl (fun _ => 0)))] H := hP
  have hD : va_D A [(h0, .inr (6, [.ref a1, .ref q1, .ref q2, .ref q3, .ref q4, .null, .int 0, .null, .int 0, .null, .int 0, .int 0])), (q1, .inl (cq1, 702, .inl (fun _ => 0))), (q2, .inl (cq2, 702, .inl (fun _ => 0))), (q4, .inl (cq4, 24, .inl (fun _ => 0)))] := hD
  have hP : va_P D vwCl [(h0, .inr (6, [.ref a1, .ref q1, .ref q2, .ref q3, .ref q4, .null, .int 0, .null, .int 0, .null, .int 0, .int 0])), (q1, .inl (cq1, 702, .inl (fun _ => 0))), (q2, .inl (cq2, 702, .inl (fun _ => 0)))] H := hP.sub [0, 1, 2] rfl
  have hD : va_D A [(h0, .inr (6, [.ref a1, .ref q1, .ref q2, .ref q3, .ref q4, .null, .int 0, .null, .int 0, .null, .int 0, .int 0])), (q1, .inl (cq1, 702, .inl (fun _ => 0))), (q2, .inl (cq2, 702, .inl (fun _ => 0)))] := hD.sub [0, 1, 2] (by decide) rfl
  have hK : va_K D vwCl [(cq1, .int), (cq2, .int)] s := hK.sub [0, 1] rfl
  refine lv_aload_n hx hb dX6_init_43 rfl (lv_at hl 0 rfl) ?_
  refine lv_bipush (v := 24) hx hb dX6_init_44 (by decide +kernel) ?_
  refine va_newa (atype := .int) (ty := .int) (N' := 24) (a0 := (24, .inl (fun _ => 0))) hx hb (hts (.arrayClass .int) (by decide +kernel)) rfl hK hP hD hS hA (na_int 24) (by decide +kernel) (by decide +kernel) (by decide +kernel) (Nat.le_of_ble_eq_true rfl) (Nat.le_of_ble_eq_true rfl) dX6_init_46 (fun q5 cq5 H hK hP hD hS => ?_)
  have hP : va_P D vwCl [(h0, .inr (6, [.ref a1, .ref q1, .ref q2, .ref q3, .ref q4, .null, .int 0, .null, .int 0, .null, .int 0, .int 0])), (q1, .inl (cq1, 702, .inl (fun _ => 0))), (q2, .inl (cq2, 702, .inl (fun _ => 0))), (q5, .inl (cq5, 24, .inl (fun _ => 0)))] H := hP
  have hD : va_D A [(h0, .inr (6, [.ref a1, .ref q1, .ref q2, .ref q3, .ref q4, .null, .int 0, .null, .int 0, .null, .int 0, .int 0])), (q1, .inl (cq1, 702, .inl (fun _ => 0))), (q2, .inl (cq2, 702, .inl (fun _ => 0))), (q5, .inl (cq5, 24, .inl (fun _ => 0)))] := hD
  have hK : va_K D vwCl [(cq1, .int), (cq2, .int), (cq5, .int)] s := hK
  refine W.widen (k := 5) (n := 1476) (Nat.le_of_ble_eq_true rfl) (Nat.le_of_ble_eq_true rfl) ?_
  refine va_putF (D := D) (ci := 6) (v := .ref q5) (ty := .array .int) (C := RX6) (T := TX6) (N := 12) hx hb hts i_v_c_Names_init_X6 tyX6 tyX6_ok nmX6 hown hK hP hD hS 0 rfl rfl 5 (by decide) (hts (.fieldLink RX6 30 "ScheduleHouse$Names" "cellRow" "[I") (by decide +kernel)) (fun _ h9 => h9) rfl hin rfl (by decide +kernel) rfl rfl (Nat.le_of_ble_eq_true rfl) dX6_init_48 (fun H locs hP hD hS => ?_)
  have hP : va_P D vwCl [(h0, .inr (6, [.ref a1, .ref q1, .ref q2, .ref q3, .ref q4, .ref q5, .int 0, .null, .int 0, .null, .int 0, .int 0])), (q1, .inl (cq1, 702, .inl (fun _ => 0))), (q2, .inl (cq2, 702, .inl (fun _ => 0))), (q5, .inl (cq5, 24, .inl (fun _ => 0)))] H := hP
  have hD : va_D A [(h0, .inr (6, [.ref a1, .ref q1, .ref q2, .ref q3, .ref q4, .ref q5, .int 0, .null, .int 0, .null, .int 0, .int 0])), (q1, .inl (cq1, 702, .inl (fun _ => 0))), (q2, .inl (cq2, 702, .inl (fun _ => 0))), (q5, .inl (cq5, 24, .inl (fun _ => 0)))] := hD
  have hP : va_P D vwCl [(h0, .inr (6, [.ref a1, .ref q1, .ref q2, .ref q3, .ref q4, .ref q5, .int 0, .null, .int 0, .null, .int 0, .int 0])), (q1, .inl (cq1, 702, .inl (fun _ => 0))), (q2, .inl (cq2, 702, .inl (fun _ => 0)))] H := hP.sub [0, 1, 2] rfl
  have hD : va_D A [(h0, .inr (6, [.ref a1, .ref q1, .ref q2, .ref q3, .ref q4, .ref q5, .int 0, .null, .int 0, .null, .int 0, .int 0])), (q1, .inl (cq1, 702, .inl (fun _ => 0))), (q2, .inl (cq2, 702, .inl (fun _ => 0)))] := hD.sub [0, 1, 2] (by decide) rfl
  have hK : va_K D vwCl [(cq1, .int), (cq2, .int)] s := hK.sub [0, 1] rfl
  refine lv_aload_n hx hb dX6_init_51 rfl (lv_at hl 0 rfl) ?_
  refine lv_bipush (v := 6) hx hb dX6_init_52 (by decide +kernel) ?_
  refine va_newa (atype := .int) (ty := .int) (N' := 6) (a0 := (6, .inl (fun _ => 0))) hx hb (hts (.arrayClass .int) (by decide +kernel)) rfl hK hP hD hS hA (na_int 6) (by decide +kernel) (by decide +kernel) (by decide +kernel) (Nat.le_of_ble_eq_true rfl) (Nat.le_of_ble_eq_true rfl) dX6_init_54 (fun q6 cq6 H hK hP hD hS => ?_)
  have hP : va_P D vwCl [(h0, .inr (6, [.ref a1, .ref q1, .ref q2, .ref q3, .ref q4, .ref q5, .int 0, .null, .int 0, .null, .int 0, .int 0])), (q1, .inl (cq1, 702, .inl (fun _ => 0))), (q2, .inl (cq2, 702, .inl (fun _ => 0))), (q6, .inl (cq6, 6, .inl (fun _ => 0)))] H := hP
  have hD : va_D A [(h0, .inr (6, [.ref a1, .ref q1, .ref q2, .ref q3, .ref q4, .ref q5, .int 0, .null, .int 0, .null, .int 0, .int 0])), (q1, .inl (cq1, 702, .inl (fun _ => 0))), (q2, .inl (cq2, 702, .inl (fun _ => 0))), (q6, .inl (cq6, 6, .inl (fun _ => 0)))] := hD
  have hK : va_K D vwCl [(cq1, .int), (cq2, .int), (cq6, .int)] s := hK
  refine W.widen (k := 6) (n := 1482) (Nat.le_of_ble_eq_true rfl) (Nat.le_of_ble_eq_true rfl) ?_
  refine va_putF (D := D) (ci := 6) (v := .ref q6) (ty := .array .int) (C := RX6) (T := TX6) (N := 12) hx hb hts i_v_c_Names_init_X6 tyX6 tyX6_ok nmX6 hown hK hP hD hS 0 rfl rfl 7 (by decide) (hts (.fieldLink RX6 33 "ScheduleHouse$Names" "lockName" "[I") (by decide +kernel)) (fun _ h9 => h9) rfl hin rfl (by decide +kernel) rfl rfl (Nat.le_of_ble_eq_true rfl) dX6_init_56 (fun H locs hP hD hS => ?_)
  have hP : va_P D vwCl [(h0, .inr (6, [.ref a1, .ref q1, .ref q2, .ref q3, .ref q4, .ref q5, .int 0, .ref q6, .int 0, .null, .int 0, .int 0])), (q1, .inl (cq1, 702, .inl (fun _ => 0))), (q2, .inl (cq2, 702, .inl (fun _ => 0))), (q6, .inl (cq6, 6, .inl (fun _ => 0)))] H := hP
  have hD : va_D A [(h0, .inr (6, [.ref a1, .ref q1, .ref q2, .ref q3, .ref q4, .ref q5, .int 0, .ref q6, .int 0, .null, .int 0, .int 0])), (q1, .inl (cq1, 702, .inl (fun _ => 0))), (q2, .inl (cq2, 702, .inl (fun _ => 0))), (q6, .inl (cq6, 6, .inl (fun _ => 0)))] := hD
  have hP : va_P D vwCl [(h0, .inr (6, [.ref a1, .ref q1, .ref q2, .ref q3, .ref q4, .ref q5, .int 0, .ref q6, .int 0, .null, .int 0, .int 0])), (q1, .inl (cq1, 702, .inl (fun _ => 0))), (q2, .inl (cq2, 702, .inl (fun _ => 0)))] H := hP.sub [0, 1, 2] rfl
  have hD : va_D A [(h0, .inr (6, [.ref a1, .ref q1, .ref q2, .ref q3, .ref q4, .ref q5, .int 0, .ref q6, .int 0, .null, .int 0, .int 0])), (q1, .inl (cq1, 702, .inl (fun _ => 0))), (q2, .inl (cq2, 702, .inl (fun _ => 0)))] := hD.sub [0, 1, 2] (by decide) rfl
  have hK : va_K D vwCl [(cq1, .int), (cq2, .int)] s := hK.sub [0, 1] rfl
  refine lv_aload_n hx hb dX6_init_59 rfl (lv_at hl 0 rfl) ?_
  refine lv_bipush (v := 6) hx hb dX6_init_60 (by decide +kernel) ?_
  refine va_newa (atype := .int) (ty := .int) (N' := 6) (a0 := (6, .inl (fun _ => 0))) hx hb (hts (.arrayClass .int) (by decide +kernel)) rfl hK hP hD hS hA (na_int 6) (by decide +kernel) (by decide +kernel) (by decide +kernel) (Nat.le_of_ble_eq_true rfl) (Nat.le_of_ble_eq_true rfl) dX6_init_62 (fun q7 cq7 H hK hP hD hS => ?_)
  have hP : va_P D vwCl [(h0, .inr (6, [.ref a1, .ref q1, .ref q2, .ref q3, .ref q4, .ref q5, .int 0, .ref q6, .int 0, .null, .int 0, .int 0])), (q1, .inl (cq1, 702, .inl (fun _ => 0))), (q2, .inl (cq2, 702, .inl (fun _ => 0))), (q7, .inl (cq7, 6, .inl (fun _ => 0)))] H := hP
  have hD : va_D A [(h0, .inr (6, [.ref a1, .ref q1, .ref q2, .ref q3, .ref q4, .ref q5, .int 0, .ref q6, .int 0, .null, .int 0, .int 0])), (q1, .inl (cq1, 702, .inl (fun _ => 0))), (q2, .inl (cq2, 702, .inl (fun _ => 0))), (q7, .inl (cq7, 6, .inl (fun _ => 0)))] := hD
  have hK : va_K D vwCl [(cq1, .int), (cq2, .int), (cq7, .int)] s := hK
  refine W.widen (k := 7) (n := 1488) (Nat.le_of_ble_eq_true rfl) (Nat.le_of_ble_eq_true rfl) ?_
  refine va_putF (D := D) (ci := 6) (v := .ref q7) (ty := .array .int) (C := RX6) (T := TX6) (N := 12) hx hb hts i_v_c_Names_init_X6 tyX6 tyX6_ok nmX6 hown hK hP hD hS 0 rfl rfl 9 (by decide) (hts (.fieldLink RX6 36 "ScheduleHouse$Names" "threadName" "[I") (by decide +kernel)) (fun _ h9 => h9) rfl hin rfl (by decide +kernel) rfl rfl (Nat.le_of_ble_eq_true rfl) dX6_init_64 (fun H locs hP hD hS => ?_)
  have hP : va_P D vwCl [(h0, .inr (6, [.ref a1, .ref q1, .ref q2, .ref q3, .ref q4, .ref q5, .int 0, .ref q6, .int 0, .ref q7, .int 0, .int 0])), (q1, .inl (cq1, 702, .inl (fun _ => 0))), (q2, .inl (cq2, 702, .inl (fun _ => 0))), (q7, .inl (cq7, 6, .inl (fun _ => 0)))] H := hP
  have hD : va_D A [(h0, .inr (6, [.ref a1, .ref q1, .ref q2, .ref q3, .ref q4, .ref q5, .int 0, .ref q6, .int 0, .ref q7, .int 0, .int 0])), (q1, .inl (cq1, 702, .inl (fun _ => 0))), (q2, .inl (cq2, 702, .inl (fun _ => 0))), (q7, .inl (cq7, 6, .inl (fun _ => 0)))] := hD
  have hP : va_P D vwCl [(h0, .inr (6, [.ref a1, .ref q1, .ref q2, .ref q3, .ref q4, .ref q5, .int 0, .ref q6, .int 0, .ref q7, .int 0, .int 0])), (q1, .inl (cq1, 702, .inl (fun _ => 0))), (q2, .inl (cq2, 702, .inl (fun _ => 0)))] H := hP.sub [0, 1, 2] rfl
  have hD : va_D A [(h0, .inr (6, [.ref a1, .ref q1, .ref q2, .ref q3, .ref q4, .ref q5, .int 0, .ref q6, .int 0, .ref q7, .int 0, .int 0])), (q1, .inl (cq1, 702, .inl (fun _ => 0))), (q2, .inl (cq2, 702, .inl (fun _ => 0)))] := hD.sub [0, 1, 2] (by decide) rfl
  have hK : va_K D vwCl [(cq1, .int), (cq2, .int)] s := hK.sub [0, 1] rfl
  have hP : va_P D vwCl [(h0, .inr (6, [.ref a1, .ref q1, .ref q2, .ref q3, .ref q4, .ref q5, .int 0, .ref q6, .int 0, .ref q7, .int 0, .int 0])), (q1, .inl (cq1, 702, .inl (fun _ => 0))), (q2, .inl (cq2, 702, .inl (fun _ => 0)))] H := hP.sub [0, 1, 2] rfl
  have hD : va_D A [(h0, .inr (6, [.ref a1, .ref q1, .ref q2, .ref q3, .ref q4, .ref q5, .int 0, .ref q6, .int 0, .ref q7, .int 0, .int 0])), (q1, .inl (cq1, 702, .inl (fun _ => 0))), (q2, .inl (cq2, 702, .inl (fun _ => 0)))] := hD.sub [0, 1, 2] (by decide) rfl
  have hK : va_K D vwCl [(cq1, .int), (cq2, .int)] s := hK.sub [0, 1] rfl
  exact W.vret hx hb hr (fun t ht hW => ⟨⟨(), rfl, trivial, q1, q2, q3, q4, q5, q6, q7, cq1, cq2, by rw [ht]; exact hP, va_K.moved hW.alike hK, hD⟩, hS.F ht⟩) hS.2.2 dX6_init_67
noncomputable def v_c_Steps_init : List Cond := .code yX8_init cX8_init 2 none :: ([.methodLink RX8 3 objectInit, .instanceMethod objectInit, .code objectInit ⟨#[0xb1]⟩ 1 none, .arrayClass .int, .fieldLink RX8 9 "ScheduleHouse$Steps" "op" "[I", .fieldLink RX8 15 "ScheduleHouse$Steps" "line" "[I", .fieldLink RX8 18 "ScheduleHouse$Steps" "known" "[I", .fieldLink RX8 21 "ScheduleHouse$Steps" "target" "[I", .fieldLink RX8 24 "ScheduleHouse$Steps" "object" "[I", .fieldLink RX8 27 "ScheduleHouse$Steps" "row" "[I", .fieldLink RX8 30 "ScheduleHouse$Steps" "index" "[I", .fieldLink RX8 33 "ScheduleHouse$Steps" "first" "[I", .fieldLink RX8 36 "ScheduleHouse$Steps" "second" "[I"] ++ (wsX80 ++ ([])))
theorem i_v_c_Steps_init_X8 : ∀ w ∈ wsX80, w ∈ v_c_Steps_init := fun _ h => List.mem_cons_of_mem _ (List.mem_append_right _ (List.mem_append_left _ h))
theorem t_v_c_Steps_init : ∀ w ∈ v_c_Steps_init, w ∈ lw_tbl := tb_c (List.mem_of_getElem? (i := 346) (by decide +kernel)) (tb_a (tb_l (ps := [347, 239, 240, 287, 348, 351, 354, 356, 359, 362, 365, 368, 371]) (by decide +kernel)) (tb_a (tw_wsX80) (tb_n)))
set_option maxHeartbeats 400000 in
set_option maxRecDepth 100000 in
/-- Steps(400) -/
theorem c_Steps_init (l : Launch) (D : va_G) (h0 : Nat) (sz : Nat) : Met l yX8_init v_c_Steps_init ({ frames := 1, cells := 9, slots := 3600, locals := 12 }) (va_Pc [.ref h0, .int 400] (st_ D [(h0, .inr (8, [.null, .null, .null, .null, .null, .null, .null, .null, .null, .int 0]))] [] sz)) (va_Qv (fun _ : Unit => True) (fun _ t => ∃ (q1 : Nat) (q2 : Nat) (q3 : Nat) (q4 : Nat) (q5 : Nat) (q6 : Nat) (q7 : Nat) (q8 : Nat) (q9 : Nat), va_P D vwCl [(h0, .inr (8, [.ref q1, .ref q2, .ref q3, .ref q4, .ref q5, .ref q6, .ref q7, .ref q8, .ref q9, .int 0]))] t.heap ∧ va_K D vwCl [] t ∧ va_D (va_A [(h0, .inr (8, [.null, .null, .null, .null, .null, .null, .null, .null, .null, .int 0]))] sz) [(h0, .inr (8, [.ref q1, .ref q2, .ref q3, .ref q4, .ref q5, .ref q6, .ref q7, .ref q8, .ref q9, .int 0]))]) (va_A [(h0, .inr (8, [.null, .null, .null, .null, .null, .null, .null, .null, .null, .int 0]))] sz)) 9 3600 (va_A [(h0, .inr (8, [.null, .null, .null, .null, .null, .null, .null, .null, .null, .int 0]))] sz) := by
  refine Met.ofW (cc := cX8_init) (maxL := 2) (ret := none) (by decide) rfl ?_
  intro p e s m args below meth c s₁ B hml hv
  obtain ⟨rfl, hsz, hP, hK, hD0, hZ, hE⟩ := hv
  have hx := B.exec
  have hb := B.bytes
  have hr := B.returns
  have hts := atoms_spec (ws := v_c_Steps_init) B.pre
  have hown : s.vm.findClass RX8 = some m.cls := findClass_of_methodNamed B.named
  have hlocks := B.notSynchronized
  have hin : meth.name = "<init>" := (name_of_methodNamed B.named B.method).1
  subst hsz
  have hD := hD0.self (sz := s.heap.size)
  generalize hAe : va_A [(h0, .inr (8, [.null, .null, .null, .null, .null, .null, .null, .null, .null, .int 0]))] s.heap.size = A at hD hZ ⊢
  have hA : ∀ q : Nat, s.heap.size ≤ q → A q := fun q h => by rw [← hAe]; exact Or.inr h
  have hS : va_S A s.heap s.heap [] := va_S.rf
  have hAO := hE.2.2.2.1
  have hP : va_P D vwCl [(h0, .inr (8, [.null, .null, .null, .null, .null, .null, .null, .null, .null, .int 0]))] s.heap := hP
  have hl := lv_entry ([.ref h0, .int 400]) (n := 2) (Nat.le_of_ble_eq_true rfl)
  rw [lg_entry_eq]
  generalize (lg_sl ([.ref h0, .int 400]) ++ List.replicate (2 - (lg_sl ([.ref h0, .int 400])).length) Slot.unset).toArray = ls at hl ⊢
  have hl : lv_has ls 2 [(0, .ref h0), (1, .int 400)] := hl
  refine lv_aload_n hx hb dX8_init_0 rfl (lv_at hl 0 rfl) ?_
  refine W.objInit hx hb hown (hts (.methodLink RX8 3 objectInit) (by decide +kernel)) (hts (.instanceMethod objectInit) (by decide +kernel)) (hts (.code objectInit ⟨#[0xb1]⟩ 1 none) (by decide +kernel)) rfl (by rw [hml]; exact hl.1) rfl dX8_init_1 (Nat.le_of_ble_eq_true rfl) (Nat.le_of_ble_eq_true rfl) ?_
  refine W.eq (g2 := F0 m 4 ls []) rfl ?_
  refine lv_aload_n hx hb dX8_init_4 rfl (lv_at hl 0 rfl) ?_
  refine lv_iload_n hx hb dX8_init_5 rfl (lv_at hl 1 rfl) ?_
  refine va_newa (atype := .int) (ty := .int) (N' := 400) (a0 := (400, .inl (fun _ => 0))) hx hb (hts (.arrayClass .int) (by decide +kernel)) rfl hK hP hD hS hA (na_int 400) (by decide +kernel) (by decide +kernel) (by decide +kernel) (Nat.le_of_ble_eq_true rfl) (Nat.le_of_ble_eq_true rfl) dX8_init_6 (fun q1 cq1 H hK hP hD hS => ?_)
  have hP : va_P D vwCl [(h0, .inr (8, [.null, .null, .null, .null, .null, .null, .null, .null, .null, .int 0])), (q1, .inl (cq1, 400, .inl (fun _ => 0)))] H := hP
  have hD : va_D A [(h0, .inr (8, [.null, .null, .null, .null, .null, .null, .null, .null, .null, .int 0])), (q1, .inl (cq1, 400, .inl (fun _ => 0)))] := hD
  have hK : va_K D vwCl [(cq1, .int)] s := hK
  refine W.widen (k := 1) (n := 400) (Nat.le_of_ble_eq_true rfl) (Nat.le_of_ble_eq_true rfl) ?_
  refine va_putF (D := D) (ci := 8) (v := .ref q1) (ty := .array .int) (C := RX8) (T := TX8) (N := 10) hx hb hts i_v_c_Steps_init_X8 tyX8 tyX8_ok nmX8 hown hK hP hD hS 0 rfl rfl 0 (by decide) (hts (.fieldLink RX8 9 "ScheduleHouse$Steps" "op" "[I") (by decide +kernel)) (fun _ h9 => h9) rfl hin rfl (by decide +kernel) rfl rfl (Nat.le_of_ble_eq_true rfl) dX8_init_8 (fun H locs hP hD hS => ?_)
  have hP : va_P D vwCl [(h0, .inr (8, [.ref q1, .null, .null, .null, .null, .null, .null, .null, .null, .int 0])), (q1, .inl (cq1, 400, .inl (fun _ => 0)))] H := hP
  have hD : va_D A [(h0, .inr (8, [.ref q1, .null, .null, .null, .null, .null, .null, .null, .null, .int 0])), (q1, .inl (cq1, 400, .inl (fun _ => 0)))] := hD
  have hP : va_P D vwCl [(h0, .inr (8, [.ref q1, .null, .null, .null, .null, .null, .null, .null, .null, .int 0]))] H := hP.sub [0] rfl
  have hD : va_D A [(h0, .inr (8, [.ref q1, .null, .null, .null, .null, .null, .null, .null, .null, .int 0]))] := hD.sub [0] (by decide) rfl
  have hK : va_K D vwCl [] s := hK.sub [] rfl
  refine lv_aload_n hx hb dX8_init_11 rfl (lv_at hl 0 rfl) ?_
  refine lv_iload_n hx hb dX8_init_12 rfl (lv_at hl 1 rfl) ?_
  refine va_newa (atype := .int) (ty := .int) (N' := 400) (a0 := (400, .inl (fun _ => 0))) hx hb (hts (.arrayClass .int) (by decide +kernel)) rfl hK hP hD hS hA (na_int 400) (by decide +kernel) (by decide +kernel) (by decide +kernel) (Nat.le_of_ble_eq_true rfl) (Nat.le_of_ble_eq_true rfl) dX8_init_13 (fun q2 cq2 H hK hP hD hS => ?_)
  have hP : va_P D vwCl [(h0, .inr (8, [.ref q1, .null, .null, .null, .null, .null, .null, .null, .null, .int 0])), (q2, .inl (cq2, 400, .inl (fun _ => 0)))] H := hP
  have hD : va_D A [(h0, .inr (8, [.ref q1, .null, .null, .null, .null, .null, .null, .null, .null, .int 0])), (q2, .inl (cq2, 400, .inl (fun _ => 0)))] := hD
  have hK : va_K D vwCl [(cq2, .int)] s := hK
  refine W.widen (k := 2) (n := 800) (Nat.le_of_ble_eq_true rfl) (Nat.le_of_ble_eq_true rfl) ?_
  refine va_putF (D := D) (ci := 8) (v := .ref q2) (ty := .array .int) (C := RX8) (T := TX8) (N := 10) hx hb hts i_v_c_Steps_init_X8 tyX8 tyX8_ok nmX8 hown hK hP hD hS 0 rfl rfl 1 (by decide) (hts (.fieldLink RX8 15 "ScheduleHouse$Steps" "line" "[I") (by decide +kernel)) (fun _ h9 => h9) rfl hin rfl (by decide +kernel) rfl rfl (Nat.le_of_ble_eq_true rfl) dX8_init_15 (fun H locs hP hD hS => ?_)
  have hP : va_P D vwCl [(h0, .inr (8, [.ref q1, .ref q2, .null, .null, .null, .null, .null, .null, .null, .int 0])), (q2, .inl (cq2, 400, .inl (fun _ => 0)))] H := hP
  have hD : va_D A [(h0, .inr (8, [.ref q1, .ref q2, .null, .null, .null, .null, .null, .null, .null, .int 0])), (q2, .inl (cq2, 400, .inl (fun _ => 0)))] := hD
  have hP : va_P D vwCl [(h0, .inr (8, [.ref q1, .ref q2, .null, .null, .null, .null, .null, .null, .null, .int 0]))] H := hP.sub [0] rfl
  have hD : va_D A [(h0, .inr (8, [.ref q1, .ref q2, .null, .null, .null, .null, .null, .null, .null, .int 0]))] := hD.sub [0] (by decide) rfl
  have hK : va_K D vwCl [] s := hK.sub [] rfl
  refine lv_aload_n hx hb dX8_init_18 rfl (lv_at hl 0 rfl) ?_
  refine lv_iload_n hx hb dX8_init_19 rfl (lv_at hl 1 rfl) ?_
  refine va_newa (atype := .int) (ty := .int) (N' := 400) (a0 := (400, .inl (fun _ => 0))) hx hb (hts (.arrayClass .int) (by decide +kernel)) rfl hK hP hD hS hA (na_int 400) (by decide +kernel) (by decide +kernel) (by decide +kernel) (Nat.le_of_ble_eq_true rfl) (Nat.le_of_ble_eq_true rfl) dX8_init_20 (fun q3 cq3 H hK hP hD hS => ?_)
  have hP : va_P D vwCl [(h0, .inr (8, [.ref q1, .ref q2, .null, .null, .null, .null, .null, .null, .null, .int 0])), (q3, .inl (cq3, 400, .inl (fun _ => 0)))] H := hP
  have hD : va_D A [(h0, .inr (8, [.ref q1, .ref q2, .null, .null, .null, .null, .null, .null, .null, .int 0])), (q3, .inl (cq3, 400, .inl (fun _ => 0)))] := hD
  have hK : va_K D vwCl [(cq3, .int)] s := hK
  refine W.widen (k := 3) (n := 1200) (Nat.le_of_ble_eq_true rfl) (Nat.le_of_ble_eq_true rfl) ?_
  refine va_putF (D := D) (ci := 8) (v := .ref q3) (ty := .array .int) (C := RX8) (T := TX8) (N := 10) hx hb hts i_v_c_Steps_init_X8 tyX8 tyX8_ok nmX8 hown hK hP hD hS 0 rfl rfl 2 (by decide) (hts (.fieldLink RX8 18 "ScheduleHouse$Steps" "known" "[I") (by decide +kernel)) (fun _ h9 => h9) rfl hin rfl (by decide +kernel) rfl rfl (Nat.le_of_ble_eq_true rfl) dX8_init_22 (fun H locs hP hD hS => ?_)
  have hP : va_P D vwCl [(h0, .inr (8, [.ref q1, .ref q2, .ref q3, .null, .null, .null, .null, .null, .null, .int 0])), (q3, .inl (cq3, 400, .inl (fun _ => 0)))] H := hP
  have hD : va_D A [(h0, .inr (8, [.ref q1, .ref q2, .ref q3, .null, .null, .null, .null, .null, .null, .int 0])), (q3, .inl (cq3, 400, .inl (fun _ => 0)))] := hD
  have hP : va_P D vwCl [(h0, .inr (8, [.ref q1, .ref q2, .ref q3, .null, .null, .null, .null, .null, .null, .int 0]))] H := hP.sub [0] rfl
  have hD : va_D A [(h0, .inr (8, [.ref q1, .ref q2, .ref q3, .null, .null, .null, .null, .null, .null, .int 0]))] := hD.sub [0] (by decide) rfl
  have hK : va_K D vwCl [] s := hK.sub [] rfl
  refine lv_aload_n hx hb dX8_init_25 rfl (lv_at hl 0 rfl) ?_
  refine lv_iload_n hx hb dX8_init_26 rfl (lv_at hl 1 rfl) ?_
  refine va_newa (atype := .int) (ty := .int) (N' := 400) (a0 := (400, .inl (fun _ => 0))) hx hb (hts (.arrayClass .int) (by decide +kernel)) rfl hK hP hD hS hA (na_int 400) (by decide +kernel) (by decide +kernel) (by decide +kernel) (Nat.le_of_ble_eq_true rfl) (Nat.le_of_ble_eq_true rfl) dX8_init_27 (fun q4 cq4 H hK hP hD hS => ?_)
  have hP : va_P D vwCl [(h0, .inr (8, [.ref q1, .ref q2, .ref q3, .null, .null, .null, .null, .null, .null, .int 0])), (q4, .inl (cq4, 400, .inl (fun _ => 0)))] H := hP
  have hD : va_D A [(h0, .inr (8, [.ref q1, .ref q2, .ref q3, .null, .null, .null, .null, .null, .null, .int 0])), (q4, .inl (cq4, 400, .inl (fun _ => 0)))] := hD
  have hK : va_K D vwCl [(cq4, .int)] s := hK
  refine W.widen (k := 4) (n := 1600) (Nat.le_of_ble_eq_true rfl) (Nat.le_of_ble_eq_true rfl) ?_
  refine va_putF (D := D) (ci := 8) (v := .ref q4) (ty := .array .int) (C := RX8) (T := TX8) (N := 10) hx hb hts i_v_c_Steps_init_X8 tyX8 tyX8_ok nmX8 hown hK hP hD hS 0 rfl rfl 3 (by decide) (hts (.fieldLink RX8 21 "ScheduleHouse$Steps" "target" "[I") (by decide +kernel)) (fun _ h9 => h9) rfl hin rfl (by decide +kernel) rfl rfl (Nat.le_of_ble_eq_true rfl) dX8_init_29 (fun H locs hP hD hS => ?_)
  have hP : va_P D vwCl [(h0, .inr (8, [.ref q1, .ref q2, .ref q3, .ref q4, .null, .null, .null, .null, .null, .int 0])), (q4, .inl (cq4, 400, .inl (fun _ => 0)))] H := hP
  have hD : va_D A [(h0, .inr (8, [.ref q1, .ref q2, .ref q3, .ref q4, .null, .null, .null, .null, .null, .int 0])), (q4, .inl (cq4, 400, .inl (fun _ => 0)))] := hD
  have hP : va_P D vwCl [(h0, .inr (8, [.ref q1, .ref q2, .ref q3, .ref q4, .null, .null, .null, .null, .null, .int 0]))] H := hP.sub [0] rfl
  have hD : va_D A [(h0, .inr (8, [.ref q1, .ref q2, .ref q3, .ref q4, .null, .null, .null, .null, .null, .int 0]))] := hD.sub [0] (by decide) rfl
  have hK : va_K D vwCl [] s := hK.sub [] rfl
  refine lv_aload_n hx hb dX8_init_32 rfl (lv_at hl 0 rfl) ?_
  refine lv_iload_n hx hb dX8_init_33 rfl (lv_at hl 1 rfl) ?_
  refine va_newa (atype := .int) (ty := .int) (N' := 400) (a0 := (400, .inl (fun _ => 0))) hx hb (hts (.arrayClass .int) (by decide +kernel)) rfl hK hP hD hS hA (na_int 400) (by decide +kernel) (by decide +kernel) (by decide +kernel) (Nat.le_of_ble_eq_true rfl) (Nat.le_of_ble_eq_true rfl) dX8_init_34 (fun q5 cq5 H hK hP hD hS => ?_)
  have hP : va_P D vwCl [(h0, .inr (8, [.ref q1, .ref q2, .ref q3, .ref q4, .null, .null, .null, .null, .null, .int 0])), (q5, .inl (cq5, 400, .inl (fun _ => 0)))] H := hP
  have hD : va_D A [(h0, .inr (8, [.ref q1, .ref q2, .ref q3, .ref q4, .null, .null, .null, .null, .null, .int 0])), (q5, .inl (cq5, 400, .inl (fun _ => 0)))] := hD
  have hK : va_K D vwCl [(cq5, .int)] s := hK
  refine W.widen (k := 5) (n := 2000) (Nat.le_of_ble_eq_true rfl) (Nat.le_of_ble_eq_true rfl) ?_
  refine va_putF (D := D) (ci := 8) (v := .ref q5) (ty := .array .int) (C := RX8) (T := TX8) (N := 10) hx hb hts i_v_c_Steps_init_X8 tyX8 tyX8_ok nmX8 hown hK hP hD hS 0 rfl rfl 4 (by decide) (hts (.fieldLink RX8 24 "ScheduleHouse$Steps" "object" "[I") (by decide +kernel)) (fun _ h9 => h9) rfl hin rfl (by decide +kernel) rfl rfl (Nat.le_of_ble_eq_true rfl) dX8_init_36 (fun H locs hP hD hS => ?_)
  have hP : va_P D vwCl [(h0, .inr (8, [.ref q1, .ref q2, .ref q3, .ref q4, .ref q5, .null, .null, .null, .null, .int 0])), (q5, .inl (cq5, 400, .inl (fun _ => 0)))] H := hP
  have hD : va_D A [(h0, .inr (8, [.ref q1, .ref q2, .ref q3, .ref q4, .ref q5, .null, .null, .null, .null, .int 0])), (q5, .inl (cq5, 400, .inl (fun _ => 0)))] := hD
  have hP : va_P D vwCl [(h0, .inr (8, [.ref q1, .ref q2, .ref q3, .ref q4, .ref q5, .null, .null, .null, .null, .int 0]))] H := hP.sub [0] rfl
  have hD : va_D A [(h0, .inr (8, [.ref q1, .ref q2, .ref q3, .ref q4, .ref q5, .null, .null, .null, .null, .int 0]))] := hD.sub [0] (by decide) rfl
  have hK : va_K D vwCl [] s := hK.sub [] rfl
  refine lv_aload_n hx hb dX8_init_39 rfl (lv_at hl 0 rfl) ?_
  refine lv_iload_n hx hb dX8_init_40 rfl (lv_at hl 1 rfl) ?_
  refine va_newa (atype := .int) (ty := .int) (N' := 400) (a0 := (400, .inl (fun _ => 0))) hx hb (hts (.arrayClass .int) (by decide +kernel)) rfl hK hP hD hS hA (na_int 400) (by decide +kernel) (by decide +kernel) (by decide +kernel) (Nat.le_of_ble_eq_true rfl) (Nat.le_of_ble_eq_true rfl) dX8_init_41 (fun q6 cq6 H hK hP hD hS => ?_)
  have hP : va_P D vwCl [(h0, .inr (8, [.ref q1, .ref q2, .ref q3, .ref q4, .ref q5, .null, .null, .null, .null, .int 0])), (q6, .inl (cq6, 400, .inl (fun _ => 0)))] H := hP
  have hD : va_D A [(h0, .inr (8, [.ref q1, .ref q2, .ref q3, .ref q4, .ref q5, .null, .null, .null, .null, .int 0])), (q6, .inl (cq6, 400, .inl (fun _ => 0)))] := hD
  have hK : va_K D vwCl [(cq6, .int)] s := hK
  refine W.widen (k := 6) (n := 2400) (Nat.le_of_ble_eq_true rfl) (Nat.le_of_ble_eq_true rfl) ?_
  refine va_putF (D := D) (ci := 8) (v := .ref q6) (ty := .array .int) (C := RX8) (T := TX8) (N := 10) hx hb hts i_v_c_Steps_init_X8 tyX8 tyX8_ok nmX8 hown hK hP hD hS 0 rfl rfl 5 (by decide) (hts (.fieldLink RX8 27 "ScheduleHouse$Steps" "row" "[I") (by decide +kernel)) (fun _ h9 => h9) rfl hin rfl (by decide +kernel) rfl rfl (Nat.le_of_ble_eq_true rfl) dX8_init_43 (fun H locs hP hD hS => ?_)
  have hP : va_P D vwCl [(h0, .inr (8, [.ref q1, .ref q2, .ref q3, .ref q4, .ref q5, .ref q6, .null, .null, .null, .int 0])), (q6, .inl (cq6, 400, .inl (fun _ => 0)))] H := hP
  have hD : va_D A [(h0, .inr (8, [.ref q1, .ref q2, .ref q3, .ref q4, .ref q5, .ref q6, .null, .null, .null, .int 0])), (q6, .inl (cq6, 400, .inl (fun _ => 0)))] := hD
  have hP : va_P D vwCl [(h0, .inr (8, [.ref q1, .ref q2, .ref q3, .ref q4, .ref q5, .ref q6, .null, .null, .null, .int 0]))] H := hP.sub [0] rfl
  have hD : va_D A [(h0, .inr (8, [.ref q1, .ref q2, .ref q3, .ref q4, .ref q5, .ref q6, .null, .null, .null, .int 0]))] := hD.sub [0] (by decide) rfl
  have hK : va_K D vwCl [] s := hK.sub [] rfl
  refine lv_aload_n hx hb dX8_init_46 rfl (lv_at hl 0 rfl) ?_
  refine lv_iload_n hx hb dX8_init_47 rfl (lv_at hl 1 rfl) ?_
  refine va_newa (atype := .int) (ty := .int) (N' := 400) (a0 := (400, .inl (fun _ => 0))) hx hb (hts (.arrayClass .int) (by decide +kernel)) rfl hK hP hD hS hA (na_int 400) (by decide +kernel) (by decide +kernel) (by decide +kernel) (Nat.le_of_ble_eq_true rfl) (Nat.le_of_ble_eq_true rfl) dX8_init_48 (fun q7 cq7 H hK hP hD hS => ?_)
  have hP : va_P D vwCl [(h0, .inr (8, [.ref q1, .ref q2, .ref q3, .ref q4, .ref q5, .ref q6, .null, .null, .null, .int 0])), (q7, .inl (cq7, 400, .inl (fun _ => 0)))] H := hP
  have hD : va_D A [(h0, .inr (8, [.ref q1, .ref q2, .ref q3, .ref q4, .ref q5, .ref q6, .null, .null, .null, .int 0])), (q7, .inl (cq7, 400, .inl (fun _ => 0)))] := hD
  have hK : va_K D vwCl [(cq7, .int)] s := hK
  refine W.widen (k := 7) (n := 2800) (Nat.le_of_ble_eq_true rfl) (Nat.le_of_ble_eq_true rfl) ?_
  refine va_putF (D := D) (ci := 8) (v := .ref q7) (ty := .array .int) (C := RX8) (T := TX8) (N := 10) hx hb hts i_v_c_Steps_init_X8 tyX8 tyX8_ok nmX8 hown hK hP hD hS 0 rfl rfl 6 (by decide) (hts (.fieldLink RX8 30 "ScheduleHouse$Steps" "index" "[I") (by decide +kernel)) (fun _ h9 => h9) rfl hin rfl (by decide +kernel) rfl rfl (Nat.le_of_ble_eq_true rfl) dX8_init_50 (fun H locs hP hD hS => ?_)
  have hP : va_P D vwCl [(h0, .inr (8, [.ref q1, .ref q2, .ref q3, .ref q4, .ref q5, .ref q6, .ref q7, .null, .null, .int 0])), (q7, .inl (cq7, 400, .inl (fun _ => 0)))] H := hP
  have hD : va_D A [(h0, .inr (8, [.ref q1, .ref q2, .ref q3, .ref q4, .ref q5, .ref q6, .ref q7, .null, .null, .int 0])), (q7, .inl (cq7, 400, .inl (fun _ => 0)))] := hD
  have hP : va_P D vwCl [(h0, .inr (8, [.ref q1, .ref q2, .ref q3, .ref q4, .ref q5, .ref q6, .ref q7, .null, .null, .int 0]))] H := hP.sub [0] rfl
  have hD : va_D A [(h0, .inr (8, [.ref q1, .ref q2, .ref q3, .ref q4, .ref q5, .ref q6, .ref q7, .null, .null, .int 0]))] := hD.sub [0] (by decide) rfl
  have hK : va_K D vwCl [] s := hK.sub [] rfl
  refine lv_aload_n hx hb dX8_init_53 rfl (lv_at hl 0 rfl) ?_
  refine lv_iload_n hx hb dX8_init_54 rfl (lv_at hl 1 rfl) ?_
  refine va_newa (atype := .int) (ty := .int) (N' := 400) (a0 := (400, .inl (fun _ => 0))) hx hb (hts (.arrayClass .int) (by decide +kernel)) rfl hK hP hD hS hA (na_int 400) (by decide +kernel) (by decide +kernel) (by decide +kernel) (Nat.le_of_ble_eq_true rfl) (Nat.le_of_ble_eq_true rfl) dX8_init_55 (fun q8 cq8 H hK hP hD hS => ?_)
  have hP : va_P D vwCl [(h0, .inr (8, [.ref q1, .ref q2, .ref q3, .ref q4, .ref q5, .ref q6, .ref q7, .null, .null, .int 0])), (q8, .inl (cq8, 400, .inl (fun _ => 0)))] H := hP
  have hD : va_D A [(h0, .inr (8, [.ref q1, .ref q2, .ref q3, .ref q4, .ref q5, .ref q6, .ref q7, .null, .null, .int 0])), (q8, .inl (cq8, 400, .inl (fun _ => 0)))] := hD
  have hK : va_K D vwCl [(cq8, .int)] s := hK
  refine W.widen (k := 8) (n := 3200) (Nat.le_of_ble_eq_true rfl) (Nat.le_of_ble_eq_true rfl) ?_
  refine va_putF (D := D) (ci := 8) (v := .ref q8) (ty := .array .int) (C := RX8) (T := TX8) (N := 10) hx hb hts i_v_c_Steps_init_X8 tyX8 tyX8_ok nmX8 hown hK hP hD hS 0 rfl rfl 7 (by decide) (hts (.fieldLink RX8 33 "ScheduleHouse$Steps" "first" "[I") (by decide +kernel)) (fun _ h9 => h9) rfl hin rfl (by decide +kernel) rfl rfl (Nat.le_of_ble_eq_true rfl) dX8_init_57 (fun H locs hP hD hS => ?_)
  have hP : va_P D vwCl [(h0, .inr (8, [.ref q1, .ref q2, .ref q3, .ref q4, .ref q5, .ref q6, .ref q7, .ref q8, .null, .int 0])), (q8, .inl (cq8, 400, .inl (fun _ => 0)))] H := hP
  have hD : va_D A [(h0, .inr (8, [.ref q1, .ref q2, .ref q3, .ref q4, .ref q5, .ref q6, .ref q7, .ref q8, .null, .int 0])), (q8, .inl (cq8, 400, .inl (fun _ => 0)))] := hD
  have hP : va_P D vwCl [(h0, .inr (8, [.ref q1, .ref q2, .ref q3, .ref q4, .ref q5, .ref q6, .ref q7, .ref q8, .null, .int 0]))] H := hP.sub [0] rfl
  have hD : va_D A [(h0, .inr (8, [.ref q1, .ref q2, .ref q3, .ref q4, .ref q5, .ref q6, .ref q7, .ref q8, .null, .int 0]))] := hD.sub [0] (by decide) rfl
  have hK : va_K D vwCl [] s := hK.sub [] rfl
  refine lv_aload_n hx hb dX8_init_60 rfl (lv_at hl 0 rfl) ?_
  refine lv_iload_n hx hb dX8_init_61 rfl (lv_at hl 1 rfl) ?_
  refine va_newa (atype := .int) (ty := .int) (N' := 400) (a0 := (400, .inl (fun _ => 0))) hx hb (hts (.arrayClass .int) (by decide +kernel)) rfl hK hP hD hS hA (na_int 400) (by decide +kernel) (by decide +kernel) (by decide +kernel) (Nat.le_of_ble_eq_true rfl) (Nat.le_of_ble_eq_true rfl) dX8_init_62 (fun q9 cq9 H hK hP hD hS => ?_)
  have hP : va_P D vwCl [(h0, .inr (8, [.ref q1, .ref q2, .ref q3, .ref q4, .ref q5, .ref q6, .ref q7, .ref q8, .null, .int 0])), (q9, .inl (cq9, 400, .inl (fun _ => 0)))] H := hP
  have hD : va_D A [(h0, .inr (8, [.ref q1, .ref q2, .ref q3, .ref q4, .ref q5, .ref q6, .ref q7, .ref q8, .null, .int 0])), (q9, .inl (cq9, 400, .inl (fun _ => 0)))] := hD
  have hK : va_K D vwCl [(cq9, .int)] s := hK
  refine W.widen (k := 9) (n := 3600) (Nat.le_of_ble_eq_true rfl) (Nat.le_of_ble_eq_true rfl) ?_
  refine va_putF (D := D) (ci := 8) (v := .ref q9) (ty := .array .int) (C := RX8) (T := TX8) (N := 10) hx hb hts i_v_c_Steps_init_X8 tyX8 tyX8_ok nmX8 hown hK hP hD hS 0 rfl rfl 8 (by decide) (hts (.fieldLink RX8 36 "ScheduleHouse$Steps" "second" "[I") (by decide +kernel)) (fun _ h9 => h9) rfl hin rfl (by decide +kernel) rfl rfl (Nat.le_of_ble_eq_true rfl) dX8_init_64 (fun H locs hP hD hS => ?_)
  have hP : va_P D vwCl [(h0, .inr (8, [.ref q1, .ref q2, .ref q3, .ref q4, .ref q5, .ref q6, .ref q7, .ref q8, .ref q9, .int 0])), (q9, .inl (cq9, 400, .inl (fun _ => 0)))] H := hP
  have hD : va_D A [(h0, .inr (8, [.ref q1, .ref q2, .ref q3, .ref q4, .ref q5, .ref q6, .ref q7, .ref q8, .ref q9, .int 0])), (q9, .inl (cq9, 400, .inl (fun _ => 0)))] := hD
  have hP : va_P D vwCl [(h0, .inr (8, [.ref q1, .ref q2, .ref q3, .ref q4, .ref q5, .ref q6, .ref q7, .ref q8, .ref q9, .int 0]))] H := hP.sub [0] rfl
  have hD : va_D A [(h0, .inr (8, [.ref q1, .ref q2, .ref q3, .ref q4, .ref q5, .ref q6, .ref q7, .ref q8, .ref q9, .int 0]))] := hD.sub [0] (by decide) rfl
  have hK : va_K D vwCl [] s := hK.sub [] rfl
  have hP : va_P D vwCl [(h0, .inr (8, [.ref q1, .ref q2, .ref q3, .ref q4, .ref q5, .ref q6, .ref q7, .ref q8, .ref q9, .int 0]))] H := hP.sub [0] rfl
  have hD : va_D A [(h0, .inr (8, [.ref q1, .ref q2, .ref q3, .ref q4, .ref q5, .ref q6, .ref q7, .ref q8, .ref q9, .int 0]))] := hD.sub [0] (by decide) rfl
  have hK : va_K D vwCl [] s := hK.sub [] rfl
  exact W.vret hx hb hr (fun t ht hW => ⟨⟨(), rfl, trivial, q1, q2, q3, q4, q5, q6, q7, q8, q9, by rw [ht]; exact hP, va_K.moved hW.alike hK, hD⟩, hS.F ht⟩) hS.2.2 dX8_init_67
noncomputable def v_c_Code_init : List Cond := .code yX0_init cX0_init 1 none :: ([.methodLink RX0 1 objectInit, .instanceMethod objectInit, .code objectInit ⟨#[0xb1]⟩ 1 none, .classLink RX0 7 RX8, .instantiable RX8 10, .initialized RX8, .methodLink RX0 11 yX8_init, .instanceMethod yX8_init, .fieldLink RX0 14 "ScheduleHouse$Code" "steps" "LScheduleHouse$Steps;", .arrayClass .int, .fieldLink RX0 18 "ScheduleHouse$Code" "sumPart" "[I", .fieldLink RX0 22 "ScheduleHouse$Code" "sumArg" "[I", .fieldLink RX0 25 "ScheduleHouse$Code" "stack" "[I", .fieldLink RX0 30 "ScheduleHouse$Code" "cellStart" "[I", .arrayClass .boolean, .fieldLink RX0 33 "ScheduleHouse$Code" "cellSure" "[Z", .fieldLink RX0 37 "ScheduleHouse$Code" "threadStart" "[I", .fieldLink RX0 40 "ScheduleHouse$Code" "threadIdle" "[Z", .fieldLink RX0 43 "ScheduleHouse$Code" "alwaysSum" "[I", .fieldLink RX0 46 "ScheduleHouse$Code" "finalSum" "[I"] ++ (wsX80 ++ (v_c_Steps_init ++ (wsX00 ++ ([])))))
theorem i_v_c_Code_init_X8 : ∀ w ∈ wsX80, w ∈ v_c_Code_init := fun _ h => List.mem_cons_of_mem _ (List.mem_append_right _ (List.mem_append_left _ h))
theorem g_v_c_Code_init_1 : GoodIn v_c_Code_init (v_c_Steps_init) := goodIn_sub (fun _ h => List.mem_cons_of_mem _ (List.mem_append_right _ (List.mem_append_right _ (List.mem_append_left _ h)))) (by decide +kernel)
theorem i_v_c_Code_init_X0 : ∀ w ∈ wsX00, w ∈ v_c_Code_init := fun _ h => List.mem_cons_of_mem _ (List.mem_append_right _ (List.mem_append_right _ (List.mem_append_right _ (List.mem_append_left _ h))))
theorem t_v_c_Code_init : ∀ w ∈ v_c_Code_init, w ∈ lw_tbl := tb_c (List.mem_of_getElem? (i := 340) (by decide +kernel)) (tb_a (tb_l (ps := [341, 239, 240, 342, 343, 210, 344, 345, 399, 287, 401, 403, 407, 416, 492, 418, 432, 435, 445, 452]) (by decide +kernel)) (tb_a (tw_wsX80) (tb_a (t_v_c_Steps_init) (tb_a (tw_wsX00) (tb_n)))))
set_option maxHeartbeats 400000 in
set_option maxRecDepth 100000 in
/-- Code() -/
theorem c_Code_init (l : Launch) (D : va_G) (h0 : Nat) (sz : Nat) : Met l yX0_init v_c_Code_init ({ frames := 2, cells := 19, slots := 5318, locals := 40 }) (va_Pc [.ref h0] (st_ D [(h0, .inr (0, [.null, .null, .null, .int 0, .null, .int 0, .int 0, .null, .null, .int 0, .int 0, .null, .null, .int 0, .int 0, .null, .int 0, .null]))] [] sz)) (va_Qv (fun _ : Unit => True) (fun _ t => ∃ (q1 : Nat) (q11 : Nat) (q12 : Nat) (q13 : Nat) (q14 : Nat) (q15 : Nat) (q16 : Nat) (q17 : Nat) (q18 : Nat) (q19 : Nat) (q2 : Nat) (q3 : Nat) (q4 : Nat) (q5 : Nat) (q6 : Nat) (q7 : Nat) (q8 : Nat) (q9 : Nat) (q10 : Nat), va_P D vwCl [(h0, .inr (0, [.ref q1, .ref q11, .ref q12, .int 0, .ref q13, .int 0, .int 0, .ref q14, .ref q15, .int 0, .int 0, .ref q16, .ref q17, .int 0, .int 0, .ref q18, .int 0, .ref q19])), (q1, .inr (8, [.ref q2, .ref q3, .ref q4, .ref q5, .ref q6, .ref q7, .ref q8, .ref q9, .ref q10, .int 0]))] t.heap ∧ va_K D vwCl [] t ∧ va_D (va_A [(h0, .inr (0, [.null, .null, .null, .int 0, .null, .int 0, .int 0, .null, .null, .int 0, .int 0, .null, .null, .int 0, .int 0, .null, .int 0, .null]))] sz) [(h0, .inr (0, [.ref q1, .ref q11, .ref q12, .int 0, .ref q13, .int 0, .int 0, .ref q14, .ref q15, .int 0, .int 0, .ref q16, .ref q17, .int 0, .int 0, .ref q18, .int 0, .ref q19])), (q1, .inr (8, [.ref q2, .ref q3, .ref q4, .ref q5, .ref q6, .ref q7, .ref q8, .ref q9, .ref q10, .int 0]))]) (va_A [(h0, .inr (0, [.null, .null, .null, .int 0, .null, .int 0, .int 0, .null, .null, .int 0, .int 0, .null, .null, .int 0, .int 0, .null, .int 0, .null]))] sz)) 19 5318 (va_A [(h0, .inr (0, [.null, .null, .null, .int 0, .null, .int 0, .int 0, .null, .null, .int 0, .int 0, .null, .null, .int 0, .int 0, .null, .int 0, .null]))] sz) := by
  refine Met.ofW (cc := cX0_init) (maxL := 1) (ret := none) (by decide) rfl ?_
  intro p e s m args below meth c s₁ B hml hv
  obtain ⟨rfl, hsz, hP, hK, hD0, hZ, hE⟩ := hv
  have hx := B.exec
  have hb := B.bytes
  have hr := B.returns
  have hts := atoms_spec (ws := v_c_Code_init) B.pre
  have hown : s.vm.findClass RX0 = some m.cls := findClass_of_methodNamed B.named
  have hlocks := B.notSynchronized
  have hin : meth.name = "<init>" := (name_of_methodNamed B.named B.method).1
  subst hsz
  have hD := hD0.self (sz := s.heap.size)
  generalize hAe : va_A [(h0, .inr (0, [.null, .null, .null, .int 0, .null, .int 0, .int 0, .null, .null, .int 0, .int 0, .null, .null, .int 0, .int 0, .null, .int 0, .null]))] s.heap.size = A at hD hZ ⊢
  have hA : ∀ q : Nat, s.heap.size ≤ q → A q := fun q h => by rw [← hAe]; exact Or.inr h
  have hS : va_S A s.heap s.heap [] := va_S.rf
  have hAO := hE.2.2.2.1
  have hP : va_P D vwCl [(h0, .inr (0, [.null, .null, .null, .int 0, .null, .int 0, .int 0, .null, .null, .int 0, .int 0, .null, .null, .int 0, .int 0, .null, .int 0, .null]))] s.heap := hP
  have hl := lv_entry ([.ref h0]) (n := 1) (Nat.le_of_ble_eq_true rfl)
  rw [lg_entry_eq]
  generalize (lg_sl ([.ref h0]) ++ List.replicate (1 - (lg_sl ([.ref h0])).length) Slot.unset).toArray = ls at hl ⊢
  have hl : lv_has ls 1 [(0, .ref h0)] := hl
  refine lv_aload_n hx hb dX0_init_0 rfl (lv_at hl 0 rfl) ?_
  refine W.objInit hx hb hown (hts (.methodLink RX0 1 objectInit) (by decide +kernel)) (hts (.instanceMethod objectInit) (by decide +kernel)) (hts (.code objectInit ⟨#[0xb1]⟩ 1 none) (by decide +kernel)) rfl (by rw [hml]; exact hl.1) rfl dX0_init_1 (Nat.le_of_ble_eq_true rfl) (Nat.le_of_ble_eq_true rfl) ?_
  refine W.eq (g2 := F0 m 4 ls []) rfl ?_
  refine lv_aload_n hx hb dX0_init_4 rfl (lv_at hl 0 rfl) ?_
  refine va_new (ci := 8) (fs := [.null, .null, .null, .null, .null, .null, .null, .null, .null, .int 0]) (C := RX8) (T := TX8) (N := 10) hx hb hts i_v_c_Code_init_X8 tyX8 tyX8_ok hown (hts (.classLink RX0 7 RX8) (by decide +kernel)) (hts (.instantiable RX8 10) (by decide +kernel)) (hts (.initialized RX8) (by decide +kernel)) hK hP hD hS hA rfl (by decide +kernel) (Nat.le_of_ble_eq_true rfl) (Nat.le_of_ble_eq_true rfl) dX0_init_5 (fun q1 H hP hD hS => ?_)
  have hP : va_P D vwCl [(h0, .inr (0, [.null, .null, .null, .int 0, .null, .int 0, .int 0, .null, .null, .int 0, .int 0, .null, .null, .int 0, .int 0, .null, .int 0, .null])), (q1, .inr (8, [.null, .null, .null, .null, .null, .null, .null, .null, .null, .int 0]))] H := hP
  have hD : va_D A [(h0, .inr (0, [.null, .null, .null, .int 0, .null, .int 0, .int 0, .null, .null, .int 0, .int 0, .null, .null, .int 0, .int 0, .null, .int 0, .null])), (q1, .inr (8, [.null, .null, .null, .null, .null, .null, .null, .null, .null, .int 0]))] := hD
  refine W.widen (k := 1) (n := 10) (Nat.le_of_ble_eq_true rfl) (Nat.le_of_ble_eq_true rfl) ?_
  refine lv_dup hx hb dX0_init_8 rfl ?_
  refine lv_sipush (v := 400) hx hb dX0_init_9 (by decide +kernel) ?_
  have hPc := hP.sub (ws' := [(q1, .inr (8, [.null, .null, .null, .null, .null, .null, .null, .null, .null, .int 0]))]) [1] rfl
  have hDc := hD.sub (ws' := [(q1, .inr (8, [.null, .null, .null, .null, .null, .null, .null, .null, .null, .int 0]))]) [1] (by decide) rfl
  have hKc := hK.sub (tys' := []) [] rfl
  have hFc := va_free (wc := [(q1, .inr (8, [.null, .null, .null, .null, .null, .null, .null, .null, .null, .int 0]))]) hD hS hA [1] rfl
  refine va_callv (va_runI (As := [.int 400]) (rest := [.ref q1, .ref h0]) ⟨hx, hb, hml, hown, hts⟩ (c_Steps_init l D q1 H.size) (cwI 1 hts g_v_c_Code_init_1 rfl rfl rfl (hts (.initialized RX8) (by decide +kernel)) (hts (.methodLink RX0 11 yX8_init) (by decide +kernel)) (hts (.instanceMethod yX8_init) (by decide +kernel)) rfl (by decide +kernel) ⟨Nat.le_of_ble_eq_true rfl, Nat.le_of_ble_eq_true rfl⟩) ⟨st_blind, fun U hU hW => ⟨rfl, st_call hU hW hPc hKc hDc hZ hS hFc hE⟩⟩ rfl rfl hl.1 rfl (lv_room (Nat.le_of_ble_eq_true rfl)) dX0_init_12 ⟨Nat.le_of_ble_eq_true rfl, Nat.le_of_ble_eq_true rfl⟩) hS (fun q _ h => hFc q h) hFc (fun _ t H1 locs ht hvm hw hB hz1 hk1 hS => ?_)
  obtain ⟨q2, q3, q4, q5, q6, q7, q8, q9, q10, hP1, hK1, hD1⟩ := hB
  rw [ht] at hP1
  have hK1 := va_K.moved hvm.symm hK1
  obtain ⟨hP, hD⟩ := va_join (wr := [(h0, .inr (0, [.null, .null, .null, .int 0, .null, .int 0, .int 0, .null, .null, .int 0, .int 0, .null, .null, .int 0, .int 0, .null, .int 0, .null]))]) (w1 := [(q1, .inr (8, [.ref q2, .ref q3, .ref q4, .ref q5, .ref q6, .ref q7, .ref q8, .ref q9, .ref q10, .int 0]))]) hP hD [1] [0] rfl rfl (by decide) (by decide) hk1 hFc hP1 hD1
  have hK := (hK.sub (tys' := []) [] rfl).app hK1
  generalize H1 = H at hP hS ⊢
  have hP : va_P D vwCl [(h0, .inr (0, [.null, .null, .null, .int 0, .null, .int 0, .int 0, .null, .null, .int 0, .int 0, .null, .null, .int 0, .int 0, .null, .int 0, .null])), (q1, .inr (8, [.ref q2, .ref q3, .ref q4, .ref q5, .ref q6, .ref q7, .ref q8, .ref q9, .ref q10, .int 0]))] H := hP
  have hD : va_D A [(h0, .inr (0, [.null, .null, .null, .int 0, .null, .int 0, .int 0, .null, .null, .int 0, .int 0, .null, .null, .int 0, .int 0, .null, .int 0, .null])), (q1, .inr (8, [.ref q2, .ref q3, .ref q4, .ref q5, .ref q6, .ref q7, .ref q8, .ref q9, .ref q10, .int 0]))] := hD
  have hK : va_K D vwCl [] s := hK
  refine W.widen (k := 10) (n := 3610) (Nat.le_of_ble_eq_true rfl) (Nat.le_of_ble_eq_true rfl) ?_
  refine va_putF (D := D) (ci := 0) (v := .ref q1) (ty := .object "ScheduleHouse$Steps") (C := RX0) (T := TX0) (N := 18) hx hb hts i_v_c_Code_init_X0 tyX0 tyX0_ok nmX0 hown hK hP hD hS 0 rfl rfl 0 (by decide) (hts (.fieldLink RX0 14 "ScheduleHouse$Code" "steps" "LScheduleHouse$Steps;") (by decide +kernel)) (fun _ h9 => h9) rfl hin rfl (by decide +kernel) rfl rfl (Nat.le_of_ble_eq_true rfl) dX0_init_15 (fun H locs hP hD hS => ?_)
  have hP : va_P D vwCl [(h0, .inr (0, [.ref q1, .null, .null, .int 0, .null, .int 0, .int 0, .null, .null, .int 0, .int 0, .null, .null, .int 0, .int 0, .null, .int 0, .null])), (q1, .inr (8, [.ref q2, .ref q3, .ref q4, .ref q5, .ref q6, .ref q7, .ref q8, .ref q9, .ref q10, .int 0]))] H := hP
  have hD : va_D A [(h0, .inr (0, [.ref q1, .null, .null, .int 0, .null, .int 0, .int 0, .null, .null, .int 0, .int 0, .null, .null, .int 0, .int 0, .null, .int 0, .null])), (q1, .inr (8, [.ref q2, .ref q3, .ref q4, .ref q5, .ref q6, .ref q7, .ref q8, .ref q9, .ref q10, .int 0]))] := hD
  refine lv_aload_n hx hb dX0_init_18 rfl (lv_at hl 0 rfl) ?_
  refine lv_sipush (v := 800) hx hb dX0_init_19 (by decide +kernel) ?_
  refine va_newa (atype := .int) (ty := .int) (N' := 800) (a0 := (800, .inl (fun _ => 0))) hx hb (hts (.arrayClass .int) (by decide +kernel)) rfl hK hP hD hS hA (na_int 800) (by decide +kernel) (by decide +kernel) (by decide +kernel) (Nat.le_of_ble_eq_true rfl) (Nat.le_of_ble_eq_true rfl) dX0_init_22 (fun q11 cq11 H hK hP hD hS => ?_)
  have hP : va_P D vwCl [(h0, .inr (0, [.ref q1, .null, .null, .int 0, .null, .int 0, .int 0, .null, .null, .int 0, .int 0, .null, .null, .int 0, .int 0, .null, .int 0, .null])), (q1, .inr (8, [.ref q2, .ref q3, .ref q4, .ref q5, .ref q6, .ref q7, .ref q8, .ref q9, .ref q10, .int 0])), (q11, .inl (cq11, 800, .inl (fun _ => 0)))] H := hP
  have hD : va_D A [(h0, .inr (0, [.ref q1, .null, .null, .int 0, .null, .int 0, .int 0, .null, .null, .int 0, .int 0, .null, .null, .int 0, .int 0, .null, .int 0, .null])), (q1, .inr (8, [.ref q2, .ref q3, .ref q4, .ref q5, .ref q6, .ref q7, .ref q8, .ref q9, .ref q10, .int 0])), (q11, .inl (cq11, 800, .inl (fun _ => 0)))] := hD
  have hK : va_K D vwCl [(cq11, .int)] s := hK
  refine W.widen (k := 11) (n := 4410) (Nat.le_of_ble_eq_true rfl) (Nat.le_of_ble_eq_true rfl) ?_
  refine va_putF (D := D) (ci := 0) (v := .ref q11) (ty := .array .int) (C := RX0) (T := TX0) (N := 18) hx hb hts i_v_c_Code_init_X0 tyX0 tyX0_ok nmX0 hown hK hP hD hS 0 rfl rfl 1 (by decide) (hts (.fieldLink RX0 18 "ScheduleHouse$Code" "sumPart" "[I") (by decide +kernel)) (fun _ h9 => h9) rfl hin rfl (by decide +kernel) rfl rfl (Nat.le_of_ble_eq_true rfl) dX0_init_24 (fun H locs hP hD hS => ?_)
  have hP : va_P D vwCl [(h0, .inr (0, [.ref q1, .ref q11, .null, .int 0, .null, .int 0, .int 0, .null, .null, .int 0, .int 0, .null, .null, .int 0, .int 0, .null, .int 0, .null])), (q1, .inr (8, [.ref q2, .ref q3, .ref q4, .ref q5, .ref q6, .ref q7, .ref q8, .ref q9, .ref q10, .int 0])), (q11, .inl (cq11, 800, .inl (fun _ => 0)))] H := hP
  have hD : va_D A [(h0, .inr (0, [.ref q1, .ref q11, .null, .int 0, .null, .int 0, .int 0, .null, .null, .int 0, .int 0, .null, .null, .int 0, .int 0, .null, .int 0, .null])), (q1, .inr (8, [.ref q2, .ref q3, .ref q4, .ref q5, .ref q6, .ref q7, .ref q8, .ref q9, .ref q10, .int 0])), (q11, .inl (cq11, 800, .inl (fun _ => 0)))] := hD
  have hP : va_P D vwCl [(h0, .inr (0, [.ref q1, .ref q11, .null, .int 0, .null, .int 0, .int 0, .null, .null, .int 0, .int 0, .null, .null, .int 0, .int 0, .null, .int 0, .null])), (q1, .inr (8, [.ref q2, .ref q3, .ref q4, .ref q5, .ref q6, .ref q7, .ref q8, .ref q9, .ref q10, .int 0]))] H := hP.sub [0, 1] rfl
  have hD : va_D A [(h0, .inr (0, [.ref q1, .ref q11, .null, .int 0, .null, .int 0, .int 0, .null, .null, .int 0, .int 0, .null, .null, .int 0, .int 0, .null, .int 0, .null])), (q1, .inr (8, [.ref q2, .ref q3, .ref q4, .ref q5, .ref q6, .ref q7, .ref q8, .ref q9, .ref q10, .int 0]))] := hD.sub [0, 1] (by decide) rfl
  have hK : va_K D vwCl [] s := hK.sub [] rfl
  refine lv_aload_n hx hb dX0_init_27 rfl (lv_at hl 0 rfl) ?_
  refine lv_sipush (v := 800) hx hb dX0_init_28 (by decide +kernel) ?_
  refine va_newa (atype := .int) (ty := .int) (N' := 800) (a0 := (800, .inl (fun _ => 0))) hx hb (hts (.arrayClass .int) (by decide +kernel)) rfl hK hP hD hS hA (na_int 800) (by decide +kernel) (by decide +kernel) (by decide +kernel) (Nat.le_of_ble_eq_true rfl) (Nat.le_of_ble_eq_true rfl) dX0_init_31 (fun q12 cq12 H hK hP hD hS => ?_)
  have hP : va_P D vwCl [(h0, .inr (0, [.ref q1, .ref q11, .null, .int 0, .null, .int 0, .int 0, .null, .null, .int 0, .int 0, .null, .null, .int 0, .int 0, .null, .int 0, .null])), (q1, .inr (8, [.ref q2, .ref q3, .ref q4, .ref q5, .ref q6, .ref q7, .ref q8, .ref q9, .ref q10, .int 0])), (q12, .inl (cq12, 800, .inl (fun _ => 0)))] H := hP
  have hD : va_D A [(h0, .inr (0, [.ref q1, .ref q11, .null, .int 0, .null, .int 0, .int 0, .null, .null, .int 0, .int 0, .null, .null, .int 0, .int 0, .null, .int 0, .null])), (q1, .inr (8, [.ref q2, .ref q3, .ref q4, .ref q5, .ref q6, .ref q7, .ref q8, .ref q9, .ref q10, .int 0])), (q12, .inl (cq12, 800, .inl (fun _ => 0)))] := hD
  have hK : va_K D vwCl [(cq12, .int)] s := hK
  refine W.widen (k := 12) (n := 5210) (Nat.le_of_ble_eq_true rfl) (Nat.le_of_ble_eq_true rfl) ?_
  refine va_putF (D := D) (ci := 0) (v := .ref q12) (ty := .array .int) (C := RX0) (T := TX0) (N := 18) hx hb hts i_v_c_Code_init_X0 tyX0 tyX0_ok nmX0 hown hK hP hD hS 0 rfl rfl 2 (by decide) (hts (.fieldLink RX0 22 "ScheduleHouse$Code" "sumArg" "[I") (by decide +kernel)) (fun _ h9 => h9) rfl hin rfl (by decide +kernel) rfl rfl (Nat.le_of_ble_eq_true rfl) dX0_init_33 (fun H locs hP hD hS => ?_)
  have hP : va_P D vwCl [(h0, .inr (0, [.ref q1, .ref q11, .ref q12, .int 0, .null, .int 0, .int 0, .null, .null, .int 0, .int 0, .null, .null, .int 0, .int 0, .null, .int 0, .null])), (q1, .inr (8, [.ref q2, .ref q3, .ref q4, .ref q5, .ref q6, .ref q7, .ref q8, .ref q9, .ref q10, .int 0])), (q12, .inl (cq12, 800, .inl (fun _ => 0)))] H := hP
  have hD : va_D A [(h0, .inr (0, [.ref q1, .ref q11, .ref q12, .int 0, .null, .int 0, .int 0, .null, .null, .int 0, .int 0, .null, .null, .int 0, .int 0, .null, .int 0, .null])), (q1, .inr (8, [.ref q2, .ref q3, .ref q4, .ref q5, .ref q6, .ref q7, .ref q8, .ref q9, .ref q10, .int 0])), (q12, .inl (cq12, 800, .inl (fun _ => 0)))] := hD
  have hP : va_P D vwCl [(h0, .inr (0, [.ref q1, .ref q11, .ref q12, .int 0, .null, .int 0, .int 0, .null, .null, .int 0, .int 0, .null, .null, .int 0, .int 0, .null, .int 0, .null])), (q1, .inr (8, [.ref q2, .ref q3, .ref q4, .ref q5, .ref q6, .ref q7, .ref q8, .ref q9, .ref q10, .int 0]))] H := hP.sub [0, 1] rfl
  have hD : va_D A [(h0, .inr (0, [.ref q1, .ref q11, .ref q12, .int 0, .null, .int 0, .int 0, .null, .null, .int 0, .int 0, .null, .null, .int 0, .int 0, .null, .int 0, .null])), (q1, .inr (8, [.ref q2, .ref q3, .ref q4, .ref q5, .ref q6, .ref q7, .ref q8, .ref q9, .ref q10, .int 0]))] := hD.sub [0, 1] (by decide) rfl
  have hK : va_K D vwCl [] s := hK.sub [] rfl
  refine lv_aload_n hx hb dX0_init_36 rfl (lv_at hl 0 rfl) ?_
  refine lv_bipush (v := 40) hx hb dX0_init_37 (by decide +kernel) ?_
  refine va_newa (atype := .int) (ty := .int) (N' := 40) (a0 := (40, .inl (fun _ => 0))) hx hb (hts (.arrayClass .int) (by decide +kernel)) rfl hK hP hD hS hA (na_int 40) (by decide +kernel) (by decide +kernel) (by decide +kernel) (Nat.le_of_ble_eq_true rfl) (Nat.le_of_ble_eq_true rfl) dX0_init_39 (fun q13 cq13 H hK hP hD hS => ?_)
  have hP : va_P D vwCl [(h0, .inr (0, [.ref q1, .ref q11, .ref q12, .int 0, .null, .int 0, .int 0, .null, .null, .int 0, .int 0, .null, .null, .int 0, .int 0, .null, .int 0, .null])), (q1, .inr (8, [.ref q2, .ref q3, .ref q4, .ref q5, .ref q6, .ref q7, .ref q8, .ref q9, .ref q10, .int 0])), (q13, .inl (cq13, 40, .inl (fun _ => 0)))] H := hP
  have hD : va_D A [(h0, .inr (0, [.ref q1, .ref q11, .ref q12, .int 0, .null, .int 0, .int 0, .null, .null, .int 0, .int 0, .null, .null, .int 0, .int 0, .null, .int 0, .null])), (q1, .inr (8, [.ref q2, .ref q3, .ref q4, .ref q5, .ref q6, .ref q7, .ref q8, .ref q9, .ref q10, .int 0])), (q13, .inl (cq13, 40, .inl (fun _ => 0)))] := hD
  have hK : va_K D vwCl [(cq13, .int)] s := hK
  refine W.widen (k := 13) (n := 5250) (Nat.le_of_ble_eq_true rfl) (Nat.le_of_ble_eq_true rfl) ?_
  refine va_putF (D := D) (ci := 0) (v := .ref q13) (ty := .array .int) (C := RX0) (T := TX0) (N := 18) hx hb hts i_v_c_Code_init_X0 tyX0 tyX0_ok nmX0 hown hK hP hD hS 0 rfl rfl 4 (by decide) (hts (.fieldLink RX0 25 "ScheduleHouse$Code" "stack" "[I") (by decide +kernel)) (fun _ h9 => h9) rfl hin rfl (by decide +kernel) rfl rfl (Nat.le_of_ble_eq_true rfl) dX0_init_41 (fun H locs hP hD hS => ?_)
  have hP : va_P D vwCl [(h0, .inr (0, [.ref q1, .ref q11, .ref q12, .int 0, .ref q13, .int 0, .int 0, .null, .null, .int 0, .int 0, .null, .null, .int 0, .int 0, .null, .int 0, .null])), (q1, .inr (8, [.ref q2, .ref q3, .ref q4, .ref q5, .ref q6, .ref q7, .ref q8, .ref q9, .ref q10, .int 0])), (q13, .inl (cq13, 40, .inl (fun _ => 0)))] H := hP
  have hD : va_D A [(h0, .inr (0, [.ref q1, .ref q11, .ref q12, .int 0, .ref q13, .int 0, .int 0, .null, .null, .int 0, .int 0, .null, .null, .int 0, .int 0, .null, .int 0, .null])), (q1, .inr (8, [.ref q2, .ref q3, .ref q4, .ref q5, .ref q6, .ref q7, .ref q8, .ref q9, .ref q10, .int 0])), (q13, .inl (cq13, 40, .inl (fun _ => 0)))] := hD
  have hP : va_P D vwCl [(h0, .inr (0, [.ref q1, .ref q11, .ref q12, .int 0, .ref q13, .int 0, .int 0, .null, .null, .int 0, .int 0, .null, .null, .int 0, .int 0, .null, .int 0, .null])), (q1, .inr (8, [.ref q2, .ref q3, .ref q4, .ref q5, .ref q6, .ref q7, .ref q8, .ref q9, .ref q10, .int 0]))] H := hP.sub [0, 1] rfl
  have hD : va_D A [(h0, .inr (0, [.ref q1, .ref q11, .ref q12, .int 0, .ref q13, .int 0, .int 0, .null, .null, .int 0, .int 0, .null, .null, .int 0, .int 0, .null, .int 0, .null])), (q1, .inr (8, [.ref q2, .ref q3, .ref q4, .ref q5, .ref q6, .ref q7, .ref q8, .ref q9, .ref q10, .int 0]))] := hD.sub [0, 1] (by decide) rfl
  have hK : va_K D vwCl [] s := hK.sub [] rfl
  refine lv_aload_n hx hb dX0_init_44 rfl (lv_at hl 0 rfl) ?_
  refine lv_bipush (v := 24) hx hb dX0_init_45 (by decide +kernel) ?_
  refine va_newa (atype := .int) (ty := .int) (N' := 24) (a0 := (24, .inl (fun _ => 0))) hx hb (hts (.arrayClass .int) (by decide +kernel)) rfl hK hP hD hS hA (na_int 24) (by decide +kernel) (by decide +kernel) (by decide +kernel) (Nat.le_of_ble_eq_true rfl) (Nat.le_of_ble_eq_true rfl) dX0_init_47 (fun q14 cq14 H hK hP hD hS => ?_)
  have hP : va_P D vwCl [(h0, .inr (0, [.ref q1, .ref q11, .ref q12, .int 0, .ref q13, .int 0, .int 0, .null, .null, .int 0, .int 0, .null, .null, .int 0, .int 0, .null, .int 0, .null])), (q1, .inr (8, [.ref q2, .ref q3, .ref q4, .ref q5, .ref q6, .ref q7, .ref q8, .ref q9, .ref q10, .int 0])), (q14, .inl (cq14, 24, .inl (fun _ => 0)))] H := hP
  have hD : va_D A [(h0, .inr (0, [.ref q1, .ref q11, .ref q12, .int 0, .ref q13, .int 0, .int 0, .null, .null, .int 0, .int 0, .null, .null, .int 0, .int 0, .null, .int 0, .null])), (q1, .inr (8, [.ref q2, .ref q3, .ref q4, .ref q5, .ref q6, .ref q7, .ref q8, .ref q9, .ref q10, .int 0])), (q14, .inl (cq14, 24, .inl (fun _ => 0)))] := hD
  have hK : va_K D vwCl [(cq14, .int)] s := hK
  refine W.widen (k := 14) (n := 5274) (Nat.le_of_ble_eq_true rfl) (Nat.le_of_ble_eq_true rfl) ?_
  refine va_putF (D := D) (ci := 0) (v := .ref q14) (ty := .array .int) (C := RX0) (T := TX0) (N := 18) hx hb hts i_v_c_Code_init_X0 tyX0 tyX0_ok nmX0 hown hK hP hD hS 0 rfl rfl 7 (by decide) (hts (.fieldLink RX0 30 "ScheduleHouse$Code" "cellStart" "[I") (by decide +kernel)) (fun _ h9 => h9) rfl hin rfl (by decide +kernel) rfl rfl (Nat.le_of_ble_eq_true rfl) dX0_init_49 (fun H locs hP hD hS => ?_)
  have hP : va_P D vwCl [(h0, .inr (0, [.ref q1, .ref q11, .ref q12, .int 0, .ref q13, .int 0, .int 0, .ref q14, .null, .int 0, .int 0, .null, .null, .int 0, .int 0, .null, .int 0, .null])), (q1, .inr (8, [.ref q2, .ref q3, .ref q4, .ref q5, .ref q6, .ref q7, .ref q8, .ref q9, .ref q10, .int 0])), (q14, .inl (cq14, 24, .inl (fun _ => 0)))] H := hP
  have hD : va_D A [(h0, .inr (0, [.ref q1, .ref q11, .ref q12, .int 0, .ref q13, .int 0, .int 0, .ref q14, .null, .int 0, .int 0, .null, .null, .int 0, .int 0, .null, .int 0, .null])), (q1, .inr (8, [.ref q2, .ref q3, .ref q4, .ref q5, .ref q6, .ref q7, .ref q8, .ref q9, .ref q10, .int 0])), (q14, .inl (cq14, 24, .inl (fun _ => 0)))] := hD
  have hP : va_P D vwCl [(h0, .inr (0, [.ref q1, .ref q11, .ref q12, .int 0, .ref q13, .int 0, .int 0, .ref q14, .null, .int 0, .int 0, .null, .null, .int 0, .int 0, .null, .int 0, .null])), (q1, .inr (8, [.ref q2, .ref q3, .ref q4, .ref q5, .ref q6, .ref q7, .ref q8, .ref q9, .ref q10, .int 0]))] H := hP.sub [0, 1] rfl
  have hD : va_D A [(h0, .inr (0, [.ref q1, .ref q11, .ref q12, .int 0, .ref q13, .int 0, .int 0, .ref q14, .null, .int 0, .int 0, .null, .null, .int 0, .int 0, .null, .int 0, .null])), (q1, .inr (8, [.ref q2, .ref q3, .ref q4, .ref q5, .ref q6, .ref q7, .ref q8, .ref q9, .ref q10, .int 0]))] := hD.sub [0, 1] (by decide) rfl
  have hK : va_K D vwCl [] s := hK.sub [] rfl
  refine lv_aload_n hx hb dX0_init_52 rfl (lv_at hl 0 rfl) ?_
  refine lv_bipush (v := 24) hx hb dX0_init_53 (by decide +kernel) ?_
  refine va_newa (atype := .boolean) (ty := .boolean) (N' := 24) (a0 := (24, .inl (fun _ => 0))) hx hb (hts (.arrayClass .boolean) (by decide +kernel)) rfl hK hP hD hS hA (na_boolean 24) (by decide +kernel) (by decide +kernel) (by decide +kernel) (Nat.le_of_ble_eq_true rfl) (Nat.le_of_ble_eq_true rfl) dX0_init_55 (fun q15 cq15 H hK hP hD hS => ?_)
  have hP : va_P D vwCl [(h0, .inr (0, [.ref q1, .ref q11, .ref q12, .int 0, .ref q13, .int 0, .int 0, .ref q14, .null, .int 0, .int 0, .null, .null, .int 0, .int 0, .null, .int 0, .null])), (q1, .inr (8, [.ref q2, .ref q3, .ref q4, .ref q5, .ref q6, .ref q7, .ref q8, .ref q9, .ref q10, .int 0])), (q15, .inl (cq15, 24, .inl (fun _ => 0)))] H := hP
  have hD : va_D A [(h0, .inr (0, [.ref q1, .ref q11, .ref q12, .int 0, .ref q13, .int 0, .int 0, .ref q14, .null, .int 0, .int 0, .null, .null, .int 0, .int 0, .null, .int 0, .null])), (q1, .inr (8, [.ref q2, .ref q3, .ref q4, .ref q5, .ref q6, .ref q7, .ref q8, .ref q9, .ref q10, .int 0])), (q15, .inl (cq15, 24, .inl (fun _ => 0)))] := hD
  have hK : va_K D vwCl [(cq15, .boolean)] s := hK
  refine W.widen (k := 15) (n := 5298) (Nat.le_of_ble_eq_true rfl) (Nat.le_of_ble_eq_true rfl) ?_
  refine va_putF (D := D) (ci := 0) (v := .ref q15) (ty := .array .boolean) (C := RX0) (T := TX0) (N := 18) hx hb hts i_v_c_Code_init_X0 tyX0 tyX0_ok nmX0 hown hK hP hD hS 0 rfl rfl 8 (by decide) (hts (.fieldLink RX0 33 "ScheduleHouse$Code" "cellSure" "[Z") (by decide +kernel)) (fun _ h9 => h9) rfl hin rfl (by decide +kernel) rfl rfl (Nat.le_of_ble_eq_true rfl) dX0_init_57 (fun H locs hP hD hS => ?_)
  have hP : va_P D vwCl [(h0, .inr (0, [.ref q1, .ref q11, .ref q12, .int 0, .ref q13, .int 0, .int 0, .ref q14, .ref q15, .int 0, .int 0, .null, .null, .int 0, .int 0, .null, .int 0, .null])), (q1, .inr (8, [.ref q2, .ref q3, .ref q4, .ref q5, .ref q6, .ref q7, .ref q8, .ref q9, .ref q10, .int 0])), (q15, .inl (cq15, 24, .inl (fun _ => 0)))] H := hP
  have hD : va_D A [(h0, .inr (0, [.ref q1, .ref q11, .ref q12, .int 0, .ref q13, .int 0, .int 0, .ref q14, .ref q15, .int 0, .int 0, .null, .null, .int 0, .int 0, .null, .int 0, .null])), (q1, .inr (8, [.ref q2, .ref q3, .ref q4, .ref q5, .ref q6, .ref q7, .ref q8, .ref q9, .ref q10, .int 0])), (q15, .inl (cq15, 24, .inl (fun _ => 0)))] := hD
  have hP : va_P D vwCl [(h0, .inr (0, [.ref q1, .ref q11, .ref q12, .int 0, .ref q13, .int 0, .int 0, .ref q14, .ref q15, .int 0, .int 0, .null, .null, .int 0, .int 0, .null, .int 0, .null])), (q1, .inr (8, [.ref q2, .ref q3, .ref q4, .ref q5, .ref q6, .ref q7, .ref q8, .ref q9, .ref q10, .int 0]))] H := hP.sub [0, 1] rfl
  have hD : va_D A [(h0, .inr (0, [.ref q1, .ref q11, .ref q12, .int 0, .ref q13, .int 0, .int 0, .ref q14, .ref q15, .int 0, .int 0, .null, .null, .int 0, .int 0, .null, .int 0, .null])), (q1, .inr (8, [.ref q2, .ref q3, .ref q4, .ref q5, .ref q6, .ref q7, .ref q8, .ref q9, .ref q10, .int 0]))] := hD.sub [0, 1] (by decide) rfl
  have hK : va_K D vwCl [] s := hK.sub [] rfl
  refine lv_aload_n hx hb dX0_init_60 rfl (lv_at hl 0 rfl) ?_
  refine lv_bipush (v := 6) hx hb dX0_init_61 (by decide +kernel) ?_
  refine va_newa (atype := .int) (ty := .int) (N' := 6) (a0 := (6, .inl (fun _ => 0))) hx hb (hts (.arrayClass .int) (by decide +kernel)) rfl hK hP hD hS hA (na_int 6) (by decide +kernel) (by decide +kernel) (by decide +kernel) (Nat.le_of_ble_eq_true rfl) (Nat.le_of_ble_eq_true rfl) dX0_init_63 (fun q16 cq16 H hK hP hD hS => ?_)
  have hP : va_P D vwCl [(h0, .inr (0, [.ref q1, .ref q11, .ref q12, .int 0, .ref q13, .int 0, .int 0, .ref q14, .ref q15, .int 0, .int 0, .null, .null, .int 0, .int 0, .null, .int 0, .null])), (q1, .inr (8, [.ref q2, .ref q3, .ref q4, .ref q5, .ref q6, .ref q7, .ref q8, .ref q9, .ref q10, .int 0])), (q16, .inl (cq16, 6, .inl (fun _ => 0)))] H := hP
  have hD : va_D A [(h0, .inr (0, [.ref q1, .ref q11, .ref q12, .int 0, .ref q13, .int 0, .int 0, .ref q14, .ref q15, .int 0, .int 0, .null, .null, .int 0, .int 0, .null, .int 0, .null])), (q1, .inr (8, [.ref q2, .ref q3, .ref q4, .ref q5, .ref q6, .ref q7, .ref q8, .ref q9, .ref q10, .int 0])), (q16, .inl (cq16, 6, .inl (fun _ => 0)))] := hD
  have hK : va_K D vwCl [(cq16, .int)] s := hK
  refine W.widen (k := 16) (n := 5304) (Nat.le_of_ble_eq_true rfl) (Nat.le_of_ble_eq_true rfl) ?_
  refine va_putF (D := D) (ci := 0) (v := .ref q16) (ty := .array .int) (C := RX0) (T := TX0) (N := 18) hx hb hts i_v_c_Code_init_X0 tyX0 tyX0_ok nmX0 hown hK hP hD hS 0 rfl rfl 11 (by decide) (hts (.fieldLink RX0 37 "ScheduleHouse$Code" "threadStart" "[I") (by decide +kernel)) (fun _ h9 => h9) rfl hin rfl (by decide +kernel) rfl rfl (Nat.le_of_ble_eq_true rfl) dX0_init_65 (fun H locs hP hD hS => ?_)
  have hP : va_P D vwCl [(h0, .inr (0, [.ref q1, .ref q11, .ref q12, .int 0, .ref q13, .int 0, .int 0, .ref q14, .ref q15, .int 0, .int 0, .ref q16, .null, .int 0, .int 0, .null, .int 0, .null])), (q1, .inr (8, [.ref q2, .ref q3, .ref q4, .ref q5, .ref q6, .ref q7, .ref q8, .ref q9, .ref q10, .int 0])), (q16, .inl (cq16, 6, .inl (fun _ => 0)))] H := hP
  have hD : va_D A [(h0, .inr (0, [.ref q1, .ref q11, .ref q12, .int 0, .ref q13, .int 0, .int 0, .ref q14, .ref q15, .int 0, .int 0, .ref q16, .null, .int 0, .int 0, .null, .int 0, .null])), (q1, .inr (8, [.ref q2, .ref q3, .ref q4, .ref q5, .ref q6, .ref q7, .ref q8, .ref q9, .ref q10, .int 0])), (q16, .inl (cq16, 6, .inl (fun _ => 0)))] := hD
  have hP : va_P D vwCl [(h0, .inr (0, [.ref q1, .ref q11, .ref q12, .int 0, .ref q13, .int 0, .int 0, .ref q14, .ref q15, .int 0, .int 0, .ref q16, .null, .int 0, .int 0, .null, .int 0, .null])), (q1, .inr (8, [.ref q2, .ref q3, .ref q4, .ref q5, .ref q6, .ref q7, .ref q8, .ref q9, .ref q10, .int 0]))] H := hP.sub [0, 1] rfl
  have hD : va_D A [(h0, .inr (0, [.ref q1, .ref q11, .ref q12, .int 0, .ref q13, .int 0, .int 0, .ref q14, .ref q15, .int 0, .int 0, .ref q16, .null, .int 0, .int 0, .null, .int 0, .null])), (q1, .inr (8, [.ref q2, .ref q3, .ref q4, .ref q5, .ref q6, .ref q7, .ref q8, .ref q9, .ref q10, .int 0]))] := hD.sub [0, 1] (by decide) rfl
  have hK : va_K D vwCl [] s := hK.sub [] rfl
  refine lv_aload_n hx hb dX0_init_68 rfl (lv_at hl 0 rfl) ?_
  refine lv_bipush (v := 6) hx hb dX0_init_69 (by decide +kernel) ?_
  refine va_newa (atype := .boolean) (ty := .boolean) (N' := 6) (a0 := (6, .inl (fun _ => 0))) hx hb (hts (.arrayClass .boolean) (by decide +kernel)) rfl hK hP hD hS hA (na_boolean 6) (by decide +kernel) (by decide +kernel) (by decide +kernel) (Nat.le_of_ble_eq_true rfl) (Nat.le_of_ble_eq_true rfl) dX0_init_71 (fun q17 cq17 H hK hP hD hS => ?_)
  have hP : va_P D vwCl [(h0, .inr (0, [.ref q1, .ref q11, .ref q12, .int 0, .ref q13, .int 0, .int 0, .ref q14, .ref q15, .int 0, .int 0, .ref q16, .null, .int 0, .int 0, .null, .int 0, .null])), (q1, .inr (8, [.ref q2, .ref q3, .ref q4, .ref q5, .ref q6, .ref q7, .ref q8, .ref q9, .ref q10, .int 0])), (q17, .inl (cq17, 6, .inl (fun _ => 0)))] H := hP
  have hD : va_D A [(h0, .inr (0, [.ref q1, .ref q11, .ref q12, .int 0, .ref q13, .int 0, .int 0, .ref q14, .ref q15, .int 0, .int 0, .ref q16, .null, .int 0, .int 0, .null, .int 0, .null])), (q1, .inr (8, [.ref q2, .ref q3, .ref q4, .ref q5, .ref q6, .ref q7, .ref q8, .ref q9, .ref q10, .int 0])), (q17, .inl (cq17, 6, .inl (fun _ => 0)))] := hD
  have hK : va_K D vwCl [(cq17, .boolean)] s := hK
  refine W.widen (k := 17) (n := 5310) (Nat.le_of_ble_eq_true rfl) (Nat.le_of_ble_eq_true rfl) ?_
  refine va_putF (D := D) (ci := 0) (v := .ref q17) (ty := .array .boolean) (C := RX0) (T := TX0) (N := 18) hx hb hts i_v_c_Code_init_X0 tyX0 tyX0_ok nmX0 hown hK hP hD hS 0 rfl rfl 12 (by decide) (hts (.fieldLink RX0 40 "ScheduleHouse$Code" "threadIdle" "[Z") (by decide +kernel)) (fun _ h9 => h9) rfl hin rfl (by decide +kernel) rfl rfl (Nat.le_of_ble_eq_true rfl) dX0_init_73 (fun H locs hP hD hS => ?_)
  have hP : va_P D vwCl [(h0, .inr (0, [.ref q1, .ref q11, .ref q12, .int 0, .ref q13, .int 0, .int 0, .ref q14, .ref q15, .int 0, .int 0, .ref q16, .ref q17, .int 0, .int 0, .null, .int 0, .null])), (q1, .inr (8, [.ref q2, .ref q3, .ref q4, .ref q5, .ref q6, .ref q7, .ref q8, .ref q9, .ref q10, .int 0])), (q17, .inl (cq17, 6, .inl (fun _ => 0)))] H := hP
  have hD : va_D A [(h0, .inr (0, [.ref q1, .ref q11, .ref q12, .int 0, .ref q13, .int 0, .int 0, .ref q14, .ref q15, .int 0, .int 0, .ref q16, .ref q17, .int 0, .int 0, .null, .int 0, .null])), (q1, .inr (8, [.ref q2, .ref q3, .ref q4, .ref q5, .ref q6, .ref q7, .ref q8, .ref q9, .ref q10, .int 0])), (q17, .inl (cq17, 6, .inl (fun _ => 0)))] := hD
  have hP : va_P D vwCl [(h0, .inr (0, [.ref q1, .ref q11, .ref q12, .int 0, .ref q13, .int 0, .int 0, .ref q14, .ref q15, .int 0, .int 0, .ref q16, .ref q17, .int 0, .int 0, .null, .int 0, .null])), (q1, .inr (8, [.ref q2, .ref q3, .ref q4, .ref q5, .ref q6, .ref q7, .ref q8, .ref q9, .ref q10, .int 0]))] H := hP.sub [0, 1] rfl
  have hD : va_D A [(h0, .inr (0, [.ref q1, .ref q11, .ref q12, .int 0, .ref q13, .int 0, .int 0, .ref q14, .ref q15, .int 0, .int 0, .ref q16, .ref q17, .int 0, .int 0, .null, .int 0, .null])), (q1, .inr (8, [.ref q2, .ref q3, .ref q4, .ref q5, .ref q6, .ref q7, .ref q8, .ref q9, .ref q10, .int 0]))] := hD.sub [0, 1] (by decide) rfl
  have hK : va_K D vwCl [] s := hK.sub [] rfl
  refine lv_aload_n hx hb dX0_init_76 rfl (lv_at hl 0 rfl) ?_
  refine lv_iconst (v := 4) hx hb dX0_init_77 (by decide +kernel) ?_
  refine va_newa (atype := .int) (ty := .int) (N' := 4) (a0 := (4, .inl (fun _ => 0))) hx hb (hts (.arrayClass .int) (by decide +kernel)) rfl hK hP hD hS hA (na_int 4) (by decide +kernel) (by decide +kernel) (by decide +kernel) (Nat.le_of_ble_eq_true rfl) (Nat.le_of_ble_eq_true rfl) dX0_init_78 (fun q18 cq18 H hK hP hD hS => ?_)
  have hP : va_P D vwCl [(h0, .inr (0, [.ref q1, .ref q11, .ref q12, .int 0, .ref q13, .int 0, .int 0, .ref q14, .ref q15, .int 0, .int 0, .ref q16, .ref q17, .int 0, .int 0, .null, .int 0, .null])), (q1, .inr (8, [.ref q2, .ref q3, .ref q4, .ref q5, .ref q6, .ref q7, .ref q8, .ref q9, .ref q10, .int 0])), (q18, .inl (cq18, 4, .inl (fun _ => 0)))] H := hP
  have hD : va_D A [(h0, .inr (0, [.ref q1, .ref q11, .ref q12, .int 0, .ref q13, .int 0, .int 0, .ref q14, .ref q15, .int 0, .int 0, .ref q16, .ref q17, .int 0, .int 0, .null, .int 0, .null])), (q1, .inr (8, [.ref q2, .ref q3, .ref q4, .ref q5, .ref q6, .ref q7, .ref q8, .ref q9, .ref q10, .int 0])), (q18, .inl (cq18, 4, .inl (fun _ => 0)))] := hD
  have hK : va_K D vwCl [(cq18, .int)] s := hK
  refine W.widen (k := 18) (n := 5314) (Nat.le_of_ble_eq_true rfl) (Nat.le_of_ble_eq_true rfl) ?_
  refine va_putF (D := D) (ci := 0) (v := .ref q18) (ty := .array .int) (C := RX0) (T := TX0) (N := 18) hx hb hts i_v_c_Code_init_X0 tyX0 tyX0_ok nmX0 hown hK hP hD hS 0 rfl rfl 15 (by decide) (hts (.fieldLink RX0 43 "ScheduleHouse$Code" "alwaysSum" "[I") (by decide +kernel)) (fun _ h9 => h9) rfl hin rfl (by decide +kernel) rfl rfl (Nat.le_of_ble_eq_true rfl) dX0_init_80 (fun H locs hP hD hS => ?_)
  have hP : va_P D vwCl [(h0, .inr (0, [.ref q1, .ref q11, .ref q12, .int 0, .ref q13, .int 0, .int 0, .ref q14, .ref q15, .int 0, .int 0, .ref q16, .ref q17, .int 0, .int 0, .ref q18, .int 0, .null])), (q1, .inr (8, [.ref q2, .ref q3, .ref q4, .ref q5, .ref q6, .ref q7, .ref q8, .ref q9, .ref q10, .int 0])), (q18, .inl (cq18, 4, .inl (fun _ => 0)))] H := hP
  have hD : va_D A [(h0, .inr (0, [.ref q1, .ref q11, .ref q12, .int 0, .ref q13, .int 0, .int 0, .ref q14, .ref q15, .int 0, .int 0, .ref q16, .ref q17, .int 0, .int 0, .ref q18, .int 0, .null])), (q1, .inr (8, [.ref q2, .ref q3, .ref q4, .ref q5, .ref q6, .ref q7, .ref q8, .ref q9, .ref q10, .int 0])), (q18, .inl (cq18, 4, .inl (fun _ => 0)))] := hD
  have hP : va_P D vwCl [(h0, .inr (0, [.ref q1, .ref q11, .ref q12, .int 0, .ref q13, .int 0, .int 0, .ref q14, .ref q15, .int 0, .int 0, .ref q16, .ref q17, .int 0, .int 0, .ref q18, .int 0, .null])), (q1, .inr (8, [.ref q2, .ref q3, .ref q4, .ref q5, .ref q6, .ref q7, .ref q8, .ref q9, .ref q10, .int 0]))] H := hP.sub [0, 1] rfl
  have hD : va_D A [(h0, .inr (0, [.ref q1, .ref q11, .ref q12, .int 0, .ref q13, .int 0, .int 0, .ref q14, .ref q15, .int 0, .int 0, .ref q16, .ref q17, .int 0, .int 0, .ref q18, .int 0, .null])), (q1, .inr (8, [.ref q2, .ref q3, .ref q4, .ref q5, .ref q6, .ref q7, .ref q8, .ref q9, .ref q10, .int 0]))] := hD.sub [0, 1] (by decide) rfl
  have hK : va_K D vwCl [] s := hK.sub [] rfl
  refine lv_aload_n hx hb dX0_init_83 rfl (lv_at hl 0 rfl) ?_
  refine lv_iconst (v := 4) hx hb dX0_init_84 (by decide +kernel) ?_
  refine va_newa (atype := .int) (ty := .int) (N' := 4) (a0 := (4, .inl (fun _ => 0))) hx hb (hts (.arrayClass .int) (by decide +kernel)) rfl hK hP hD hS hA (na_int 4) (by decide +kernel) (by decide +kernel) (by decide +kernel) (Nat.le_of_ble_eq_true rfl) (Nat.le_of_ble_eq_true rfl) dX0_init_85 (fun q19 cq19 H hK hP hD hS => ?_)
  have hP : va_P D vwCl [(h0, .inr (0, [.ref q1, .ref q11, .ref q12, .int 0, .ref q13, .int 0, .int 0, .ref q14, .ref q15, .int 0, .int 0, .ref q16, .ref q17, .int 0, .int 0, .ref q18, .int 0, .null])), (q1, .inr (8, [.ref q2, .ref q3, .ref q4, .ref q5, .ref q6, .ref q7, .ref q8, .ref q9, .ref q10, .int 0])), (q19, .inl (cq19, 4, .inl (fun _ => 0)))] H := hP
  have hD : va_D A [(h0, .inr (0, [.ref q1, .ref q11, .ref q12, .int 0, .ref q13, .int 0, .int 0, .ref q14, .ref q15, .int 0, .int 0, .ref q16, .ref q17, .int 0, .int 0, .ref q18, .int 0, .null])), (q1, .inr (8, [.ref q2, .ref q3, .ref q4, .ref q5, .ref q6, .ref q7, .ref q8, .ref q9, .ref q10, .int 0])), (q19, .inl (cq19, 4, .inl (fun _ => 0)))] := hD
  have hK : va_K D vwCl [(cq19, .int)] s := hK
  refine W.widen (k := 19) (n := 5318) (Nat.le_of_ble_eq_true rfl) (Nat.le_of_ble_eq_true rfl) ?_
  refine va_putF (D := D) (ci := 0) (v := .ref q19) (ty := .array .int) (C := RX0) (T := TX0) (N := 18) hx hb hts i_v_c_Code_init_X0 tyX0 tyX0_ok nmX0 hown hK hP hD hS 0 rfl rfl 17 (by decide) (hts (.fieldLink RX0 46 "ScheduleHouse$Code" "finalSum" "[I") (by decide +kernel)) (fun _ h9 => h9) rfl hin rfl (by decide +kernel) rfl rfl (Nat.le_of_ble_eq_true rfl) dX0_init_87 (fun H locs hP hD hS => ?_)
  have hP : va_P D vwCl [(h0, .inr (0, [.ref q1, .ref q11, .ref q12, .int 0, .ref q13, .int 0, .int 0, .ref q14, .ref q15, .int 0, .int 0, .ref q16, .ref q17, .int 0, .int 0, .ref q18, .int 0, .ref q19])), (q1, .inr (8, [.ref q2, .ref q3, .ref q4, .ref q5, .ref q6, .ref q7, .ref q8, .ref q9, .ref q10, .int 0])), (q19, .inl (cq19, 4, .inl (fun _ => 0)))] H := hP
  have hD : va_D A [(h0, .inr (0, [.ref q1, .ref q11, .ref q12, .int 0, .ref q13, .int 0, .int 0, .ref q14, .ref q15, .int 0, .int 0, .ref q16, .ref q17, .int 0, .int 0, .ref q18, .int 0, .ref q19])), (q1, .inr (8, [.ref q2, .ref q3, .ref q4, .ref q5, .ref q6, .ref q7, .ref q8, .ref q9, .ref q10, .int 0])), (q19, .inl (cq19, 4, .inl (fun _ => 0)))] := hD
  have hP : va_P D vwCl [(h0, .inr (0, [.ref q1, .ref q11, .ref q12, .int 0, .ref q13, .int 0, .int 0, .ref q14, .ref q15, .int 0, .int 0, .ref q16, .ref q17, .int 0, .int 0, .ref q18, .int 0, .ref q19])), (q1, .inr (8, [.ref q2, .ref q3, .ref q4, .ref q5, .ref q6, .ref q7, .ref q8, .ref q9, .ref q10, .int 0]))] H := hP.sub [0, 1] rfl
  have hD : va_D A [(h0, .inr (0, [.ref q1, .ref q11, .ref q12, .int 0, .ref q13, .int 0, .int 0, .ref q14, .ref q15, .int 0, .int 0, .ref q16, .ref q17, .int 0, .int 0, .ref q18, .int 0, .ref q19])), (q1, .inr (8, [.ref q2, .ref q3, .ref q4, .ref q5, .ref q6, .ref q7, .ref q8, .ref q9, .ref q10, .int 0]))] := hD.sub [0, 1] (by decide) rfl
  have hK : va_K D vwCl [] s := hK.sub [] rfl
  have hP : va_P D vwCl [(h0, .inr (0, [.ref q1, .ref q11, .ref q12, .int 0, .ref q13, .int 0, .int 0, .ref q14, .ref q15, .int 0, .int 0, .ref q16, .ref q17, .int 0, .int 0, .ref q18, .int 0, .ref q19])), (q1, .inr (8, [.ref q2, .ref q3, .ref q4, .ref q5, .ref q6, .ref q7, .ref q8, .ref q9, .ref q10, .int 0]))] H := hP.sub [0, 1] rfl
  have hD : va_D A [(h0, .inr (0, [.ref q1, .ref q11, .ref q12, .int 0, .ref q13, .int 0, .int 0, .ref q14, .ref q15, .int 0, .int 0, .ref q16, .ref q17, .int 0, .int 0, .ref q18, .int 0, .ref q19])), (q1, .inr (8, [.ref q2, .ref q3, .ref q4, .ref q5, .ref q6, .ref q7, .ref q8, .ref q9, .ref q10, .int 0]))] := hD.sub [0, 1] (by decide) rfl
  have hK : va_K D vwCl [] s := hK.sub [] rfl
  exact W.vret hx hb hr (fun t ht hW => ⟨⟨(), rfl, trivial, q1, q11, q12, q13, q14, q15, q16, q17, q18, q19, q2, q3, q4, q5, q6, q7, q8, q9, q10, by rw [ht]; exact hP, va_K.moved hW.alike hK, hD⟩, hS.F ht⟩) hS.2.2 dX0_init_90
noncomputable def v_c_Reader_init : List Cond := .code yX7_init cX7_init 4 none :: ([.methodLink RX7 5 objectInit, .instanceMethod objectInit, .code objectInit ⟨#[0xb1]⟩ 1 none, .fieldLink RX7 11 "ScheduleHouse$Reader" "tokens" "LScheduleHouse$Tokens;", .fieldLink RX7 15 "ScheduleHouse$Reader" "names" "LScheduleHouse$Names;", .fieldLink RX7 19 "ScheduleHouse$Reader" "code" "LScheduleHouse$Code;", .fieldLink RX7 23 "ScheduleHouse$Code" "steps" "LScheduleHouse$Steps;", .fieldLink RX7 29 "ScheduleHouse$Reader" "steps" "LScheduleHouse$Steps;", .arrayClass .int, .fieldLink RX7 30 "ScheduleHouse$Reader" "knownName" "[I", .fieldLink RX7 34 "ScheduleHouse$Reader" "openKind" "[I", .fieldLink RX7 37 "ScheduleHouse$Reader" "openStep" "[I", .fieldLink RX7 40 "ScheduleHouse$Reader" "openKnown" "[I", .fieldLink RX7 43 "ScheduleHouse$Reader" "heldPart" "[I", .fieldLink RX7 46 "ScheduleHouse$Reader" "heldStrength" "[I", .fieldLink RX7 49 "ScheduleHouse$Reader" "heldDepth" "[I"] ++ (wsX70 ++ (wsX00 ++ ([]))))
theorem i_v_c_Reader_init_X7 : ∀ w ∈ wsX70, w ∈ v_c_Reader_init := fun _ h => List.mem_cons_of_mem _ (List.mem_append_right _ (List.mem_append_left _ h))
theorem i_v_c_Reader_init_X0 : ∀ w ∈ wsX00, w ∈ v_c_Reader_init := fun _ h => List.mem_cons_of_mem _ (List.mem_append_right _ (List.mem_append_right _ (List.mem_append_left _ h)))
theorem t_v_c_Reader_init : ∀ w ∈ v_c_Reader_init, w ∈ lw_tbl := tb_c (List.mem_of_getElem? (i := 497) (by decide +kernel)) (tb_a (tb_l (ps := [498, 239, 240, 499, 500, 501, 400, 502, 287, 508, 510, 511, 512, 514, 515, 516]) (by decide +kernel)) (tb_a (tw_wsX70) (tb_a (tw_wsX00) (tb_n))))
set_option maxHeartbeats 400000 in
set_option maxRecDepth 100000 in
/-- Reader(tokens, names, code) -/
theorem c_Reader_init (l : Launch) (D : va_G) (h0 a1 a2 a3 sp : Nat) (cfs : List Value) (sz : Nat) (hcs : cfs[0]? = some (.ref sp)) : Met l yX7_init v_c_Reader_init ({ frames := 1, cells := 7, slots := 128, locals := 12 }) (va_Pc [.ref h0, .ref a1, .ref a2, .ref a3] (st_ D [(h0, .inr (7, [.null, .null, .null, .null, .int 0, .int 0, .int 0, .int 0, .null, .int 0, .null, .null, .null, .int 0, .null, .null, .null, .int 0])), (a3, .inr (0, cfs))] [] sz)) (va_Qv (fun _ : Unit => True) (fun _ t => ∃ (q1 : Nat) (q2 : Nat) (q3 : Nat) (q4 : Nat) (q5 : Nat) (q6 : Nat) (q7 : Nat), va_P D vwCl [(h0, .inr (7, [.ref a1, .ref a2, .ref a3, .ref sp, .int 0, .int 0, .int 0, .int 0, .ref q1, .int 0, .ref q2, .ref q3, .ref q4, .int 0, .ref q5, .ref q6, .ref q7, .int 0])), (a3, .inr (0, cfs))] t.heap ∧ va_K D vwCl [] t ∧ va_D (va_A [(h0, .inr (7, [.null, .null, .null, .null, .int 0, .int 0, .int 0, .int 0, .null, .int 0, .null, .null, .null, .int 0, .null, .null, .null, .int 0])), (a3, .inr (0, cfs))] sz) [(h0, .inr (7, [.ref a1, .ref a2, .ref a3, .ref sp, .int 0, .int 0, .int 0, .int 0, .ref q1, .int 0, .ref q2, .ref q3, .ref q4, .int 0, .ref q5, .ref q6, .ref q7, .int 0])), (a3, .inr (0, cfs))]) (va_A [(h0, .inr (7, [.null, .null, .null, .null, .int 0, .int 0, .int 0, .int 0, .null, .int 0, .null, .null, .null, .int 0, .null, .null, .null, .int 0])), (a3, .inr (0, cfs))] sz)) 7 128 (va_A [(h0, .inr (7, [.null, .null, .null, .null, .int 0, .int 0, .int 0, .int 0, .null, .int 0, .null, .null, .null, .int 0, .null, .null, .null, .int 0])), (a3, .inr (0, cfs))] sz) := by
  refine Met.ofW (cc := cX7_init) (maxL := 4) (ret := none) (by decide) rfl ?_
  intro p e s m args below meth c s₁ B hml hv
  obtain ⟨rfl, hsz, hP, hK, hD0, hZ, hE⟩ := hv
  have hx := B.exec
  have hb := B.bytes
  have hr := B.returns
  have hts := atoms_spec (ws := v_c_Reader_init) B.pre
  have hown : s.vm.findClass RX7 = some m.cls := findClass_of_methodNamed B.named
  have hlocks := B.notSynchronized
  have hin : meth.name = "<init>" := (name_of_methodNamed B.named B.method).1
  subst hsz
  have hD := hD0.self (sz := s.heap.size)
  generalize hAe : va_A [(h0, .inr (7, [.null, .null, .null, .null, .int 0, .int 0, .int 0, .int 0, .null, .int 0, .null, .null, .null, .int 0, .null, .null, .null, .int 0])), (a3, .inr (0, cfs))] s.heap.size = A at hD hZ ⊢
  have hA : ∀ q : Nat, s.heap.size ≤ q → A q := fun q h => by rw [← hAe]; exact Or.inr h
  have hS : va_S A s.heap s.heap [] := va_S.rf
  have hAO := hE.2.2.2.1
  have hP : va_P D vwCl [(h0, .inr (7, [.null, .null, .null, .null, .int 0, .int 0, .int 0, .int 0, .null, .int 0, .null, .null, .null, .int 0, .null, .null, .null, .int 0])), (a3, .inr (0, cfs))] s.heap := hP
  have hl := lv_entry ([.ref h0, .ref a1, .ref a2, .ref a3]) (n := 4) (Nat.le_of_ble_eq_true rfl)
  rw [lg_entry_eq]
  generalize (lg_sl ([.ref h0, .ref a1, .ref a2, .ref a3]) ++ List.replicate (4 - (lg_sl ([.ref h0, .ref a1, .ref a2, .ref a3])).length) Slot.unset).toArray = ls at hl ⊢
  have hl : lv_has ls 4 [(0, .ref h0), (1, .ref a1), (2, .ref a2), (3, .ref a3)] := hl
  refine lv_aload_n hx hb dX7_init_0 rfl (lv_at hl 0 rfl) ?_
  refine W.objInit hx hb hown (hts (.methodLink RX7 5 objectInit) (by decide +kernel)) (hts (.instanceMethod objectInit) (by decide +kernel)) (hts (.code objectInit ⟨#[0xb1]⟩ 1 none) (by decide +kernel)) rfl (by rw [hml]; exact hl.1) rfl dX7_init_1 (Nat.le_of_ble_eq_true rfl) (Nat.le_of_ble_eq_true rfl) ?_
  refine W.eq (g2 := F0 m 4 ls []) rfl ?_
  refine lv_aload_n hx hb dX7_init_4 rfl (lv_at hl 0 rfl) ?_
  refine lv_aload_n hx hb dX7_init_5 rfl (lv_at hl 1 rfl) ?_
  refine va_putF (D := D) (ci := 7) (v := .ref a1) (ty := .object "ScheduleHouse$Tokens") (C := RX7) (T := TX7) (N := 18) hx hb hts i_v_c_Reader_init_X7 tyX7 tyX7_ok nmX7 hown hK hP hD hS 0 rfl rfl 0 (by decide) (hts (.fieldLink RX7 11 "ScheduleHouse$Reader" "tokens" "LScheduleHouse$Tokens;") (by decide +kernel)) (fun _ h9 => h9) rfl hin rfl (by decide +kernel) rfl rfl (Nat.le_of_ble_eq_true rfl) dX7_init_6 (fun H locs hP hD hS => ?_)
  have hP : va_P D vwCl [(h0, .inr (7, [.ref a1, .null, .null, .null, .int 0, .int 0, .int 0, .int 0, .null, .int 0, .null, .null, .null, .int 0, .null, .null, .null, .int 0])), (a3, .inr (0, cfs))] H := hP
  have hD : va_D A [(h0, .inr (7, [.ref a1, .null, .null, .null, .int 0, .int 0, .int 0, .int 0, .null, .int 0, .null, .null, .null, .int 0, .null, .null, .null, .int 0])), (a3, .inr (0, cfs))] := hD
  refine lv_aload_n hx hb dX7_init_9 rfl (lv_at hl 0 rfl) ?_
  refine lv_aload_n hx hb dX7_init_10 rfl (lv_at hl 2 rfl) ?_
  refine va_putF (D := D) (ci := 7) (v := .ref a2) (ty := .object "ScheduleHouse$Names") (C := RX7) (T := TX7) (N := 18) hx hb hts i_v_c_Reader_init_X7 tyX7 tyX7_ok nmX7 hown hK hP hD hS 0 rfl rfl 1 (by decide) (hts (.fieldLink RX7 15 "ScheduleHouse$Reader" "names" "LScheduleHouse$Names;") (by decide +kernel)) (fun _ h9 => h9) rfl hin rfl (by decide +kernel) rfl rfl (Nat.le_of_ble_eq_true rfl) dX7_init_11 (fun H locs hP hD hS => ?_)
  have hP : va_P D vwCl [(h0, .inr (7, [.ref a1, .ref a2, .null, .null, .int 0, .int 0, .int 0, .int 0, .null, .int 0, .null, .null, .null, .int 0, .null, .null, .null, .int 0])), (a3, .inr (0, cfs))] H := hP
  have hD : va_D A [(h0, .inr (7, [.ref a1, .ref a2, .null, .null, .int 0, .int 0, .int 0, .int 0, .null, .int 0, .null, .null, .null, .int 0, .null, .null, .null, .int 0])), (a3, .inr (0, cfs))] := hD
  refine lv_aload_n hx hb dX7_init_14 rfl (lv_at hl 0 rfl) ?_
  refine lv_aload_n hx hb dX7_init_15 rfl (lv_at hl 3 rfl) ?_
  refine va_putF (D := D) (ci := 7) (v := .ref a3) (ty := .object "ScheduleHouse$Code") (C := RX7) (T := TX7) (N := 18) hx hb hts i_v_c_Reader_init_X7 tyX7 tyX7_ok nmX7 hown hK hP hD hS 0 rfl rfl 2 (by decide) (hts (.fieldLink RX7 19 "ScheduleHouse$Reader" "code" "LScheduleHouse$Code;") (by decide +kernel)) (fun _ h9 => h9) rfl hin rfl (by decide +kernel) rfl rfl (Nat.le_of_ble_eq_true rfl) dX7_init_16 (fun H locs hP hD hS => ?_)
  have hP : va_P D vwCl [(h0, .inr (7, [.ref a1, .ref a2, .ref a3, .null, .int 0, .int 0, .int 0, .int 0, .null, .int 0, .null, .null, .null, .int 0, .null, .null, .null, .int 0])), (a3, .inr (0, cfs))] H := hP
  have hD : va_D A [(h0, .inr (7, [.ref a1, .ref a2, .ref a3, .null, .int 0, .int 0, .int 0, .int 0, .null, .int 0, .null, .null, .null, .int 0, .null, .null, .null, .int 0])), (a3, .inr (0, cfs))] := hD
  refine lv_aload_n hx hb dX7_init_19 rfl (lv_at hl 0 rfl) ?_
  refine lv_aload_n hx hb dX7_init_20 rfl (lv_at hl 3 rfl) ?_
  refine va_get (D := D) (ci := 0) (v := .ref sp) (C := RX0) (T := TX0) (N := 18) hx hb hts i_v_c_Reader_init_X0 hown hK hP 1 rfl rfl 0 (by decide) (hts (.fieldLink RX7 23 "ScheduleHouse$Code" "steps" "LScheduleHouse$Steps;") (by decide +kernel)) (fun _ h9 => h9) hcs dX7_init_21 ?_
  refine va_putF (D := D) (ci := 7) (v := .ref sp) (ty := .object "ScheduleHouse$Steps") (C := RX7) (T := TX7) (N := 18) hx hb hts i_v_c_Reader_init_X7 tyX7 tyX7_ok nmX7 hown hK hP hD hS 0 rfl rfl 3 (by decide) (hts (.fieldLink RX7 29 "ScheduleHouse$Reader" "steps" "LScheduleHouse$Steps;") (by decide +kernel)) (fun _ h9 => h9) rfl hin rfl (by decide +kernel) rfl rfl (Nat.le_of_ble_eq_true rfl) dX7_init_24 (fun H locs hP hD hS => ?_)
  have hP : va_P D vwCl [(h0, .inr (7, [.ref a1, .ref a2, .ref a3, .ref sp, .int 0, .int 0, .int 0, .int 0, .null, .int 0, .null, .null, .null, .int 0, .null, .null, .null, .int 0])), (a3, .inr (0, cfs))] H := hP
  have hD : va_D A [(h0, .inr (7, [.ref a1, .ref a2, .ref a3, .ref sp, .int 0, .int 0, .int 0, .int 0, .null, .int 0, .null, .null, .null, .int 0, .null, .null, .null, .int 0])), (a3, .inr (0, cfs))] := hD
  refine lv_aload_n hx hb dX7_init_27 rfl (lv_at hl 0 rfl) ?_
  refine lv_bipush (v := 8) hx hb dX7_init_28 (by decide +kernel) ?_
  refine va_newa (atype := .int) (ty := .int) (N' := 8) (a0 := (8, .inl (fun _ => 0))) hx hb (hts (.arrayClass .int) (by decide +kernel)) rfl hK hP hD hS hA (na_int 8) (by decide +kernel) (by decide +kernel) (by decide +kernel) (Nat.le_of_ble_eq_true rfl) (Nat.le_of_ble_eq_true rfl) dX7_init_30 (fun q1 cq1 H hK hP hD hS => ?_)
  have hP : va_P D vwCl [(h0, .inr (7, [.ref a1, .ref a2, .ref a3, .ref sp, .int 0, .int 0, .int 0, .int 0, .null, .int 0, .null, .null, .null, .int 0, .null, .null, .null, .int 0])), (a3, .inr (0, cfs)), (q1, .inl (cq1, 8, .inl (fun _ => 0)))] H := hP
  have hD : va_D A [(h0, .inr (7, [.ref a1, .ref a2, .ref a3, .ref sp, .int 0, .int 0, .int 0, .int 0, .null, .int 0, .null, .null, .null, .int 0, .null, .null, .null, .int 0])), (a3, .inr (0, cfs)), (q1, .inl (cq1, 8, .inl (fun _ => 0)))] := hD
  have hK : va_K D vwCl [(cq1, .int)] s := hK
  refine W.widen (k := 1) (n := 8) (Nat.le_of_ble_eq_true rfl) (Nat.le_of_ble_eq_true rfl) ?_
  refine va_putF (D := D) (ci := 7) (v := .ref q1) (ty := .array .int) (C := RX7) (T := TX7) (N := 18) hx hb hts i_v_c_Reader_init_X7 tyX7 tyX7_ok nmX7 hown hK hP hD hS 0 rfl rfl 8 (by decide) (hts (.fieldLink RX7 30 "ScheduleHouse$Reader" "knownName" "[I") (by decide +kernel)) (fun _ h9 => h9) rfl hin rfl (by decide +kernel) rfl rfl (Nat.le_of_ble_eq_true rfl) dX7_init_32 (fun H locs hP hD hS => ?_)
  have hP : va_P D vwCl [(h0, .inr (7, [.ref a1, .ref a2, .ref a3, .ref sp, .int 0, .int 0, .int 0, .int 0, .ref q1, .int 0, .null, .null, .null, .int 0, .null, .null, .null, .int 0])), (a3, .inr (0, cfs)), (q1, .inl (cq1, 8, .inl (fun _ => 0)))] H := hP
  have hD : va_D A [(h0, .inr (7, [.ref a1, .ref a2, .ref a3, .ref sp, .int 0, .int 0, .int 0, .int 0, .ref q1, .int 0, .null, .null, .null, .int 0, .null, .null, .null, .int 0])), (a3, .inr (0, cfs)), (q1, .inl (cq1, 8, .inl (fun _ => 0)))] := hD
  have hP : va_P D vwCl [(h0, .inr (7, [.ref a1, .ref a2, .ref a3, .ref sp, .int 0, .int 0, .int 0, .int 0, .ref q1, .int 0, .null, .null, .null, .int 0, .null, .null, .null, .int 0])), (a3, .inr (0, cfs))] H := hP.sub [0, 1] rfl
  have hD : va_D A [(h0, .inr (7, [.ref a1, .ref a2, .ref a3, .ref sp, .int 0, .int 0, .int 0, .int 0, .ref q1, .int 0, .null, .null, .null, .int 0, .null, .null, .null, .int 0])), (a3, .inr (0, cfs))] := hD.sub [0, 1] (by decide) rfl
  have hK : va_K D vwCl [] s := hK.sub [] rfl
  refine lv_aload_n hx hb dX7_init_35 rfl (lv_at hl 0 rfl) ?_
  refine lv_bipush (v := 20) hx hb dX7_init_36 (by decide +kernel) ?_
  refine va_newa (atype := .int) (ty := .int) (N' := 20) (a0 := (20, .inl (fun _ => 0))) hx hb (hts (.arrayClass .int) (by decide +kernel)) rfl hK hP hD hS hA (na_int 20) (by decide +kernel) (by decide +kernel) (by decide +kernel) (Nat.le_of_ble_eq_true rfl) (Nat.le_of_ble_eq_true rfl) dX7_init_38 (fun q2 cq2 H hK hP hD hS => ?_)
  have hP : va_P D vwCl [(h0, .inr (7, [.ref a1, .ref a2, .ref a3, .ref sp, .int 0, .int 0, .int 0, .int 0, .ref q1, .int 0, .null, .null, .null, .int 0, .null, .null, .null, .int 0])), (a3, .inr (0, cfs)), (q2, .inl (cq2, 20, .inl (fun _ => 0)))] H := hP
  have hD : va_D A [(h0, .inr (7, [.ref a1, .ref a2, .ref a3, .ref sp, .int 0, .int 0, .int 0, .int 0, .ref q1, .int 0, .null, .null, .null, .int 0, .null, .null, .null, .int 0])), (a3, .inr (0, cfs)), (q2, .inl (cq2, 20, .inl (fun _ => 0)))] := hD
  have hK : va_K D vwCl [(cq2, .int)] s := hK
  refine W.widen (k := 2) (n := 28) (Nat.le_of_ble_eq_true rfl) (Nat.le_of_ble_eq_true rfl) ?_
  refine va_putF (D := D) (ci := 7) (v := .ref q2) (ty := .array .int) (C := RX7) (T := TX7) (N := 18) hx hb hts i_v_c_Reader_init_X7 tyX7 tyX7_ok nmX7 hown hK hP hD hS 0 rfl rfl 10 (by decide) (hts (.fieldLink RX7 34 "ScheduleHouse$Reader" "openKind" "[I") (by decide +kernel)) (fun _ h9 => h9) rfl hin rfl (by decide +kernel) rfl rfl (Nat.le_of_ble_eq_true rfl) dX7_init_40 (fun H locs hP hD hS => ?_)
  have hP : va_P D vwCl [(h0, .inr (7, [.ref a1, .ref a2, .ref a3, .ref sp, .int 0, .int 0, .int 0, .int 0, .ref q1, .int 0, .ref q2, .null, .null, .int 0, .null, .null, .null, .int 0])), (a3, .inr (0, cfs)), (q2, .inl (cq2, 20, .inl (fun _ => 0)))] H := hP
  have hD : va_D A [(h0, .inr (7, [.ref a1, .ref a2, .ref a3, .ref sp, .int 0, .int 0, .int 0, .int 0, .ref q1, .int 0, .ref q2, .null, .null, .int 0, .null, .null, .null, .int 0])), (a3, .inr (0, cfs)), (q2, .inl (cq2, 20, .inl (fun _ => 0)))] := hD
  have hP : va_P D vwCl [(h0, .inr (7, [.ref a1, .ref a2, .ref a3, .ref sp, .int 0, .int 0, .int 0, .int 0, .ref q1, .int 0, .ref q2, .null, .null, .int 0, .null, .null, .null, .int 0])), (a3, .inr (0, cfs))] H := hP.sub [0, 1] rfl
  have hD : va_D A [(h0, .inr (7, [.ref a1, .ref a2, .ref a3, .ref sp, .int 0, .int 0, .int 0, .int 0, .ref q1, .int 0, .ref q2, .null, .null, .int 0, .null, .null, .null, .int 0])), (a3, .inr (0, cfs))] := hD.sub [0, 1] (by decide) rfl
  have hK : va_K D vwCl [] s := hK.sub [] rfl
  refine lv_aload_n hx hb dX7_init_43 rfl (lv_at hl 0 rfl) ?_
  refine lv_bipush (v := 20) hx hb dX7_init_44 (by decide +kernel) ?_
  refine va_newa (atype := .int) (ty := .int) (N' := 20) (a0 := (20, .inl (fun _ => 0))) hx hb (hts (.arrayClass .int) (by decide +kernel)) rfl hK hP hD hS hA (na_int 20) (by decide +kernel) (by decide +kernel) (by decide +kernel) (Nat.le_of_ble_eq_true rfl) (Nat.le_of_ble_eq_true rfl) dX7_init_46 (fun q3 cq3 H hK hP hD hS => ?_)
  have hP : va_P D vwCl [(h0, .inr (7, [.ref a1, .ref a2, .ref a3, .ref sp, .int 0, .int 0, .int 0, .int 0, .ref q1, .int 0, .ref q2, .null, .null, .int 0, .null, .null, .null, .int 0])), (a3, .inr (0, cfs)), (q3, .inl (cq3, 20, .inl (fun _ => 0)))] H := hP
  have hD : va_D A [(h0, .inr (7, [.ref a1, .ref a2, .ref a3, .ref sp, .int 0, .int 0, .int 0, .int 0, .ref q1, .int 0, .ref q2, .null, .null, .int 0, .null, .null, .null, .int 0])), (a3, .inr (0, cfs)), (q3, .inl (cq3, 20, .inl (fun _ => 0)))] := hD
  have hK : va_K D vwCl [(cq3, .int)] s := hK
  refine W.widen (k := 3) (n := 48) (Nat.le_of_ble_eq_true rfl) (Nat.le_of_ble_eq_true rfl) ?_
  refine va_putF (D := D) (ci := 7) (v := .ref q3) (ty := .array .int) (C := RX7) (T := TX7) (N := 18) hx hb hts i_v_c_Reader_init_X7 tyX7 tyX7_ok nmX7 hown hK hP hD hS 0 rfl rfl 11 (by decide) (hts (.fieldLink RX7 37 "ScheduleHouse$Reader" "openStep" "[I") (by decide +kernel)) (fun _ h9 => h9) rfl hin rfl (by decide +kernel) rfl rfl (Nat.le_of_ble_eq_true rfl) dX7_init_48 (fun H locs hP hD hS => ?_)
  have hP : va_P D vwCl [(h0, .inr (7, [.ref a1, .ref a2, .ref a3, .ref sp, .int 0, .int 0, .int 0, .int 0, .ref q1, .int 0, .ref q2, .ref q3, .null, .int 0, .null, .null, .null, .int 0])), (a3, .inr (0, cfs)), (q3, .inl (cq3, 20, .inl (fun _ => 0)))] H := hP
  have hD : va_D A [(h0, .inr (7, [.ref a1, .ref a2, .ref a3, .ref sp, .int 0, .int 0, .int 0, .int 0, .ref q1, .int 0, .ref q2, .ref q3, .null, .int 0, .null, .null, .null, .int 0])), (a3, .inr (0, cfs)), (q3, .inl (cq3, 20, .inl (fun _ => 0)))] := hD
  have hP : va_P D vwCl [(h0, .inr (7, [.ref a1, .ref a2, .ref a3, .ref sp, .int 0, .int 0, .int 0, .int 0, .ref q1, .int 0, .ref q2, .ref q3, .null, .int 0, .null, .null, .null, .int 0])), (a3, .inr (0, cfs))] H := hP.sub [0, 1] rfl
  have hD : va_D A [(h0, .inr (7, [.ref a1, .ref a2, .ref a3, .ref sp, .int 0, .int 0, .int 0, .int 0, .ref q1, .int 0, .ref q2, .ref q3, .null, .int 0, .null, .null, .null, .int 0])), (a3, .inr (0, cfs))] := hD.sub [0, 1] (by decide) rfl
  have hK : va_K D vwCl [] s := hK.sub [] rfl
  refine lv_aload_n hx hb dX7_init_51 rfl (lv_at hl 0 rfl) ?_
  refine lv_bipush (v := 20) hx hb dX7_init_52 (by decide +kernel) ?_
  refine va_newa (atype := .int) (ty := .int) (N' := 20) (a0 := (20, .inl (fun _ => 0))) hx hb (hts (.arrayClass .int) (by decide +kernel)) rfl hK hP hD hS hA (na_int 20) (by decide +kernel) (by decide +kernel) (by decide +kernel) (Nat.le_of_ble_eq_true rfl) (Nat.le_of_ble_eq_true rfl) dX7_init_54 (fun q4 cq4 H hK hP hD hS => ?_)
  have hP : va_P D vwCl [(h0, .inr (7, [.ref a1, .ref a2, .ref a3, .ref sp, .int 0, .int 0, .int 0, .int 0, .ref q1, .int 0, .ref q2, .ref q3, .null, .int 0, .null, .null, .null, .int 0])), (a3, .inr (0, cfs)), (q4, .inl (cq4, 20, .inl (fun _ => 0)))] H := hP
  have hD : va_D A [(h0, .inr (7, [.ref a1, .ref a2, .ref a3, .ref sp, .int 0, .int 0, .int 0, .int 0, .ref q1, .int 0, .ref q2, .ref q3, .null, .int 0, .null, .null, .null, .int 0])), (a3, .inr (0, cfs)), (q4, .inl (cq4, 20, .inl (fun _ => 0)))] := hD
  have hK : va_K D vwCl [(cq4, .int)] s := hK
  refine W.widen (k := 4) (n := 68) (Nat.le_of_ble_eq_true rfl) (Nat.le_of_ble_eq_true rfl) ?_
  refine va_putF (D := D) (ci := 7) (v := .ref q4) (ty := .array .int) (C := RX7) (T := TX7) (N := 18) hx hb hts i_v_c_Reader_init_X7 tyX7 tyX7_ok nmX7 hown hK hP hD hS 0 rfl rfl 12 (by decide) (hts (.fieldLink RX7 40 "ScheduleHouse$Reader" "openKnown" "[I") (by decide +kernel)) (fun _ h9 => h9) rfl hin rfl (by decide +kernel) rfl rfl (Nat.le_of_ble_eq_true rfl) dX7_init_56 (fun H locs hP hD hS => ?_)
  have hP : va_P D vwCl [(h0, .inr (7, [.ref a1, .ref a2, .ref a3, .ref sp, .int 0, .int 0, .int 0, .int 0, .ref q1, .int 0, .ref q2, .ref q3, .ref q4, .int 0, .null, .null, .null, .int 0])), (a3, .inr (0, cfs)), (q4, .inl (cq4, 20, .inl (fun _ => 0)))] H := hP
  have hD : va_D A [(h0, .inr (7, [.ref a1, .ref a2, .ref a3, .ref sp, .int 0, .int 0, .int 0, .int 0, .ref q1, .int 0, .ref q2, .ref q3, .ref q4, .int 0, .null, .null, .null, .int 0])), (a3, .inr (0, cfs)), (q4, .inl (cq4, 20, .inl (fun _ => 0)))] := hD
  have hP : va_P D vwCl [(h0, .inr (7, [.ref a1, .ref a2, .ref a3, .ref sp, .int 0, .int 0, .int 0, .int 0, .ref q1, .int 0, .ref q2, .ref q3, .ref q4, .int 0, .null, .null, .null, .int 0])), (a3, .inr (0, cfs))] H := hP.sub [0, 1] rfl
  have hD : va_D A [(h0, .inr (7, [.ref a1, .ref a2, .ref a3, .ref sp, .int 0, .int 0, .int 0, .int 0, .ref q1, .int 0, .ref q2, .ref q3, .ref q4, .int 0, .null, .null, .null, .int 0])), (a3, .inr (0, cfs))] := hD.sub [0, 1] (by decide) rfl
  have hK : va_K D vwCl [] s := hK.sub [] rfl
  refine lv_aload_n hx hb dX7_init_59 rfl (lv_at hl 0 rfl) ?_
  refine lv_bipush (v := 20) hx hb dX7_init_60 (by decide +kernel) ?_
  refine va_newa (atype := .int) (ty := .int) (N' := 20) (a0 := (20, .inl (fun _ => 0))) hx hb (hts (.arrayClass .int) (by decide +kernel)) rfl hK hP hD hS hA (na_int 20) (by decide +kernel) (by decide +kernel) (by decide +kernel) (Nat.le_of_ble_eq_true rfl) (Nat.le_of_ble_eq_true rfl) dX7_init_62 (fun q5 cq5 H hK hP hD hS => ?_)
  have hP : va_P D vwCl [(h0, .inr (7, [.ref a1, .ref a2, .ref a3, .ref sp, .int 0, .int 0, .int 0, .int 0, .ref q1, .int 0, .ref q2, .ref q3, .ref q4, .int 0, .null, .null, .null, .int 0])), (a3, .inr (0, cfs)), (q5, .inl (cq5, 20, .inl (fun _ => 0)))] H := hP
  have hD : va_D A [(h0, .inr (7, [.ref a1, .ref a2, .ref a3, .ref sp, .int 0, .int 0, .int 0, .int 0, .ref q1, .int 0, .ref q2, .ref q3, .ref q4, .int 0, .null, .null, .null, .int 0])), (a3, .inr (0, cfs)), (q5, .inl (cq5, 20, .inl (fun _ => 0)))] := hD
  have hK : va_K D vwCl [(cq5, .int)] s := hK
  refine W.widen (k := 5) (n := 88) (Nat.le_of_ble_eq_true rfl) (Nat.le_of_ble_eq_true rfl) ?_
  refine va_putF (D := D) (ci := 7) (v := .ref q5) (ty := .array .int) (C := RX7) (T := TX7) (N := 18) hx hb hts i_v_c_Reader_init_X7 tyX7 tyX7_ok nmX7 hown hK hP hD hS 0 rfl rfl 14 (by decide) (hts (.fieldLink RX7 43 "ScheduleHouse$Reader" "heldPart" "[I") (by decide +kernel)) (fun _ h9 => h9) rfl hin rfl (by decide +kernel) rfl rfl (Nat.le_of_ble_eq_true rfl) dX7_init_64 (fun H locs hP hD hS => ?_)
  have hP : va_P D vwCl [(h0, .inr (7, [.ref a1, .ref a2, .ref a3, .ref sp, .int 0, .int 0, .int 0, .int 0, .ref q1, .int 0, .ref q2, .ref q3, .ref q4, .int 0, .ref q5, .null, .null, .int 0])), (a3, .inr (0, cfs)), (q5, .inl (cq5, 20, .inl (fun _ => 0)))] H := hP
  have hD : va_D A [(h0, .inr (7, [.ref a1, .ref a2, .ref a3, .ref sp, .int 0, .int 0, .int 0, .int 0, .ref q1, .int 0, .ref q2, .ref q3, .ref q4, .int 0, .ref q5, .null, .null, .int 0])), (a3, .inr (0, cfs)), (q5, .inl (cq5, 20, .inl (fun _ => 0)))] := hD
  have hP : va_P D vwCl [(h0, .inr (7, [.ref a1, .ref a2, .ref a3, .ref sp, .int 0, .int 0, .int 0, .int 0, .ref q1, .int 0, .ref q2, .ref q3, .ref q4, .int 0, .ref q5, .null, .null, .int 0])), (a3, .inr (0, cfs))] H := hP.sub [0, 1] rfl
  have hD : va_D A [(h0, .inr (7, [.ref a1, .ref a2, .ref a3, .ref sp, .int 0, .int 0, .int 0, .int 0, .ref q1, .int 0, .ref q2, .ref q3, .ref q4, .int 0, .ref q5, .null, .null, .int 0])), (a3, .inr (0, cfs))] := hD.sub [0, 1] (by decide) rfl
  have hK : va_K D vwCl [] s := hK.sub [] rfl
  refine lv_aload_n hx hb dX7_init_67 rfl (lv_at hl 0 rfl) ?_
  refine lv_bipush (v := 20) hx hb dX7_init_68 (by decide +kernel) ?_
  refine va_newa (atype := .int) (ty := .int) (N' := 20) (a0 := (20, .inl (fun _ => 0))) hx hb (hts (.arrayClass .int) (by decide +kernel)) rfl hK hP hD hS hA (na_int 20) (by decide +kernel) (by decide +kernel) (by decide +kernel) (Nat.le_of_ble_eq_true rfl) (Nat.le_of_ble_eq_true rfl) dX7_init_70 (fun q6 cq6 H hK hP hD hS => ?_)
  have hP : va_P D vwCl [(h0, .inr (7, [.ref a1, .ref a2, .ref a3, .ref sp, .int 0, .int 0, .int 0, .int 0, .ref q1, .int 0, .ref q2, .ref q3, .ref q4, .int 0, .ref q5, .null, .null, .int 0])), (a3, .inr (0, cfs)), (q6, .inl (cq6, 20, .inl (fun _ => 0)))] H := hP
  have hD : va_D A [(h0, .inr (7, [.ref a1, .ref a2, .ref a3, .ref sp, .int 0, .int 0, .int 0, .int 0, .ref q1, .int 0, .ref q2, .ref q3, .ref q4, .int 0, .ref q5, .null, .null, .int 0])), (a3, .inr (0, cfs)), (q6, .inl (cq6, 20, .inl (fun _ => 0)))] := hD
  have hK : va_K D vwCl [(cq6, .int)] s := hK
  refine W.widen (k := 6) (n := 108) (Nat.le_of_ble_eq_true rfl) (Nat.le_of_ble_eq_true rfl) ?_
  refine va_putF (D := D) (ci := 7) (v := .ref q6) (ty := .array .int) (C := RX7) (T := TX7) (N := 18) hx hb hts i_v_c_Reader_init_X7 tyX7 tyX7_ok nmX7 hown hK hP hD hS 0 rfl rfl 15 (by decide) (hts (.fieldLink RX7 46 "ScheduleHouse$Reader" "heldStrength" "[I") (by decide +kernel)) (fun _ h9 => h9) rfl hin rfl (by decide +kernel) rfl rfl (Nat.le_of_ble_eq_true rfl) dX7_init_72 (fun H locs hP hD hS => ?_)
  have hP : va_P D vwCl [(h0, .inr (7, [.ref a1, .ref a2, .ref a3, .ref sp, .int 0, .int 0, .int 0, .int 0, .ref q1, .int 0, .ref q2, .ref q3, .ref q4, .int 0, .ref q5, .ref q6, .null, .int 0])), (a3, .inr (0, cfs)), (q6, .inl (cq6, 20, .inl (fun _ => 0)))] H := hP
  have hD : va_D A [(h0, .inr (7, [.ref a1, .ref a2, .ref a3, .ref sp, .int 0, .int 0, .int 0, .int 0, .ref q1, .int 0, .ref q2, .ref q3, .ref q4, .int 0, .ref q5, .ref q6, .null, .int 0])), (a3, .inr (0, cfs)), (q6, .inl (cq6, 20, .inl (fun _ => 0)))] := hD
  have hP : va_P D vwCl [(h0, .inr (7, [.ref a1, .ref a2, .ref a3, .ref sp, .int 0, .int 0, .int 0, .int 0, .ref q1, .int 0, .ref q2, .ref q3, .ref q4, .int 0, .ref q5, .ref q6, .null, .int 0])), (a3, .inr (0, cfs))] H := hP.sub [0, 1] rfl
  have hD : va_D A [(h0, .inr (7, [.ref a1, .ref a2, .ref a3, .ref sp, .int 0, .int 0, .int 0, .int 0, .ref q1, .int 0, .ref q2, .ref q3, .ref q4, .int 0, .ref q5, .ref q6, .null, .int 0])), (a3, .inr (0, cfs))] := hD.sub [0, 1] (by decide) rfl
  have hK : va_K D vwCl [] s := hK.sub [] rfl
  refine lv_aload_n hx hb dX7_init_75 rfl (lv_at hl 0 rfl) ?_
  refine lv_bipush (v := 20) hx hb dX7_init_76 (by decide +kernel) ?_
  refine va_newa (atype := .int) (ty := .int) (N' := 20) (a0 := (20, .inl (fun _ => 0))) hx hb (hts (.arrayClass .int) (by decide +kernel)) rfl hK hP hD hS hA (na_int 20) (by decide +kernel) (by decide +kernel) (by decide +kernel) (Nat.le_of_ble_eq_true rfl) (Nat.le_of_ble_eq_true rfl) dX7_init_78 (fun q7 cq7 H hK hP hD hS => ?_)
  have hP : va_P D vwCl [(h0, .inr (7, [.ref a1, .ref a2, .ref a3, .ref sp, .int 0, .int 0, .int 0, .int 0, .ref q1, .int 0, .ref q2, .ref q3, .ref q4, .int 0, .ref q5, .ref q6, .null, .int 0])), (a3, .inr (0, cfs)), (q7, .inl (cq7, 20, .inl (fun _ => 0)))] H := hP
  have hD : va_D A [(h0, .inr (7, [.ref a1, .ref a2, .ref a3, .ref sp, .int 0, .int 0, .int 0, .int 0, .ref q1, .int 0, .ref q2, .ref q3, .ref q4, .int 0, .ref q5, .ref q6, .null, .int 0])), (a3, .inr (0, cfs)), (q7, .inl (cq7, 20, .inl (fun _ => 0)))] := hD
  have hK : va_K D vwCl [(cq7, .int)] s := hK
  refine W.widen (k := 7) (n := 128) (Nat.le_of_ble_eq_true rfl) (Nat.le_of_ble_eq_true rfl) ?_
  refine va_putF (D := D) (ci := 7) (v := .ref q7) (ty := .array .int) (C := RX7) (T := TX7) (N := 18) hx hb hts i_v_c_Reader_init_X7 tyX7 tyX7_ok nmX7 hown hK hP hD hS 0 rfl rfl 16 (by decide) (hts (.fieldLink RX7 49 "ScheduleHouse$Reader" "heldDepth" "[I") (by decide +kernel)) (fun _ h9 => h9) rfl hin rfl (by decide +kernel) rfl rfl (Nat.le_of_ble_eq_true rfl) dX7_init_80 (fun H locs hP hD hS => ?_)
  have hP : va_P D vwCl [(h0, .inr (7, [.ref a1, .ref a2, .ref a3, .ref sp, .int 0, .int 0, .int 0, .int 0, .ref q1, .int 0, .ref q2, .ref q3, .ref q4, .int 0, .ref q5, .ref q6, .ref q7, .int 0])), (a3, .inr (0, cfs)), (q7, .inl (cq7, 20, .inl (fun _ => 0)))] H := hP
  have hD : va_D A [(h0, .inr (7, [.ref a1, .ref a2, .ref a3, .ref sp, .int 0, .int 0, .int 0, .int 0, .ref q1, .int 0, .ref q2, .ref q3, .ref q4, .int 0, .ref q5, .ref q6, .ref q7, .int 0])), (a3, .inr (0, cfs)), (q7, .inl (cq7, 20, .inl (fun _ => 0)))] := hD
  have hP : va_P D vwCl [(h0, .inr (7, [.ref a1, .ref a2, .ref a3, .ref sp, .int 0, .int 0, .int 0, .int 0, .ref q1, .int 0, .ref q2, .ref q3, .ref q4, .int 0, .ref q5, .ref q6, .ref q7, .int 0])), (a3, .inr (0, cfs))] H := hP.sub [0, 1] rfl
  have hD : va_D A [(h0, .inr (7, [.ref a1, .ref a2, .ref a3, .ref sp, .int 0, .int 0, .int 0, .int 0, .ref q1, .int 0, .ref q2, .ref q3, .ref q4, .int 0, .ref q5, .ref q6, .ref q7, .int 0])), (a3, .inr (0, cfs))] := hD.sub [0, 1] (by decide) rfl
  have hK : va_K D vwCl [] s := hK.sub [] rfl
  have hP : va_P D vwCl [(h0, .inr (7, [.ref a1, .ref a2, .ref a3, .ref sp, .int 0, .int 0, .int 0, .int 0, .ref q1, .int 0, .ref q2, .ref q3, .ref q4, .int 0, .ref q5, .ref q6, .ref q7, .int 0])), (a3, .inr (0, cfs))] H := hP.sub [0, 1] rfl
  have hD : va_D A [(h0, .inr (7, [.ref a1, .ref a2, .ref a3, .ref sp, .int 0, .int 0, .int 0, .int 0, .ref q1, .int 0, .ref q2, .ref q3, .ref q4, .int 0, .ref q5, .ref q6, .ref q7, .int 0])), (a3, .inr (0, cfs))] := hD.sub [0, 1] (by decide) rfl
  have hK : va_K D vwCl [] s := hK.sub [] rfl
  exact W.vret hx hb hr (fun t ht hW => ⟨⟨(), rfl, trivial, q1, q2, q3, q4, q5, q6, q7, by rw [ht]; exact hP, va_K.moved hW.alike hK, hD⟩, hS.F ht⟩) hS.2.2 dX7_init_83
noncomputable def v_c_Deed_init : List Cond := .code yX1_init cX1_init 1 none :: ([.methodLink RX1 1 objectInit, .instanceMethod objectInit, .code objectInit ⟨#[0xb1]⟩ 1 none] ++ ([]))
theorem t_v_c_Deed_init : ∀ w ∈ v_c_Deed_init, w ∈ lw_tbl := tb_c (List.mem_of_getElem? (i := 565) (by decide +kernel)) (tb_a (tb_c (List.mem_of_getElem? (i := 566) (by decide +kernel)) (tb_c (List.mem_of_getElem? (i := 239) (by decide +kernel)) (tb_c (List.mem_of_getElem? (i := 240) (by decide +kernel)) (tb_n)))) (tb_n))
set_option maxHeartbeats 400000 in
set_option maxRecDepth 100000 in
/-- Deed() -/
theorem c_Deed_init (l : Launch) (D : va_G) (h0 : Nat) (sz : Nat) : Met l yX1_init v_c_Deed_init ({ frames := 1, cells := 0, slots := 0, locals := 12 }) (va_Pc [.ref h0] (st_ D [(h0, .inr (1, [.int 0, .int 0, .int 0, .int 0, .int 0, .int 0, .int 0]))] [] sz)) (va_Qv (fun _ : Unit => True) (fun _ t => va_P D vwCl [(h0, .inr (1, [.int 0, .int 0, .int 0, .int 0, .int 0, .int 0, .int 0]))] t.heap ∧ va_K D vwCl [] t ∧ va_D (va_A [(h0, .inr (1, [.int 0, .int 0, .int 0, .int 0, .int 0, .int 0, .int 0]))] sz) [(h0, .inr (1, [.int 0, .int 0, .int 0, .int 0, .int 0, .int 0, .int 0]))]) (va_A [(h0, .inr (1, [.int 0, .int 0, .int 0, .int 0, .int 0, .int 0, .int 0]))] sz)) 0 0 (va_A [(h0, .inr (1, [.int 0, .int 0, .int 0, .int 0, .int 0, .int 0, .int 0]))] sz) := by
  refine Met.ofW (cc := cX1_init) (maxL := 1) (ret := none) (by decide) rfl ?_
  intro p e s m args below meth c s₁ B hml hv
  obtain ⟨rfl, hsz, hP, hK, hD0, hZ, hE⟩ := hv
  have hx := B.exec
  have hb := B.bytes
  have hr := B.returns
  have hts := atoms_spec (ws := v_c_Deed_init) B.pre
  have hown : s.vm.findClass RX1 = some m.cls := findClass_of_methodNamed B.named
  have hlocks := B.notSynchronized
  have hin : meth.name = "<init>" := (name_of_methodNamed B.named B.method).1
  subst hsz
  have hD := hD0.self (sz := s.heap.size)
  generalize hAe : va_A [(h0, .inr (1, [.int 0, .int 0, .int 0, .int 0, .int 0, .int 0, .int 0]))] s.heap.size = A at hD hZ ⊢
  have hA : ∀ q : Nat, s.heap.size ≤ q → A q := fun q h => by rw [← hAe]; exact Or.inr h
  have hS : va_S A s.heap s.heap [] := va_S.rf
  have hAO := hE.2.2.2.1
  have hP : va_P D vwCl [(h0, .inr (1, [.int 0, .int 0, .int 0, .int 0, .int 0, .int 0, .int 0]))] s.heap := hP
  have hl := lv_entry ([.ref h0]) (n := 1) (Nat.le_of_ble_eq_true rfl)
  rw [lg_entry_eq]
  generalize (lg_sl ([.ref h0]) ++ List.replicate (1 - (lg_sl ([.ref h0])).length) Slot.unset).toArray = ls at hl ⊢
  have hl : lv_has ls 1 [(0, .ref h0)] := hl
  refine lv_aload_n hx hb dX1_init_0 rfl (lv_at hl 0 rfl) ?_
  refine W.objInit hx hb hown (hts (.methodLink RX1 1 objectInit) (by decide +kernel)) (hts (.instanceMethod objectInit) (by decide +kernel)) (hts (.code objectInit ⟨#[0xb1]⟩ 1 none) (by decide +kernel)) rfl (by rw [hml]; exact hl.1) rfl dX1_init_1 (Nat.le_of_ble_eq_true rfl) (Nat.le_of_ble_eq_true rfl) ?_
  refine W.eq (g2 := F0 m 4 ls []) rfl ?_
  have hP : va_P D vwCl [(h0, .inr (1, [.int 0, .int 0, .int 0, .int 0, .int 0, .int 0, .int 0]))] s.heap := hP.sub [0] rfl
  have hD : va_D A [(h0, .inr (1, [.int 0, .int 0, .int 0, .int 0, .int 0, .int 0, .int 0]))] := hD.sub [0] (by decide) rfl
  have hK : va_K D vwCl [] s := hK.sub [] rfl
  exact W.vret hx hb hr (fun t ht hW => ⟨⟨(), rfl, trivial, by rw [ht]; exact hP, va_K.moved hW.alike hK, hD⟩, hS.F ht⟩) hS.2.2 dX1_init_4
noncomputable def v_c_Machine_init : List Cond := .code yX5_init cX5_init 2 none :: ([.methodLink RX5 5 objectInit, .instanceMethod objectInit, .code objectInit ⟨#[0xb1]⟩ 1 none, .fieldLink RX5 11 "ScheduleHouse$Machine" "code" "LScheduleHouse$Code;", .fieldLink RX5 15 "ScheduleHouse$Code" "steps" "LScheduleHouse$Steps;", .fieldLink RX5 21 "ScheduleHouse$Machine" "steps" "LScheduleHouse$Steps;", .classLink RX5 22 RX1, .instantiable RX1 7, .initialized RX1, .instanceMethod yX1_init, .fieldLink RX5 25 "ScheduleHouse$Machine" "deed" "LScheduleHouse$Deed;", .arrayClass .int, .fieldLink RX5 29 "ScheduleHouse$Machine" "row" "[I", .fieldLink RX5 33 "ScheduleHouse$Machine" "listThread" "[I", .fieldLink RX5 36 "ScheduleHouse$Machine" "listLate" "[I", .fieldLink RX5 39 "ScheduleHouse$Machine" "listWoken" "[I"] ++ (wsX50 ++ (wsX00 ++ (wsX10 ++ (v_c_Deed_init ++ ([]))))))
theorem i_v_c_Machine_init_X5 : ∀ w ∈ wsX50, w ∈ v_c_Machine_init := fun _ h => List.mem_cons_of_mem _ (List.mem_append_right _ (List.mem_append_left _ h))
theorem i_v_c_Machine_init_X0 : ∀ w ∈ wsX00, w ∈ v_c_Machine_init := fun _ h => List.mem_cons_of_mem _ (List.mem_append_right _ (List.mem_append_right _ (List.mem_append_left _ h)))
theorem i_v_c_Machine_init_X1 : ∀ w ∈ wsX10, w ∈ v_c_Machine_init := fun _ h => List.mem_cons_of_mem _ (List.mem_append_right _ (List.mem_append_right _ (List.mem_append_right _ (List.mem_append_left _ h))))
theorem g_v_c_Machine_init_3 : GoodIn v_c_Machine_init (v_c_Deed_init) := goodIn_sub (fun _ h => List.mem_cons_of_mem _ (List.mem_append_right _ (List.mem_append_right _ (List.mem_append_right _ (List.mem_append_right _ (List.mem_append_left _ h)))))) (by decide +kernel)
theorem t_v_c_Machine_init : ∀ w ∈ v_c_Machine_init, w ∈ lw_tbl := tb_c (List.mem_of_getElem? (i := 559) (by decide +kernel)) (tb_a (tb_l (ps := [560, 239, 240, 601, 398, 602, 561, 562, 213, 564, 603, 287, 607, 616, 619, 622]) (by decide +kernel)) (tb_a (tw_wsX50) (tb_a (tw_wsX00) (tb_a (tw_wsX10) (tb_a (t_v_c_Deed_init) (tb_n))))))
set_option maxHeartbeats 400000 in
set_option maxRecDepth 100000 in
/-- Machine(code) -/
theorem c_Machine_init (l : Launch) (D : va_G) (h0 a1 sp : Nat) (cfs : List Value) (sz : Nat) (hcs : cfs[0]? = some (.ref sp)) : Met l yX5_init v_c_Machine_init ({ frames := 2, cells := 5, slots := 487, locals := 40 }) (va_Pc [.ref h0, .ref a1] (st_ D [(h0, .inr (5, [.null, .null, .null, .int 0, .null, .int 0, .int 0, .int 0, .int 0, .int 0, .null, .null, .null, .int 0, .int 0])), (a1, .inr (0, cfs))] [] sz)) (va_Qv (fun _ : Unit => True) (fun _ t => ∃ (q1 : Nat) (q2 : Nat) (q3 : Nat) (q4 : Nat) (q5 : Nat), va_P D vwCl [(h0, .inr (5, [.ref a1, .ref sp, .ref q1, .int 0, .ref q2, .int 0, .int 0, .int 0, .int 0, .int 0, .ref q3, .ref q4, .ref q5, .int 0, .int 0])), (a1, .inr (0, cfs))] t.heap ∧ va_K D vwCl [] t ∧ va_D (va_A [(h0, .inr (5, [.null, .null, .null, .int 0, .null, .int 0, .int 0, .int 0, .int 0, .int 0, .null, .null, .null, .int 0, .int 0])), (a1, .inr (0, cfs))] sz) [(h0, .inr (5, [.ref a1, .ref sp, .ref q1, .int 0, .ref q2, .int 0, .int 0, .int 0, .int 0, .int 0, .ref q3, .ref q4, .ref q5, .int 0, .int 0])), (a1, .inr (0, cfs))]) (va_A [(h0, .inr (5, [.null, .null, .null, .int 0, .null, .int 0, .int 0, .int 0, .int 0, .int 0, .null, .null, .null, .int 0, .int 0])), (a1, .inr (0, cfs))] sz)) 5 487 (va_A [(h0, .inr (5, [.null, .null, .null, .int 0, .null, .int 0, .int 0, .int 0, .int 0, .int 0, .null, .null, .null, .int 0, .int 0])), (a1, .inr (0, cfs))] sz) := by
  refine Met.ofW (cc := cX5_init) (maxL := 2) (ret := none) (by decide) rfl ?_
  intro p e s m args below meth c s₁ B hml hv
  obtain ⟨rfl, hsz, hP, hK, hD0, hZ, hE⟩ := hv
  have hx := B.exec
  have hb := B.bytes
  have hr := B.returns
  have hts := atoms_spec (ws := v_c_Machine_init) B.pre
  have hown : s.vm.findClass RX5 = some m.cls := findClass_of_methodNamed B.named
  have hlocks := B.notSynchronized
  have hin : meth.name = "<init>" := (name_of_methodNamed B.named B.method).1
  subst hsz
  have hD := hD0.self (sz := s.heap.size)
  generalize hAe : va_A [(h0, .inr (5, [.null, .null, .null, .int 0, .null, .int 0, .int 0, .int 0, .int 0, .int 0, .null, .null, .null, .int 0, .int 0])), (a1, .inr (0, cfs))] s.heap.size = A at hD hZ ⊢
  have hA : ∀ q : Nat, s.heap.size ≤ q → A q := fun q h => by rw [← hAe]; exact Or.inr h
  have hS : va_S A s.heap s.heap [] := va_S.rf
  have hAO := hE.2.2.2.1
  have hP : va_P D vwCl [(h0, .inr (5, [.null, .null, .null, .int 0, .null, .int 0, .int 0, .int 0, .int 0, .int 0, .null, .null, .null, .int 0, .int 0])), (a1, .inr (0, cfs))] s.heap := hP
  have hl := lv_entry ([.ref h0, .ref a1]) (n := 2) (Nat.le_of_ble_eq_true rfl)
  rw [lg_entry_eq]
  generalize (lg_sl ([.ref h0, .ref a1]) ++ List.replicate (2 - (lg_sl ([.ref h0, .ref a1])).length) Slot.unset).toArray = ls at hl ⊢
  have hl : lv_has ls 2 [(0, .ref h0), (1, .ref a1)] := hl
  refine lv_aload_n hx hb dX5_init_0 rfl (lv_at hl 0 rfl) ?_
  refine W.objInit hx hb hown (hts (.methodLink RX5 5 objectInit) (by decide +kernel)) (hts (.instanceMethod objectInit) (by decide +kernel)) (hts (.code objectInit ⟨#[0xb1]⟩ 1 none) (by decide +kernel)) rfl (by rw [hml]; exact hl.1) rfl dX5_init_1 (Nat.le_of_ble_eq_true rfl) (Nat.le_of_ble_eq_true rfl) ?_
  refine W.eq (g2 := F0 m 4 ls []) rfl ?_
  refine lv_aload_n hx hb dX5_init_4 rfl (lv_at hl 0 rfl) ?_
  refine lv_aload_n hx hb dX5_init_5 rfl (lv_at hl 1 rfl) ?_
  refine va_putF (D := D) (ci := 5) (v := .ref a1) (ty := .object "ScheduleHouse$Code") (C := RX5) (T := TX5) (N := 15) hx hb hts i_v_c_Machine_init_X5 tyX5 tyX5_ok nmX5 hown hK hP hD hS 0 rfl rfl 0 (by decide) (hts (.fieldLink RX5 11 "ScheduleHouse$Machine" "code" "LScheduleHouse$Code;") (by decide +kernel)) (fun _ h9 => h9) rfl hin rfl (by decide +kernel) rfl rfl (Nat.le_of_ble_eq_true rfl) dX5_init_6 (fun H locs hP hD hS => ?_)
  have hP : va_P D vwCl [(h0, .inr (5, [.ref a1, .null, .null, .int 0, .null, .int 0, .int 0, .int 0, .int 0, .int 0, .null, .null, .null, .int 0, .int 0])), (a1, .inr (0, cfs))] H := hP
  have hD : va_D A [(h0, .inr (5, [.ref a1, .null, .null, .int 0, .null, .int 0, .int 0, .int 0, .int 0, .int 0, .null, .null, .null, .int 0, .int 0])), (a1, .inr (0, cfs))] := hD
  refine lv_aload_n hx hb dX5_init_9 rfl (lv_at hl 0 rfl) ?_
  refine lv_aload_n hx hb dX5_init_10 rfl (lv_at hl 1 rfl) ?_
  refine va_get (D := D) (ci := 0) (v := .ref sp) (C := RX0) (T := TX0) (N := 18) hx hb hts i_v_c_Machine_init_X0 hown hK hP 1 rfl rfl 0 (by decide) (hts (.fieldLink RX5 15 "ScheduleHouse$Code" "steps" "LScheduleHouse$Steps;") (by decide +kernel)) (fun _ h9 => h9) hcs dX5_init_11 ?_
  refine va_putF (D := D) (ci := 5) (v := .ref sp) (ty := .object "ScheduleHouse$Steps") (C := RX5) (T := TX5) (N := 15) hx hb hts i_v_c_Machine_init_X5 tyX5 tyX5_ok nmX5 hown hK hP hD hS 0 rfl rfl 1 (by decide) (hts (.fieldLink RX5 21 "ScheduleHouse$Machine" "steps" "LScheduleHouse$Steps;") (by decide +kernel)) (fun _ h9 => h9) rfl hin rfl (by decide +kernel) rfl rfl (Nat.le_of_ble_eq_true rfl) dX5_init_14 (fun H locs hP hD hS => ?_)
  have hP : va_P D vwCl [(h0, .inr (5, [.ref a1, .ref sp, .null, .int 0, .null, .int 0, .int 0, .int 0, .int 0, .int 0, .null, .null, .null, .int 0, .int 0])), (a1, .inr (0, cfs))] H := hP
  have hD : va_D A [(h0, .inr (5, [.ref a1, .ref sp, .null, .int 0, .null, .int 0, .int 0, .int 0, .int 0, .int 0, .null, .null, .null, .int 0, .int 0])), (a1, .inr (0, cfs))] := hD
  refine lv_aload_n hx hb dX5_init_17 rfl (lv_at hl 0 rfl) ?_
  refine va_new (ci := 1) (fs := [.int 0, .int 0, .int 0, .int 0, .int 0, .int 0, .int 0]) (C := RX1) (T := TX1) (N := 7) hx hb hts i_v_c_Machine_init_X1 tyX1 tyX1_ok hown (hts (.classLink RX5 22 RX1) (by decide +kernel)) (hts (.instantiable RX1 7) (by decide +kernel)) (hts (.initialized RX1) (by decide +kernel)) hK hP hD hS hA rfl (by decide +kernel) (Nat.le_of_ble_eq_true rfl) (Nat.le_of_ble_eq_true rfl) dX5_init_18 (fun q1 H hP hD hS => ?_)
  have hP : va_P D vwCl [(h0, .inr (5, [.ref a1, .ref sp, .null, .int 0, .null, .int 0, .int 0, .int 0, .int 0, .int 0, .null, .null, .null, .int 0, .int 0])), (a1, .inr (0, cfs)), (q1, .inr (1, [.int 0, .int 0, .int 0, .int 0, .int 0, .int 0, .int 0]))] H := hP
  have hD : va_D A [(h0, .inr (5, [.ref a1, .ref sp, .null, .int 0, .null, .int 0, .int 0, .int 0, .int 0, .int 0, .null, .null, .null, .int 0, .int 0])), (a1, .inr (0, cfs)), (q1, .inr (1, [.int 0, .int 0, .int 0, .int 0, .int 0, .int 0, .int 0]))] := hD
  refine W.widen (k := 1) (n := 7) (Nat.le_of_ble_eq_true rfl) (Nat.le_of_ble_eq_true rfl) ?_
  refine lv_dup hx hb dX5_init_21 rfl ?_
  have hPc := hP.sub (ws' := [(q1, .inr (1, [.int 0, .int 0, .int 0, .int 0, .int 0, .int 0, .int 0]))]) [2] rfl
  have hDc := hD.sub (ws' := [(q1, .inr (1, [.int 0, .int 0, .int 0, .int 0, .int 0, .int 0, .int 0]))]) [2] (by decide) rfl
  have hKc := hK.sub (tys' := []) [] rfl
  have hFc := va_free (wc := [(q1, .inr (1, [.int 0, .int 0, .int 0, .int 0, .int 0, .int 0, .int 0]))]) hD hS hA [2] rfl
  refine va_callv (va_runIN (As := []) (rest := [.ref q1, .ref h0]) ⟨hx, hb, hml, hown, hts⟩ (c_Deed_init l D q1 H.size) ⟨va_cnB 0 hts g_v_c_Machine_init_3 rfl rfl rfl hE.2.2.2.2 (hts (.initialized RX1) (by decide +kernel)) (by decide +kernel) ⟨Nat.le_of_ble_eq_true rfl, Nat.le_of_ble_eq_true rfl⟩, rfl, hts (.instanceMethod yX1_init) (by decide +kernel)⟩ ⟨st_blind, fun U hU hW => ⟨rfl, st_call hU hW hPc hKc hDc hZ hS hFc hE⟩⟩ rfl rfl hl.1 rfl (lv_room (Nat.le_of_ble_eq_true rfl)) dX5_init_22 ⟨Nat.le_of_ble_eq_true rfl, Nat.le_of_ble_eq_true rfl⟩) hS (fun q _ h => hFc q h) hFc (fun _ t H1 locs ht hvm hw hB hz1 hk1 hS => ?_)
  obtain ⟨hP1, hK1, hD1⟩ := hB
  rw [ht] at hP1
  have hK1 := va_K.moved hvm.symm hK1
  obtain ⟨hP, hD⟩ := va_join (wr := [(h0, .inr (5, [.ref a1, .ref sp, .null, .int 0, .null, .int 0, .int 0, .int 0, .int 0, .int 0, .null, .null, .null, .int 0, .int 0])), (a1, .inr (0, cfs))]) (w1 := [(q1, .inr (1, [.int 0, .int 0, .int 0, .int 0, .int 0, .int 0, .int 0]))]) hP hD [2] [0, 1] rfl rfl (by decide) (by decide) hk1 hFc hP1 hD1
  have hK := (hK.sub (tys' := []) [] rfl).app hK1
  generalize H1 = H at hP hS ⊢
  have hP : va_P D vwCl [(h0, .inr (5, [.ref a1, .ref sp, .null, .int 0, .null, .int 0, .int 0, .int 0, .int 0, .int 0, .null, .null, .null, .int 0, .int 0])), (a1, .inr (0, cfs)), (q1, .inr (1, [.int 0, .int 0, .int 0, .int 0, .int 0, .int 0, .int 0]))] H := hP
  have hD : va_D A [(h0, .inr (5, [.ref a1, .ref sp, .null, .int 0, .null, .int 0, .int 0, .int 0, .int 0, .int 0, .null, .null, .null, .int 0, .int 0])), (a1, .inr (0, cfs)), (q1, .inr (1, [.int 0, .int 0, .int 0, .int 0, .int 0, .int 0, .int 0]))] := hD
  have hK : va_K D vwCl [] s := hK
  refine W.widen (k := 1) (n := 7) (Nat.le_of_ble_eq_true rfl) (Nat.le_of_ble_eq_true rfl) ?_
  have hP : va_P D vwCl [(h0, .inr (5, [.ref a1, .ref sp, .null, .int 0, .null, .int 0, .int 0, .int 0, .int 0, .int 0, .null, .null, .null, .int 0, .int 0])), (a1, .inr (0, cfs))] H := hP.sub [0, 1] rfl
  have hD : va_D A [(h0, .inr (5, [.ref a1, .ref sp, .null, .int 0, .null, .int 0, .int 0, .int 0, .int 0, .int 0, .null, .null, .null, .int 0, .int 0])), (a1, .inr (0, cfs))] := hD.sub [0, 1] (by decide) rfl
  have hK : va_K D vwCl [] s := hK.sub [] rfl
  refine va_putF (D := D) (ci := 5) (v := .ref q1) (ty := .object "ScheduleHouse$Deed") (C := RX5) (T := TX5) (N := 15) hx hb hts i_v_c_Machine_init_X5 tyX5 tyX5_ok nmX5 hown hK hP hD hS 0 rfl rfl 2 (by decide) (hts (.fieldLink RX5 25 "ScheduleHouse$Machine" "deed" "LScheduleHouse$Deed;") (by decide +kernel)) (fun _ h9 => h9) rfl hin rfl (by decide +kernel) rfl rfl (Nat.le_of_ble_eq_true rfl) dX5_init_25 (fun H locs hP hD hS => ?_)
  have hP : va_P D vwCl [(h0, .inr (5, [.ref a1, .ref sp, .ref q1, .int 0, .null, .int 0, .int 0, .int 0, .int 0, .int 0, .null, .null, .null, .int 0, .int 0])), (a1, .inr (0, cfs))] H := hP
  have hD : va_D A [(h0, .inr (5, [.ref a1, .ref sp, .ref q1, .int 0, .null, .int 0, .int 0, .int 0, .int 0, .int 0, .null, .null, .null, .int 0, .int 0])), (a1, .inr (0, cfs))] := hD
  refine lv_aload_n hx hb dX5_init_28 rfl (lv_at hl 0 rfl) ?_
  refine lv_sipush (v := 228) hx hb dX5_init_29 (by decide +kernel) ?_
  refine va_newa (atype := .int) (ty := .int) (N' := 228) (a0 := (228, .inl (fun _ => 0))) hx hb (hts (.arrayClass .int) (by decide +kernel)) rfl hK hP hD hS hA (na_int 228) (by decide +kernel) (by decide +kernel) (by decide +kernel) (Nat.le_of_ble_eq_true rfl) (Nat.le_of_ble_eq_true rfl) dX5_init_32 (fun q2 cq2 H hK hP hD hS => ?_)
  have hP : va_P D vwCl [(h0, .inr (5, [.ref a1, .ref sp, .ref q1, .int 0, .null, .int 0, .int 0, .int 0, .int 0, .int 0, .null, .null, .null, .int 0, .int 0])), (a1, .inr (0, cfs)), (q2, .inl (cq2, 228, .inl (fun _ => 0)))] H := hP
  have hD : va_D A [(h0, .inr (5, [.ref a1, .ref sp, .ref q1, .int 0, .null, .int 0, .int 0, .int 0, .int 0, .int 0, .null, .null, .null, .int 0, .int 0])), (a1, .inr (0, cfs)), (q2, .inl (cq2, 228, .inl (fun _ => 0)))] := hD
  have hK : va_K D vwCl [(cq2, .int)] s := hK
  refine W.widen (k := 2) (n := 235) (Nat.le_of_ble_eq_true rfl) (Nat.le_of_ble_eq_true rfl) ?_
  refine va_putF (D := D) (ci := 5) (v := .ref q2) (ty := .array .int) (C := RX5) (T := TX5) (N := 15) hx hb hts i_v_c_Machine_init_X5 tyX5 tyX5_ok nmX5 hown hK hP hD hS 0 rfl rfl 4 (by decide) (hts (.fieldLink RX5 29 "ScheduleHouse$Machine" "row" "[I") (by decide +kernel)) (fun _ h9 => h9) rfl hin rfl (by decide +kernel) rfl rfl (Nat.le_of_ble_eq_true rfl) dX5_init_34 (fun H locs hP hD hS => ?_)
  have hP : va_P D vwCl [(h0, .inr (5, [.ref a1, .ref sp, .ref q1, .int 0, .ref q2, .int 0, .int 0, .int 0, .int 0, .int 0, .null, .null, .null, .int 0, .int 0])), (a1, .inr (0, cfs)), (q2, .inl (cq2, 228, .inl (fun _ => 0)))] H := hP
  have hD : va_D A [(h0, .inr (5, [.ref a1, .ref sp, .ref q1, .int 0, .ref q2, .int 0, .int 0, .int 0, .int 0, .int 0, .null, .null, .null, .int 0, .int 0])), (a1, .inr (0, cfs)), (q2, .inl (cq2, 228, .inl (fun _ => 0)))] := hD
  have hP : va_P D vwCl [(h0, .inr (5, [.ref a1, .ref sp, .ref q1, .int 0, .ref q2, .int 0, .int 0, .int 0, .int 0, .int 0, .null, .null, .null, .int 0, .int 0])), (a1, .inr (0, cfs))] H := hP.sub [0, 1] rfl
  have hD : va_D A [(h0, .inr (5, [.ref a1, .ref sp, .ref q1, .int 0, .ref q2, .int 0, .int 0, .int 0, .int 0, .int 0, .null, .null, .null, .int 0, .int 0])), (a1, .inr (0, cfs))] := hD.sub [0, 1] (by decide) rfl
  have hK : va_K D vwCl [] s := hK.sub [] rfl
  refine lv_aload_n hx hb dX5_init_37 rfl (lv_at hl 0 rfl) ?_
  refine lv_bipush (v := 84) hx hb dX5_init_38 (by decide +kernel) ?_
  refine va_newa (atype := .int) (ty := .int) (N' := 84) (a0 := (84, .inl (fun _ => 0))) hx hb (hts (.arrayClass .int) (by decide +kernel)) rfl hK hP hD hS hA (na_int 84) (by decide +kernel) (by decide +kernel) (by decide +kernel) (Nat.le_of_ble_eq_true rfl) (Nat.le_of_ble_eq_true rfl) dX5_init_40 (fun q3 cq3 H hK hP hD hS => ?_)
  have hP : va_P D vwCl [(h0, .inr (5, [.ref a1, .ref sp, .ref q1, .int 0, .ref q2, .int 0, .int 0, .int 0, .int 0, .int 0, .null, .null, .null, .int 0, .int 0])), (a1, .inr (0, cfs)), (q3, .inl (cq3, 84, .inl (fun _ => 0)))] H := hP
  have hD : va_D A [(h0, .inr (5, [.ref a1, .ref sp, .ref q1, .int 0, .ref q2, .int 0, .int 0, .int 0, .int 0, .int 0, .null, .null, .null, .int 0, .int 0])), (a1, .inr (0, cfs)), (q3, .inl (cq3, 84, .inl (fun _ => 0)))] := hD
  have hK : va_K D vwCl [(cq3, .int)] s := hK
  refine W.widen (k := 3) (n := 319) (Nat.le_of_ble_eq_true rfl) (Nat.le_of_ble_eq_true rfl) ?_
  refine va_putF (D := D) (ci := 5) (v := .ref q3) (ty := .array .int) (C := RX5) (T := TX5) (N := 15) hx hb hts i_v_c_Machine_init_X5 tyX5 tyX5_ok nmX5 hown hK hP hD hS 0 rfl rfl 10 (by decide) (hts (.fieldLink RX5 33 "ScheduleHouse$Machine" "listThread" "[I") (by decide +kernel)) (fun _ h9 => h9) rfl hin rfl (by decide +kernel) rfl rfl (Nat.le_of_ble_eq_true rfl) dX5_init_42 (fun H locs hP hD hS => ?_)
  have hP : va_P D vwCl [(h0, .inr (5, [.ref a1, .ref sp, .ref q1, .int 0, .ref q2, .int 0, .int 0, .int 0, .int 0, .int 0, .ref q3, .null, .null, .int 0, .int 0])), (a1, .inr (0, cfs)), (q3, .inl (cq3, 84, .inl (fun _ => 0)))] H := hP
  have hD : va_D A [(h0, .inr (5, [.ref a1, .ref sp, .ref q1, .int 0, .ref q2, .int 0, .int 0, .int 0, .int 0, .int 0, .ref q3, .null, .null, .int 0, .int 0])), (a1, .inr (0, cfs)), (q3, .inl (cq3, 84, .inl (fun _ => 0)))] := hD
  have hP : va_P D vwCl [(h0, .inr (5, [.ref a1, .ref sp, .ref q1, .int 0, .ref q2, .int 0, .int 0, .int 0, .int 0, .int 0, .ref q3, .null, .null, .int 0, .int 0])), (a1, .inr (0, cfs))] H := hP.sub [0, 1] rfl
  have hD : va_D A [(h0, .inr (5, [.ref a1, .ref sp, .ref q1, .int 0, .ref q2, .int 0, .int 0, .int 0, .int 0, .int 0, .ref q3, .null, .null, .int 0, .int 0])), (a1, .inr (0, cfs))] := hD.sub [0, 1] (by decide) rfl
  have hK : va_K D vwCl [] s := hK.sub [] rfl
  refine lv_aload_n hx hb dX5_init_45 rfl (lv_at hl 0 rfl) ?_
  refine lv_bipush (v := 84) hx hb dX5_init_46 (by decide +kernel) ?_
  refine va_newa (atype := .int) (ty := .int) (N' := 84) (a0 := (84, .inl (fun _ => 0))) hx hb (hts (.arrayClass .int) (by decide +kernel)) rfl hK hP hD hS hA (na_int 84) (by decide +kernel) (by decide +kernel) (by decide +kernel) (Nat.le_of_ble_eq_true rfl) (Nat.le_of_ble_eq_true rfl) dX5_init_48 (fun q4 cq4 H hK hP hD hS => ?_)
  have hP : va_P D vwCl [(h0, .inr (5, [.ref a1, .ref sp, .ref q1, .int 0, .ref q2, .int 0, .int 0, .int 0, .int 0, .int 0, .ref q3, .null, .null, .int 0, .int 0])), (a1, .inr (0, cfs)), (q4, .inl (cq4, 84, .inl (fun _ => 0)))] H := hP
  have hD : va_D A [(h0, .inr (5, [.ref a1, .ref sp, .ref q1, .int 0, .ref q2, .int 0, .int 0, .int 0, .int 0, .int 0, .ref q3, .null, .null, .int 0, .int 0])), (a1, .inr (0, cfs)), (q4, .inl (cq4, 84, .inl (fun _ => 0)))] := hD
  have hK : va_K D vwCl [(cq4, .int)] s := hK
  refine W.widen (k := 4) (n := 403) (Nat.le_of_ble_eq_true rfl) (Nat.le_of_ble_eq_true rfl) ?_
  refine va_putF (D := D) (ci := 5) (v := .ref q4) (ty := .array .int) (C := RX5) (T := TX5) (N := 15) hx hb hts i_v_c_Machine_init_X5 tyX5 tyX5_ok nmX5 hown hK hP hD hS 0 rfl rfl 11 (by decide) (hts (.fieldLink RX5 36 "ScheduleHouse$Machine" "listLate" "[I") (by decide +kernel)) (fun _ h9 => h9) rfl hin rfl (by decide +kernel) rfl rfl (Nat.le_of_ble_eq_true rfl) dX5_init_50 (fun H locs hP hD hS => ?_)
  have hP : va_P D vwCl [(h0, .inr (5, [.ref a1, .ref sp, .ref q1, .int 0, .ref q2, .int 0, .int 0, .int 0, .int 0, .int 0, .ref q3, .ref q4, .null, .int 0, .int 0])), (a1, .inr (0, cfs)), (q4, .inl (cq4, 84, .inl (fun _ => 0)))] H := hP
  have hD : va_D A [(h0, .inr (5, [.ref a1, .ref sp, .ref q1, .int 0, .ref q2, .int 0, .int 0, .int 0, .int 0, .int 0, .ref q3, .ref q4, .null, .int 0, .int 0])), (a1, .inr (0, cfs)), (q4, .inl (cq4, 84, .inl (fun _ => 0)))] := hD
  have hP : va_P D vwCl [(h0, .inr (5, [.ref a1, .ref sp, .ref q1, .int 0, .ref q2, .int 0, .int 0, .int 0, .int 0, .int 0, .ref q3, .ref q4, .null, .int 0, .int 0])), (a1, .inr (0, cfs))] H := hP.sub [0, 1] rfl
  have hD : va_D A [(h0, .inr (5, [.ref a1, .ref sp, .ref q1, .int 0, .ref q2, .int 0, .int 0, .int 0, .int 0, .int 0, .ref q3, .ref q4, .null, .int 0, .int 0])), (a1, .inr (0, cfs))] := hD.sub [0, 1] (by decide) rfl
  have hK : va_K D vwCl [] s := hK.sub [] rfl
  refine lv_aload_n hx hb dX5_init_53 rfl (lv_at hl 0 rfl) ?_
  refine lv_bipush (v := 84) hx hb dX5_init_54 (by decide +kernel) ?_
  refine va_newa (atype := .int) (ty := .int) (N' := 84) (a0 := (84, .inl (fun _ => 0))) hx hb (hts (.arrayClass .int) (by decide +kernel)) rfl hK hP hD hS hA (na_int 84) (by decide +kernel) (by decide +kernel) (by decide +kernel) (Nat.le_of_ble_eq_true rfl) (Nat.le_of_ble_eq_true rfl) dX5_init_56 (fun q5 cq5 H hK hP hD hS => ?_)
  have hP : va_P D vwCl [(h0, .inr (5, [.ref a1, .ref sp, .ref q1, .int 0, .ref q2, .int 0, .int 0, .int 0, .int 0, .int 0, .ref q3, .ref q4, .null, .int 0, .int 0])), (a1, .inr (0, cfs)), (q5, .inl (cq5, 84, .inl (fun _ => 0)))] H := hP
  have hD : va_D A [(h0, .inr (5, [.ref a1, .ref sp, .ref q1, .int 0, .ref q2, .int 0, .int 0, .int 0, .int 0, .int 0, .ref q3, .ref q4, .null, .int 0, .int 0])), (a1, .inr (0, cfs)), (q5, .inl (cq5, 84, .inl (fun _ => 0)))] := hD
  have hK : va_K D vwCl [(cq5, .int)] s := hK
  refine W.widen (k := 5) (n := 487) (Nat.le_of_ble_eq_true rfl) (Nat.le_of_ble_eq_true rfl) ?_
  refine va_putF (D := D) (ci := 5) (v := .ref q5) (ty := .array .int) (C := RX5) (T := TX5) (N := 15) hx hb hts i_v_c_Machine_init_X5 tyX5 tyX5_ok nmX5 hown hK hP hD hS 0 rfl rfl 12 (by decide) (hts (.fieldLink RX5 39 "ScheduleHouse$Machine" "listWoken" "[I") (by decide +kernel)) (fun _ h9 => h9) rfl hin rfl (by decide +kernel) rfl rfl (Nat.le_of_ble_eq_true rfl) dX5_init_58 (fun H locs hP hD hS => ?_)
  have hP : va_P D vwCl [(h0, .inr (5, [.ref a1, .ref sp, .ref q1, .int 0, .ref q2, .int 0, .int 0, .int 0, .int 0, .int 0, .ref q3, .ref q4, .ref q5, .int 0, .int 0])), (a1, .inr (0, cfs)), (q5, .inl (cq5, 84, .inl (fun _ => 0)))] H := hP
  have hD : va_D A [(h0, .inr (5, [.ref a1, .ref sp, .ref q1, .int 0, .ref q2, .int 0, .int 0, .int 0, .int 0, .int 0, .ref q3, .ref q4, .ref q5, .int 0, .int 0])), (a1, .inr (0, cfs)), (q5, .inl (cq5, 84, .inl (fun _ => 0)))] := hD
  have hP : va_P D vwCl [(h0, .inr (5, [.ref a1, .ref sp, .ref q1, .int 0, .ref q2, .int 0, .int 0, .int 0, .int 0, .int 0, .ref q3, .ref q4, .ref q5, .int 0, .int 0])), (a1, .inr (0, cfs))] H := hP.sub [0, 1] rfl
  have hD : va_D A [(h0, .inr (5, [.ref a1, .ref sp, .ref q1, .int 0, .ref q2, .int 0, .int 0, .int 0, .int 0, .int 0, .ref q3, .ref q4, .ref q5, .int 0, .int 0])), (a1, .inr (0, cfs))] := hD.sub [0, 1] (by decide) rfl
  have hK : va_K D vwCl [] s := hK.sub [] rfl
  have hP : va_P D vwCl [(h0, .inr (5, [.ref a1, .ref sp, .ref q1, .int 0, .ref q2, .int 0, .int 0, .int 0, .int 0, .int 0, .ref q3, .ref q4, .ref q5, .int 0, .int 0])), (a1, .inr (0, cfs))] H := hP.sub [0, 1] rfl
  have hD : va_D A [(h0, .inr (5, [.ref a1, .ref sp, .ref q1, .int 0, .ref q2, .int 0, .int 0, .int 0, .int 0, .int 0, .ref q3, .ref q4, .ref q5, .int 0, .int 0])), (a1, .inr (0, cfs))] := hD.sub [0, 1] (by decide) rfl
  have hK : va_K D vwCl [] s := hK.sub [] rfl
  exact W.vret hx hb hr (fun t ht hW => ⟨⟨(), rfl, trivial, q1, q2, q3, q4, q5, by rw [ht]; exact hP, va_K.moved hW.alike hK, hD⟩, hS.F ht⟩) hS.2.2 dX5_init_61
noncomputable def v_c_Journal_init : List Cond := .code yX4_init cX4_init 2 none :: ([.methodLink RX4 5 objectInit, .instanceMethod objectInit, .code objectInit ⟨#[0xb1]⟩ 1 none, .fieldLink RX4 11 "ScheduleHouse$Journal" "code" "LScheduleHouse$Code;", .arrayClass .int, .fieldLink RX4 17 "ScheduleHouse$Journal" "chosen" "[I", .fieldLink RX4 21 "ScheduleHouse$Journal" "thread" "[I", .fieldLink RX4 24 "ScheduleHouse$Journal" "sort" "[I", .fieldLink RX4 27 "ScheduleHouse$Journal" "object" "[I", .fieldLink RX4 30 "ScheduleHouse$Journal" "read" "[I", .fieldLink RX4 33 "ScheduleHouse$Journal" "wrote" "[I", .arrayClass .boolean, .fieldLink RX4 36 "ScheduleHouse$Journal" "failed" "[Z", .fieldLink RX4 40 "ScheduleHouse$Journal" "racesUpTo" "[I", .fieldLink RX4 43 "ScheduleHouse$Journal" "clock" "[I", .fieldLink RX4 46 "ScheduleHouse$Journal" "lastAct" "[I", .fieldLink RX4 49 "ScheduleHouse$Journal" "startClock" "[I", .fieldLink RX4 52 "ScheduleHouse$Journal" "lockClock" "[I", .fieldLink RX4 55 "ScheduleHouse$Journal" "cellClock" "[I", .fieldLink RX4 58 "ScheduleHouse$Journal" "wakeClock" "[I"] ++ (wsX40 ++ ([])))
theorem i_v_c_Journal_init_X4 : ∀ w ∈ wsX40, w ∈ v_c_Journal_init := fun _ h => List.mem_cons_of_mem _ (List.mem_append_right _ (List.mem_append_left _ h))
theorem t_v_c_Journal_init : ∀ w ∈ v_c_Journal_init, w ∈ lw_tbl := tb_c (List.mem_of_getElem? (i := 663) (by decide +kernel)) (tb_a (tb_l (ps := [664, 239, 240, 665, 287, 666, 675, 678, 681, 684, 686, 492, 689, 691, 692, 693, 694, 695, 696, 697]) (by decide +kernel)) (tb_a (tw_wsX40) (tb_n)))
set_option maxHeartbeats 400000 in
set_option maxRecDepth 100000 in
/-- Journal(code) -/
theorem c_Journal_init (l : Launch) (D : va_G) (h0 a1 : Nat) (sz : Nat) : Met l yX4_init v_c_Journal_init ({ frames := 1, cells := 14, slots := 5858, locals := 12 }) (va_Pc [.ref h0, .ref a1] (st_ D [(h0, .inr (4, [.null, .null, .int 0, .int 0, .int 0, .null, .null, .null, .null, .null, .null, .null, .null, .null, .null, .null, .null, .null]))] [] sz)) (va_Qv (fun _ : Unit => True) (fun _ t => ∃ (q1 : Nat) (q2 : Nat) (q3 : Nat) (q4 : Nat) (q5 : Nat) (q6 : Nat) (q7 : Nat) (q8 : Nat) (q9 : Nat) (q10 : Nat) (q11 : Nat) (q12 : Nat) (q13 : Nat) (q14 : Nat), va_P D vwCl [(h0, .inr (4, [.ref a1, .ref q1, .int 0, .int 0, .int 0, .ref q2, .ref q3, .ref q4, .ref q5, .ref q6, .ref q7, .ref q8, .ref q9, .ref q10, .ref q11, .ref q12, .ref q13, .ref q14]))] t.heap ∧ va_K D vwCl [] t ∧ va_D (va_A [(h0, .inr (4, [.null, .null, .int 0, .int 0, .int 0, .null, .null, .null, .null, .null, .null, .null, .null, .null, .null, .null, .null, .null]))] sz) [(h0, .inr (4, [.ref a1, .ref q1, .int 0, .int 0, .int 0, .ref q2, .ref q3, .ref q4, .ref q5, .ref q6, .ref q7, .ref q8, .ref q9, .ref q10, .ref q11, .ref q12, .ref q13, .ref q14]))]) (va_A [(h0, .inr (4, [.null, .null, .int 0, .int 0, .int 0, .null, .null, .null, .null, .null, .null, .null, .null, .null, .null, .null, .null, .null]))] sz)) 14 5858 (va_A [(h0, .inr (4, [.null, .null, .int 0, .int 0, .int 0, .null, .null, .null, .null, .null, .null, .null, .null, .null, .null, .null, .null, .null]))] sz) := by
  refine Met.ofW (cc := cX4_init) (maxL := 2) (ret := none) (by decide) rfl ?_
  intro p e s m args below meth c s₁ B hml hv
  obtain ⟨rfl, hsz, hP, hK, hD0, hZ, hE⟩ := hv
  have hx := B.exec
  have hb := B.bytes
  have hr := B.returns
  have hts := atoms_spec (ws := v_c_Journal_init) B.pre
  have hown : s.vm.findClass RX4 = some m.cls := findClass_of_methodNamed B.named
  have hlocks := B.notSynchronized
  have hin : meth.name = "<init>" := (name_of_methodNamed B.named B.method).1
  subst hsz
  have hD := hD0.self (sz := s.heap.size)
  generalize hAe : va_A [(h0, .inr (4, [.null, .null, .int 0, .int 0, .int 0, .null, .null, .null, .null, .null, .null, .null, .null, .null, .null, .null, .null, .null]))] s.heap.size = A at hD hZ ⊢
  have hA : ∀ q : Nat, s.heap.size ≤ q → A q := fun q h => by rw [← hAe]; exact Or.inr h
  have hS : va_S A s.heap s.heap [] := va_S.rf
  have hAO := hE.2.2.2.1
  have hP : va_P D vwCl [(h0, .inr (4, [.null, .null, .int 0, .int 0, .int 0, .null, .null, .null, .null, .null, .null, .null, .null, .null, .null, .null, .null, .null]))] s.heap := hP
  have hl := lv_entry ([.ref h0, .ref a1]) (n := 2) (Nat.le_of_ble_eq_true rfl)
  rw [lg_entry_eq]
  generalize (lg_sl ([.ref h0, .ref a1]) ++ List.replicate (2 - (lg_sl ([.ref h0, .ref a1])).length) Slot.unset).toArray = ls at hl ⊢
  have hl : lv_has ls 2 [(0, .ref h0), (1, .ref a1)] := hl
  refine lv_aload_n hx hb dX4_init_0 rfl (lv_at hl 0 rfl) ?_
  refine W.objInit hx hb hown (hts (.methodLink RX4 5 objectInit) (by decide +kernel)) (hts (.instanceMethod objectInit) (by decide +kernel)) (hts (.code objectInit ⟨#[0xb1]⟩ 1 none) (by decide +kernel)) rfl (by rw [hml]; exact hl.1) rfl dX4_init_1 (Nat.le_of_ble_eq_true rfl) (Nat.le_of_ble_eq_true rfl) ?_
  refine W.eq (g2 := F0 m 4 ls []) rfl ?_
  refine lv_aload_n hx hb dX4_init_4 rfl (lv_at hl 0 rfl) ?_
  refine lv_aload_n hx hb dX4_init_5 rfl (lv_at hl 1 rfl) ?_
  refine va_putF (D := D) (ci := 4) (v := .ref a1) (ty := .object "ScheduleHouse$Code") (C := RX4) (T := TX4) (N := 18) hx hb hts i_v_c_Journal_init_X4 tyX4 tyX4_ok nmX4 hown hK hP hD hS 0 rfl rfl 0 (by decide) (hts (.fieldLink RX4 11 "ScheduleHouse$Journal" "code" "LScheduleHouse$Code;") (by decide +kernel)) (fun _ h9 => h9) rfl hin rfl (by decide +kernel) rfl rfl (Nat.le_of_ble_eq_true rfl) dX4_init_6 (fun H locs hP hD hS => ?_)
  have hP : va_P D vwCl [(h0, .inr (4, [.ref a1, .null, .int 0, .int 0, .int 0, .null, .null, .null, .null, .null, .null, .null, .null, .null, .null, .null, .null, .null]))] H := hP
  have hD : va_D A [(h0, .inr (4, [.ref a1, .null, .int 0, .int 0, .int 0, .null, .null, .null, .null, .null, .null, .null, .null, .null, .null, .null, .null, .null]))] := hD
  refine lv_aload_n hx hb dX4_init_9 rfl (lv_at hl 0 rfl) ?_
  refine lv_sipush (v := 400) hx hb dX4_init_10 (by decide +kernel) ?_
  refine va_newa (atype := .int) (ty := .int) (N' := 400) (a0 := (400, .inl (fun _ => 0))) hx hb (hts (.arrayClass .int) (by decide +kernel)) rfl hK hP hD hS hA (na_int 400) (by decide +kernel) (by decide +kernel) (by decide +kernel) (Nat.le_of_ble_eq_true rfl) (Nat.le_of_ble_eq_true rfl) dX4_init_13 (fun q1 cq1 H hK hP hD hS => ?_)
  have hP : va_P D vwCl [(h0, .inr (4, [.ref a1, .null, .int 0, .int 0, .int 0, .null, .null, .null, .null, .null, .null, .null, .null, .null, .null, .null, .null, .null])), (q1, .inl (cq1, 400, .inl (fun _ => 0)))] H := hP
  have hD : va_D A [(h0, .inr (4, [.ref a1, .null, .int 0, .int 0, .int 0, .null, .null, .null, .null, .null, .null, .null, .null, .null, .null, .null, .null, .null])), (q1, .inl (cq1, 400, .inl (fun _ => 0)))] := hD
  have hK : va_K D vwCl [(cq1, .int)] s := hK
  refine W.widen (k := 1) (n := 400) (Nat.le_of_ble_eq_true rfl) (Nat.le_of_ble_eq_true rfl) ?_
  refine va_putF (D := D) (ci := 4) (v := .ref q1) (ty := .array .int) (C := RX4) (T := TX4) (N := 18) hx hb hts i_v_c_Journal_init_X4 tyX4 tyX4_ok nmX4 hown hK hP hD hS 0 rfl rfl 1 (by decide) (hts (.fieldLink RX4 17 "ScheduleHouse$Journal" "chosen" "[I") (by decide +kernel)) (fun _ h9 => h9) rfl hin rfl (by decide +kernel) rfl rfl (Nat.le_of_ble_eq_true rfl) dX4_init_15 (fun H locs hP hD hS => ?_)
  have hP : va_P D vwCl [(h0, .inr (4, [.ref a1, .ref q1, .int 0, .int 0, .int 0, .null, .null, .null, .null, .null, .null, .null, .null, .null, .null, .null, .null, .null])), (q1, .inl (cq1, 400, .inl (fun _ => 0)))] H := hP
  have hD : va_D A [(h0, .inr (4, [.ref a1, .ref q1, .int 0, .int 0, .int 0, .null, .null, .null, .null, .null, .null, .null, .null, .null, .null, .null, .null, .null])), (q1, .inl (cq1, 400, .inl (fun _ => 0)))] := hD
  have hP : va_P D vwCl [(h0, .inr (4, [.ref a1, .ref q1, .int 0, .int 0, .int 0, .null, .null, .null, .null, .null, .null, .null, .null, .null, .null, .null, .null, .null]))] H := hP.sub [0] rfl
  have hD : va_D A [(h0, .inr (4, [.ref a1, .ref q1, .int 0, .int 0, .int 0, .null, .null, .null, .null, .null, .null, .null, .null, .null, .null, .null, .null, .null]))] := hD.sub [0] (by decide) rfl
  have hK : va_K D vwCl [] s := hK.sub [] rfl
  refine lv_aload_n hx hb dX4_init_18 rfl (lv_at hl 0 rfl) ?_
  refine lv_sipush (v := 400) hx hb dX4_init_19 (by decide +kernel) ?_
  refine va_newa (atype := .int) (ty := .int) (N' := 400) (a0 := (400, .inl (fun _ => 0))) hx hb (hts (.arrayClass .int) (by decide +kernel)) rfl hK hP hD hS hA (na_int 400) (by decide +kernel) (by decide +kernel) (by decide +kernel) (Nat.le_of_ble_eq_true rfl) (Nat.le_of_ble_eq_true rfl) dX4_init_22 (fun q2 cq2 H hK hP hD hS => ?_)
  have hP : va_P D vwCl [(h0, .inr (4, [.ref a1, .ref q1, .int 0, .int 0, .int 0, .null, .null, .null, .null, .null, .null, .null, .null, .null, .null, .null, .null, .null])), (q2, .inl (cq2, 400, .inl (fun _ => 0)))] H := hP
  have hD : va_D A [(h0, .inr (4, [.ref a1, .ref q1, .int 0, .int 0, .int 0, .null, .null, .null, .null, .null, .null, .null, .null, .null, .null, .null, .null, .null])), (q2, .inl (cq2, 400, .inl (fun _ => 0)))] := hD
  have hK : va_K D vwCl [(cq2, .int)] s := hK
  refine W.widen (k := 2) (n := 800) (Nat.le_of_ble_eq_true rfl) (Nat.le_of_ble_eq_true rfl) ?_
  refine va_putF (D := D) (ci := 4) (v := .ref q2) (ty := .array .int) (C := RX4) (T := TX4) (N := 18) hx hb hts i_v_c_Journal_init_X4 tyX4 tyX4_ok nmX4 hown hK hP hD hS 0 rfl rfl 5 (by decide) (hts (.fieldLink RX4 21 "ScheduleHouse$Journal" "thread" "[I") (by decide +kernel)) (fun _ h9 => h9) rfl hin rfl (by decide +kernel) rfl rfl (Nat.le_of_ble_eq_true rfl) dX4_init_24 (fun H locs hP hD hS => ?_)
  have hP : va_P D vwCl [(h0, .inr (4, [.ref a1, .ref q1, .int 0, .int 0, .int 0, .ref q2, .null, .null, .null, .null, .null, .null, .null, .null, .null, .null, .null, .null])), (q2, .inl (cq2, 400, .inl (fun _ => 0)))] H := hP
  have hD : va_D A [(h0, .inr (4, [.ref a1, .ref q1, .int 0, .int 0, .int 0, .ref q2, .null, .null, .null, .null, .null, .null, .null, .null, .null, .null, .null, .null])), (q2, .inl (cq2, 400, .inl (fun _ => 0)))] := hD
  have hP : va_P D vwCl [(h0, .inr (4, [.ref a1, .ref q1, .int 0, .int 0, .int 0, .ref q2, .null, .null, .null, .null, .null, .null, .null, .null, .null, .null, .null, .null]))] H := hP.sub [0] rfl
  have hD : va_D A [(h0, .inr (4, [.ref a1, .ref q1, .int 0, .int 0, .int 0, .ref q2, .null, .null, .null, .null, .null, .null, .null, .null, .null, .null, .null, .null]))] := hD.sub [0] (by decide) rfl
  have hK : va_K D vwCl [] s := hK.sub [] rfl
  refine lv_aload_n hx hb dX4_init_27 rfl (lv_at hl 0 rfl) ?_
  refine lv_sipush (v := 400) hx hb dX4_init_28 (by decide +kernel) ?_
  refine va_newa (atype := .int) (ty := .int) (N' := 400) (a0 := (400, .inl (fun _ => 0))) hx hb (hts (.arrayClass .int) (by decide +kernel)) rfl hK hP hD hS hA (na_int 400) (by decide +kernel) (by decide +kernel) (by decide +kernel) (Nat.le_of_ble_eq_true rfl) (Nat.le_of_ble_eq_true rfl) dX4_init_31 (fun q3 cq3 H hK hP hD hS => ?_)
  have hP : va_P D vwCl [(h0, .inr (4, [.ref a1, .ref q1, .int 0, .int 0, .int 0, .ref q2, .null, .null, .null, .null, .null, .null, .null, .null, .null, .null, .null, .null])), (q3, .inl (cq3, 400, .inl (fun _ => 0)))] H := hP
  have hD : va_D A [(h0, .inr (4, [.ref a1, .ref q1, .int 0, .int 0, .int 0, .ref q2, .null, .null, .null, .null, .null, .null, .null, .null, .null, .null, .null, .null])), (q3, .inl (cq3, 400, .inl (fun _ => 0)))] := hD
  have hK : va_K D vwCl [(cq3, .int)] s := hK
  refine W.widen (k := 3) (n := 1200) (Nat.le_of_ble_eq_true rfl) (Nat.le_of_ble_eq_true rfl) ?_
  refine va_putF (D := D) (ci := 4) (v := .ref q3) (ty := .array .int) (C := RX4) (T := TX4) (N := 18) hx hb hts i_v_c_Journal_init_X4 tyX4 tyX4_ok nmX4 hown hK hP hD hS 0 rfl rfl 6 (by decide) (hts (.fieldLink RX4 24 "ScheduleHouse$Journal" "sort" "[I") (by decide +kernel)) (fun _ h9 => h9) rfl hin rfl (by decide +kernel) rfl rfl (Nat.le_of_ble_eq_true rfl) dX4_init_33 (fun H locs hP hD hS => ?_)
  have hP : va_P D vwCl [(h0, .inr (4, [.ref a1, .ref q1, .int 0, .int 0, .int 0, .ref q2, .ref q3, .null, .null, .null, .null, .null, .null, .null, .null, .null, .null, .null])), (q3, .inl (cq3, 400, .inl (fun _ => 0)))] H := hP
  have hD : va_D A [(h0, .inr (4, [.ref a1, .ref q1, .int 0, .int 0, .int 0, .ref q2, .ref q3, .null, .null, .null, .null, .null, .null, .null, .null, .null, .null, .null])), (q3, .inl (cq3, 400, .inl (fun _ => 0)))] := hD
  have hP : va_P D vwCl [(h0, .inr (4, [.ref a1, .ref q1, .int 0, .int 0, .int 0, .ref q2, .ref q3, .null, .null, .null, .null, .null, .null, .null, .null, .null, .null, .null]))] H := hP.sub [0] rfl
  have hD : va_D A [(h0, .inr (4, [.ref a1, .ref q1, .int 0, .int 0, .int 0, .ref q2, .ref q3, .null, .null, .null, .null, .null, .null, .null, .null, .null, .null, .null]))] := hD.sub [0] (by decide) rfl
  have hK : va_K D vwCl [] s := hK.sub [] rfl
  refine lv_aload_n hx hb dX4_init_36 rfl (lv_at hl 0 rfl) ?_
  refine lv_sipush (v := 400) hx hb dX4_init_37 (by decide +kernel) ?_
  refine va_newa (atype := .int) (ty := .int) (N' := 400) (a0 := (400, .inl (fun _ => 0))) hx hb (hts (.arrayClass .int) (by decide +kernel)) rfl hK hP hD hS hA (na_int 400) (by decide +kernel) (by decide +kernel) (by decide +kernel) (Nat.le_of_ble_eq_true rfl) (Nat.le_of_ble_eq_true rfl) dX4_init_40 (fun q4 cq4 H hK hP hD hS => ?_)
  have hP : va_P D vwCl [(h0, .inr (4, [.ref a1, .ref q1, .int 0, .int 0, .int 0, .ref q2, .ref q3, .null, .null, .null, .null, .null, .null, .null, .null, .null, .null, .null])), (q4, .inl (cq4, 400, .inl (fun _ => 0)))] H := hP
  have hD : va_D A [(h0, .inr (4, [.ref a1, .ref q1, .int 0, .int 0, .int 0, .ref q2, .ref q3, .null, .null, .null, .null, .null, .null, .null, .null, .null, .null, .null])), (q4, .inl (cq4, 400, .inl (fun _ => 0)))] := hD
  have hK : va_K D vwCl [(cq4, .int)] s := hK
  refine W.widen (k := 4) (n := 1600) (Nat.le_of_ble_eq_true rfl) (Nat.le_of_ble_eq_true rfl) ?_
  refine va_putF (D := D) (ci := 4) (v := .ref q4) (ty := .array .int) (C := RX4) (T := TX4) (N := 18) hx hb hts i_v_c_Journal_init_X4 tyX4 tyX4_ok nmX4 hown hK hP hD hS 0 rfl rfl 7 (by decide) (hts (.fieldLink RX4 27 "ScheduleHouse$Journal" "object" "[I") (by decide +kernel)) (fun _ h9 => h9) rfl hin rfl (by decide +kernel) rfl rfl (Nat.le_of_ble_eq_true rfl) dX4_init_42 (fun H locs hP hD hS => ?_)
  have hP : va_P D vwCl [(h0, .inr (4, [.ref a1, .ref q1, .int 0, .int 0, .int 0, .ref q2, .ref q3, .ref q4, .null, .null, .null, .null, .null, .null, .null, .null, .null, .null])), (q4, .inl (cq4, 400, .inl (fun _ => 0)))] H := hP
  have hD : va_D A [(h0, .inr (4, [.ref a1, .ref q1, .int 0, .int 0, .int 0, .ref q2, .ref q3, .ref q4, .null, .null, .null, .null, .null, .null, .null, .null, .null, .null])), (q4, .inl (cq4, 400, .inl (fun _ => 0)))] := hD
  have hP : va_P D vwCl [(h0, .inr (4, [.ref a1, .ref q1, .int 0, .int 0, .int 0, .ref q2, .ref q3, .ref q4, .null, .null, .null, .null, .null, .null, .null, .null, .null, .null]))] H := hP.sub [0] rfl
  have hD : va_D A [(h0, .inr (4, [.ref a1, .ref q1, .int 0, .int 0, .int 0, .ref q2, .ref q3, .ref q4, .null, .null, .null, .null, .null, .null, .null, .null, .null, .null]))] := hD.sub [0] (by decide) rfl
  have hK : va_K D vwCl [] s := hK.sub [] rfl
  refine lv_aload_n hx hb dX4_init_45 rfl (lv_at hl 0 rfl) ?_
  refine lv_sipush (v := 400) hx hb dX4_init_46 (by decide +kernel) ?_
  refine va_newa (atype := .int) (ty := .int) (N' := 400) (a0 := (400, .inl (fun _ => 0))) hx hb (hts (.arrayClass .int) (by decide +kernel)) rfl hK hP hD hS hA (na_int 400) (by decide +kernel) (by decide +kernel) (by decide +kernel) (Nat.le_of_ble_eq_true rfl) (Nat.le_of_ble_eq_true rfl) dX4_init_49 (fun q5 cq5 H hK hP hD hS => ?_)
  have hP : va_P D vwCl [(h0, .inr (4, [.ref a1, .ref q1, .int 0, .int 0, .int 0, .ref q2, .ref q3, .ref q4, .null, .null, .null, .null, .null, .null, .null, .null, .null, .null])), (q5, .inl (cq5, 400, .inl (fun _ => 0)))] H := hP
  have hD : va_D A [(h0, .inr (4, [.ref a1, .ref q1, .int 0, .int 0, .int 0, .ref q2, .ref q3, .ref q4, .null, .null, .null, .null, .null, .null, .null, .null, .null, .null])), (q5, .inl (cq5, 400, .inl (fun _ => 0)))] := hD
  have hK : va_K D vwCl [(cq5, .int)] s := hK
  refine W.widen (k := 5) (n := 2000) (Nat.le_of_ble_eq_true rfl) (Nat.le_of_ble_eq_true rfl) ?_
  refine va_putF (D := D) (ci := 4) (v := .ref q5) (ty := .array .int) (C := RX4) (T := TX4) (N := 18) hx hb hts i_v_c_Journal_init_X4 tyX4 tyX4_ok nmX4 hown hK hP hD hS 0 rfl rfl 8 (by decide) (hts (.fieldLink RX4 30 "ScheduleHouse$Journal" "read" "[I") (by decide +kernel)) (fun _ h9 => h9) rfl hin rfl (by decide +kernel) rfl rfl (Nat.le_of_ble_eq_true rfl) dX4_init_51 (fun H locs hP hD hS => ?_)
  have hP : va_P D vwCl [(h0, .inr (4, [.ref a1, .ref q1, .int 0, .int 0, .int 0, .ref q2, .ref q3, .ref q4, .ref q5, .null, .null, .null, .null, .null, .null, .null, .null, .null])), (q5, .inl (cq5, 400, .inl (fun _ => 0)))] H := hP
  have hD : va_D A [(h0, .inr (4, [.ref a1, .ref q1, .int 0, .int 0, .int 0, .ref q2, .ref q3, .ref q4, .ref q5, .null, .null, .null, .null, .null, .null, .null, .null, .null])), (q5, .inl (cq5, 400, .inl (fun _ => 0)))] := hD
  have hP : va_P D vwCl [(h0, .inr (4, [.ref a1, .ref q1, .int 0, .int 0, .int 0, .ref q2, .ref q3, .ref q4, .ref q5, .null, .null, .null, .null, .null, .null, .null, .null, .null]))] H := hP.sub [0] rfl
  have hD : va_D A [(h0, .inr (4, [.ref a1, .ref q1, .int 0, .int 0, .int 0, .ref q2, .ref q3, .ref q4, .ref q5, .null, .null, .null, .null, .null, .null, .null, .null, .null]))] := hD.sub [0] (by decide) rfl
  have hK : va_K D vwCl [] s := hK.sub [] rfl
  refine lv_aload_n hx hb dX4_init_54 rfl (lv_at hl 0 rfl) ?_
  refine lv_sipush (v := 400) hx hb dX4_init_55 (by decide +kernel) ?_
  refine va_newa (atype := .int) (ty := .int) (N' := 400) (a0 := (400, .inl (fun _ => 0))) hx hb (hts (.arrayClass .int) (by decide +kernel)) rfl hK hP hD hS hA (na_int 400) (by decide +kernel) (by decide +kernel) (by decide +kernel) (Nat.le_of_ble_eq_true rfl) (Nat.le_of_ble_eq_true rfl) dX4_init_58 (fun q6 cq6 H hK hP hD hS => ?_)
  have hP : va_P D vwCl [(h0, .inr (4, [.ref a1, .ref q1, .int 0, .int 0, .int 0, .ref q2, .ref q3, .ref q4, .ref q5, .null, .null, .null, .null, .null, .null, .null, .null, .null])), (q6, .inl (cq6, 400, .inl (fun _ => 0)))] H := hP
  have hD : va_D A [(h0, .inr (4, [.ref a1, .ref q1, .int 0, .int 0, .int 0, .ref q2, .ref q3, .ref q4, .ref q5, .null, .null, .null, .null, .null, .null, .null, .null, .null])), (q6, .inl (cq6, 400, .inl (fun _ => 0)))] := hD
  have hK : va_K D vwCl [(cq6, .int)] s := hK
  refine W.widen (k := 6) (n := 2400) (Nat.le_of_ble_eq_true rfl) (Nat.le_of_ble_eq_true rfl) ?_
  refine va_putF (D := D) (ci := 4) (v := .ref q6) (ty := .array .int) (C := RX4) (T := TX4) (N := 18) hx hb hts i_v_c_Journal_init_X4 tyX4 tyX4_ok nmX4 hown hK hP hD hS 0 rfl rfl 9 (by decide) (hts (.fieldLink RX4 33 "ScheduleHouse$Journal" "wrote" "[I") (by decide +kernel)) (fun _ h9 => h9) rfl hin rfl (by decide +kernel) rfl rfl (Nat.le_of_ble_eq_true rfl) dX4_init_60 (fun H locs hP hD hS => ?_)
  have hP : va_P D vwCl [(h0, .inr (4, [.ref a1, .ref q1, .int 0, .int 0, .int 0, .ref q2, .ref q3, .ref q4, .ref q5, .ref q6, .null, .null, .null, .null, .null, .null, .null, .null])), (q6, .inl (cq6, 400, .inl (fun _ => 0)))] H := hP
  have hD : va_D A [(h0, .inr (4, [.ref a1, .ref q1, .int 0, .int 0, .int 0, .ref q2, .ref q3, .ref q4, .ref q5, .ref q6, .null, .null, .null, .null, .null, .null, .null, .null])), (q6, .inl (cq6, 400, .inl (fun _ => 0)))] := hD
  have hP : va_P D vwCl [(h0, .inr (4, [.ref a1, .ref q1, .int 0, .int 0, .int 0, .ref q2, .ref q3, .ref q4, .ref q5, .ref q6, .null, .null, .null, .null, .null, .null, .null, .null]))] H := hP.sub [0] rfl
  have hD : va_D A [(h0, .inr (4, [.ref a1, .ref q1, .int 0, .int 0, .int 0, .ref q2, .ref q3, .ref q4, .ref q5, .ref q6, .null, .null, .null, .null, .null, .null, .null, .null]))] := hD.sub [0] (by decide) rfl
  have hK : va_K D vwCl [] s := hK.sub [] rfl
  refine lv_aload_n hx hb dX4_init_63 rfl (lv_at hl 0 rfl) ?_
  refine lv_sipush (v := 400) hx hb dX4_init_64 (by decide +kernel) ?_
  refine va_newa (atype := .boolean) (ty := .boolean) (N' := 400) (a0 := (400, .inl (fun _ => 0))) hx hb (hts (.arrayClass .boolean) (by decide +kernel)) rfl hK hP hD hS hA (na_boolean 400) (by decide +kernel) (by decide +kernel) (by decide +kernel) (Nat.le_of_ble_eq_true rfl) (Nat.le_of_ble_eq_true rfl) dX4_init_67 (fun q7 cq7 H hK hP hD hS => ?_)
  have hP : va_P D vwCl [(h0, .inr (4, [.ref a1, .ref q1, .int 0, .int 0, .int 0, .ref q2, .ref q3, .ref q4, .ref q5, .ref q6, .null, .null, .null, .null, .null, .null, .null, .null])), (q7, .inl (cq7, 400, .inl (fun _ => 0)))] H := hP
  have hD : va_D A [(h0, .inr (4, [.ref a1, .ref q1, .int 0, .int 0, .int 0, .ref q2, .ref q3, .ref q4, .ref q5, .ref q6, .null, .null, .null, .null, .null, .null, .null, .null])), (q7, .inl (cq7, 400, .inl (fun _ => 0)))] := hD
  have hK : va_K D vwCl [(cq7, .boolean)] s := hK
  refine W.widen (k := 7) (n := 2800) (Nat.le_of_ble_eq_true rfl) (Nat.le_of_ble_eq_true rfl) ?_
  refine va_putF (D := D) (ci := 4) (v := .ref q7) (ty := .array .boolean) (C := RX4) (T := TX4) (N := 18) hx hb hts i_v_c_Journal_init_X4 tyX4 tyX4_ok nmX4 hown hK hP hD hS 0 rfl rfl 10 (by decide) (hts (.fieldLink RX4 36 "ScheduleHouse$Journal" "failed" "[Z") (by decide +kernel)) (fun _ h9 => h9) rfl hin rfl (by decide +kernel) rfl rfl (Nat.le_of_ble_eq_true rfl) dX4_init_69 (fun H locs hP hD hS => ?_)
  have hP : va_P D vwCl [(h0, .inr (4, [.ref a1, .ref q1, .int 0, .int 0, .int 0, .ref q2, .ref q3, .ref q4, .ref q5, .ref q6, .ref q7, .null, .null, .null, .null, .null, .null, .null])), (q7, .inl (cq7, 400, .inl (fun _ => 0)))] H := hP
  have hD : va_D A [(h0, .inr (4, [.ref a1, .ref q1, .int 0, .int 0, .int 0, .ref q2, .ref q3, .ref q4, .ref q5, .ref q6, .ref q7, .null, .null, .null, .null, .null, .null, .null])), (q7, .inl (cq7, 400, .inl (fun _ => 0)))] := hD
  have hP : va_P D vwCl [(h0, .inr (4, [.ref a1, .ref q1, .int 0, .int 0, .int 0, .ref q2, .ref q3, .ref q4, .ref q5, .ref q6, .ref q7, .null, .null, .null, .null, .null, .null, .null]))] H := hP.sub [0] rfl
  have hD : va_D A [(h0, .inr (4, [.ref a1, .ref q1, .int 0, .int 0, .int 0, .ref q2, .ref q3, .ref q4, .ref q5, .ref q6, .ref q7, .null, .null, .null, .null, .null, .null, .null]))] := hD.sub [0] (by decide) rfl
  have hK : va_K D vwCl [] s := hK.sub [] rfl
  refine lv_aload_n hx hb dX4_init_72 rfl (lv_at hl 0 rfl) ?_
  refine lv_sipush (v := 400) hx hb dX4_init_73 (by decide +kernel) ?_
  refine va_newa (atype := .int) (ty := .int) (N' := 400) (a0 := (400, .inl (fun _ => 0))) hx hb (hts (.arrayClass .int) (by decide +kernel)) rfl hK hP hD hS hA (na_int 400) (by decide +kernel) (by decide +kernel) (by decide +kernel) (Nat.le_of_ble_eq_true rfl) (Nat.le_of_ble_eq_true rfl) dX4_init_76 (fun q8 cq8 H hK hP hD hS => ?_)
  have hP : va_P D vwCl [(h0, .inr (4, [.ref a1, .ref q1, .int 0, .int 0, .int 0, .ref q2, .ref q3, .ref q4, .ref q5, .ref q6, .ref q7, .null, .null, .null, .null, .null, .null, .null])), (q8, .inl (cq8, 400, .inl (fun _ => 0)))] H := hP
  have hD : va_D A [(h0, .inr (4, [.ref a1, .ref q1, .int 0, .int 0, .int 0, .ref q2, .ref q3, .ref q4, .ref q5, .ref q6, .ref q7, .null, .null, .null, .null, .null, .null, .null])), (q8, .inl (cq8, 400, .inl (fun _ => 0)))] := hD
  have hK : va_K D vwCl [(cq8, .int)] s := hK
  refine W.widen (k := 8) (n := 3200) (Nat.le_of_ble_eq_true rfl) (Nat.le_of_ble_eq_true rfl) ?_
  refine va_putF (D := D) (ci := 4) (v := .ref q8) (ty := .array .int) (C := RX4) (T := TX4) (N := 18) hx hb hts i_v_c_Journal_init_X4 tyX4 tyX4_ok nmX4 hown hK hP hD hS 0 rfl rfl 11 (by decide) (hts (.fieldLink RX4 40 "ScheduleHouse$Journal" "racesUpTo" "[I") (by decide +kernel)) (fun _ h9 => h9) rfl hin rfl (by decide +kernel) rfl rfl (Nat.le_of_ble_eq_true rfl) dX4_init_78 (fun H locs hP hD hS => ?_)
  have hP : va_P D vwCl [(h0, .inr (4, [.ref a1, .ref q1, .int 0, .int 0, .int 0, .ref q2, .ref q3, .ref q4, .ref q5, .ref q6, .ref q7, .ref q8, .null, .null, .null, .null, .null, .null])), (q8, .inl (cq8, 400, .inl (fun _ => 0)))] H := hP
  have hD : va_D A [(h0, .inr (4, [.ref a1, .ref q1, .int 0, .int 0, .int 0, .ref q2, .ref q3, .ref q4, .ref q5, .ref q6, .ref q7, .ref q8, .null, .null, .null, .null, .null, .null])), (q8, .inl (cq8, 400, .inl (fun _ => 0)))] := hD
  have hP : va_P D vwCl [(h0, .inr (4, [.ref a1, .ref q1, .int 0, .int 0, .int 0, .ref q2, .ref q3, .ref q4, .ref q5, .ref q6, .ref q7, .ref q8, .null, .null, .null, .null, .null, .null]))] H := hP.sub [0] rfl
  have hD : va_D A [(h0, .inr (4, [.ref a1, .ref q1, .int 0, .int 0, .int 0, .ref q2, .ref q3, .ref q4, .ref q5, .ref q6, .ref q7, .ref q8, .null, .null, .null, .null, .null, .null]))] := hD.sub [0] (by decide) rfl
  have hK : va_K D vwCl [] s := hK.sub [] rfl
  refine lv_aload_n hx hb dX4_init_81 rfl (lv_at hl 0 rfl) ?_
  refine lv_sipush (v := 2400) hx hb dX4_init_82 (by decide +kernel) ?_
  refine va_newa (atype := .int) (ty := .int) (N' := 2400) (a0 := (2400, .inl (fun _ => 0))) hx hb (hts (.arrayClass .int) (by decide +kernel)) rfl hK hP hD hS hA (na_int 2400) (by decide +kernel) (by decide +kernel) (by decide +kernel) (Nat.le_of_ble_eq_true rfl) (Nat.le_of_ble_eq_true rfl) dX4_init_85 (fun q9 cq9 H hK hP hD hS => ?_)
  have hP : va_P D vwCl [(h0, .inr (4, [.ref a1, .ref q1, .int 0, .int 0, .int 0, .ref q2, .ref q3, .ref q4, .ref q5, .ref q6, .ref q7, .ref q8, .null, .null, .null, .null, .null, .null])), (q9, .inl (cq9, 2400, .inl (fun _ => 0)))] H := hP
  have hD : va_D A [(h0, .inr (4, [.ref a1, .ref q1, .int 0, .int 0, .int 0, .ref q2, .ref q3, .ref q4, .ref q5, .ref q6, .ref q7, .ref q8, .null, .null, .null, .null, .null, .null])), (q9, .inl (cq9, 2400, .inl (fun _ => 0)))] := hD
  have hK : va_K D vwCl [(cq9, .int)] s := hK
  refine W.widen (k := 9) (n := 5600) (Nat.le_of_ble_eq_true rfl) (Nat.le_of_ble_eq_true rfl) ?_
  refine va_putF (D := D) (ci := 4) (v := .ref q9) (ty := .array .int) (C := RX4) (T := TX4) (N := 18) hx hb hts i_v_c_Journal_init_X4 tyX4 tyX4_ok nmX4 hown hK hP hD hS 0 rfl rfl 12 (by decide) (hts (.fieldLink RX4 43 "ScheduleHouse$Journal" "clock" "[I") (by decide +kernel)) (fun _ h9 => h9) rfl hin rfl (by decide +kernel) rfl rfl (Nat.le_of_ble_eq_true rfl) dX4_init_87 (fun H locs hP hD hS => ?_)
  have hP : va_P D vwCl [(h0, .inr (4, [.ref a1, .ref q1, .int 0, .int 0, .int 0, .ref q2, .ref q3, .ref q4, .ref q5, .ref q6, .ref q7, .ref q8, .ref q9, .null, .null, .null, .null, .null])), (q9, .inl (cq9, 2400, .inl (fun _ => 0)))] H := hP
  have hD : va_D A [(h0, .inr (4, [.ref a1, .ref q1, .int 0, .int 0, .int 0, .ref q2, .ref q3, .ref q4, .ref q5, .ref q6, .ref q7, .ref q8, .ref q9, .null, .null, .null, .null, .null])), (q9, .inl (cq9, 2400, .inl (fun _ => 0)))] := hD
  have hP : va_P D vwCl [(h0, .inr (4, [.ref a1, .ref q1, .int 0, .int 0, .int 0, .ref q2, .ref q3, .ref q4, .ref q5, .ref q6, .ref q7, .ref q8, .ref q9, .null, .null, .null, .null, .null]))] H := hP.sub [0] rfl
  have hD : va_D A [(h0, .inr (4, [.ref a1, .ref q1, .int 0, .int 0, .int 0, .ref q2, .ref q3, .ref q4, .ref q5, .ref q6, .ref q7, .ref q8, .ref q9, .null, .null, .null, .null, .null]))] := hD.sub [0] (by decide) rfl
  have hK : va_K D vwCl [] s := hK.sub [] rfl
  refine lv_aload_n hx hb dX4_init_90 rfl (lv_at hl 0 rfl) ?_
  refine lv_bipush (v := 6) hx hb dX4_init_91 (by decide +kernel) ?_
  refine va_newa (atype := .int) (ty := .int) (N' := 6) (a0 := (6, .inl (fun _ => 0))) hx hb (hts (.arrayClass .int) (by decide +kernel)) rfl hK hP hD hS hA (na_int 6) (by decide +kernel) (by decide +kernel) (by decide +kernel) (Nat.le_of_ble_eq_true rfl) (Nat.le_of_ble_eq_true rfl) dX4_init_93 (fun q10 cq10 H hK hP hD hS => ?_)
  have hP : va_P D vwCl [(h0, .inr (4, [.ref a1, .ref q1, .int 0, .int 0, .int 0, .ref q2, .ref q3, .ref q4, .ref q5, .ref q6, .ref q7, .ref q8, .ref q9, .null, .null, .null, .null, .null])), (q10, .inl (cq10, 6, .inl (fun _ => 0)))] H := hP
  have hD : va_D A [(h0, .inr (4, [.ref a1, .ref q1, .int 0, .int 0, .int 0, .ref q2, .ref q3, .ref q4, .ref q5, .ref q6, .ref q7, .ref q8, .ref q9, .null, .null, .null, .null, .null])), (q10, .inl (cq10, 6, .inl (fun _ => 0)))] := hD
  have hK : va_K D vwCl [(cq10, .int)] s := hK
  refine W.widen (k := 10) (n := 5606) (Nat.le_of_ble_eq_true rfl) (Nat.le_of_ble_eq_true rfl) ?_
  refine va_putF (D := D) (ci := 4) (v := .ref q10) (ty := .array .int) (C := RX4) (T := TX4) (N := 18) hx hb hts i_v_c_Journal_init_X4 tyX4 tyX4_ok nmX4 hown hK hP hD hS 0 rfl rfl 13 (by decide) (hts (.fieldLink RX4 46 "ScheduleHouse$Journal" "lastAct" "[I") (by decide +kernel)) (fun _ h9 => h9) rfl hin rfl (by decide +kernel) rfl rfl (Nat.le_of_ble_eq_true rfl) dX4_init_95 (fun H locs hP hD hS => ?_)
  have hP : va_P D vwCl [(h0, .inr (4, [.ref a1, .ref q1, .int 0, .int 0, .int 0, .ref q2, .ref q3, .ref q4, .ref q5, .ref q6, .ref q7, .ref q8, .ref q9, .ref q10, .null, .null, .null, .null])), (q10, .inl (cq10, 6, .inl (fun _ => 0)))] H := hP
  have hD : va_D A [(h0, .inr (4, [.ref a1, .ref q1, .int 0, .int 0, .int 0, .ref q2, .ref q3, .ref q4, .ref q5, .ref q6, .ref q7, .ref q8, .ref q9, .ref q10, .null, .null, .null, .null])), (q10, .inl (cq10, 6, .inl (fun _ => 0)))] := hD
  have hP : va_P D vwCl [(h0, .inr (4, [.ref a1, .ref q1, .int 0, .int 0, .int 0, .ref q2, .ref q3, .ref q4, .ref q5, .ref q6, .ref q7, .ref q8, .ref q9, .ref q10, .null, .null, .null, .null]))] H := hP.sub [0] rfl
  have hD : va_D A [(h0, .inr (4, [.ref a1, .ref q1, .int 0, .int 0, .int 0, .ref q2, .ref q3, .ref q4, .ref q5, .ref q6, .ref q7, .ref q8, .ref q9, .ref q10, .null, .null, .null, .null]))] := hD.sub [0] (by decide) rfl
  have hK : va_K D vwCl [] s := hK.sub [] rfl
  refine lv_aload_n hx hb dX4_init_98 rfl (lv_at hl 0 rfl) ?_
  refine lv_bipush (v := 36) hx hb dX4_init_99 (by decide +kernel) ?_
  refine va_newa (atype := .int) (ty := .int) (N' := 36) (a0 := (36, .inl (fun _ => 0))) hx hb (hts (.arrayClass .int) (by decide +kernel)) rfl hK hP hD hS hA (na_int 36) (by decide +kernel) (by decide +kernel) (by decide +kernel) (Nat.le_of_ble_eq_true rfl) (Nat.le_of_ble_eq_true rfl) dX4_init_101 (fun q11 cq11 H hK hP hD hS => ?_)
  have hP : va_P D vwCl [(h0, .inr (4, [.ref a1, .ref q1, .int 0, .int 0, .int 0, .ref q2, .ref q3, .ref q4, .ref q5, .ref q6, .ref q7, .ref q8, .ref q9, .ref q10, .null, .null, .null, .null])), (q11, .inl (cq11, 36, .inl (fun _ => 0)))] H := hP
  have hD : va_D A [(h0, .inr (4, [.ref a1, .ref q1, .int 0, .int 0, .int 0, .ref q2, .ref q3, .ref q4, .ref q5, .ref q6, .ref q7, .ref q8, .ref q9, .ref q10, .null, .null, .null, .null])), (q11, .inl (cq11, 36, .inl (fun _ => 0)))] := hD
  have hK : va_K D vwCl [(cq11, .int)] s := hK
  refine W.widen (k := 11) (n := 5642) (Nat.le_of_ble_eq_true rfl) (Nat.le_of_ble_eq_true rfl) ?_
  refine va_putF (D := D) (ci := 4) (v := .ref q11) (ty := .array .int) (C := RX4) (T := TX4) (N := 18) hx hb hts i_v_c_Journal_init_X4 tyX4 tyX4_ok nmX4 hown hK hP hD hS 0 rfl rfl 14 (by decide) (hts (.fieldLink RX4 49 "ScheduleHouse$Journal" "startClock" "[I") (by decide +kernel)) (fun _ h9 => h9) rfl hin rfl (by decide +kernel) rfl rfl (Nat.le_of_ble_eq_true rfl) dX4_init_103 (fun H locs hP hD hS => ?_)
  have hP : va_P D vwCl [(h0, .inr (4, [.ref a1, .ref q1, .int 0, .int 0, .int 0, .ref q2, .ref q3, .ref q4, .ref q5, .ref q6, .ref q7, .ref q8, .ref q9, .ref q10, .ref q11, .null, .null, .null])), (q11, .inl (cq11, 36, .inl (fun _ => 0)))] H := hP
  have hD : va_D A [(h0, .inr (4, [.ref a1, .ref q1, .int 0, .int 0, .int 0, .ref q2, .ref q3, .ref q4, .ref q5, .ref q6, .ref q7, .ref q8, .ref q9, .ref q10, .ref q11, .null, .null, .null])), (q11, .inl (cq11, 36, .inl (fun _ => 0)))] := hD
  have hP : va_P D vwCl [(h0, .inr (4, [.ref a1, .ref q1, .int 0, .int 0, .int 0, .ref q2, .ref q3, .ref q4, .ref q5, .ref q6, .ref q7, .ref q8, .ref q9, .ref q10, .ref q11, .null, .null, .null]))] H := hP.sub [0] rfl
  have hD : va_D A [(h0, .inr (4, [.ref a1, .ref q1, .int 0, .int 0, .int 0, .ref q2, .ref q3, .ref q4, .ref q5, .ref q6, .ref q7, .ref q8, .ref q9, .ref q10, .ref q11, .null, .null, .null]))] := hD.sub [0] (by decide) rfl
  have hK : va_K D vwCl [] s := hK.sub [] rfl
  refine lv_aload_n hx hb dX4_init_106 rfl (lv_at hl 0 rfl) ?_
  refine lv_bipush (v := 36) hx hb dX4_init_107 (by decide +kernel) ?_
  refine va_newa (atype := .int) (ty := .int) (N' := 36) (a0 := (36, .inl (fun _ => 0))) hx hb (hts (.arrayClass .int) (by decide +kernel)) rfl hK hP hD hS hA (na_int 36) (by decide +kernel) (by decide +kernel) (by decide +kernel) (Nat.le_of_ble_eq_true rfl) (Nat.le_of_ble_eq_true rfl) dX4_init_109 (fun q12 cq12 H hK hP hD hS => ?_)
  have hP : va_P D vwCl [(h0, .inr (4, [.ref a1, .ref q1, .int 0, .int 0, .int 0, .ref q2, .ref q3, .ref q4, .ref q5, .ref q6, .ref q7, .ref q8, .ref q9, .ref q10, .ref q11, .null, .null, .null])), (q12, .inl (cq12, 36, .inl (fun _ => 0)))] H := hP
  have hD : va_D A [(h0, .inr (4, [.ref a1, .ref q1, .int 0, .int 0, .int 0, .ref q2, .ref q3, .ref q4, .ref q5, .ref q6, .ref q7, .ref q8, .ref q9, .ref q10, .ref q11, .null, .null, .null])), (q12, .inl (cq12, 36, .inl (fun _ => 0)))] := hD
  have hK : va_K D vwCl [(cq12, .int)] s := hK
  refine W.widen (k := 12) (n := 5678) (Nat.le_of_ble_eq_true rfl) (Nat.le_of_ble_eq_true rfl) ?_
  refine va_putF (D := D) (ci := 4) (v := .ref q12) (ty := .array .int) (C := RX4) (T := TX4) (N := 18) hx hb hts i_v_c_Journal_init_X4 tyX4 tyX4_ok nmX4 hown hK hP hD hS 0 rfl rfl 15 (by decide) (hts (.fieldLink RX4 52 "ScheduleHouse$Journal" "lockClock" "[I") (by decide +kernel)) (fun _ h9 => h9) rfl hin rfl (by decide +kernel) rfl rfl (Nat.le_of_ble_eq_true rfl) dX4_init_111 (fun H locs hP hD hS => ?_)
  have hP : va_P D vwCl [(h0, .inr (4, [.ref a1, .ref q1, .int 0, .int 0, .int 0, .ref q2, .ref q3, .ref q4, .ref q5, .ref q6, .ref q7, .ref q8, .ref q9, .ref q10, .ref q11, .ref q12, .null, .null])), (q12, .inl (cq12, 36, .inl (fun _ => 0)))] H := hP
  have hD : va_D A [(h0, .inr (4, [.ref a1, .ref q1, .int 0, .int 0, .int 0, .ref q2, .ref q3, .ref q4, .ref q5, .ref q6, .ref q7, .ref q8, .ref q9, .ref q10, .ref q11, .ref q12, .null, .null])), (q12, .inl (cq12, 36, .inl (fun _ => 0)))] := hD
  have hP : va_P D vwCl [(h0, .inr (4, [.ref a1, .ref q1, .int 0, .int 0, .int 0, .ref q2, .ref q3, .ref q4, .ref q5, .ref q6, .ref q7, .ref q8, .ref q9, .ref q10, .ref q11, .ref q12, .null, .null]))] H := hP.sub [0] rfl
  have hD : va_D A [(h0, .inr (4, [.ref a1, .ref q1, .int 0, .int 0, .int 0, .ref q2, .ref q3, .ref q4, .ref q5, .ref q6, .ref q7, .ref q8, .ref q9, .ref q10, .ref q11, .ref q12, .null, .null]))] := hD.sub [0] (by decide) rfl
  have hK : va_K D vwCl [] s := hK.sub [] rfl
  refine lv_aload_n hx hb dX4_init_114 rfl (lv_at hl 0 rfl) ?_
  refine lv_sipush (v := 144) hx hb dX4_init_115 (by decide +kernel) ?_
  refine va_newa (atype := .int) (ty := .int) (N' := 144) (a0 := (144, .inl (fun _ => 0))) hx hb (hts (.arrayClass .int) (by decide +kernel)) rfl hK hP hD hS hA (na_int 144) (by decide +kernel) (by decide +kernel) (by decide +kernel) (Nat.le_of_ble_eq_true rfl) (Nat.le_of_ble_eq_true rfl) dX4_init_118 (fun q13 cq13 H hK hP hD hS => ?_)
  have hP : va_P D vwCl [(h0, .inr (4, [.ref a1, .ref q1, .int 0, .int 0, .int 0, .ref q2, .ref q3, .ref q4, .ref q5, .ref q6, .ref q7, .ref q8, .ref q9, .ref q10, .ref q11, .ref q12, .null, .null])), (q13, .inl (cq13, 144, .inl (fun _ => 0)))] H := hP
  have hD : va_D A [(h0, .inr (4, [.ref a1, .ref q1, .int 0, .int 0, .int 0, .ref q2, .ref q3, .ref q4, .ref q5, .ref q6, .ref q7, .ref q8, .ref q9, .ref q10, .ref q11, .ref q12, .null, .null])), (q13, .inl (cq13, 144, .inl (fun _ => 0)))] := hD
  have hK : va_K D vwCl [(cq13, .int)] s := hK
  refine W.widen (k := 13) (n := 5822) (Nat.le_of_ble_eq_true rfl) (Nat.le_of_ble_eq_true rfl) ?_
  refine va_putF (D := D) (ci := 4) (v := .ref q13) (ty := .array .int) (C := RX4) (T := TX4) (N := 18) hx hb hts i_v_c_Journal_init_X4 tyX4 tyX4_ok nmX4 hown hK hP hD hS 0 rfl rfl 16 (by decide) (hts (.fieldLink RX4 55 "ScheduleHouse$Journal" "cellClock" "[I") (by decide +kernel)) (fun _ h9 => h9) rfl hin rfl (by decide +kernel) rfl rfl (Nat.le_of_ble_eq_true rfl) dX4_init_120 (fun H locs hP hD hS => ?_)
  have hP : va_P D vwCl [(h0, .inr (4, [.ref a1, .ref q1, .int 0, .int 0, .int 0, .ref q2, .ref q3, .ref q4, .ref q5, .ref q6, .ref q7, .ref q8, .ref q9, .ref q10, .ref q11, .ref q12, .ref q13, .null])), (q13, .inl (cq13, 144, .inl (fun _ => 0)))] H := hP
  have hD : va_D A [(h0, .inr (4, [.ref a1, .ref q1, .int 0, .int 0, .int 0, .ref q2, .ref q3, .ref q4, .ref q5, .ref q6, .ref q7, .ref q8, .ref q9, .ref q10, .ref q11, .ref q12, .ref q13, .null])), (q13, .inl (cq13, 144, .inl (fun _ => 0)))] := hD
  have hP : va_P D vwCl [(h0, .inr (4, [.ref a1, .ref q1, .int 0, .int 0, .int 0, .ref q2, .ref q3, .ref q4, .ref q5, .ref q6, .ref q7, .ref q8, .ref q9, .ref q10, .ref q11, .ref q12, .ref q13, .null]))] H := hP.sub [0] rfl
  have hD : va_D A [(h0, .inr (4, [.ref a1, .ref q1, .int 0, .int 0, .int 0, .ref q2, .ref q3, .ref q4, .ref q5, .ref q6, .ref q7, .ref q8, .ref q9, .ref q10, .ref q11, .ref q12, .ref q13, .null]))] := hD.sub [0] (by decide) rfl
  have hK : va_K D vwCl [] s := hK.sub [] rfl
  refine lv_aload_n hx hb dX4_init_123 rfl (lv_at hl 0 rfl) ?_
  refine lv_bipush (v := 36) hx hb dX4_init_124 (by decide +kernel) ?_
  refine va_newa (atype := .int) (ty := .int) (N' := 36) (a0 := (36, .inl (fun _ => 0))) hx hb (hts (.arrayClass .int) (by decide +kernel)) rfl hK hP hD hS hA (na_int 36) (by decide +kernel) (by decide +kernel) (by decide +kernel) (Nat.le_of_ble_eq_true rfl) (Nat.le_of_ble_eq_true rfl) dX4_init_126 (fun q14 cq14 H hK hP hD hS => ?_)
  have hP : va_P D vwCl [(h0, .inr (4, [.ref a1, .ref q1, .int 0, .int 0, .int 0, .ref q2, .ref q3, .ref q4, .ref q5, .ref q6, .ref q7, .ref q8, .ref q9, .ref q10, .ref q11, .ref q12, .ref q13, .null])), (q14, .inl (cq14, 36, .inl (fun _ => 0)))] H := hP
  have hD : va_D A [(h0, .inr (4, [.ref a1, .ref q1, .int 0, .int 0, .int 0, .ref q2, .ref q3, .ref q4, .ref q5, .ref q6, .ref q7, .ref q8, .ref q9, .ref q10, .ref q11, .ref q12, .ref q13, .null])), (q14, .inl (cq14, 36, .inl (fun _ => 0)))] := hD
  have hK : va_K D vwCl [(cq14, .int)] s := hK
  refine W.widen (k := 14) (n := 5858) (Nat.le_of_ble_eq_true rfl) (Nat.le_of_ble_eq_true rfl) ?_
  refine va_putF (D := D) (ci := 4) (v := .ref q14) (ty := .array .int) (C := RX4) (T := TX4) (N := 18) hx hb hts i_v_c_Journal_init_X4 tyX4 tyX4_ok nmX4 hown hK hP hD hS 0 rfl rfl 17 (by decide) (hts (.fieldLink RX4 58 "ScheduleHouse$Journal" "wakeClock" "[I") (by decide +kernel)) (fun _ h9 => h9) rfl hin rfl (by decide +kernel) rfl rfl (Nat.le_of_ble_eq_true rfl) dX4_init_128 (fun H locs hP hD hS => ?_)
  have hP : va_P D vwCl [(h0, .inr (4, [.ref a1, .ref q1, .int 0, .int 0, .int 0, .ref q2, .ref q3, .ref q4, .ref q5, .ref q6, .ref q7, .ref q8, .ref q9, .ref q10, .ref q11, .ref q12, .ref q13, .ref q14])), (q14, .inl (cq14, 36, .inl (fun _ => 0)))] H := hP
  have hD : va_D A [(h0, .inr (4, [.ref a1, .ref q1, .int 0, .int 0, .int 0, .ref q2, .ref q3, .ref q4, .ref q5, .ref q6, .ref q7, .ref q8, .ref q9, .ref q10, .ref q11, .ref q12, .ref q13, .ref q14])), (q14, .inl (cq14, 36, .inl (fun _ => 0)))] := hD
  have hP : va_P D vwCl [(h0, .inr (4, [.ref a1, .ref q1, .int 0, .int 0, .int 0, .ref q2, .ref q3, .ref q4, .ref q5, .ref q6, .ref q7, .ref q8, .ref q9, .ref q10, .ref q11, .ref q12, .ref q13, .ref q14]))] H := hP.sub [0] rfl
  have hD : va_D A [(h0, .inr (4, [.ref a1, .ref q1, .int 0, .int 0, .int 0, .ref q2, .ref q3, .ref q4, .ref q5, .ref q6, .ref q7, .ref q8, .ref q9, .ref q10, .ref q11, .ref q12, .ref q13, .ref q14]))] := hD.sub [0] (by decide) rfl
  have hK : va_K D vwCl [] s := hK.sub [] rfl
  have hP : va_P D vwCl [(h0, .inr (4, [.ref a1, .ref q1, .int 0, .int 0, .int 0, .ref q2, .ref q3, .ref q4, .ref q5, .ref q6, .ref q7, .ref q8, .ref q9, .ref q10, .ref q11, .ref q12, .ref q13, .ref q14]))] H := hP.sub [0] rfl
  have hD : va_D A [(h0, .inr (4, [.ref a1, .ref q1, .int 0, .int 0, .int 0, .ref q2, .ref q3, .ref q4, .ref q5, .ref q6, .ref q7, .ref q8, .ref q9, .ref q10, .ref q11, .ref q12, .ref q13, .ref q14]))] := hD.sub [0] (by decide) rfl
  have hK : va_K D vwCl [] s := hK.sub [] rfl
  exact W.vret hx hb hr (fun t ht hW => ⟨⟨(), rfl, trivial, q1, q2, q3, q4, q5, q6, q7, q8, q9, q10, q11, q12, q13, q14, by rw [ht]; exact hP, va_K.moved hW.alike hK, hD⟩, hS.F ht⟩) hS.2.2 dX4_init_131
