set_option maxHeartbeats 4000000 in
set_option maxRecDepth 100000 in
/-- ScheduleHouseModel() -/
theorem c_Model_init (l : Launch) (D : va_G) (h0 : Nat) (fs : List Value) (sz : Nat) (hlen : fs.length = 139) (hz : ∀ j ∈ mz, fs[j]? = some (.int 0)) : Met l yX12_init v_c_Model_init ({ frames := 1, cells := 98, slots := 948697, locals := 12 }) (va_Pc [.ref h0] (st_ D [(h0, .inr (12, fs))] [] sz)) (va_Qv (fun u : List Value => u.length = 139 ∧ (∀ j ∈ mz, u[j]? = some (.int 0)) ∧ u[11]? = some (.int (-1)) ∧ u[12]? = some (.int (-1))) (fun u t => ∃ (b0 b1 b2 b3 b4 b5 : Nat) (cb0 cb1 cb2 cb3 cb4 cb5 : ClassId), u[1]? = some (.ref b0) ∧ u[4]? = some (.ref b1) ∧ u[5]? = some (.ref b2) ∧ u[6]? = some (.ref b3) ∧ u[7]? = some (.ref b4) ∧ u[118]? = some (.ref b5) ∧ va_P D vwCl [(h0, .inr (12, u)), (b0, .inl (cb0, 3000, .inl (fun _ => 0))), (b1, .inl (cb1, 710, .inl (fun _ => 0))), (b2, .inl (cb2, 710, .inl (fun _ => 0))), (b3, .inl (cb3, 710, .inl (fun _ => 0))), (b4, .inl (cb4, 710, .inl (fun _ => 0))), (b5, .inl (cb5, 2, .inl (fun _ => 0)))] t.heap ∧ va_K D vwCl [(cb0, .byte), (cb1, .int), (cb2, .int), (cb3, .int), (cb4, .int), (cb5, .boolean)] t ∧ va_D (va_A [(h0, .inr (12, fs))] sz) [(h0, .inr (12, u)), (b0, .inl (cb0, 3000, .inl (fun _ => 0))), (b1, .inl (cb1, 710, .inl (fun _ => 0))), (b2, .inl (cb2, 710, .inl (fun _ => 0))), (b3, .inl (cb3, 710, .inl (fun _ => 0))), (b4, .inl (cb4, 710, .inl (fun _ => 0))), (b5, .inl (cb5, 2, .inl (fun _ => 0)))]) (va_A [(h0, .inr (12, fs))] sz)) 98 948697 (va_A [(h0, .inr (12, fs))] sz) := by
  refine Met.ofW (cc := cX12_init) (maxL := 1) (ret := none) (by decide) rfl ?_
  intro p e s m args below meth c s₁ B hml hv
  obtain ⟨rfl, hsz, hP, hK, hD0, hZ, hE⟩ := hv
  have hx := B.exec
  have hb := B.bytes
  have hr := B.returns
  have hts := atoms_spec (ws := v_c_Model_init) B.pre
  have hown : s.vm.findClass RX12 = some m.cls := findClass_of_methodNamed B.named
  have hlocks := B.notSynchronized
  have hin : meth.name = "<init>" := (name_of_methodNamed B.named B.method).1
  subst hsz
  have hD := hD0.self (sz := s.heap.size)
  generalize hAe : va_A [(h0, .inr (12, fs))] s.heap.size = A at hD hZ ⊢
  have hA : ∀ q : Nat, s.heap.size ≤ q → A q := fun q h => by rw [← hAe]; exact Or.inr h
  have hS : va_S A s.heap s.heap [] := va_S.rf
  have hAO := hE.2.2.2.1
  have hP : va_P D vwCl [(h0, .inr (12, fs))] s.heap := hP
  have hl := lv_entry ([.ref h0]) (n := 1) (Nat.le_of_ble_eq_true rfl)
  rw [lg_entry_eq]
  generalize (lg_sl ([.ref h0]) ++ List.replicate (1 - (lg_sl ([.ref h0])).length) Slot.unset).toArray = ls at hl ⊢
  have hl : lv_has ls 1 [(0, .ref h0)] := hl
  refine lv_aload_n hx hb dX12_init_0 rfl (lv_at hl 0 rfl) ?_
  refine W.objInit hx hb hown (hts (.methodLink RX12 1 objectInit) (by decide +kernel)) (hts (.instanceMethod objectInit) (by decide +kernel)) (hts (.code objectInit ⟨#[0xb1]⟩ 1 none) (by decide +kernel)) rfl (by rw [hml]; exact hl.1) rfl dX12_init_1 (Nat.le_of_ble_eq_true rfl) (Nat.le_of_ble_eq_true rfl) ?_
  refine W.eq (g2 := F0 m 4 ls []) rfl ?_
  have k0 := kp_0 fs
  refine lv_aload_n hx hb dX12_init_4 rfl (lv_at hl 0 rfl) ?_
  refine lv_sipush (v := 3000) hx hb dX12_init_5 (by decide +kernel) ?_
  refine va_newa (atype := .byte) (ty := .byte) (N' := 3000) (a0 := (3000, .inl (fun _ => 0))) hx hb (hts (.arrayClass .byte) (by decide +kernel)) rfl hK hP hD hS hA (na_byte 3000) (by decide +kernel) (by decide +kernel) (by decide +kernel) (Nat.le_of_ble_eq_true rfl) (Nat.le_of_ble_eq_true rfl) dX12_init_8 (fun q1 cq1 H hK hP hD hS => ?_)
  have hP : va_P D vwCl [(h0, .inr (12, fs)), (q1, .inl (cq1, 3000, .inl (fun _ => 0)))] H := hP
  have hD : va_D A [(h0, .inr (12, fs)), (q1, .inl (cq1, 3000, .inl (fun _ => 0)))] := hD
  have hK : va_K D vwCl [(cq1, .byte)] s := hK
  refine W.widen (k := 1) (n := 3000) (Nat.le_of_ble_eq_true rfl) (Nat.le_of_ble_eq_true rfl) ?_
  refine va_put (D := D) (ci := 12) (v := .ref q1) (ty := .array .byte) (C := RX12) (T := TX12) (N := 139) hx hb hts i_v_c_Model_init_X12 tyX12 tyX12_ok nmX12 hown hK hP hD hS 0 rfl rfl 1 (by decide) (hts (.fieldLink RX12 7 "ScheduleHouseModel" "text" "[B") (by decide +kernel)) (fun _ h9 => h9) rfl (by decide +kernel) rfl rfl (kp_lt k0 hlen (by decide)) dX12_init_10 (fun H locs hP hD hS => ?_)
  obtain ⟨fs2, hfs2⟩ : ∃ z, z = fs.set 1 (.ref q1) := ⟨_, rfl⟩
  have kfs2 := kp_s 1 (.ref q1) k0
  have gfs2_1 : fs2[1]? = some (.ref q1) := by rw [hfs2]; exact se_eq (kp_lt k0 hlen (by decide))
  rw [← hfs2] at hP hD kfs2
  have hP : va_P D vwCl [(h0, .inr (12, fs2)), (q1, .inl (cq1, 3000, .inl (fun _ => 0)))] H := hP
  have hD : va_D A [(h0, .inr (12, fs2)), (q1, .inl (cq1, 3000, .inl (fun _ => 0)))] := hD
  refine lv_aload_n hx hb dX12_init_13 rfl (lv_at hl 0 rfl) ?_
  refine lv_sipush (v := 710) hx hb dX12_init_14 (by decide +kernel) ?_
  refine va_newa (atype := .int) (ty := .int) (N' := 710) (a0 := (710, .inl (fun _ => 0))) hx hb (hts (.arrayClass .int) (by decide +kernel)) rfl hK hP hD hS hA (na_int 710) (by decide +kernel) (by decide +kernel) (by decide +kernel) (Nat.le_of_ble_eq_true rfl) (Nat.le_of_ble_eq_true rfl) dX12_init_17 (fun q3 cq3 H hK hP hD hS => ?_)
  have hP : va_P D vwCl [(h0, .inr (12, fs2)), (q1, .inl (cq1, 3000, .inl (fun _ => 0))), (q3, .inl (cq3, 710, .inl (fun _ => 0)))] H := hP
  have hD : va_D A [(h0, .inr (12, fs2)), (q1, .inl (cq1, 3000, .inl (fun _ => 0))), (q3, .inl (cq3, 710, .inl (fun _ => 0)))] := hD
  have hK : va_K D vwCl [(cq1, .byte), (cq3, .int)] s := hK
  refine W.widen (k := 2) (n := 3710) (Nat.le_of_ble_eq_true rfl) (Nat.le_of_ble_eq_true rfl) ?_
  refine va_put (D := D) (ci := 12) (v := .ref q3) (ty := .array .int) (C := RX12) (T := TX12) (N := 139) hx hb hts i_v_c_Model_init_X12 tyX12 tyX12_ok nmX12 hown hK hP hD hS 0 rfl rfl 4 (by decide) (hts (.fieldLink RX12 13 "ScheduleHouseModel" "kind" "[I") (by decide +kernel)) (fun _ h9 => h9) rfl (by decide +kernel) rfl rfl (kp_lt kfs2 hlen (by decide)) dX12_init_19 (fun H locs hP hD hS => ?_)
  obtain ⟨fs4, hfs4⟩ : ∃ z, z = fs2.set 4 (.ref q3) := ⟨_, rfl⟩
  have kfs4 := kp_s 4 (.ref q3) kfs2
  have gfs4_4 : fs4[4]? = some (.ref q3) := by rw [hfs4]; exact se_eq (kp_lt kfs2 hlen (by decide))
  have gfs4_1 : fs4[1]? = some (.ref q1) := by rw [hfs4]; exact se_ne gfs2_1 (by decide)
  rw [← hfs4] at hP hD kfs4
  have hP : va_P D vwCl [(h0, .inr (12, fs4)), (q1, .inl (cq1, 3000, .inl (fun _ => 0))), (q3, .inl (cq3, 710, .inl (fun _ => 0)))] H := hP
  have hD : va_D A [(h0, .inr (12, fs4)), (q1, .inl (cq1, 3000, .inl (fun _ => 0))), (q3, .inl (cq3, 710, .inl (fun _ => 0)))] := hD
  refine lv_aload_n hx hb dX12_init_22 rfl (lv_at hl 0 rfl) ?_
  refine lv_sipush (v := 710) hx hb dX12_init_23 (by decide +kernel) ?_
  refine va_newa (atype := .int) (ty := .int) (N' := 710) (a0 := (710, .inl (fun _ => 0))) hx hb (hts (.arrayClass .int) (by decide +kernel)) rfl hK hP hD hS hA (na_int 710) (by decide +kernel) (by decide +kernel) (by decide +kernel) (Nat.le_of_ble_eq_true rfl) (Nat.le_of_ble_eq_true rfl) dX12_init_26 (fun q5 cq5 H hK hP hD hS => ?_)
  have hP : va_P D vwCl [(h0, .inr (12, fs4)), (q1, .inl (cq1, 3000, .inl (fun _ => 0))), (q3, .inl (cq3, 710, .inl (fun _ => 0))), (q5, .inl (cq5, 710, .inl (fun _ => 0)))] H := hP
  have hD : va_D A [(h0, .inr (12, fs4)), (q1, .inl (cq1, 3000, .inl (fun _ => 0))), (q3, .inl (cq3, 710, .inl (fun _ => 0))), (q5, .inl (cq5, 710, .inl (fun _ => 0)))] := hD
  have hK : va_K D vwCl [(cq1, .byte), (cq3, .int), (cq5, .int)] s := hK
  refine W.widen (k := 3) (n := 4420) (Nat.le_of_ble_eq_true rfl) (Nat.le_of_ble_eq_true rfl) ?_
  refine va_put (D := D) (ci := 12) (v := .ref q5) (ty := .array .int) (C := RX12) (T := TX12) (N := 139) hx hb hts i_v_c_Model_init_X12 tyX12 tyX12_ok nmX12 hown hK hP hD hS 0 rfl rfl 5 (by decide) (hts (.fieldLink RX12 17 "ScheduleHouseModel" "place" "[I") (by decide +kernel)) (fun _ h9 => h9) rfl (by decide +kernel) rfl rfl (kp_lt kfs4 hlen (by decide)) dX12_init_28 (fun H locs hP hD hS => ?_)
  obtain ⟨fs6, hfs6⟩ : ∃ z, z = fs4.set 5 (.ref q5) := ⟨_, rfl⟩
  have kfs6 := kp_s 5 (.ref q5) kfs4
  have gfs6_5 : fs6[5]? = some (.ref q5) := by rw [hfs6]; exact se_eq (kp_lt kfs4 hlen (by decide))
  have gfs6_4 : fs6[4]? = some (.ref q3) := by rw [hfs6]; exact se_ne gfs4_4 (by decide)
  have gfs6_1 : fs6[1]? = some (.ref q1) := by rw [hfs6]; exact se_ne gfs4_1 (by decide)
  rw [← hfs6] at hP hD kfs6
  have hP : va_P D vwCl [(h0, .inr (12, fs6)), (q1, .inl (cq1, 3000, .inl (fun _ => 0))), (q3, .inl (cq3, 710, .inl (fun _ => 0))), (q5, .inl (cq5, 710, .inl (fun _ => 0)))] H := hP
  have hD : va_D A [(h0, .inr (12, fs6)), (q1, .inl (cq1, 3000, .inl (fun _ => 0))), (q3, .inl (cq3, 710, .inl (fun _ => 0))), (q5, .inl (cq5, 710, .inl (fun _ => 0)))] := hD
  refine lv_aload_n hx hb dX12_init_31 rfl (lv_at hl 0 rfl) ?_
  refine lv_sipush (v := 710) hx hb dX12_init_32 (by decide +kernel) ?_
  refine va_newa (atype := .int) (ty := .int) (N' := 710) (a0 := (710, .inl (fun _ => 0))) hx hb (hts (.arrayClass .int) (by decide +kernel)) rfl hK hP hD hS hA (na_int 710) (by decide +kernel) (by decide +kernel) (by decide +kernel) (Nat.le_of_ble_eq_true rfl) (Nat.le_of_ble_eq_true rfl) dX12_init_35 (fun q7 cq7 H hK hP hD hS => ?_)
  have hP : va_P D vwCl [(h0, .inr (12, fs6)), (q1, .inl (cq1, 3000, .inl (fun _ => 0))), (q3, .inl (cq3, 710, .inl (fun _ => 0))), (q5, .inl (cq5, 710, .inl (fun _ => 0))), (q7, .inl (cq7, 710, .inl (fun _ => 0)))] H := hP
  have hD : va_D A [(h0, .inr (12, fs6)), (q1, .inl (cq1, 3000, .inl (fun _ => 0))), (q3, .inl (cq3, 710, .inl (fun _ => 0))), (q5, .inl (cq5, 710, .inl (fun _ => 0))), (q7, .inl (cq7, 710, .inl (fun _ => 0)))] := hD
  have hK : va_K D vwCl [(cq1, .byte), (cq3, .int), (cq5, .int), (cq7, .int)] s := hK
  refine W.widen (k := 4) (n := 5130) (Nat.le_of_ble_eq_true rfl) (Nat.le_of_ble_eq_true rfl) ?_
  refine va_put (D := D) (ci := 12) (v := .ref q7) (ty := .array .int) (C := RX12) (T := TX12) (N := 139) hx hb hts i_v_c_Model_init_X12 tyX12 tyX12_ok nmX12 hown hK hP hD hS 0 rfl rfl 6 (by decide) (hts (.fieldLink RX12 20 "ScheduleHouseModel" "valueOf" "[I") (by decide +kernel)) (fun _ h9 => h9) rfl (by decide +kernel) rfl rfl (kp_lt kfs6 hlen (by decide)) dX12_init_37 (fun H locs hP hD hS => ?_)
  obtain ⟨fs8, hfs8⟩ : ∃ z, z = fs6.set 6 (.ref q7) := ⟨_, rfl⟩
  have kfs8 := kp_s 6 (.ref q7) kfs6
  have gfs8_6 : fs8[6]? = some (.ref q7) := by rw [hfs8]; exact se_eq (kp_lt kfs6 hlen (by decide))
  have gfs8_5 : fs8[5]? = some (.ref q5) := by rw [hfs8]; exact se_ne gfs6_5 (by decide)
  have gfs8_4 : fs8[4]? = some (.ref q3) := by rw [hfs8]; exact se_ne gfs6_4 (by decide)
  have gfs8_1 : fs8[1]? = some (.ref q1) := by rw [hfs8]; exact se_ne gfs6_1 (by decide)
  rw [← hfs8] at hP hD kfs8
  have hP : va_P D vwCl [(h0, .inr (12, fs8)), (q1, .inl (cq1, 3000, .inl (fun _ => 0))), (q3, .inl (cq3, 710, .inl (fun _ => 0))), (q5, .inl (cq5, 710, .inl (fun _ => 0))), (q7, .inl (cq7, 710, .inl (fun _ => 0)))] H := hP
  have hD : va_D A [(h0, .inr (12, fs8)), (q1, .inl (cq1, 3000, .inl (fun _ => 0))), (q3, .inl (cq3, 710, .inl (fun _ => 0))), (q5, .inl (cq5, 710, .inl (fun _ => 0))), (q7, .inl (cq7, 710, .inl (fun _ => 0)))] := hD
  refine lv_aload_n hx hb dX12_init_40 rfl (lv_at hl 0 rfl) ?_
  refine lv_sipush (v := 710) hx hb dX12_init_41 (by decide +kernel) ?_
  refine va_newa (atype := .int) (ty := .int) (N' := 710) (a0 := (710, .inl (fun _ => 0))) hx hb (hts (.arrayClass .int) (by decide +kernel)) rfl hK hP hD hS hA (na_int 710) (by decide +kernel) (by decide +kernel) (by decide +kernel) (Nat.le_of_ble_eq_true rfl) (Nat.le_of_ble_eq_true rfl) dX12_init_44 (fun q9 cq9 H hK hP hD hS => ?_)
  have hP : va_P D vwCl [(h0, .inr (12, fs8)), (q1, .inl (cq1, 3000, .inl (fun _ => 0))), (q3, .inl (cq3, 710, .inl (fun _ => 0))), (q5, .inl (cq5, 710, .inl (fun _ => 0))), (q7, .inl (cq7, 710, .inl (fun _ => 0))), (q9, .inl (cq9, 710, .inl (fun _ => 0)))] H := hP
  have hD : va_D A [(h0, .inr (12, fs8)), (q1, .inl (cq1, 3000, .inl (fun _ => 0))), (q3, .inl (cq3, 710, .inl (fun _ => 0))), (q5, .inl (cq5, 710, .inl (fun _ => 0))), (q7, .inl (cq7, 710, .inl (fun _ => 0))), (q9, .inl (cq9, 710, .inl (fun _ => 0)))] := hD
  have hK : va_K D vwCl [(cq1, .byte), (cq3, .int), (cq5, .int), (cq7, .int), (cq9, .int)] s := hK
  refine W.widen (k := 5) (n := 5840) (Nat.le_of_ble_eq_true rfl) (Nat.le_of_ble_eq_true rfl) ?_
  refine va_put (D := D) (ci := 12) (v := .ref q9) (ty := .array .int) (C := RX12) (T := TX12) (N := 139) hx hb hts i_v_c_Model_init_X12 tyX12 tyX12_ok nmX12 hown hK hP hD hS 0 rfl rfl 7 (by decide) (hts (.fieldLink RX12 23 "ScheduleHouseModel" "sizeOf" "[I") (by decide +kernel)) (fun _ h9 => h9) rfl (by decide +kernel) rfl rfl (kp_lt kfs8 hlen (by decide)) dX12_init_46 (fun H locs hP hD hS => ?_)
  obtain ⟨fs10, hfs10⟩ : ∃ z, z = fs8.set 7 (.ref q9) := ⟨_, rfl⟩
  have kfs10 := kp_s 7 (.ref q9) kfs8
  have gfs10_7 : fs10[7]? = some (.ref q9) := by rw [hfs10]; exact se_eq (kp_lt kfs8 hlen (by decide))
  have gfs10_6 : fs10[6]? = some (.ref q7) := by rw [hfs10]; exact se_ne gfs8_6 (by decide)
  have gfs10_5 : fs10[5]? = some (.ref q5) := by rw [hfs10]; exact se_ne gfs8_5 (by decide)
  have gfs10_4 : fs10[4]? = some (.ref q3) := by rw [hfs10]; exact se_ne gfs8_4 (by decide)
  have gfs10_1 : fs10[1]? = some (.ref q1) := by rw [hfs10]; exact se_ne gfs8_1 (by decide)
  rw [← hfs10] at hP hD kfs10
  have hP : va_P D vwCl [(h0, .inr (12, fs10)), (q1, .inl (cq1, 3000, .inl (fun _ => 0))), (q3, .inl (cq3, 710, .inl (fun _ => 0))), (q5, .inl (cq5, 710, .inl (fun _ => 0))), (q7, .inl (cq7, 710, .inl (fun _ => 0))), (q9, .inl (cq9, 710, .inl (fun _ => 0)))] H := hP
  have hD : va_D A [(h0, .inr (12, fs10)), (q1, .inl (cq1, 3000, .inl (fun _ => 0))), (q3, .inl (cq3, 710, .inl (fun _ => 0))), (q5, .inl (cq5, 710, .inl (fun _ => 0))), (q7, .inl (cq7, 710, .inl (fun _ => 0))), (q9, .inl (cq9, 710, .inl (fun _ => 0)))] := hD
  refine lv_aload_n hx hb dX12_init_49 rfl (lv_at hl 0 rfl) ?_
  refine lv_iconst (v := (-1)) hx hb dX12_init_50 (by decide +kernel) ?_
  refine va_put (D := D) (ci := 12) (v := .int (-1)) (ty := .int) (C := RX12) (T := TX12) (N := 139) hx hb hts i_v_c_Model_init_X12 tyX12 tyX12_ok nmX12 hown hK hP hD hS 0 rfl rfl 11 (by decide) (hts (.fieldLink RX12 26 "ScheduleHouseModel" "faultPlace" "I") (by decide +kernel)) (fun _ h9 => h9) rfl (by decide +kernel) rfl rfl (kp_lt kfs10 hlen (by decide)) dX12_init_51 (fun H locs hP hD hS => ?_)
  obtain ⟨fs11, hfs11⟩ : ∃ z, z = fs10.set 11 (.int (-1)) := ⟨_, rfl⟩
  have kfs11 := kp_s 11 (.int (-1)) kfs10
  have gfs11_11 : fs11[11]? = some (.int (-1)) := by rw [hfs11]; exact se_eq (kp_lt kfs10 hlen (by decide))
  have gfs11_7 : fs11[7]? = some (.ref q9) := by rw [hfs11]; exact se_ne gfs10_7 (by decide)
  have gfs11_6 : fs11[6]? = some (.ref q7) := by rw [hfs11]; exact se_ne gfs10_6 (by decide)
  have gfs11_5 : fs11[5]? = some (.ref q5) := by rw [hfs11]; exact se_ne gfs10_5 (by decide)
  have gfs11_4 : fs11[4]? = some (.ref q3) := by rw [hfs11]; exact se_ne gfs10_4 (by decide)
  have gfs11_1 : fs11[1]? = some (.ref q1) := by rw [hfs11]; exact se_ne gfs10_1 (by decide)
  rw [← hfs11] at hP hD kfs11
  have hP : va_P D vwCl [(h0, .inr (12, fs11)), (q1, .inl (cq1, 3000, .inl (fun _ => 0))), (q3, .inl (cq3, 710, .inl (fun _ => 0))), (q5, .inl (cq5, 710, .inl (fun _ => 0))), (q7, .inl (cq7, 710, .inl (fun _ => 0))), (q9, .inl (cq9, 710, .inl (fun _ => 0)))] H := hP
  have hD : va_D A [(h0, .inr (12, fs11)), (q1, .inl (cq1, 3000, .inl (fun _ => 0))), (q3, .inl (cq3, 710, .inl (fun _ => 0))), (q5, .inl (cq5, 710, .inl (fun _ => 0))), (q7, .inl (cq7, 710, .inl (fun _ => 0))), (q9, .inl (cq9, 710, .inl (fun _ => 0)))] := hD
  refine lv_aload_n hx hb dX12_init_54 rfl (lv_at hl 0 rfl) ?_
  refine lv_iconst (v := (-1)) hx hb dX12_init_55 (by decide +kernel) ?_
  refine va_put (D := D) (ci := 12) (v := .int (-1)) (ty := .int) (C := RX12) (T := TX12) (N := 139) hx hb hts i_v_c_Model_init_X12 tyX12 tyX12_ok nmX12 hown hK hP hD hS 0 rfl rfl 12 (by decide) (hts (.fieldLink RX12 30 "ScheduleHouseModel" "faultLine" "I") (by decide +kernel)) (fun _ h9 => h9) rfl (by decide +kernel) rfl rfl (kp_lt kfs11 hlen (by decide)) dX12_init_56 (fun H locs hP hD hS => ?_)
  obtain ⟨fs12, hfs12⟩ : ∃ z, z = fs11.set 12 (.int (-1)) := ⟨_, rfl⟩
  have kfs12 := kp_s 12 (.int (-1)) kfs11
  have gfs12_12 : fs12[12]? = some (.int (-1)) := by rw [hfs12]; exact se_eq (kp_lt kfs11 hlen (by decide))
  have gfs12_11 : fs12[11]? = some (.int (-1)) := by rw [hfs12]; exact se_ne gfs11_11 (by decide)
  have gfs12_7 : fs12[7]? = some (.ref q9) := by rw [hfs12]; exact se_ne gfs11_7 (by decide)
  have gfs12_6 : fs12[6]? = some (.ref q7) := by rw [hfs12]; exact se_ne gfs11_6 (by decide)
  have gfs12_5 : fs12[5]? = some (.ref q5) := by rw [hfs12]; exact se_ne gfs11_5 (by decide)
  have gfs12_4 : fs12[4]? = some (.ref q3) := by rw [hfs12]; exact se_ne gfs11_4 (by decide)
  have gfs12_1 : fs12[1]? = some (.ref q1) := by rw [hfs12]; exact se_ne gfs11_1 (by decide)
  rw [← hfs12] at hP hD kfs12
  have hP : va_P D vwCl [(h0, .inr (12, fs12)), (q1, .inl (cq1, 3000, .inl (fun _ => 0))), (q3, .inl (cq3, 710, .inl (fun _ => 0))), (q5, .inl (cq5, 710, .inl (fun _ => 0))), (q7, .inl (cq7, 710, .inl (fun _ => 0))), (q9, .inl (cq9, 710, .inl (fun _ => 0)))] H := hP
  have hD : va_D A [(h0, .inr (12, fs12)), (q1, .inl (cq1, 3000, .inl (fun _ => 0))), (q3, .inl (cq3, 710, .inl (fun _ => 0))), (q5, .inl (cq5, 710, .inl (fun _ => 0))), (q7, .inl (cq7, 710, .inl (fun _ => 0))), (q9, .inl (cq9, 710, .inl (fun _ => 0)))] := hD
  have lfs12 : fs12.length = 139 := by rw [kfs12.1]; exact hlen
  refine mi_a ⟨hx, hb, hts, hown, hA, hl, Nat.le_of_ble_eq_true rfl, Nat.le_of_ble_eq_true rfl⟩ hK lfs12 ⟨_, kp_0 _, hP, hD, hS⟩ (fun H locs hI => ?_)
  obtain ⟨fs13, jfs13, hP, hD, hS⟩ := hI
  have kfs13 : kp [117, 115, 114, 113, 112, 111, 110, 109, 108, 106, 105, 104, 103, 102, 101, 100, 99, 98, 97, 95, 87, 86, 85, 83, 81, 80, 79, 78, 77, 76, 75, 74, 73, 72, 71, 70, 69, 65, 64, 63, 62, 61, 60, 59, 58, 57, 56, 55, 54, 53, 51, 50, 46, 45, 44, 40, 39, 38, 37, 36, 35, 34, 33, 32, 31, 30, 29, 19, 18, 17, 16, 15, 14, 12, 11, 7, 6, 5, 4, 1] fs fs13 := by
    have z9 := kp_t kfs12 jfs13
    exact z9
  have gfs13_12 : fs13[12]? = some (.int (-1)) := kp_at jfs13 gfs12_12 (by decide)
  have gfs13_11 : fs13[11]? = some (.int (-1)) := kp_at jfs13 gfs12_11 (by decide)
  have gfs13_7 : fs13[7]? = some (.ref q9) := kp_at jfs13 gfs12_7 (by decide)
  have gfs13_6 : fs13[6]? = some (.ref q7) := kp_at jfs13 gfs12_6 (by decide)
  have gfs13_5 : fs13[5]? = some (.ref q5) := kp_at jfs13 gfs12_5 (by decide)
  have gfs13_4 : fs13[4]? = some (.ref q3) := kp_at jfs13 gfs12_4 (by decide)
  have gfs13_1 : fs13[1]? = some (.ref q1) := kp_at jfs13 gfs12_1 (by decide)
  have hP : va_P D vwCl [(h0, .inr (12, fs13)), (q1, .inl (cq1, 3000, .inl (fun _ => 0))), (q3, .inl (cq3, 710, .inl (fun _ => 0))), (q5, .inl (cq5, 710, .inl (fun _ => 0))), (q7, .inl (cq7, 710, .inl (fun _ => 0))), (q9, .inl (cq9, 710, .inl (fun _ => 0)))] H := hP
  have hD : va_D A [(h0, .inr (12, fs13)), (q1, .inl (cq1, 3000, .inl (fun _ => 0))), (q3, .inl (cq3, 710, .inl (fun _ => 0))), (q5, .inl (cq5, 710, .inl (fun _ => 0))), (q7, .inl (cq7, 710, .inl (fun _ => 0))), (q9, .inl (cq9, 710, .inl (fun _ => 0)))] := hD
  refine lv_aload_n hx hb dX12_init_669 rfl (lv_at hl 0 rfl) ?_
  refine lv_iconst (v := 2) hx hb dX12_init_670 (by decide +kernel) ?_
  refine va_newa (atype := .boolean) (ty := .boolean) (N' := 2) (a0 := (2, .inl (fun _ => 0))) hx hb (hts (.arrayClass .boolean) (by decide +kernel)) rfl hK hP hD hS hA (na_boolean 2) (by decide +kernel) (by decide +kernel) (by decide +kernel) (Nat.le_of_ble_eq_true rfl) (Nat.le_of_ble_eq_true rfl) dX12_init_671 (fun q14 cq14 H hK hP hD hS => ?_)
  have hP : va_P D vwCl [(h0, .inr (12, fs13)), (q1, .inl (cq1, 3000, .inl (fun _ => 0))), (q3, .inl (cq3, 710, .inl (fun _ => 0))), (q5, .inl (cq5, 710, .inl (fun _ => 0))), (q7, .inl (cq7, 710, .inl (fun _ => 0))), (q9, .inl (cq9, 710, .inl (fun _ => 0))), (q14, .inl (cq14, 2, .inl (fun _ => 0)))] H := hP
  have hD : va_D A [(h0, .inr (12, fs13)), (q1, .inl (cq1, 3000, .inl (fun _ => 0))), (q3, .inl (cq3, 710, .inl (fun _ => 0))), (q5, .inl (cq5, 710, .inl (fun _ => 0))), (q7, .inl (cq7, 710, .inl (fun _ => 0))), (q9, .inl (cq9, 710, .inl (fun _ => 0))), (q14, .inl (cq14, 2, .inl (fun _ => 0)))] := hD
  have hK : va_K D vwCl [(cq1, .byte), (cq3, .int), (cq5, .int), (cq7, .int), (cq9, .int), (cq14, .boolean)] s := hK
  refine W.widen (k := 79) (n := 58320) (Nat.le_of_ble_eq_true rfl) (Nat.le_of_ble_eq_true rfl) ?_
  refine va_put (D := D) (ci := 12) (v := .ref q14) (ty := .array .boolean) (C := RX12) (T := TX12) (N := 139) hx hb hts i_v_c_Model_init_X12 tyX12 tyX12_ok nmX12 hown hK hP hD hS 0 rfl rfl 118 (by decide) (hts (.fieldLink RX12 254 "ScheduleHouseModel" "wasTried" "[Z") (by decide +kernel)) (fun _ h9 => h9) rfl (by decide +kernel) rfl rfl (kp_lt kfs13 hlen (by decide)) dX12_init_673 (fun H locs hP hD hS => ?_)
  obtain ⟨fs15, hfs15⟩ : ∃ z, z = fs13.set 118 (.ref q14) := ⟨_, rfl⟩
  have kfs15 := kp_s 118 (.ref q14) kfs13
  have gfs15_118 : fs15[118]? = some (.ref q14) := by rw [hfs15]; exact se_eq (kp_lt kfs13 hlen (by decide))
  have gfs15_12 : fs15[12]? = some (.int (-1)) := by rw [hfs15]; exact se_ne gfs13_12 (by decide)
  have gfs15_11 : fs15[11]? = some (.int (-1)) := by rw [hfs15]; exact se_ne gfs13_11 (by decide)
  have gfs15_7 : fs15[7]? = some (.ref q9) := by rw [hfs15]; exact se_ne gfs13_7 (by decide)
  have gfs15_6 : fs15[6]? = some (.ref q7) := by rw [hfs15]; exact se_ne gfs13_6 (by decide)
  have gfs15_5 : fs15[5]? = some (.ref q5) := by rw [hfs15]; exact se_ne gfs13_5 (by decide)
  have gfs15_4 : fs15[4]? = some (.ref q3) := by rw [hfs15]; exact se_ne gfs13_4 (by decide)
  have gfs15_1 : fs15[1]? = some (.ref q1) := by rw [hfs15]; exact se_ne gfs13_1 (by decide)
  rw [← hfs15] at hP hD kfs15
  have hP : va_P D vwCl [(h0, .inr (12, fs15)), (q1, .inl (cq1, 3000, .inl (fun _ => 0))), (q3, .inl (cq3, 710, .inl (fun _ => 0))), (q5, .inl (cq5, 710, .inl (fun _ => 0))), (q7, .inl (cq7, 710, .inl (fun _ => 0))), (q9, .inl (cq9, 710, .inl (fun _ => 0))), (q14, .inl (cq14, 2, .inl (fun _ => 0)))] H := hP
  have hD : va_D A [(h0, .inr (12, fs15)), (q1, .inl (cq1, 3000, .inl (fun _ => 0))), (q3, .inl (cq3, 710, .inl (fun _ => 0))), (q5, .inl (cq5, 710, .inl (fun _ => 0))), (q7, .inl (cq7, 710, .inl (fun _ => 0))), (q9, .inl (cq9, 710, .inl (fun _ => 0))), (q14, .inl (cq14, 2, .inl (fun _ => 0)))] := hD
  have lfs15 : fs15.length = 139 := by rw [kfs15.1]; exact hlen
  refine mi_b ⟨hx, hb, hts, hown, hA, hl, Nat.le_of_ble_eq_true rfl, Nat.le_of_ble_eq_true rfl⟩ hK lfs15 ⟨_, kp_0 _, hP, hD, hS⟩ (fun H locs hI => ?_)
  obtain ⟨fs16, jfs16, hP, hD, hS⟩ := hI
  have kfs16 : kp [138, 137, 135, 134, 133, 132, 131, 130, 129, 128, 127, 126, 125, 124, 123, 122, 121, 120, 119, 118, 117, 115, 114, 113, 112, 111, 110, 109, 108, 106, 105, 104, 103, 102, 101, 100, 99, 98, 97, 95, 87, 86, 85, 83, 81, 80, 79, 78, 77, 76, 75, 74, 73, 72, 71, 70, 69, 65, 64, 63, 62, 61, 60, 59, 58, 57, 56, 55, 54, 53, 51, 50, 46, 45, 44, 40, 39, 38, 37, 36, 35, 34, 33, 32, 31, 30, 29, 19, 18, 17, 16, 15, 14, 12, 11, 7, 6, 5, 4, 1] fs fs16 := by
    have z9 := kp_t kfs15 jfs16
    exact z9
  have gfs16_118 : fs16[118]? = some (.ref q14) := kp_at jfs16 gfs15_118 (by decide)
  have gfs16_12 : fs16[12]? = some (.int (-1)) := kp_at jfs16 gfs15_12 (by decide)
  have gfs16_11 : fs16[11]? = some (.int (-1)) := kp_at jfs16 gfs15_11 (by decide)
  have gfs16_7 : fs16[7]? = some (.ref q9) := kp_at jfs16 gfs15_7 (by decide)
  have gfs16_6 : fs16[6]? = some (.ref q7) := kp_at jfs16 gfs15_6 (by decide)
  have gfs16_5 : fs16[5]? = some (.ref q5) := kp_at jfs16 gfs15_5 (by decide)
  have gfs16_4 : fs16[4]? = some (.ref q3) := kp_at jfs16 gfs15_4 (by decide)
  have gfs16_1 : fs16[1]? = some (.ref q1) := kp_at jfs16 gfs15_1 (by decide)
  have hP : va_P D vwCl [(h0, .inr (12, fs16)), (q1, .inl (cq1, 3000, .inl (fun _ => 0))), (q3, .inl (cq3, 710, .inl (fun _ => 0))), (q5, .inl (cq5, 710, .inl (fun _ => 0))), (q7, .inl (cq7, 710, .inl (fun _ => 0))), (q9, .inl (cq9, 710, .inl (fun _ => 0))), (q14, .inl (cq14, 2, .inl (fun _ => 0)))] H := hP
  have hD : va_D A [(h0, .inr (12, fs16)), (q1, .inl (cq1, 3000, .inl (fun _ => 0))), (q3, .inl (cq3, 710, .inl (fun _ => 0))), (q5, .inl (cq5, 710, .inl (fun _ => 0))), (q7, .inl (cq7, 710, .inl (fun _ => 0))), (q9, .inl (cq9, 710, .inl (fun _ => 0))), (q14, .inl (cq14, 2, .inl (fun _ => 0)))] := hD
  have hP : va_P D vwCl [(h0, .inr (12, fs16)), (q1, .inl (cq1, 3000, .inl (fun _ => 0))), (q3, .inl (cq3, 710, .inl (fun _ => 0))), (q5, .inl (cq5, 710, .inl (fun _ => 0))), (q7, .inl (cq7, 710, .inl (fun _ => 0))), (q9, .inl (cq9, 710, .inl (fun _ => 0))), (q14, .inl (cq14, 2, .inl (fun _ => 0)))] H := hP.sub [0, 1, 2, 3, 4, 5, 6] rfl
  have hD : va_D A [(h0, .inr (12, fs16)), (q1, .inl (cq1, 3000, .inl (fun _ => 0))), (q3, .inl (cq3, 710, .inl (fun _ => 0))), (q5, .inl (cq5, 710, .inl (fun _ => 0))), (q7, .inl (cq7, 710, .inl (fun _ => 0))), (q9, .inl (cq9, 710, .inl (fun _ => 0))), (q14, .inl (cq14, 2, .inl (fun _ => 0)))] := hD.sub [0, 1, 2, 3, 4, 5, 6] (by decide) rfl
  have hK : va_K D vwCl [(cq1, .byte), (cq3, .int), (cq5, .int), (cq7, .int), (cq9, .int), (cq14, .boolean)] s := hK.sub [0, 1, 2, 3, 4, 5] rfl
  have hzz : ∀ j ∈ mz, fs16[j]? = some (.int 0) := by
    intro j hj
    exact kp_at kfs16 (hz j hj) (mz_ok j hj)
  exact W.vret hx hb hr (fun t ht hW => ⟨⟨fs16, rfl, ⟨by rw [kfs16.1]; exact hlen, hzz, gfs16_11, gfs16_12⟩, q1, q3, q5, q7, q9, q14, cq1, cq3, cq5, cq7, cq9, cq14, gfs16_1, gfs16_4, gfs16_5, gfs16_6, gfs16_7, gfs16_118, by rw [ht]; exact hP, va_K.moved hW.alike hK, hD⟩, hS.F ht⟩) hS.2.2 dX12_init_831
