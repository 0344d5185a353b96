noncomputable def v_c_m_forget : List Cond := .code yX12_forget cX12_forget 1 none :: ([.fieldLink RX12 565 "ScheduleHouseModel" "isCompiled" "Z", .fieldLink RX12 569 "ScheduleHouseModel" "hasRun" "Z", .fieldLink RX12 448 "ScheduleHouseModel" "cells" "I", .fieldLink RX12 458 "ScheduleHouseModel" "locks" "I", .fieldLink RX12 461 "ScheduleHouseModel" "threads" "I", .fieldLink RX12 464 "ScheduleHouseModel" "always" "I", .fieldLink RX12 467 "ScheduleHouseModel" "finals" "I", .fieldLink RX12 254 "ScheduleHouseModel" "wasTried" "[Z"] ++ (wsX120 ++ ([])))
theorem i_v_c_m_forget_X12 : ∀ w ∈ wsX120, w ∈ v_c_m_forget := fun _ h => List.mem_cons_of_mem _ (List.mem_append_right _ (List.mem_append_left _ h))
theorem t_v_c_m_forget : ∀ w ∈ v_c_m_forget, w ∈ lw_tbl := tb_c (List.mem_of_getElem? (i := 2508) (by decide +kernel)) (tb_a (tb_c (List.mem_of_getElem? (i := 2137) (by decide +kernel)) (tb_c (List.mem_of_getElem? (i := 2138) (by decide +kernel)) (tb_c (List.mem_of_getElem? (i := 2094) (by decide +kernel)) (tb_c (List.mem_of_getElem? (i := 2095) (by decide +kernel)) (tb_c (List.mem_of_getElem? (i := 2096) (by decide +kernel)) (tb_c (List.mem_of_getElem? (i := 2097) (by decide +kernel)) (tb_c (List.mem_of_getElem? (i := 2098) (by decide +kernel)) (tb_c (List.mem_of_getElem? (i := 2189) (by decide +kernel)) (tb_n))))))))) (tb_a (tw_wsX120) (tb_n)))
set_option maxHeartbeats 400000 in
set_option maxRecDepth 100000 in
/-- the model's forget -/
theorem c_m_forget (l : Launch) (D : va_G) (h0 wt : Nat) (cw : ClassId) (fs : List Value) (sz : Nat) (hlen : fs.length = 139) (hf_wt : fs[118]? = some (.ref wt)) : Met l yX12_forget v_c_m_forget ({ frames := 1, cells := 0, slots := 0, locals := 12 }) (va_Pc [.ref h0] (st_ D [(h0, .inr (12, fs)), (wt, .inl (cw, 2, .inl (fun _ => 0)))] [(cw, .boolean)] sz)) (va_Qv (fun u : List Value => kp [27, 26, 25, 24, 23, 67, 66] fs u ∧ u[25]? = some (.int 0) ∧ u[26]? = some (.int 0) ∧ u[27]? = some (.int 0)) (fun u t => ∃ f : Nat → Int32, va_P D vwCl [(h0, .inr (12, u)), (wt, .inl (cw, 2, .inl f))] t.heap ∧ va_K D vwCl [(cw, .boolean)] t ∧ va_D (va_A [(h0, .inr (12, fs)), (wt, .inl (cw, 2, .inl (fun _ => 0)))] sz) [(h0, .inr (12, u)), (wt, .inl (cw, 2, .inl f))]) (va_A [(h0, .inr (12, fs)), (wt, .inl (cw, 2, .inl (fun _ => 0)))] sz)) 0 0 (va_A [(h0, .inr (12, fs)), (wt, .inl (cw, 2, .inl (fun _ => 0)))] sz) := by
  refine Met.ofW (cc := cX12_forget) (maxL := 1) (ret := none) (by decide) rfl ?_
  intro p e s m args below meth c s₁ B hml hv
  obtain ⟨rfl, hsz, hP, hK, hD0, hZ, hE⟩ := hv
  have hx := B.exec
  have hb := B.bytes
  have hr := B.returns
  have hts := atoms_spec (ws := v_c_m_forget) B.pre
  have hown : s.vm.findClass RX12 = some m.cls := findClass_of_methodNamed B.named
  have hlocks := B.notSynchronized
  subst hsz
  have hD := hD0.self (sz := s.heap.size)
  generalize hAe : va_A [(h0, .inr (12, fs)), (wt, .inl (cw, 2, .inl (fun _ => 0)))] s.heap.size = A at hD hZ ⊢
  have hA : ∀ q : Nat, s.heap.size ≤ q → A q := fun q h => by rw [← hAe]; exact Or.inr h
  have hS : va_S A s.heap s.heap [] := va_S.rf
  have hAO := hE.2.2.2.1
  have hP : va_P D vwCl [(h0, .inr (12, fs)), (wt, .inl (cw, 2, .inl (fun _ => 0)))] s.heap := hP
  have hl := lv_entry ([.ref h0]) (n := 1) (Nat.le_of_ble_eq_true rfl)
  rw [lg_entry_eq]
  generalize (lg_sl ([.ref h0]) ++ List.replicate (1 - (lg_sl ([.ref h0])).length) Slot.unset).toArray = ls at hl ⊢
  have hl : lv_has ls 1 [(0, .ref h0)] := hl
  have k0 := kp_0 fs
  refine lv_aload_n hx hb dX12_forget_0 rfl (lv_at hl 0 rfl) ?_
  refine lv_iconst (v := 0) hx hb dX12_forget_1 (by decide +kernel) ?_
  refine va_put (D := D) (ci := 12) (v := .int 0) (ty := .boolean) (C := RX12) (T := TX12) (N := 139) hx hb hts i_v_c_m_forget_X12 tyX12 tyX12_ok nmX12 hown hK hP hD hS 0 rfl rfl 66 (by decide) (hts (.fieldLink RX12 565 "ScheduleHouseModel" "isCompiled" "Z") (by decide +kernel)) (fun _ h9 => h9) rfl (by decide +kernel) rfl rfl (kp_lt k0 hlen (by decide)) dX12_forget_2 (fun H locs hP hD hS => ?_)
  obtain ⟨fs1, hfs1⟩ : ∃ z, z = fs.set 66 (.int 0) := ⟨_, rfl⟩
  have kfs1 := kp_s 66 (.int 0) k0
  have gfs1_66 : fs1[66]? = some (.int 0) := by rw [hfs1]; exact se_eq (kp_lt k0 hlen (by decide))
  have gfs1_118 : fs1[118]? = some (.ref wt) := by rw [hfs1]; exact se_ne hf_wt (by decide)
  rw [← hfs1] at hP hD kfs1
  have hP : va_P D vwCl [(h0, .inr (12, fs1)), (wt, .inl (cw, 2, .inl (fun _ => 0)))] H := hP
  have hD : va_D A [(h0, .inr (12, fs1)), (wt, .inl (cw, 2, .inl (fun _ => 0)))] := hD
  refine lv_aload_n hx hb dX12_forget_5 rfl (lv_at hl 0 rfl) ?_
  refine lv_iconst (v := 0) hx hb dX12_forget_6 (by decide +kernel) ?_
  refine va_put (D := D) (ci := 12) (v := .int 0) (ty := .boolean) (C := RX12) (T := TX12) (N := 139) hx hb hts i_v_c_m_forget_X12 tyX12 tyX12_ok nmX12 hown hK hP hD hS 0 rfl rfl 67 (by decide) (hts (.fieldLink RX12 569 "ScheduleHouseModel" "hasRun" "Z") (by decide +kernel)) (fun _ h9 => h9) rfl (by decide +kernel) rfl rfl (kp_lt kfs1 hlen (by decide)) dX12_forget_7 (fun H locs hP hD hS => ?_)
  obtain ⟨fs2, hfs2⟩ : ∃ z, z = fs1.set 67 (.int 0) := ⟨_, rfl⟩
  have kfs2 := kp_s 67 (.int 0) kfs1
  have gfs2_67 : fs2[67]? = some (.int 0) := by rw [hfs2]; exact se_eq (kp_lt kfs1 hlen (by decide))
  have gfs2_66 : fs2[66]? = some (.int 0) := by rw [hfs2]; exact se_ne gfs1_66 (by decide)
  have gfs2_118 : fs2[118]? = some (.ref wt) := by rw [hfs2]; exact se_ne gfs1_118 (by decide)
  rw [← hfs2] at hP hD kfs2
  have hP : va_P D vwCl [(h0, .inr (12, fs2)), (wt, .inl (cw, 2, .inl (fun _ => 0)))] H := hP
  have hD : va_D A [(h0, .inr (12, fs2)), (wt, .inl (cw, 2, .inl (fun _ => 0)))] := hD
  refine lv_aload_n hx hb dX12_forget_10 rfl (lv_at hl 0 rfl) ?_
  refine lv_iconst (v := 0) hx hb dX12_forget_11 (by decide +kernel) ?_
  refine va_put (D := D) (ci := 12) (v := .int 0) (ty := .int) (C := RX12) (T := TX12) (N := 139) hx hb hts i_v_c_m_forget_X12 tyX12 tyX12_ok nmX12 hown hK hP hD hS 0 rfl rfl 23 (by decide) (hts (.fieldLink RX12 448 "ScheduleHouseModel" "cells" "I") (by decide +kernel)) (fun _ h9 => h9) rfl (by decide +kernel) rfl rfl (kp_lt kfs2 hlen (by decide)) dX12_forget_12 (fun H locs hP hD hS => ?_)
  obtain ⟨fs3, hfs3⟩ : ∃ z, z = fs2.set 23 (.int 0) := ⟨_, rfl⟩
  have kfs3 := kp_s 23 (.int 0) kfs2
  have gfs3_23 : fs3[23]? = some (.int 0) := by rw [hfs3]; exact se_eq (kp_lt kfs2 hlen (by decide))
  have gfs3_67 : fs3[67]? = some (.int 0) := by rw [hfs3]; exact se_ne gfs2_67 (by decide)
  have gfs3_66 : fs3[66]? = some (.int 0) := by rw [hfs3]; exact se_ne gfs2_66 (by decide)
  have gfs3_118 : fs3[118]? = some (.ref wt) := by rw [hfs3]; exact se_ne gfs2_118 (by decide)
  rw [← hfs3] at hP hD kfs3
  have hP : va_P D vwCl [(h0, .inr (12, fs3)), (wt, .inl (cw, 2, .inl (fun _ => 0)))] H := hP
  have hD : va_D A [(h0, .inr (12, fs3)), (wt, .inl (cw, 2, .inl (fun _ => 0)))] := hD
  refine lv_aload_n hx hb dX12_forget_15 rfl (lv_at hl 0 rfl) ?_
  refine lv_iconst (v := 0) hx hb dX12_forget_16 (by decide +kernel) ?_
  refine va_put (D := D) (ci := 12) (v := .int 0) (ty := .int) (C := RX12) (T := TX12) (N := 139) hx hb hts i_v_c_m_forget_X12 tyX12 tyX12_ok nmX12 hown hK hP hD hS 0 rfl rfl 24 (by decide) (hts (.fieldLink RX12 458 "ScheduleHouseModel" "locks" "I") (by decide +kernel)) (fun _ h9 => h9) rfl (by decide +kernel) rfl rfl (kp_lt kfs3 hlen (by decide)) dX12_forget_17 (fun H locs hP hD hS => ?_)
  obtain ⟨fs4, hfs4⟩ : ∃ z, z = fs3.set 24 (.int 0) := ⟨_, rfl⟩
  have kfs4 := kp_s 24 (.int 0) kfs3
  have gfs4_24 : fs4[24]? = some (.int 0) := by rw [hfs4]; exact se_eq (kp_lt kfs3 hlen (by decide))
  have gfs4_23 : fs4[23]? = some (.int 0) := by rw [hfs4]; exact se_ne gfs3_23 (by decide)
  have gfs4_67 : fs4[67]? = some (.int 0) := by rw [hfs4]; exact se_ne gfs3_67 (by decide)
  have gfs4_66 : fs4[66]? = some (.int 0) := by rw [hfs4]; exact se_ne gfs3_66 (by decide)
  have gfs4_118 : fs4[118]? = some (.ref wt) := by rw [hfs4]; exact se_ne gfs3_118 (by decide)
  rw [← hfs4] at hP hD kfs4
  have hP : va_P D vwCl [(h0, .inr (12, fs4)), (wt, .inl (cw, 2, .inl (fun _ => 0)))] H := hP
  have hD : va_D A [(h0, .inr (12, fs4)), (wt, .inl (cw, 2, .inl (fun _ => 0)))] := hD
  refine lv_aload_n hx hb dX12_forget_20 rfl (lv_at hl 0 rfl) ?_
  refine lv_iconst (v := 0) hx hb dX12_forget_21 (by decide +kernel) ?_
  refine va_put (D := D) (ci := 12) (v := .int 0) (ty := .int) (C := RX12) (T := TX12) (N := 139) hx hb hts i_v_c_m_forget_X12 tyX12 tyX12_ok nmX12 hown hK hP hD hS 0 rfl rfl 25 (by decide) (hts (.fieldLink RX12 461 "ScheduleHouseModel" "threads" "I") (by decide +kernel)) (fun _ h9 => h9) rfl (by decide +kernel) rfl rfl (kp_lt kfs4 hlen (by decide)) dX12_forget_22 (fun H locs hP hD hS => ?_)
  obtain ⟨fs5, hfs5⟩ : ∃ z, z = fs4.set 25 (.int 0) := ⟨_, rfl⟩
  have kfs5 := kp_s 25 (.int 0) kfs4
  have gfs5_25 : fs5[25]? = some (.int 0) := by rw [hfs5]; exact se_eq (kp_lt kfs4 hlen (by decide))
  have gfs5_24 : fs5[24]? = some (.int 0) := by rw [hfs5]; exact se_ne gfs4_24 (by decide)
  have gfs5_23 : fs5[23]? = some (.int 0) := by rw [hfs5]; exact se_ne gfs4_23 (by decide)
  have gfs5_67 : fs5[67]? = some (.int 0) := by rw [hfs5]; exact se_ne gfs4_67 (by decide)
  have gfs5_66 : fs5[66]? = some (.int 0) := by rw [hfs5]; exact se_ne gfs4_66 (by decide)
  have gfs5_118 : fs5[118]? = some (.ref wt) := by rw [hfs5]; exact se_ne gfs4_118 (by decide)
  rw [← hfs5] at hP hD kfs5
  have hP : va_P D vwCl [(h0, .inr (12, fs5)), (wt, .inl (cw, 2, .inl (fun _ => 0)))] H := hP
  have hD : va_D A [(h0, .inr (12, fs5)), (wt, .inl (cw, 2, .inl (fun _ => 0)))] := hD
  refine lv_aload_n hx hb dX12_forget_25 rfl (lv_at hl 0 rfl) ?_
  refine lv_iconst (v := 0) hx hb dX12_forget_26 (by decide +kernel) ?_
  refine va_put (D := D) (ci := 12) (v := .int 0) (ty := .int) (C := RX12) (T := TX12) (N := 139) hx hb hts i_v_c_m_forget_X12 tyX12 tyX12_ok nmX12 hown hK hP hD hS 0 rfl rfl 26 (by decide) (hts (.fieldLink RX12 464 "ScheduleHouseModel" "always" "I") (by decide +kernel)) (fun _ h9 => h9) rfl (by decide +kernel) rfl rfl (kp_lt kfs5 hlen (by decide)) dX12_forget_27 (fun H locs hP hD hS => ?_)
  obtain ⟨fs6, hfs6⟩ : ∃ z, z = fs5.set 26 (.int 0) := ⟨_, rfl⟩
  have kfs6 := kp_s 26 (.int 0) kfs5
  have gfs6_26 : fs6[26]? = some (.int 0) := by rw [hfs6]; exact se_eq (kp_lt kfs5 hlen (by decide))
  have gfs6_25 : fs6[25]? = some (.int 0) := by rw [hfs6]; exact se_ne gfs5_25 (by decide)
  have gfs6_24 : fs6[24]? = some (.int 0) := by rw [hfs6]; exact se_ne gfs5_24 (by decide)
  have gfs6_23 : fs6[23]? = some (.int 0) := by rw [hfs6]; exact se_ne gfs5_23 (by decide)
  have gfs6_67 : fs6[67]? = some (.int 0) := by rw [hfs6]; exact se_ne gfs5_67 (by decide)
  have gfs6_66 : fs6[66]? = some (.int 0) := by rw [hfs6]; exact se_ne gfs5_66 (by decide)
  have gfs6_118 : fs6[118]? = some (.ref wt) := by rw [hfs6]; exact se_ne gfs5_118 (by decide)
  rw [← hfs6] at hP hD kfs6
  have hP : va_P D vwCl [(h0, .inr (12, fs6)), (wt, .inl (cw, 2, .inl (fun _ => 0)))] H := hP
  have hD : va_D A [(h0, .inr (12, fs6)), (wt, .inl (cw, 2, .inl (fun _ => 0)))] := hD
  refine lv_aload_n hx hb dX12_forget_30 rfl (lv_at hl 0 rfl) ?_
  refine lv_iconst (v := 0) hx hb dX12_forget_31 (by decide +kernel) ?_
  refine va_put (D := D) (ci := 12) (v := .int 0) (ty := .int) (C := RX12) (T := TX12) (N := 139) hx hb hts i_v_c_m_forget_X12 tyX12 tyX12_ok nmX12 hown hK hP hD hS 0 rfl rfl 27 (by decide) (hts (.fieldLink RX12 467 "ScheduleHouseModel" "finals" "I") (by decide +kernel)) (fun _ h9 => h9) rfl (by decide +kernel) rfl rfl (kp_lt kfs6 hlen (by decide)) dX12_forget_32 (fun H locs hP hD hS => ?_)
  obtain ⟨fs7, hfs7⟩ : ∃ z, z = fs6.set 27 (.int 0) := ⟨_, rfl⟩
  have kfs7 := kp_s 27 (.int 0) kfs6
  have gfs7_27 : fs7[27]? = some (.int 0) := by rw [hfs7]; exact se_eq (kp_lt kfs6 hlen (by decide))
  have gfs7_26 : fs7[26]? = some (.int 0) := by rw [hfs7]; exact se_ne gfs6_26 (by decide)
  have gfs7_25 : fs7[25]? = some (.int 0) := by rw [hfs7]; exact se_ne gfs6_25 (by decide)
  have gfs7_24 : fs7[24]? = some (.int 0) := by rw [hfs7]; exact se_ne gfs6_24 (by decide)
  have gfs7_23 : fs7[23]? = some (.int 0) := by rw [hfs7]; exact se_ne gfs6_23 (by decide)
  have gfs7_67 : fs7[67]? = some (.int 0) := by rw [hfs7]; exact se_ne gfs6_67 (by decide)
  have gfs7_66 : fs7[66]? = some (.int 0) := by rw [hfs7]; exact se_ne gfs6_66 (by decide)
  have gfs7_118 : fs7[118]? = some (.ref wt) := by rw [hfs7]; exact se_ne gfs6_118 (by decide)
  rw [← hfs7] at hP hD kfs7
  have hP : va_P D vwCl [(h0, .inr (12, fs7)), (wt, .inl (cw, 2, .inl (fun _ => 0)))] H := hP
  have hD : va_D A [(h0, .inr (12, fs7)), (wt, .inl (cw, 2, .inl (fun _ => 0)))] := hD
  refine lv_aload_n hx hb dX12_forget_35 rfl (lv_at hl 0 rfl) ?_
  refine va_get (D := D) (ci := 12) (v := .ref wt) (C := RX12) (T := TX12) (N := 139) hx hb hts i_v_c_m_forget_X12 hown hK hP 0 rfl rfl 118 (by decide) (hts (.fieldLink RX12 254 "ScheduleHouseModel" "wasTried" "[Z") (by decide +kernel)) (fun _ h9 => h9) gfs7_118 dX12_forget_36 ?_
  refine lv_iconst (v := 0) hx hb dX12_forget_39 (by decide +kernel) ?_
  refine lv_iconst (v := 0) hx hb dX12_forget_40 (by decide +kernel) ?_
  refine va_zast hx hb hK hP hD hS 1 0 rfl rfl (i := 0) (x := 0) (by unfold vp_in; decide) dX12_forget_41 (fun H locs hP hD hS => ?_)
  obtain ⟨fy8, hfy8⟩ : ∃ z : Nat → Int32, z = upd (fun _ => 0) (0 : Int32).toNatClampNeg (vp_nar .boolean 0) := ⟨_, rfl⟩
  have hP : va_P D vwCl [(h0, .inr (12, fs7)), (wt, .inl (cw, 2, .inl fy8))] H := by rw [hfy8]; exact hP
  have hD : va_D A [(h0, .inr (12, fs7)), (wt, .inl (cw, 2, .inl fy8))] := by rw [hfy8]; exact hD
  refine lv_aload_n hx hb dX12_forget_42 rfl (lv_at hl 0 rfl) ?_
  refine va_get (D := D) (ci := 12) (v := .ref wt) (C := RX12) (T := TX12) (N := 139) hx hb hts i_v_c_m_forget_X12 hown hK hP 0 rfl rfl 118 (by decide) (hts (.fieldLink RX12 254 "ScheduleHouseModel" "wasTried" "[Z") (by decide +kernel)) (fun _ h9 => h9) gfs7_118 dX12_forget_43 ?_
  refine lv_iconst (v := 1) hx hb dX12_forget_46 (by decide +kernel) ?_
  refine lv_iconst (v := 0) hx hb dX12_forget_47 (by decide +kernel) ?_
  refine va_zast hx hb hK hP hD hS 1 0 rfl rfl (i := 1) (x := 0) (by unfold vp_in; decide) dX12_forget_48 (fun H locs hP hD hS => ?_)
  obtain ⟨fy9, hfy9⟩ : ∃ z : Nat → Int32, z = upd fy8 (1 : Int32).toNatClampNeg (vp_nar .boolean 0) := ⟨_, rfl⟩
  have hP : va_P D vwCl [(h0, .inr (12, fs7)), (wt, .inl (cw, 2, .inl fy9))] H := by rw [hfy9]; exact hP
  have hD : va_D A [(h0, .inr (12, fs7)), (wt, .inl (cw, 2, .inl fy9))] := by rw [hfy9]; exact hD
  exact W.vret hx hb hr (fun t ht hW => ⟨⟨fs7, rfl, ⟨kfs7, gfs7_25, gfs7_26, gfs7_27⟩, fy9, by rw [ht]; exact hP, va_K.moved hW.alike hK, hD⟩, hS.F ht⟩) hS.2.2 dX12_forget_49
noncomputable def v_c_m_wipe : List Cond := .code yX12_wipe cX12_wipe 2 (some .int) :: ([.fieldLink RX12 316 "ScheduleHouseModel" "thrown" "I", .fieldLink RX12 319 "ScheduleHouseModel" "size" "I"] ++ (wsX120 ++ ((wsV RX12 562 RX12 yX12_forget v_c_m_forget) ++ ([]))))
theorem i_v_c_m_wipe_X12 : ∀ w ∈ wsX120, w ∈ v_c_m_wipe := fun _ h => List.mem_cons_of_mem _ (List.mem_append_right _ (List.mem_append_left _ h))
theorem g_v_c_m_wipe_1 : GoodIn v_c_m_wipe (wsV RX12 562 RX12 yX12_forget v_c_m_forget) := goodIn_sub (fun _ h => List.mem_cons_of_mem _ (List.mem_append_right _ (List.mem_append_right _ (List.mem_append_left _ h)))) (by decide +kernel)
theorem t_v_c_m_wipe : ∀ w ∈ v_c_m_wipe, w ∈ lw_tbl := tb_c (List.mem_of_getElem? (i := 2512) (by decide +kernel)) (tb_a (tb_c (List.mem_of_getElem? (i := 2072) (by decide +kernel)) (tb_c (List.mem_of_getElem? (i := 2074) (by decide +kernel)) (tb_n))) (tb_a (tw_wsX120) (tb_a (tb_a (tb_c (List.mem_of_getElem? (i := 2505) (by decide +kernel)) (tb_c (List.mem_of_getElem? (i := 2507) (by decide +kernel)) (tb_c (List.mem_of_getElem? (i := 114) (by decide +kernel)) (tb_c (List.mem_of_getElem? (i := 215) (by decide +kernel)) (tb_n))))) t_v_c_m_forget) (tb_n))))
set_option maxHeartbeats 400000 in
set_option maxRecDepth 100000 in
/-- the model's wipe -/
theorem c_m_wipe (l : Launch) (D : va_G) (h0 wt : Nat) (cw : ClassId) (fs : List Value) (sz : Nat) (hlen : fs.length = 139) (hf_thrown : fs[0]? = some (.int 0)) (hf_size : fs[2]? = some (.int 0)) (hf_wasTried : fs[118]? = some (.ref wt)) : Met l yX12_wipe v_c_m_wipe ({ frames := 3, cells := 0, slots := 0, locals := 40 }) (va_Pc [.ref h0] (st_ D [(h0, .inr (12, fs)), (wt, .inl (cw, 2, .inl (fun _ => 0)))] [(cw, .boolean)] sz)) (va_Qi (fun (r : Int32) (_ : Unit) => r = 0) (fun _ _ => True) (va_A [(h0, .inr (12, fs)), (wt, .inl (cw, 2, .inl (fun _ => 0)))] sz)) 0 0 (va_A [(h0, .inr (12, fs)), (wt, .inl (cw, 2, .inl (fun _ => 0)))] sz) := by
  refine Met.ofW (cc := cX12_wipe) (maxL := 2) (ret := (some .int)) (by decide) rfl ?_
  intro p e s m args below meth c s₁ B hml hv
  obtain ⟨rfl, hsz, hP, hK, hD0, hZ, hE⟩ := hv
  have hx := B.exec
  have hb := B.bytes
  have hr := B.returns
  have hts := atoms_spec (ws := v_c_m_wipe) B.pre
  have hown : s.vm.findClass RX12 = some m.cls := findClass_of_methodNamed B.named
  have hlocks := B.notSynchronized
  subst hsz
  have hD := hD0.self (sz := s.heap.size)
  generalize hAe : va_A [(h0, .inr (12, fs)), (wt, .inl (cw, 2, .inl (fun _ => 0)))] s.heap.size = A at hD hZ ⊢
  have hA : ∀ q : Nat, s.heap.size ≤ q → A q := fun q h => by rw [← hAe]; exact Or.inr h
  have hS : va_S A s.heap s.heap [] := va_S.rf
  have hAO := hE.2.2.2.1
  have hP : va_P D vwCl [(h0, .inr (12, fs)), (wt, .inl (cw, 2, .inl (fun _ => 0)))] s.heap := hP
  have hl := lv_entry ([.ref h0]) (n := 2) (Nat.le_of_ble_eq_true rfl)
  rw [lg_entry_eq]
  generalize (lg_sl ([.ref h0]) ++ List.replicate (2 - (lg_sl ([.ref h0])).length) Slot.unset).toArray = ls at hl ⊢
  have hl : lv_has ls 2 [(0, .ref h0)] := hl
  refine lv_aload_n hx hb dX12_wipe_0 rfl (lv_at hl 0 rfl) ?_
  refine lv_iconst (v := 0) hx hb dX12_wipe_1 (by decide +kernel) ?_
  refine va_put (D := D) (ci := 12) (v := .int 0) (ty := .int) (C := RX12) (T := TX12) (N := 139) hx hb hts i_v_c_m_wipe_X12 tyX12 tyX12_ok nmX12 hown hK hP hD hS 0 rfl rfl 0 (by decide) (hts (.fieldLink RX12 316 "ScheduleHouseModel" "thrown" "I") (by decide +kernel)) (fun _ h9 => h9) rfl (by decide +kernel) rfl rfl (by rw [hlen]; decide) dX12_wipe_2 (fun H locs hP hD hS => ?_)
  obtain ⟨fs1, hfs1⟩ : ∃ z, z = fs.set 0 (.int 0) := ⟨_, rfl⟩
  rw [← hfs1] at hP hD
  have lfs1 : fs1.length = 139 := by rw [hfs1, List.length_set]; exact hlen
  have gfs1_2 : fs1[2]? = some (.int 0) := by rw [hfs1, List.getElem?_set_ne (by decide)]; exact hf_size
  have gfs1_118 : fs1[118]? = some (.ref wt) := by rw [hfs1, List.getElem?_set_ne (by decide)]; exact hf_wasTried
  have gfs1_0 : fs1[0]? = some (.int 0) := by rw [hfs1]; exact List.getElem?_set_self (by rw [hlen]; decide)
  have hP : va_P D vwCl [(h0, .inr (12, fs1)), (wt, .inl (cw, 2, .inl (fun _ => 0)))] H := hP
  have hD : va_D A [(h0, .inr (12, fs1)), (wt, .inl (cw, 2, .inl (fun _ => 0)))] := hD
  refine lv_aload_n hx hb dX12_wipe_5 rfl (lv_at hl 0 rfl) ?_
  refine va_get (D := D) (ci := 12) (v := .int 0) (C := RX12) (T := TX12) (N := 139) hx hb hts i_v_c_m_wipe_X12 hown hK hP 0 rfl rfl 2 (by decide) (hts (.fieldLink RX12 319 "ScheduleHouseModel" "size" "I") (by decide +kernel)) (fun _ h9 => h9) gfs1_2 dX12_wipe_6 ?_
  refine lv_istore_n (lv' := [(1, .int 0), (0, .ref h0)]) hx hb dX12_wipe_9 rfl hl (by decide) rfl (fun ls hl => ?_)
  refine lv_aload_n hx hb dX12_wipe_10 rfl (lv_at hl 1 rfl) ?_
  refine lv_iconst (v := 0) hx hb dX12_wipe_11 (by decide +kernel) ?_
  refine va_put (D := D) (ci := 12) (v := .int 0) (ty := .int) (C := RX12) (T := TX12) (N := 139) hx hb hts i_v_c_m_wipe_X12 tyX12 tyX12_ok nmX12 hown hK hP hD hS 0 rfl rfl 2 (by decide) (hts (.fieldLink RX12 319 "ScheduleHouseModel" "size" "I") (by decide +kernel)) (fun _ h9 => h9) rfl (by decide +kernel) rfl rfl (by rw [lfs1]; decide) dX12_wipe_12 (fun H locs hP hD hS => ?_)
  obtain ⟨fs2, hfs2⟩ : ∃ z, z = fs1.set 2 (.int 0) := ⟨_, rfl⟩
  rw [← hfs2] at hP hD
  have lfs2 : fs2.length = 139 := by rw [hfs2, List.length_set]; exact lfs1
  have gfs2_118 : fs2[118]? = some (.ref wt) := by rw [hfs2, List.getElem?_set_ne (by decide)]; exact gfs1_118
  have gfs2_0 : fs2[0]? = some (.int 0) := by rw [hfs2, List.getElem?_set_ne (by decide)]; exact gfs1_0
  have gfs2_2 : fs2[2]? = some (.int 0) := by rw [hfs2]; exact List.getElem?_set_self (by rw [lfs1]; decide)
  have hP : va_P D vwCl [(h0, .inr (12, fs2)), (wt, .inl (cw, 2, .inl (fun _ => 0)))] H := hP
  have hD : va_D A [(h0, .inr (12, fs2)), (wt, .inl (cw, 2, .inl (fun _ => 0)))] := hD
  refine lv_aload_n hx hb dX12_wipe_15 rfl (lv_at hl 1 rfl) ?_
  have hPc := hP.sub (ws' := [(h0, .inr (12, fs2)), (wt, .inl (cw, 2, .inl (fun _ => 0)))]) [0, 1] rfl
  have hDc := hD.sub (ws' := [(h0, .inr (12, fs2)), (wt, .inl (cw, 2, .inl (fun _ => 0)))]) [0, 1] (by decide) rfl
  have hKc := hK.sub (tys' := [(cw, .boolean)]) [0] rfl
  have hFc := va_free (wc := [(h0, .inr (12, fs2)), (wt, .inl (cw, 2, .inl (fun _ => 0)))]) hD hS hA [0, 1] rfl
  refine va_callv (va_runV (As := []) (rest := []) ⟨hx, hb, hml, hown, hts⟩ (c_m_forget l D h0 wt cw fs2 H.size lfs2 gfs2_118) (cwV 0 hts g_v_c_m_wipe_1 rfl rfl rfl (by decide +kernel) ⟨Nat.le_of_ble_eq_true rfl, Nat.le_of_ble_eq_true rfl⟩) ⟨st_blind, va_recv hKc hPc (ci := 12) (q0 := 0) rfl rfl, fun U hU hW => ⟨rfl, st_call hU hW hPc hKc hDc hZ hS hFc hE⟩⟩ rfl rfl hl.1 rfl (lv_room (Nat.le_of_ble_eq_true rfl)) dX12_wipe_16 ⟨Nat.le_of_ble_eq_true rfl, Nat.le_of_ble_eq_true rfl⟩) hS (fun q _ h => hFc q h) hFc (fun  u3 t H1 locs ht hvm hw hB hz1 hk1 hS => ?_)
  obtain ⟨ku3, tu3, au3, zu3⟩ := hw
  have lu3 : u3.length = 139 := by rw [ku3.1]; exact lfs2
  have gu3_118 : u3[118]? = some (.ref wt) := kp_at ku3 gfs2_118 (by decide)
  have gu3_0 : u3[0]? = some (.int 0) := kp_at ku3 gfs2_0 (by decide)
  have gu3_2 : u3[2]? = some (.int 0) := kp_at ku3 gfs2_2 (by decide)
  obtain ⟨fy4, hP1, hK1, hD1⟩ := hB
  rw [ht] at hP1
  have hK1 := va_K.moved hvm.symm hK1
  obtain ⟨hP, hD⟩ := va_join (wr := []) (w1 := [(h0, .inr (12, u3)), (wt, .inl (cw, 2, .inl fy4))]) hP hD [0, 1] [] rfl rfl (by decide) (by decide) hk1 hFc hP1 hD1
  have hK := (hK.sub (tys' := []) [] rfl).app hK1
  generalize H1 = H at hP hS ⊢
  have hP : va_P D vwCl [(h0, .inr (12, u3)), (wt, .inl (cw, 2, .inl fy4))] H := hP
  have hD : va_D A [(h0, .inr (12, u3)), (wt, .inl (cw, 2, .inl fy4))] := hD
  have hK : va_K D vwCl [(cw, .boolean)] s := hK
  refine lv_iload_n hx hb dX12_wipe_19 rfl (lv_at hl 0 rfl) ?_
  exact W.iret (v := 0) hx hb hr (fun t ht hW => ⟨⟨0, (), rfl, rfl, trivial⟩, hS.F ht⟩) hS.2.2 dX12_wipe_20
noncomputable def v_c_m_feed : List Cond := .code yX12_feed cX12_feed 5 (some .int) :: ([.fieldLink RX12 316 "ScheduleHouseModel" "thrown" "I", .fieldLink RX12 319 "ScheduleHouseModel" "size" "I", .fieldLink RX12 7 "ScheduleHouseModel" "text" "[B"] ++ (wsX120 ++ ((va_wsS RX12 322 yX12_in v_c_m_in) ++ ((wsV RX12 558 RX12 yX12_refuses v_c_m_refuses_y1) ++ ((wsV RX12 558 RX12 yX12_refuses v_c_m_refuses_no) ++ ((wsV RX12 562 RX12 yX12_forget v_c_m_forget) ++ ([])))))))
theorem i_v_c_m_feed_X12 : ∀ w ∈ wsX120, w ∈ v_c_m_feed := fun _ h => List.mem_cons_of_mem _ (List.mem_append_right _ (List.mem_append_left _ h))
theorem g_v_c_m_feed_1 : GoodIn v_c_m_feed (va_wsS RX12 322 yX12_in v_c_m_in) := goodIn_sub (fun _ h => List.mem_cons_of_mem _ (List.mem_append_right _ (List.mem_append_right _ (List.mem_append_left _ h)))) (by decide +kernel)
theorem g_v_c_m_feed_2 : GoodIn v_c_m_feed (wsV RX12 558 RX12 yX12_refuses v_c_m_refuses_y1) := goodIn_sub (fun _ h => List.mem_cons_of_mem _ (List.mem_append_right _ (List.mem_append_right _ (List.mem_append_right _ (List.mem_append_left _ h))))) (by decide +kernel)
theorem g_v_c_m_feed_3 : GoodIn v_c_m_feed (wsV RX12 558 RX12 yX12_refuses v_c_m_refuses_no) := goodIn_sub (fun _ h => List.mem_cons_of_mem _ (List.mem_append_right _ (List.mem_append_right _ (List.mem_append_right _ (List.mem_append_right _ (List.mem_append_left _ h)))))) (by decide +kernel)
theorem g_v_c_m_feed_4 : GoodIn v_c_m_feed (wsV RX12 562 RX12 yX12_forget v_c_m_forget) := goodIn_sub (fun _ h => List.mem_cons_of_mem _ (List.mem_append_right _ (List.mem_append_right _ (List.mem_append_right _ (List.mem_append_right _ (List.mem_append_right _ (List.mem_append_left _ h))))))) (by decide +kernel)
theorem t_v_c_m_feed : ∀ w ∈ v_c_m_feed, w ∈ lw_tbl := tb_c (List.mem_of_getElem? (i := 2497) (by decide +kernel)) (tb_a (tb_c (List.mem_of_getElem? (i := 2072) (by decide +kernel)) (tb_c (List.mem_of_getElem? (i := 2074) (by decide +kernel)) (tb_c (List.mem_of_getElem? (i := 2073) (by decide +kernel)) (tb_n)))) (tb_a (tw_wsX120) (tb_a (tb_a (tb_c (List.mem_of_getElem? (i := 2498) (by decide +kernel)) (tb_c (List.mem_of_getElem? (i := 2499) (by decide +kernel)) (tb_c (List.mem_of_getElem? (i := 215) (by decide +kernel)) (tb_n)))) t_v_c_m_in) (tb_a (tb_a (tb_c (List.mem_of_getElem? (i := 2501) (by decide +kernel)) (tb_c (List.mem_of_getElem? (i := 2503) (by decide +kernel)) (tb_c (List.mem_of_getElem? (i := 113) (by decide +kernel)) (tb_c (List.mem_of_getElem? (i := 215) (by decide +kernel)) (tb_n))))) t_v_c_m_refuses_y1) (tb_a (tb_a (tb_c (List.mem_of_getElem? (i := 2501) (by decide +kernel)) (tb_c (List.mem_of_getElem? (i := 2503) (by decide +kernel)) (tb_c (List.mem_of_getElem? (i := 113) (by decide +kernel)) (tb_c (List.mem_of_getElem? (i := 215) (by decide +kernel)) (tb_n))))) t_v_c_m_refuses_no) (tb_a (tb_a (tb_c (List.mem_of_getElem? (i := 2505) (by decide +kernel)) (tb_c (List.mem_of_getElem? (i := 2507) (by decide +kernel)) (tb_c (List.mem_of_getElem? (i := 114) (by decide +kernel)) (tb_c (List.mem_of_getElem? (i := 215) (by decide +kernel)) (tb_n))))) t_v_c_m_forget) (tb_n)))))))
set_option maxHeartbeats 400000 in
set_option maxRecDepth 100000 in
/-- the model's feed: refused -/
theorem c_m_feed_no (l : Launch) (D : va_G) (h0 mt wt : Nat) (cm cw : ClassId) (fs : List Value) (f0 : Nat → Int32) (p0 : Int32) (p1 : Int64) (sz : Nat) (hlen : fs.length = 139) (hf_thrown : fs[0]? = some (.int 0)) (hf_size : fs[2]? = some (.int 0)) (hf_wasTried : fs[118]? = some (.ref wt)) (hf_text : fs[1]? = some (.ref mt)) (hbad : p0 < 1 ∨ 8 < p0) : Met l yX12_feed v_c_m_feed ({ frames := 5, cells := 0, slots := 0, locals := 80 }) (va_Pc [.ref h0, .int p0, .long p1] (st_ D [(h0, .inr (12, fs)), (mt, .inl (cm, 3000, .inl f0)), (wt, .inl (cw, 2, .inl (fun _ => 0)))] [(cm, .byte), (cw, .boolean)] sz)) (va_Qi (fun (r : Int32) (u : List Value) => ∃ t : Int32, u[0]? = some (.int t) ∧ ((t = 0 ∧ r = p0 ∧ (¬ p0 < 1 ∧ ¬ 8 < p0)) ∨ (t = 1 ∧ (p0 < 1 ∨ 8 < p0)) ∨ (t = 2 ∧ False))) (fun u t => va_P D vwCl [(h0, .inr (12, u))] t.heap ∧ va_K D vwCl [] t ∧ va_D (va_A [(h0, .inr (12, fs)), (mt, .inl (cm, 3000, .inl f0)), (wt, .inl (cw, 2, .inl (fun _ => 0)))] sz) [(h0, .inr (12, u))]) (va_A [(h0, .inr (12, fs)), (mt, .inl (cm, 3000, .inl f0)), (wt, .inl (cw, 2, .inl (fun _ => 0)))] sz)) 0 0 (va_A [(h0, .inr (12, fs)), (mt, .inl (cm, 3000, .inl f0)), (wt, .inl (cw, 2, .inl (fun _ => 0)))] sz) := by
  refine Met.ofW (cc := cX12_feed) (maxL := 5) (ret := (some .int)) (by decide) rfl ?_
  intro p e s m args below meth c s₁ B hml hv
  obtain ⟨rfl, hsz, hP, hK, hD0, hZ, hE⟩ := hv
  have hx := B.exec
  have hb := B.bytes
  have hr := B.returns
  have hts := atoms_spec (ws := v_c_m_feed) B.pre
  have hown : s.vm.findClass RX12 = some m.cls := findClass_of_methodNamed B.named
  have hlocks := B.notSynchronized
  subst hsz
  have hD := hD0.self (sz := s.heap.size)
  generalize hAe : va_A [(h0, .inr (12, fs)), (mt, .inl (cm, 3000, .inl f0)), (wt, .inl (cw, 2, .inl (fun _ => 0)))] s.heap.size = A at hD hZ ⊢
  have hA : ∀ q : Nat, s.heap.size ≤ q → A q := fun q h => by rw [← hAe]; exact Or.inr h
  have hS : va_S A s.heap s.heap [] := va_S.rf
  have hAO := hE.2.2.2.1
  have hP : va_P D vwCl [(h0, .inr (12, fs)), (mt, .inl (cm, 3000, .inl f0)), (wt, .inl (cw, 2, .inl (fun _ => 0)))] s.heap := hP
  have hl := lv_entry ([.ref h0, .int p0, .long p1]) (n := 5) (Nat.le_of_ble_eq_true rfl)
  rw [lg_entry_eq]
  generalize (lg_sl ([.ref h0, .int p0, .long p1]) ++ List.replicate (5 - (lg_sl ([.ref h0, .int p0, .long p1])).length) Slot.unset).toArray = ls at hl ⊢
  have hl : lv_has ls 5 [(0, .ref h0), (1, .int p0), (2, .long p1)] := hl
  refine lv_aload_n hx hb dX12_feed_0 rfl (lv_at hl 0 rfl) ?_
  refine lv_iconst (v := 0) hx hb dX12_feed_1 (by decide +kernel) ?_
  refine va_put (D := D) (ci := 12) (v := .int 0) (ty := .int) (C := RX12) (T := TX12) (N := 139) hx hb hts i_v_c_m_feed_X12 tyX12 tyX12_ok nmX12 hown hK hP hD hS 0 rfl rfl 0 (by decide) (hts (.fieldLink RX12 316 "ScheduleHouseModel" "thrown" "I") (by decide +kernel)) (fun _ h9 => h9) rfl (by decide +kernel) rfl rfl (by rw [hlen]; decide) dX12_feed_2 (fun H locs hP hD hS => ?_)
  obtain ⟨fs1, hfs1⟩ : ∃ z, z = fs.set 0 (.int 0) := ⟨_, rfl⟩
  rw [← hfs1] at hP hD
  have lfs1 : fs1.length = 139 := by rw [hfs1, List.length_set]; exact hlen
  have gfs1_2 : fs1[2]? = some (.int 0) := by rw [hfs1, List.getElem?_set_ne (by decide)]; exact hf_size
  have gfs1_118 : fs1[118]? = some (.ref wt) := by rw [hfs1, List.getElem?_set_ne (by decide)]; exact hf_wasTried
  have gfs1_1 : fs1[1]? = some (.ref mt) := by rw [hfs1, List.getElem?_set_ne (by decide)]; exact hf_text
  have gfs1_0 : fs1[0]? = some (.int 0) := by rw [hfs1]; exact List.getElem?_set_self (by rw [hlen]; decide)
  have hP : va_P D vwCl [(h0, .inr (12, fs1)), (mt, .inl (cm, 3000, .inl f0)), (wt, .inl (cw, 2, .inl (fun _ => 0)))] H := hP
  have hD : va_D A [(h0, .inr (12, fs1)), (mt, .inl (cm, 3000, .inl f0)), (wt, .inl (cw, 2, .inl (fun _ => 0)))] := hD
  refine lv_aload_n hx hb dX12_feed_5 rfl (lv_at hl 0 rfl) ?_
  refine lv_iload_n hx hb dX12_feed_6 rfl (lv_at hl 1 rfl) ?_
  refine lv_iconst (v := 1) hx hb dX12_feed_7 (by decide +kernel) ?_
  refine lv_bipush (v := 8) hx hb dX12_feed_8 (by decide +kernel) ?_
  have hPc := hP.sub (ws' := []) [] rfl
  have hDc := hD.sub (ws' := []) [] (by decide) rfl
  have hKc := hK.sub (tys' := []) [] rfl
  have hFc := va_free (wc := []) hD hS hA [] rfl
  refine va_calli (va_runS (As := [.int p0, .int 1, .int 8]) (rest := [.ref h0]) ⟨hx, hb, hml, hown, hts⟩ (c_m_in l D p0 1 8 H.size) (va_cwS 3 hts g_v_c_m_feed_1 rfl rfl rfl (by decide +kernel) ⟨Nat.le_of_ble_eq_true rfl, Nat.le_of_ble_eq_true rfl⟩) ⟨st_blind, fun U hU hW => ⟨rfl, st_call hU hW hPc hKc hDc hZ hS hFc hE⟩⟩ rfl rfl hl.1 rfl (lv_room (Nat.le_of_ble_eq_true rfl)) dX12_feed_10 ⟨Nat.le_of_ble_eq_true rfl, Nat.le_of_ble_eq_true rfl⟩) hS (fun q _ h => hFc q h) hFc (fun r2 u3 t H1 locs ht hvm hw hB hz1 hk1 hS => ?_)
  obtain ⟨hP, hD⟩ := va_join (wr := [(h0, .inr (12, fs1)), (mt, .inl (cm, 3000, .inl f0)), (wt, .inl (cw, 2, .inl (fun _ => 0)))]) (w1 := []) hP hD [] [0, 1, 2] rfl rfl (by decide) (by decide) hk1 hFc p_nil d_nil
  generalize H1 = H at hP hS ⊢
  have hP : va_P D vwCl [(h0, .inr (12, fs1)), (mt, .inl (cm, 3000, .inl f0)), (wt, .inl (cw, 2, .inl (fun _ => 0)))] H := hP
  have hD : va_D A [(h0, .inr (12, fs1)), (mt, .inl (cm, 3000, .inl f0)), (wt, .inl (cw, 2, .inl (fun _ => 0)))] := hD
  rcases hw with ⟨er2, hi⟩ | ⟨er2, hi⟩
  · subst er2
    exact absurd hbad (fun h => h.elim hi.1 hi.2)
  · subst er2
    refine lv_if_eq (tgt := 28) hx hb dX12_feed_13 (by decide) (fun _ => ?_) (fun c9 => False.elim (by revert c9; decide))
    refine lv_iconst (v := 1) hx hb dX12_feed_28 (by decide +kernel) ?_
    refine lv_goto (tgt := 33) hx hb dX12_feed_29 (by decide) ?_
    refine lv_iconst (v := 1) hx hb dX12_feed_33 (by decide +kernel) ?_
    have hPc := hP.sub (ws' := [(h0, .inr (12, fs1))]) [0] rfl
    have hDc := hD.sub (ws' := [(h0, .inr (12, fs1))]) [0] (by decide) rfl
    have hKc := hK.sub (tys' := []) [] rfl
    have hFc := va_free (wc := [(h0, .inr (12, fs1))]) hD hS hA [0] rfl
    refine va_calli (va_runV (As := [.int 1, .int 1]) (rest := []) ⟨hx, hb, hml, hown, hts⟩ (c_m_refuses_y1 l D h0 fs1 H.size lfs1 gfs1_0) (cwV 2 hts g_v_c_m_feed_2 rfl rfl rfl (by decide +kernel) ⟨Nat.le_of_ble_eq_true rfl, Nat.le_of_ble_eq_true rfl⟩) ⟨st_blind, va_recv hKc hPc (ci := 12) (q0 := 0) rfl rfl, fun U hU hW => ⟨rfl, st_call hU hW hPc hKc hDc hZ hS hFc hE⟩⟩ rfl rfl hl.1 rfl (lv_room (Nat.le_of_ble_eq_true rfl)) dX12_feed_34 ⟨Nat.le_of_ble_eq_true rfl, Nat.le_of_ble_eq_true rfl⟩) hS (fun q _ h => hFc q h) hFc (fun r4 u5 t H1 locs ht hvm hw hB hz1 hk1 hS => ?_)
    obtain ⟨er4, eu5⟩ := hw
    have lu5 : u5.length = 139 := by rw [eu5, List.length_set]; exact lfs1
    have gu5_2 : u5[2]? = some (.int 0) := by rw [eu5]; exact se_ne gfs1_2 (by decide)
    have gu5_118 : u5[118]? = some (.ref wt) := by rw [eu5]; exact se_ne gfs1_118 (by decide)
    have gu5_1 : u5[1]? = some (.ref mt) := by rw [eu5]; exact se_ne gfs1_1 (by decide)
    have gu5_0 : u5[0]? = some (.int 1) := by rw [eu5]; exact se_eq (by rw [lfs1]; decide)
    obtain ⟨hP1, hK1, hD1⟩ := hB
    rw [ht] at hP1
    have hK1 := va_K.moved hvm.symm hK1
    obtain ⟨hP, hD⟩ := va_join (wr := [(mt, .inl (cm, 3000, .inl f0)), (wt, .inl (cw, 2, .inl (fun _ => 0)))]) (w1 := [(h0, .inr (12, u5))]) hP hD [0] [1, 2] rfl rfl (by decide) (by decide) hk1 hFc hP1 hD1
    have hK := (hK.sub (tys' := [(cm, .byte), (cw, .boolean)]) [0, 1] rfl).app hK1
    generalize H1 = H at hP hS ⊢
    have hP : va_P D vwCl [(mt, .inl (cm, 3000, .inl f0)), (wt, .inl (cw, 2, .inl (fun _ => 0))), (h0, .inr (12, u5))] H := hP
    have hD : va_D A [(mt, .inl (cm, 3000, .inl f0)), (wt, .inl (cw, 2, .inl (fun _ => 0))), (h0, .inr (12, u5))] := hD
    have hK : va_K D vwCl [(cm, .byte), (cw, .boolean)] s := hK
    subst er4
    refine lv_if_eq (tgt := 42) hx hb dX12_feed_37 (by decide) (fun c9 => False.elim (by revert c9; decide)) (fun _ => ?_)
    refine lv_iconst (v := 0) hx hb dX12_feed_40 (by decide +kernel) ?_
    have hP : va_P D vwCl [(h0, .inr (12, u5))] H := hP.sub [2] rfl
    have hD : va_D A [(h0, .inr (12, u5))] := hD.sub [2] (by decide) rfl
    have hK : va_K D vwCl [] s := hK.sub [] rfl
    exact W.iret (v := 0) hx hb hr (fun t ht hW => ⟨⟨0, u5, rfl, ⟨1, gu5_0, Or.inr (Or.inl ⟨rfl, hi⟩)⟩, by rw [ht]; exact hP, va_K.moved hW.alike hK, hD⟩, hS.F ht⟩) hS.2.2 dX12_feed_41
set_option maxHeartbeats 400000 in
set_option maxRecDepth 100000 in
/-- the model's feed(1, ..) -/
theorem c_m_feed_1 (l : Launch) (D : va_G) (h0 mt wt : Nat) (cm cw : ClassId) (fs : List Value) (f0 : Nat → Int32) (p1 : Int64) (sz : Nat) (hlen : fs.length = 139) (hf_thrown : fs[0]? = some (.int 0)) (hf_size : fs[2]? = some (.int 0)) (hf_wasTried : fs[118]? = some (.ref wt)) (hf_text : fs[1]? = some (.ref mt)) : Met l yX12_feed v_c_m_feed ({ frames := 5, cells := 0, slots := 0, locals := 80 }) (va_Pc [.ref h0, .int 1, .long p1] (st_ D [(h0, .inr (12, fs)), (mt, .inl (cm, 3000, .inl f0)), (wt, .inl (cw, 2, .inl (fun _ => 0)))] [(cm, .byte), (cw, .boolean)] sz)) (va_Qi (fun (r : Int32) (u : List Value) => ∃ t : Int32, u[0]? = some (.int t) ∧ ((t = 0 ∧ r = (1 : Int32) ∧ (¬ (1 : Int32) < 1 ∧ ¬ 8 < (1 : Int32))) ∨ (t = 1 ∧ ((1 : Int32) < 1 ∨ 8 < (1 : Int32))) ∨ (t = 2 ∧ False))) (fun u t => va_P D vwCl [(h0, .inr (12, u))] t.heap ∧ va_K D vwCl [] t ∧ va_D (va_A [(h0, .inr (12, fs)), (mt, .inl (cm, 3000, .inl f0)), (wt, .inl (cw, 2, .inl (fun _ => 0)))] sz) [(h0, .inr (12, u))]) (va_A [(h0, .inr (12, fs)), (mt, .inl (cm, 3000, .inl f0)), (wt, .inl (cw, 2, .inl (fun _ => 0)))] sz)) 0 0 (va_A [(h0, .inr (12, fs)), (mt, .inl (cm, 3000, .inl f0)), (wt, .inl (cw, 2, .inl (fun _ => 0)))] sz) := by
  refine Met.ofW (cc := cX12_feed) (maxL := 5) (ret := (some .int)) (by decide) rfl ?_
  intro p e s m args below meth c s₁ B hml hv
  obtain ⟨rfl, hsz, hP, hK, hD0, hZ, hE⟩ := hv
  have hx := B.exec
  have hb := B.bytes
  have hr := B.returns
  have hts := atoms_spec (ws := v_c_m_feed) B.pre
  have hown : s.vm.findClass RX12 = some m.cls := findClass_of_methodNamed B.named
  have hlocks := B.notSynchronized
  subst hsz
  have hD := hD0.self (sz := s.heap.size)
  generalize hAe : va_A [(h0, .inr (12, fs)), (mt, .inl (cm, 3000, .inl f0)), (wt, .inl (cw, 2, .inl (fun _ => 0)))] s.heap.size = A at hD hZ ⊢
  have hA : ∀ q : Nat, s.heap.size ≤ q → A q := fun q h => by rw [← hAe]; exact Or.inr h
  have hS : va_S A s.heap s.heap [] := va_S.rf
  have hAO := hE.2.2.2.1
  have hP : va_P D vwCl [(h0, .inr (12, fs)), (mt, .inl (cm, 3000, .inl f0)), (wt, .inl (cw, 2, .inl (fun _ => 0)))] s.heap := hP
  have hl := lv_entry ([.ref h0, .int 1, .long p1]) (n := 5) (Nat.le_of_ble_eq_true rfl)
  rw [lg_entry_eq]
  generalize (lg_sl ([.ref h0, .int 1, .long p1]) ++ List.replicate (5 - (lg_sl ([.ref h0, .int 1, .long p1])).length) Slot.unset).toArray = ls at hl ⊢
  have hl : lv_has ls 5 [(0, .ref h0), (1, .int 1), (2, .long p1)] := hl
  refine lv_aload_n hx hb dX12_feed_0 rfl (lv_at hl 0 rfl) ?_
  refine lv_iconst (v := 0) hx hb dX12_feed_1 (by decide +kernel) ?_
  refine va_put (D := D) (ci := 12) (v := .int 0) (ty := .int) (C := RX12) (T := TX12) (N := 139) hx hb hts i_v_c_m_feed_X12 tyX12 tyX12_ok nmX12 hown hK hP hD hS 0 rfl rfl 0 (by decide) (hts (.fieldLink RX12 316 "ScheduleHouseModel" "thrown" "I") (by decide +kernel)) (fun _ h9 => h9) rfl (by decide +kernel) rfl rfl (by rw [hlen]; decide) dX12_feed_2 (fun H locs hP hD hS => ?_)
  obtain ⟨fs1, hfs1⟩ : ∃ z, z = fs.set 0 (.int 0) := ⟨_, rfl⟩
  rw [← hfs1] at hP hD
  have lfs1 : fs1.length = 139 := by rw [hfs1, List.length_set]; exact hlen
  have gfs1_2 : fs1[2]? = some (.int 0) := by rw [hfs1, List.getElem?_set_ne (by decide)]; exact hf_size
  have gfs1_118 : fs1[118]? = some (.ref wt) := by rw [hfs1, List.getElem?_set_ne (by decide)]; exact hf_wasTried
  have gfs1_1 : fs1[1]? = some (.ref mt) := by rw [hfs1, List.getElem?_set_ne (by decide)]; exact hf_text
  have gfs1_0 : fs1[0]? = some (.int 0) := by rw [hfs1]; exact List.getElem?_set_self (by rw [hlen]; decide)
  have hP : va_P D vwCl [(h0, .inr (12, fs1)), (mt, .inl (cm, 3000, .inl f0)), (wt, .inl (cw, 2, .inl (fun _ => 0)))] H := hP
  have hD : va_D A [(h0, .inr (12, fs1)), (mt, .inl (cm, 3000, .inl f0)), (wt, .inl (cw, 2, .inl (fun _ => 0)))] := hD
  refine lv_aload_n hx hb dX12_feed_5 rfl (lv_at hl 0 rfl) ?_
  refine lv_iload_n hx hb dX12_feed_6 rfl (lv_at hl 1 rfl) ?_
  refine lv_iconst (v := 1) hx hb dX12_feed_7 (by decide +kernel) ?_
  refine lv_bipush (v := 8) hx hb dX12_feed_8 (by decide +kernel) ?_
  have hPc := hP.sub (ws' := []) [] rfl
  have hDc := hD.sub (ws' := []) [] (by decide) rfl
  have hKc := hK.sub (tys' := []) [] rfl
  have hFc := va_free (wc := []) hD hS hA [] rfl
  refine va_calli (va_runS (As := [.int 1, .int 1, .int 8]) (rest := [.ref h0]) ⟨hx, hb, hml, hown, hts⟩ (c_m_in l D 1 1 8 H.size) (va_cwS 3 hts g_v_c_m_feed_1 rfl rfl rfl (by decide +kernel) ⟨Nat.le_of_ble_eq_true rfl, Nat.le_of_ble_eq_true rfl⟩) ⟨st_blind, fun U hU hW => ⟨rfl, st_call hU hW hPc hKc hDc hZ hS hFc hE⟩⟩ rfl rfl hl.1 rfl (lv_room (Nat.le_of_ble_eq_true rfl)) dX12_feed_10 ⟨Nat.le_of_ble_eq_true rfl, Nat.le_of_ble_eq_true rfl⟩) hS (fun q _ h => hFc q h) hFc (fun r2 u3 t H1 locs ht hvm hw hB hz1 hk1 hS => ?_)
  obtain ⟨hP, hD⟩ := va_join (wr := [(h0, .inr (12, fs1)), (mt, .inl (cm, 3000, .inl f0)), (wt, .inl (cw, 2, .inl (fun _ => 0)))]) (w1 := []) hP hD [] [0, 1, 2] rfl rfl (by decide) (by decide) hk1 hFc p_nil d_nil
  generalize H1 = H at hP hS ⊢
  have hP : va_P D vwCl [(h0, .inr (12, fs1)), (mt, .inl (cm, 3000, .inl f0)), (wt, .inl (cw, 2, .inl (fun _ => 0)))] H := hP
  have hD : va_D A [(h0, .inr (12, fs1)), (mt, .inl (cm, 3000, .inl f0)), (wt, .inl (cw, 2, .inl (fun _ => 0)))] := hD
  rcases hw with ⟨er2, hi⟩ | ⟨er2, hi⟩
  · subst er2
    refine lv_if_eq (tgt := 28) hx hb dX12_feed_13 (by decide) (fun c9 => False.elim (by revert c9; decide)) (fun _ => ?_)
    refine lv_aload_n hx hb dX12_feed_16 rfl (lv_at hl 0 rfl) ?_
    refine va_get (D := D) (ci := 12) (v := .int 0) (C := RX12) (T := TX12) (N := 139) hx hb hts i_v_c_m_feed_X12 hown hK hP 0 rfl rfl 2 (by decide) (hts (.fieldLink RX12 319 "ScheduleHouseModel" "size" "I") (by decide +kernel)) (fun _ h9 => h9) gfs1_2 dX12_feed_17 ?_
    refine lv_iload_n hx hb dX12_feed_20 rfl (lv_at hl 1 rfl) ?_
    refine lv_iadd hx hb dX12_feed_21 ?_
    rw [show (0 + 1 : Int32) = 1 by decide]
    refine lv_sipush (v := 3000) hx hb dX12_feed_22 (by decide +kernel) ?_
    refine lv_icmp_le (tgt := 32) hx hb dX12_feed_25 (by decide) (fun _ => ?_) (fun c9 => False.elim (by revert c9; decide))
    refine lv_iconst (v := 0) hx hb dX12_feed_32 (by decide +kernel) ?_
    refine lv_iconst (v := 1) hx hb dX12_feed_33 (by decide +kernel) ?_
    have hPc := hP.sub (ws' := [(h0, .inr (12, fs1))]) [0] rfl
    have hDc := hD.sub (ws' := [(h0, .inr (12, fs1))]) [0] (by decide) rfl
    have hKc := hK.sub (tys' := []) [] rfl
    have hFc := va_free (wc := [(h0, .inr (12, fs1))]) hD hS hA [0] rfl
    refine va_calli (va_runV (As := [.int 0, .int 1]) (rest := []) ⟨hx, hb, hml, hown, hts⟩ (c_m_refuses_no l D h0 fs1 1 H.size lfs1 gfs1_0) (cwV 2 hts g_v_c_m_feed_3 rfl rfl rfl (by decide +kernel) ⟨Nat.le_of_ble_eq_true rfl, Nat.le_of_ble_eq_true rfl⟩) ⟨st_blind, va_recv hKc hPc (ci := 12) (q0 := 0) rfl rfl, fun U hU hW => ⟨rfl, st_call hU hW hPc hKc hDc hZ hS hFc hE⟩⟩ rfl rfl hl.1 rfl (lv_room (Nat.le_of_ble_eq_true rfl)) dX12_feed_34 ⟨Nat.le_of_ble_eq_true rfl, Nat.le_of_ble_eq_true rfl⟩) hS (fun q _ h => hFc q h) hFc (fun r4 u5 t H1 locs ht hvm hw hB hz1 hk1 hS => ?_)
    obtain ⟨er4, eu5⟩ := hw
    rw [eu5] at hB
    obtain ⟨hP1, hK1, hD1⟩ := hB
    rw [ht] at hP1
    have hK1 := va_K.moved hvm.symm hK1
    obtain ⟨hP, hD⟩ := va_join (wr := [(mt, .inl (cm, 3000, .inl f0)), (wt, .inl (cw, 2, .inl (fun _ => 0)))]) (w1 := [(h0, .inr (12, fs1))]) hP hD [0] [1, 2] rfl rfl (by decide) (by decide) hk1 hFc hP1 hD1
    have hK := (hK.sub (tys' := [(cm, .byte), (cw, .boolean)]) [0, 1] rfl).app hK1
    generalize H1 = H at hP hS ⊢
    have hP : va_P D vwCl [(mt, .inl (cm, 3000, .inl f0)), (wt, .inl (cw, 2, .inl (fun _ => 0))), (h0, .inr (12, fs1))] H := hP
    have hD : va_D A [(mt, .inl (cm, 3000, .inl f0)), (wt, .inl (cw, 2, .inl (fun _ => 0))), (h0, .inr (12, fs1))] := hD
    have hK : va_K D vwCl [(cm, .byte), (cw, .boolean)] s := hK
    subst er4
    refine lv_if_eq (tgt := 42) hx hb dX12_feed_37 (by decide) (fun _ => ?_) (fun c9 => False.elim (by revert c9; decide))
    refine lv_iconst (v := 0) hx hb dX12_feed_42 (by decide +kernel) ?_
    refine lv_istore (lv' := [(4, .int 0), (0, .ref h0), (1, .int 1), (2, .long p1)]) hx hb dX12_feed_43 hl (by decide) rfl (fun ls hl => ?_)
    refine lv_iload hx hb dX12_feed_45 (lv_at hl 0 rfl) ?_
    refine lv_iload_n hx hb dX12_feed_47 rfl (lv_at hl 2 rfl) ?_
    refine lv_icmp_ge (tgt := 85) hx hb dX12_feed_48 (by decide) (fun c9 => False.elim (by revert c9; decide)) (fun _ => ?_)
    refine lv_aload_n hx hb dX12_feed_51 rfl (lv_at hl 1 rfl) ?_
    refine va_get (D := D) (ci := 12) (v := .ref mt) (C := RX12) (T := TX12) (N := 139) hx hb hts i_v_c_m_feed_X12 hown hK hP 2 rfl rfl 1 (by decide) (hts (.fieldLink RX12 7 "ScheduleHouseModel" "text" "[B") (by decide +kernel)) (fun _ h9 => h9) gfs1_1 dX12_feed_52 ?_
    refine lv_aload_n hx hb dX12_feed_55 rfl (lv_at hl 1 rfl) ?_
    refine va_get (D := D) (ci := 12) (v := .int 0) (C := RX12) (T := TX12) (N := 139) hx hb hts i_v_c_m_feed_X12 hown hK hP 2 rfl rfl 2 (by decide) (hts (.fieldLink RX12 319 "ScheduleHouseModel" "size" "I") (by decide +kernel)) (fun _ h9 => h9) gfs1_2 dX12_feed_56 ?_
    refine lv_lload_n hx hb dX12_feed_59 rfl (lv_at hl 3 rfl) ?_
    refine lv_bipush (v := 8) hx hb dX12_feed_60 (by decide +kernel) ?_
    refine lv_iload hx hb dX12_feed_62 (lv_at hl 0 rfl) ?_
    refine lv_imul hx hb dX12_feed_64 ?_
    rw [show (8 * 0 : Int32) = 0 by decide]
    obtain ⟨z6, hz6⟩ : ∃ z : Int64, z = p1 >>> ((0 : Int32).toInt64 &&& 63) := ⟨_, rfl⟩
    refine lv_lshr (v := z6) hx hb dX12_feed_65 hz6.symm ?_
    obtain ⟨b7, hb7⟩ : ∃ z : Int32, z = z6.toInt32 := ⟨_, rfl⟩
    refine lv_l2i (v := b7) hx hb dX12_feed_66 hb7.symm ?_
    refine lv_i2b (v := b7.toInt8.toInt32) hx hb dX12_feed_67 rfl ?_
    refine va_bast hx hb hK hP hD hS 0 0 rfl rfl (i := 0) (x := b7.toInt8.toInt32) (by unfold vp_in; decide) dX12_feed_68 (fun H locs hP hD hS => ?_)
    obtain ⟨fy8, hfy8⟩ : ∃ z : Nat → Int32, z = upd f0 (0 : Int32).toNatClampNeg (vp_nar .byte b7.toInt8.toInt32) := ⟨_, rfl⟩
    have hP : va_P D vwCl [(mt, .inl (cm, 3000, .inl fy8)), (wt, .inl (cw, 2, .inl (fun _ => 0))), (h0, .inr (12, fs1))] H := by rw [hfy8]; exact hP
    have hD : va_D A [(mt, .inl (cm, 3000, .inl fy8)), (wt, .inl (cw, 2, .inl (fun _ => 0))), (h0, .inr (12, fs1))] := by rw [hfy8]; exact hD
    refine lv_aload_n hx hb dX12_feed_69 rfl (lv_at hl 1 rfl) ?_
    refine lv_dup hx hb dX12_feed_70 rfl ?_
    refine va_get (D := D) (ci := 12) (v := .int 0) (C := RX12) (T := TX12) (N := 139) hx hb hts i_v_c_m_feed_X12 hown hK hP 2 rfl rfl 2 (by decide) (hts (.fieldLink RX12 319 "ScheduleHouseModel" "size" "I") (by decide +kernel)) (fun _ h9 => h9) gfs1_2 dX12_feed_71 ?_
    refine lv_iconst (v := 1) hx hb dX12_feed_74 (by decide +kernel) ?_
    refine lv_iadd hx hb dX12_feed_75 ?_
    rw [show (0 + 1 : Int32) = 1 by decide]
    refine va_put (D := D) (ci := 12) (v := .int 1) (ty := .int) (C := RX12) (T := TX12) (N := 139) hx hb hts i_v_c_m_feed_X12 tyX12 tyX12_ok nmX12 hown hK hP hD hS 2 rfl rfl 2 (by decide) (hts (.fieldLink RX12 319 "ScheduleHouseModel" "size" "I") (by decide +kernel)) (fun _ h9 => h9) rfl (by decide +kernel) rfl rfl (by rw [lfs1]; decide) dX12_feed_76 (fun H locs hP hD hS => ?_)
    obtain ⟨fs9, hfs9⟩ : ∃ z, z = fs1.set 2 (.int 1) := ⟨_, rfl⟩
    rw [← hfs9] at hP hD
    have lfs9 : fs9.length = 139 := by rw [hfs9, List.length_set]; exact lfs1
    have gfs9_118 : fs9[118]? = some (.ref wt) := by rw [hfs9, List.getElem?_set_ne (by decide)]; exact gfs1_118
    have gfs9_1 : fs9[1]? = some (.ref mt) := by rw [hfs9, List.getElem?_set_ne (by decide)]; exact gfs1_1
    have gfs9_0 : fs9[0]? = some (.int 0) := by rw [hfs9, List.getElem?_set_ne (by decide)]; exact gfs1_0
    have gfs9_2 : fs9[2]? = some (.int 1) := by rw [hfs9]; exact List.getElem?_set_self (by rw [lfs1]; decide)
    have hP : va_P D vwCl [(mt, .inl (cm, 3000, .inl fy8)), (wt, .inl (cw, 2, .inl (fun _ => 0))), (h0, .inr (12, fs9))] H := hP
    have hD : va_D A [(mt, .inl (cm, 3000, .inl fy8)), (wt, .inl (cw, 2, .inl (fun _ => 0))), (h0, .inr (12, fs9))] := hD
    refine lv_iinc (v := 1) (lv' := [(4, .int 1), (0, .ref h0), (1, .int 1), (2, .long p1)]) hx hb dX12_feed_79 hl (k := 0) rfl (by decide) (by decide) rfl (fun ls hl => ?_)
    refine lv_goto (tgt := 45) hx hb dX12_feed_82 (by decide) ?_
    refine lv_iload hx hb dX12_feed_45 (lv_at hl 0 rfl) ?_
    refine lv_iload_n hx hb dX12_feed_47 rfl (lv_at hl 2 rfl) ?_
    refine lv_icmp_ge (tgt := 85) hx hb dX12_feed_48 (by decide) (fun _ => ?_) (fun c9 => False.elim (by revert c9; decide))
    refine lv_aload_n hx hb dX12_feed_85 rfl (lv_at hl 1 rfl) ?_
    have hPc := hP.sub (ws' := [(h0, .inr (12, fs9)), (wt, .inl (cw, 2, .inl (fun _ => 0)))]) [2, 1] rfl
    have hDc := hD.sub (ws' := [(h0, .inr (12, fs9)), (wt, .inl (cw, 2, .inl (fun _ => 0)))]) [2, 1] (by decide) rfl
    have hKc := hK.sub (tys' := [(cw, .boolean)]) [1] rfl
    have hFc := va_free (wc := [(h0, .inr (12, fs9)), (wt, .inl (cw, 2, .inl (fun _ => 0)))]) hD hS hA [2, 1] rfl
    refine va_callv (va_runV (As := []) (rest := []) ⟨hx, hb, hml, hown, hts⟩ (c_m_forget l D h0 wt cw fs9 H.size lfs9 gfs9_118) (cwV 0 hts g_v_c_m_feed_4 rfl rfl rfl (by decide +kernel) ⟨Nat.le_of_ble_eq_true rfl, Nat.le_of_ble_eq_true rfl⟩) ⟨st_blind, va_recv hKc hPc (ci := 12) (q0 := 0) rfl rfl, fun U hU hW => ⟨rfl, st_call hU hW hPc hKc hDc hZ hS hFc hE⟩⟩ rfl rfl hl.1 rfl (lv_room (Nat.le_of_ble_eq_true rfl)) dX12_feed_86 ⟨Nat.le_of_ble_eq_true rfl, Nat.le_of_ble_eq_true rfl⟩) hS (fun q _ h => hFc q h) hFc (fun  u10 t H1 locs ht hvm hw hB hz1 hk1 hS => ?_)
    obtain ⟨ku10, tu10, au10, zu10⟩ := hw
    have lu10 : u10.length = 139 := by rw [ku10.1]; exact lfs9
    have gu10_118 : u10[118]? = some (.ref wt) := kp_at ku10 gfs9_118 (by decide)
    have gu10_1 : u10[1]? = some (.ref mt) := kp_at ku10 gfs9_1 (by decide)
    have gu10_0 : u10[0]? = some (.int 0) := kp_at ku10 gfs9_0 (by decide)
    have gu10_2 : u10[2]? = some (.int 1) := kp_at ku10 gfs9_2 (by decide)
    obtain ⟨fy11, hP1, hK1, hD1⟩ := hB
    rw [ht] at hP1
    have hK1 := va_K.moved hvm.symm hK1
    obtain ⟨hP, hD⟩ := va_join (wr := [(mt, .inl (cm, 3000, .inl fy8))]) (w1 := [(h0, .inr (12, u10)), (wt, .inl (cw, 2, .inl fy11))]) hP hD [2, 1] [0] rfl rfl (by decide) (by decide) hk1 hFc hP1 hD1
    have hK := (hK.sub (tys' := [(cm, .byte)]) [0] rfl).app hK1
    generalize H1 = H at hP hS ⊢
    have hP : va_P D vwCl [(mt, .inl (cm, 3000, .inl fy8)), (h0, .inr (12, u10)), (wt, .inl (cw, 2, .inl fy11))] H := hP
    have hD : va_D A [(mt, .inl (cm, 3000, .inl fy8)), (h0, .inr (12, u10)), (wt, .inl (cw, 2, .inl fy11))] := hD
    have hK : va_K D vwCl [(cm, .byte), (cw, .boolean)] s := hK
    refine lv_aload_n hx hb dX12_feed_89 rfl (lv_at hl 1 rfl) ?_
    refine va_get (D := D) (ci := 12) (v := .int 1) (C := RX12) (T := TX12) (N := 139) hx hb hts i_v_c_m_feed_X12 hown hK hP 1 rfl rfl 2 (by decide) (hts (.fieldLink RX12 319 "ScheduleHouseModel" "size" "I") (by decide +kernel)) (fun _ h9 => h9) gu10_2 dX12_feed_90 ?_
    have hP : va_P D vwCl [(h0, .inr (12, u10))] H := hP.sub [1] rfl
    have hD : va_D A [(h0, .inr (12, u10))] := hD.sub [1] (by decide) rfl
    have hK : va_K D vwCl [] s := hK.sub [] rfl
    exact W.iret (v := 1) hx hb hr (fun t ht hW => ⟨⟨1, u10, rfl, ⟨0, gu10_0, Or.inl ⟨rfl, rfl, hi⟩⟩, by rw [ht]; exact hP, va_K.moved hW.alike hK, hD⟩, hS.F ht⟩) hS.2.2 dX12_feed_93
  · subst er2
    exact absurd hi (by decide)
set_option maxHeartbeats 400000 in
set_option maxRecDepth 100000 in
/-- the model's feed(2, ..) -/
theorem c_m_feed_2 (l : Launch) (D : va_G) (h0 mt wt : Nat) (cm cw : ClassId) (fs : List Value) (f0 : Nat → Int32) (p1 : Int64) (sz : Nat) (hlen : fs.length = 139) (hf_thrown : fs[0]? = some (.int 0)) (hf_size : fs[2]? = some (.int 0)) (hf_wasTried : fs[118]? = some (.ref wt)) (hf_text : fs[1]? = some (.ref mt)) : Met l yX12_feed v_c_m_feed ({ frames := 5, cells := 0, slots := 0, locals := 80 }) (va_Pc [.ref h0, .int 2, .long p1] (st_ D [(h0, .inr (12, fs)), (mt, .inl (cm, 3000, .inl f0)), (wt, .inl (cw, 2, .inl (fun _ => 0)))] [(cm, .byte), (cw, .boolean)] sz)) (va_Qi (fun (r : Int32) (u : List Value) => ∃ t : Int32, u[0]? = some (.int t) ∧ ((t = 0 ∧ r = (2 : Int32) ∧ (¬ (2 : Int32) < 1 ∧ ¬ 8 < (2 : Int32))) ∨ (t = 1 ∧ ((2 : Int32) < 1 ∨ 8 < (2 : Int32))) ∨ (t = 2 ∧ False))) (fun u t => va_P D vwCl [(h0, .inr (12, u))] t.heap ∧ va_K D vwCl [] t ∧ va_D (va_A [(h0, .inr (12, fs)), (mt, .inl (cm, 3000, .inl f0)), (wt, .inl (cw, 2, .inl (fun _ => 0)))] sz) [(h0, .inr (12, u))]) (va_A [(h0, .inr (12, fs)), (mt, .inl (cm, 3000, .inl f0)), (wt, .inl (cw, 2, .inl (fun _ => 0)))] sz)) 0 0 (va_A [(h0, .inr (12, fs)), (mt, .inl (cm, 3000, .inl f0)), (wt, .inl (cw, 2, .inl (fun _ => 0)))] sz) := by
  refine Met.ofW (cc := cX12_feed) (maxL := 5) (ret := (some .int)) (by decide) rfl ?_
  intro p e s m args below meth c s₁ B hml hv
  obtain ⟨rfl, hsz, hP, hK, hD0, hZ, hE⟩ := hv
  have hx := B.exec
  have hb := B.bytes
  have hr := B.returns
  have hts := atoms_spec (ws := v_c_m_feed) B.pre
  have hown : s.vm.findClass RX12 = some m.cls := findClass_of_methodNamed B.named
  have hlocks := B.notSynchronized
  subst hsz
  have hD := hD0.self (sz := s.heap.size)
  generalize hAe : va_A [(h0, .inr (12, fs)), (mt, .inl (cm, 3000, .inl f0)), (wt, .inl (cw, 2, .inl (fun _ => 0)))] s.heap.size = A at hD hZ ⊢
  have hA : ∀ q : Nat, s.heap.size ≤ q → A q := fun q h => by rw [← hAe]; exact Or.inr h
  have hS : va_S A s.heap s.heap [] := va_S.rf
  have hAO := hE.2.2.2.1
  have hP : va_P D vwCl [(h0, .inr (12, fs)), (mt, .inl (cm, 3000, .inl f0)), (wt, .inl (cw, 2, .inl (fun _ => 0)))] s.heap := hP
  have hl := lv_entry ([.ref h0, .int 2, .long p1]) (n := 5) (Nat.le_of_ble_eq_true rfl)
  rw [lg_entry_eq]
  generalize (lg_sl ([.ref h0, .int 2, .long p1]) ++ List.replicate (5 - (lg_sl ([.ref h0, .int 2, .long p1])).length) Slot.unset).toArray = ls at hl ⊢
  have hl : lv_has ls 5 [(0, .ref h0), (1, .int 2), (2, .long p1)] := hl
  refine lv_aload_n hx hb dX12_feed_0 rfl (lv_at hl 0 rfl) ?_
  refine lv_iconst (v := 0) hx hb dX12_feed_1 (by decide +kernel) ?_
  refine va_put (D := D) (ci := 12) (v := .int 0) (ty := .int) (C := RX12) (T := TX12) (N := 139) hx hb hts i_v_c_m_feed_X12 tyX12 tyX12_ok nmX12 hown hK hP hD hS 0 rfl rfl 0 (by decide) (hts (.fieldLink RX12 316 "ScheduleHouseModel" "thrown" "I") (by decide +kernel)) (fun _ h9 => h9) rfl (by decide +kernel) rfl rfl (by rw [hlen]; decide) dX12_feed_2 (fun H locs hP hD hS => ?_)
  obtain ⟨fs1, hfs1⟩ : ∃ z, z = fs.set 0 (.int 0) := ⟨_, rfl⟩
  rw [← hfs1] at hP hD
  have lfs1 : fs1.length = 139 := by rw [hfs1, List.length_set]; exact hlen
  have gfs1_2 : fs1[2]? = some (.int 0) := by rw [hfs1, List.getElem?_set_ne (by decide)]; exact hf_size
  have gfs1_118 : fs1[118]? = some (.ref wt) := by rw [hfs1, List.getElem?_set_ne (by decide)]; exact hf_wasTried
  have gfs1_1 : fs1[1]? = some (.ref mt) := by rw [hfs1, List.getElem?_set_ne (by decide)]; exact hf_text
  have gfs1_0 : fs1[0]? = some (.int 0) := by rw [hfs1]; exact List.getElem?_set_self (by rw [hlen]; decide)
  have hP : va_P D vwCl [(h0, .inr (12, fs1)), (mt, .inl (cm, 3000, .inl f0)), (wt, .inl (cw, 2, .inl (fun _ => 0)))] H := hP
  have hD : va_D A [(h0, .inr (12, fs1)), (mt, .inl (cm, 3000, .inl f0)), (wt, .inl (cw, 2, .inl (fun _ => 0)))] := hD
  refine lv_aload_n hx hb dX12_feed_5 rfl (lv_at hl 0 rfl) ?_
  refine lv_iload_n hx hb dX12_feed_6 rfl (lv_at hl 1 rfl) ?_
  refine lv_iconst (v := 1) hx hb dX12_feed_7 (by decide +kernel) ?_
  refine lv_bipush (v := 8) hx hb dX12_feed_8 (by decide +kernel) ?_
  have hPc := hP.sub (ws' := []) [] rfl
  have hDc := hD.sub (ws' := []) [] (by decide) rfl
  have hKc := hK.sub (tys' := []) [] rfl
  have hFc := va_free (wc := []) hD hS hA [] rfl
  refine va_calli (va_runS (As := [.int 2, .int 1, .int 8]) (rest := [.ref h0]) ⟨hx, hb, hml, hown, hts⟩ (c_m_in l D 2 1 8 H.size) (va_cwS 3 hts g_v_c_m_feed_1 rfl rfl rfl (by decide +kernel) ⟨Nat.le_of_ble_eq_true rfl, Nat.le_of_ble_eq_true rfl⟩) ⟨st_blind, fun U hU hW => ⟨rfl, st_call hU hW hPc hKc hDc hZ hS hFc hE⟩⟩ rfl rfl hl.1 rfl (lv_room (Nat.le_of_ble_eq_true rfl)) dX12_feed_10 ⟨Nat.le_of_ble_eq_true rfl, Nat.le_of_ble_eq_true rfl⟩) hS (fun q _ h => hFc q h) hFc (fun r2 u3 t H1 locs ht hvm hw hB hz1 hk1 hS => ?_)
  obtain ⟨hP, hD⟩ := va_join (wr := [(h0, .inr (12, fs1)), (mt, .inl (cm, 3000, .inl f0)), (wt, .inl (cw, 2, .inl (fun _ => 0)))]) (w1 := []) hP hD [] [0, 1, 2] rfl rfl (by decide) (by decide) hk1 hFc p_nil d_nil
  generalize H1 = H at hP hS ⊢
  have hP : va_P D vwCl [(h0, .inr (12, fs1)), (mt, .inl (cm, 3000, .inl f0)), (wt, .inl (cw, 2, .inl (fun _ => 0)))] H := hP
  have hD : va_D A [(h0, .inr (12, fs1)), (mt, .inl (cm, 3000, .inl f0)), (wt, .inl (cw, 2, .inl (fun _ => 0)))] := hD
  rcases hw with ⟨er2, hi⟩ | ⟨er2, hi⟩
  · subst er2
    refine lv_if_eq (tgt := 28) hx hb dX12_feed_13 (by decide) (fun c9 => False.elim (by revert c9; decide)) (fun _ => ?_)
    refine lv_aload_n hx hb dX12_feed_16 rfl (lv_at hl 0 rfl) ?_
    refine va_get (D := D) (ci := 12) (v := .int 0) (C := RX12) (T := TX12) (N := 139) hx hb hts i_v_c_m_feed_X12 hown hK hP 0 rfl rfl 2 (by decide) (hts (.fieldLink RX12 319 "ScheduleHouseModel" "size" "I") (by decide +kernel)) (fun _ h9 => h9) gfs1_2 dX12_feed_17 ?_
    refine lv_iload_n hx hb dX12_feed_20 rfl (lv_at hl 1 rfl) ?_
    refine lv_iadd hx hb dX12_feed_21 ?_
    rw [show (0 + 2 : Int32) = 2 by decide]
    refine lv_sipush (v := 3000) hx hb dX12_feed_22 (by decide +kernel) ?_
    refine lv_icmp_le (tgt := 32) hx hb dX12_feed_25 (by decide) (fun _ => ?_) (fun c9 => False.elim (by revert c9; decide))
    refine lv_iconst (v := 0) hx hb dX12_feed_32 (by decide +kernel) ?_
    refine lv_iconst (v := 1) hx hb dX12_feed_33 (by decide +kernel) ?_
    have hPc := hP.sub (ws' := [(h0, .inr (12, fs1))]) [0] rfl
    have hDc := hD.sub (ws' := [(h0, .inr (12, fs1))]) [0] (by decide) rfl
    have hKc := hK.sub (tys' := []) [] rfl
    have hFc := va_free (wc := [(h0, .inr (12, fs1))]) hD hS hA [0] rfl
    refine va_calli (va_runV (As := [.int 0, .int 1]) (rest := []) ⟨hx, hb, hml, hown, hts⟩ (c_m_refuses_no l D h0 fs1 1 H.size lfs1 gfs1_0) (cwV 2 hts g_v_c_m_feed_3 rfl rfl rfl (by decide +kernel) ⟨Nat.le_of_ble_eq_true rfl, Nat.le_of_ble_eq_true rfl⟩) ⟨st_blind, va_recv hKc hPc (ci := 12) (q0 := 0) rfl rfl, fun U hU hW => ⟨rfl, st_call hU hW hPc hKc hDc hZ hS hFc hE⟩⟩ rfl rfl hl.1 rfl (lv_room (Nat.le_of_ble_eq_true rfl)) dX12_feed_34 ⟨Nat.le_of_ble_eq_true rfl, Nat.le_of_ble_eq_true rfl⟩) hS (fun q _ h => hFc q h) hFc (fun r4 u5 t H1 locs ht hvm hw hB hz1 hk1 hS => ?_)
    obtain ⟨er4, eu5⟩ := hw
    rw [eu5] at hB
    obtain ⟨hP1, hK1, hD1⟩ := hB
    rw [ht] at hP1
    have hK1 := va_K.moved hvm.symm hK1
    obtain ⟨hP, hD⟩ := va_join (wr := [(mt, .inl (cm, 3000, .inl f0)), (wt, .inl (cw, 2, .inl (fun _ => 0)))]) (w1 := [(h0, .inr (12, fs1))]) hP hD [0] [1, 2] rfl rfl (by decide) (by decide) hk1 hFc hP1 hD1
    have hK := (hK.sub (tys' := [(cm, .byte), (cw, .boolean)]) [0, 1] rfl).app hK1
    generalize H1 = H at hP hS ⊢
    have hP : va_P D vwCl [(mt, .inl (cm, 3000, .inl f0)), (wt, .inl (cw, 2, .inl (fun _ => 0))), (h0, .inr (12, fs1))] H := hP
    have hD : va_D A [(mt, .inl (cm, 3000, .inl f0)), (wt, .inl (cw, 2, .inl (fun _ => 0))), (h0, .inr (12, fs1))] := hD
    have hK : va_K D vwCl [(cm, .byte), (cw, .boolean)] s := hK
    subst er4
    refine lv_if_eq (tgt := 42) hx hb dX12_feed_37 (by decide) (fun _ => ?_) (fun c9 => False.elim (by revert c9; decide))
    refine lv_iconst (v := 0) hx hb dX12_feed_42 (by decide +kernel) ?_
    refine lv_istore (lv' := [(4, .int 0), (0, .ref h0), (1, .int 2), (2, .long p1)]) hx hb dX12_feed_43 hl (by decide) rfl (fun ls hl => ?_)
    refine lv_iload hx hb dX12_feed_45 (lv_at hl 0 rfl) ?_
    refine lv_iload_n hx hb dX12_feed_47 rfl (lv_at hl 2 rfl) ?_
    refine lv_icmp_ge (tgt := 85) hx hb dX12_feed_48 (by decide) (fun c9 => False.elim (by revert c9; decide)) (fun _ => ?_)
    refine lv_aload_n hx hb dX12_feed_51 rfl (lv_at hl 1 rfl) ?_
    refine va_get (D := D) (ci := 12) (v := .ref mt) (C := RX12) (T := TX12) (N := 139) hx hb hts i_v_c_m_feed_X12 hown hK hP 2 rfl rfl 1 (by decide) (hts (.fieldLink RX12 7 "ScheduleHouseModel" "text" "[B") (by decide +kernel)) (fun _ h9 => h9) gfs1_1 dX12_feed_52 ?_
    refine lv_aload_n hx hb dX12_feed_55 rfl (lv_at hl 1 rfl) ?_
    refine va_get (D := D) (ci := 12) (v := .int 0) (C := RX12) (T := TX12) (N := 139) hx hb hts i_v_c_m_feed_X12 hown hK hP 2 rfl rfl 2 (by decide) (hts (.fieldLink RX12 319 "ScheduleHouseModel" "size" "I") (by decide +kernel)) (fun _ h9 => h9) gfs1_2 dX12_feed_56 ?_
    refine lv_lload_n hx hb dX12_feed_59 rfl (lv_at hl 3 rfl) ?_
    refine lv_bipush (v := 8) hx hb dX12_feed_60 (by decide +kernel) ?_
    refine lv_iload hx hb dX12_feed_62 (lv_at hl 0 rfl) ?_
    refine lv_imul hx hb dX12_feed_64 ?_
    rw [show (8 * 0 : Int32) = 0 by decide]
    obtain ⟨z6, hz6⟩ : ∃ z : Int64, z = p1 >>> ((0 : Int32).toInt64 &&& 63) := ⟨_, rfl⟩
    refine lv_lshr (v := z6) hx hb dX12_feed_65 hz6.symm ?_
    obtain ⟨b7, hb7⟩ : ∃ z : Int32, z = z6.toInt32 := ⟨_, rfl⟩
    refine lv_l2i (v := b7) hx hb dX12_feed_66 hb7.symm ?_
    refine lv_i2b (v := b7.toInt8.toInt32) hx hb dX12_feed_67 rfl ?_
    refine va_bast hx hb hK hP hD hS 0 0 rfl rfl (i := 0) (x := b7.toInt8.toInt32) (by unfold vp_in; decide) dX12_feed_68 (fun H locs hP hD hS => ?_)
    obtain ⟨fy8, hfy8⟩ : ∃ z : Nat → Int32, z = upd f0 (0 : Int32).toNatClampNeg (vp_nar .byte b7.toInt8.toInt32) := ⟨_, rfl⟩
    have hP : va_P D vwCl [(mt, .inl (cm, 3000, .inl fy8)), (wt, .inl (cw, 2, .inl (fun _ => 0))), (h0, .inr (12, fs1))] H := by rw [hfy8]; exact hP
    have hD : va_D A [(mt, .inl (cm, 3000, .inl fy8)), (wt, .inl (cw, 2, .inl (fun _ => 0))), (h0, .inr (12, fs1))] := by rw [hfy8]; exact hD
    refine lv_aload_n hx hb dX12_feed_69 rfl (lv_at hl 1 rfl) ?_
    refine lv_dup hx hb dX12_feed_70 rfl ?_
    refine va_get (D := D) (ci := 12) (v := .int 0) (C := RX12) (T := TX12) (N := 139) hx hb hts i_v_c_m_feed_X12 hown hK hP 2 rfl rfl 2 (by decide) (hts (.fieldLink RX12 319 "ScheduleHouseModel" "size" "I") (by decide +kernel)) (fun _ h9 => h9) gfs1_2 dX12_feed_71 ?_
    refine lv_iconst (v := 1) hx hb dX12_feed_74 (by decide +kernel) ?_
    refine lv_iadd hx hb dX12_feed_75 ?_
    rw [show (0 + 1 : Int32) = 1 by decide]
    refine va_put (D := D) (ci := 12) (v := .int 1) (ty := .int) (C := RX12) (T := TX12) (N := 139) hx hb hts i_v_c_m_feed_X12 tyX12 tyX12_ok nmX12 hown hK hP hD hS 2 rfl rfl 2 (by decide) (hts (.fieldLink RX12 319 "ScheduleHouseModel" "size" "I") (by decide +kernel)) (fun _ h9 => h9) rfl (by decide +kernel) rfl rfl (by rw [lfs1]; decide) dX12_feed_76 (fun H locs hP hD hS => ?_)
    obtain ⟨fs9, hfs9⟩ : ∃ z, z = fs1.set 2 (.int 1) := ⟨_, rfl⟩
    rw [← hfs9] at hP hD
    have lfs9 : fs9.length = 139 := by rw [hfs9, List.length_set]; exact lfs1
    have gfs9_118 : fs9[118]? = some (.ref wt) := by rw [hfs9, List.getElem?_set_ne (by decide)]; exact gfs1_118
    have gfs9_1 : fs9[1]? = some (.ref mt) := by rw [hfs9, List.getElem?_set_ne (by decide)]; exact gfs1_1
    have gfs9_0 : fs9[0]? = some (.int 0) := by rw [hfs9, List.getElem?_set_ne (by decide)]; exact gfs1_0
    have gfs9_2 : fs9[2]? = some (.int 1) := by rw [hfs9]; exact List.getElem?_set_self (by rw [lfs1]; decide)
    have hP : va_P D vwCl [(mt, .inl (cm, 3000, .inl fy8)), (wt, .inl (cw, 2, .inl (fun _ => 0))), (h0, .inr (12, fs9))] H := hP
    have hD : va_D A [(mt, .inl (cm, 3000, .inl fy8)), (wt, .inl (cw, 2, .inl (fun _ => 0))), (h0, .inr (12, fs9))] := hD
    refine lv_iinc (v := 1) (lv' := [(4, .int 1), (0, .ref h0), (1, .int 2), (2, .long p1)]) hx hb dX12_feed_79 hl (k := 0) rfl (by decide) (by decide) rfl (fun ls hl => ?_)
    refine lv_goto (tgt := 45) hx hb dX12_feed_82 (by decide) ?_
    refine lv_iload hx hb dX12_feed_45 (lv_at hl 0 rfl) ?_
    refine lv_iload_n hx hb dX12_feed_47 rfl (lv_at hl 2 rfl) ?_
    refine lv_icmp_ge (tgt := 85) hx hb dX12_feed_48 (by decide) (fun c9 => False.elim (by revert c9; decide)) (fun _ => ?_)
    refine lv_aload_n hx hb dX12_feed_51 rfl (lv_at hl 1 rfl) ?_
    refine va_get (D := D) (ci := 12) (v := .ref mt) (C := RX12) (T := TX12) (N := 139) hx hb hts i_v_c_m_feed_X12 hown hK hP 2 rfl rfl 1 (by decide) (hts (.fieldLink RX12 7 "ScheduleHouseModel" "text" "[B") (by decide +kernel)) (fun _ h9 => h9) gfs9_1 dX12_feed_52 ?_
    refine lv_aload_n hx hb dX12_feed_55 rfl (lv_at hl 1 rfl) ?_
    refine va_get (D := D) (ci := 12) (v := .int 1) (C := RX12) (T := TX12) (N := 139) hx hb hts i_v_c_m_feed_X12 hown hK hP 2 rfl rfl 2 (by decide) (hts (.fieldLink RX12 319 "ScheduleHouseModel" "size" "I") (by decide +kernel)) (fun _ h9 => h9) gfs9_2 dX12_feed_56 ?_
    refine lv_lload_n hx hb dX12_feed_59 rfl (lv_at hl 3 rfl) ?_
    refine lv_bipush (v := 8) hx hb dX12_feed_60 (by decide +kernel) ?_
    refine lv_iload hx hb dX12_feed_62 (lv_at hl 0 rfl) ?_
    refine lv_imul hx hb dX12_feed_64 ?_
    rw [show (8 * 1 : Int32) = 8 by decide]
    obtain ⟨z10, hz10⟩ : ∃ z : Int64, z = p1 >>> ((8 : Int32).toInt64 &&& 63) := ⟨_, rfl⟩
    refine lv_lshr (v := z10) hx hb dX12_feed_65 hz10.symm ?_
    obtain ⟨b11, hb11⟩ : ∃ z : Int32, z = z10.toInt32 := ⟨_, rfl⟩
    refine lv_l2i (v := b11) hx hb dX12_feed_66 hb11.symm ?_
    refine lv_i2b (v := b11.toInt8.toInt32) hx hb dX12_feed_67 rfl ?_
    refine va_bast hx hb hK hP hD hS 0 0 rfl rfl (i := 1) (x := b11.toInt8.toInt32) (by unfold vp_in; decide) dX12_feed_68 (fun H locs hP hD hS => ?_)
    obtain ⟨fy12, hfy12⟩ : ∃ z : Nat → Int32, z = upd fy8 (1 : Int32).toNatClampNeg (vp_nar .byte b11.toInt8.toInt32) := ⟨_, rfl⟩
    have hP : va_P D vwCl [(mt, .inl (cm, 3000, .inl fy12)), (wt, .inl (cw, 2, .inl (fun _ => 0))), (h0, .inr (12, fs9))] H := by rw [hfy12]; exact hP
    have hD : va_D A [(mt, .inl (cm, 3000, .inl fy12)), (wt, .inl (cw, 2, .inl (fun _ => 0))), (h0, .inr (12, fs9))] := by rw [hfy12]; exact hD
    refine lv_aload_n hx hb dX12_feed_69 rfl (lv_at hl 1 rfl) ?_
    refine lv_dup hx hb dX12_feed_70 rfl ?_
    refine va_get (D := D) (ci := 12) (v := .int 1) (C := RX12) (T := TX12) (N := 139) hx hb hts i_v_c_m_feed_X12 hown hK hP 2 rfl rfl 2 (by decide) (hts (.fieldLink RX12 319 "ScheduleHouseModel" "size" "I") (by decide +kernel)) (fun _ h9 => h9) gfs9_2 dX12_feed_71 ?_
    refine lv_iconst (v := 1) hx hb dX12_feed_74 (by decide +kernel) ?_
    refine lv_iadd hx hb dX12_feed_75 ?_
    rw [show (1 + 1 : Int32) = 2 by decide]
    refine va_put (D := D) (ci := 12) (v := .int 2) (ty := .int) (C := RX12) (T := TX12) (N := 139) hx hb hts i_v_c_m_feed_X12 tyX12 tyX12_ok nmX12 hown hK hP hD hS 2 rfl rfl 2 (by decide) (hts (.fieldLink RX12 319 "ScheduleHouseModel" "size" "I") (by decide +kernel)) (fun _ h9 => h9) rfl (by decide +kernel) rfl rfl (by rw [lfs9]; decide) dX12_feed_76 (fun H locs hP hD hS => ?_)
    obtain ⟨fs13, hfs13⟩ : ∃ z, z = fs9.set 2 (.int 2) := ⟨_, rfl⟩
    rw [← hfs13] at hP hD
    have lfs13 : fs13.length = 139 := by rw [hfs13, List.length_set]; exact lfs9
    have gfs13_118 : fs13[118]? = some (.ref wt) := by rw [hfs13, List.getElem?_set_ne (by decide)]; exact gfs9_118
    have gfs13_1 : fs13[1]? = some (.ref mt) := by rw [hfs13, List.getElem?_set_ne (by decide)]; exact gfs9_1
    have gfs13_0 : fs13[0]? = some (.int 0) := by rw [hfs13, List.getElem?_set_ne (by decide)]; exact gfs9_0
    have gfs13_2 : fs13[2]? = some (.int 2) := by rw [hfs13]; exact List.getElem?_set_self (by rw [lfs9]; decide)
    have hP : va_P D vwCl [(mt, .inl (cm, 3000, .inl fy12)), (wt, .inl (cw, 2, .inl (fun _ => 0))), (h0, .inr (12, fs13))] H := hP
    have hD : va_D A [(mt, .inl (cm, 3000, .inl fy12)), (wt, .inl (cw, 2, .inl (fun _ => 0))), (h0, .inr (12, fs13))] := hD
    refine lv_iinc (v := 2) (lv' := [(4, .int 2), (0, .ref h0), (1, .int 2), (2, .long p1)]) hx hb dX12_feed_79 hl (k := 0) rfl (by decide) (by decide) rfl (fun ls hl => ?_)
    refine lv_goto (tgt := 45) hx hb dX12_feed_82 (by decide) ?_
    refine lv_iload hx hb dX12_feed_45 (lv_at hl 0 rfl) ?_
    refine lv_iload_n hx hb dX12_feed_47 rfl (lv_at hl 2 rfl) ?_
    refine lv_icmp_ge (tgt := 85) hx hb dX12_feed_48 (by decide) (fun _ => ?_) (fun c9 => False.elim (by revert c9; decide))
    refine lv_aload_n hx hb dX12_feed_85 rfl (lv_at hl 1 rfl) ?_
    have hPc := hP.sub (ws' := [(h0, .inr (12, fs13)), (wt, .inl (cw, 2, .inl (fun _ => 0)))]) [2, 1] rfl
    have hDc := hD.sub (ws' := [(h0, .inr (12, fs13)), (wt, .inl (cw, 2, .inl (fun _ => 0)))]) [2, 1] (by decide) rfl
    have hKc := hK.sub (tys' := [(cw, .boolean)]) [1] rfl
    have hFc := va_free (wc := [(h0, .inr (12, fs13)), (wt, .inl (cw, 2, .inl (fun _ => 0)))]) hD hS hA [2, 1] rfl
    refine va_callv (va_runV (As := []) (rest := []) ⟨hx, hb, hml, hown, hts⟩ (c_m_forget l D h0 wt cw fs13 H.size lfs13 gfs13_118) (cwV 0 hts g_v_c_m_feed_4 rfl rfl rfl (by decide +kernel) ⟨Nat.le_of_ble_eq_true rfl, Nat.le_of_ble_eq_true rfl⟩) ⟨st_blind, va_recv hKc hPc (ci := 12) (q0 := 0) rfl rfl, fun U hU hW => ⟨rfl, st_call hU hW hPc hKc hDc hZ hS hFc hE⟩⟩ rfl rfl hl.1 rfl (lv_room (Nat.le_of_ble_eq_true rfl)) dX12_feed_86 ⟨Nat.le_of_ble_eq_true rfl, Nat.le_of_ble_eq_true rfl⟩) hS (fun q _ h => hFc q h) hFc (fun  u14 t H1 locs ht hvm hw hB hz1 hk1 hS => ?_)
    obtain ⟨ku14, tu14, au14, zu14⟩ := hw
    have lu14 : u14.length = 139 := by rw [ku14.1]; exact lfs13
    have gu14_118 : u14[118]? = some (.ref wt) := kp_at ku14 gfs13_118 (by decide)
    have gu14_1 : u14[1]? = some (.ref mt) := kp_at ku14 gfs13_1 (by decide)
    have gu14_0 : u14[0]? = some (.int 0) := kp_at ku14 gfs13_0 (by decide)
    have gu14_2 : u14[2]? = some (.int 2) := kp_at ku14 gfs13_2 (by decide)
    obtain ⟨fy15, hP1, hK1, hD1⟩ := hB
    rw [ht] at hP1
    have hK1 := va_K.moved hvm.symm hK1
    obtain ⟨hP, hD⟩ := va_join (wr := [(mt, .inl (cm, 3000, .inl fy12))]) (w1 := [(h0, .inr (12, u14)), (wt, .inl (cw, 2, .inl fy15))]) hP hD [2, 1] [0] rfl rfl (by decide) (by decide) hk1 hFc hP1 hD1
    have hK := (hK.sub (tys' := [(cm, .byte)]) [0] rfl).app hK1
    generalize H1 = H at hP hS ⊢
    have hP : va_P D vwCl [(mt, .inl (cm, 3000, .inl fy12)), (h0, .inr (12, u14)), (wt, .inl (cw, 2, .inl fy15))] H := hP
    have hD : va_D A [(mt, .inl (cm, 3000, .inl fy12)), (h0, .inr (12, u14)), (wt, .inl (cw, 2, .inl fy15))] := hD
    have hK : va_K D vwCl [(cm, .byte), (cw, .boolean)] s := hK
    refine lv_aload_n hx hb dX12_feed_89 rfl (lv_at hl 1 rfl) ?_
    refine va_get (D := D) (ci := 12) (v := .int 2) (C := RX12) (T := TX12) (N := 139) hx hb hts i_v_c_m_feed_X12 hown hK hP 1 rfl rfl 2 (by decide) (hts (.fieldLink RX12 319 "ScheduleHouseModel" "size" "I") (by decide +kernel)) (fun _ h9 => h9) gu14_2 dX12_feed_90 ?_
    have hP : va_P D vwCl [(h0, .inr (12, u14))] H := hP.sub [1] rfl
    have hD : va_D A [(h0, .inr (12, u14))] := hD.sub [1] (by decide) rfl
    have hK : va_K D vwCl [] s := hK.sub [] rfl
    exact W.iret (v := 2) hx hb hr (fun t ht hW => ⟨⟨2, u14, rfl, ⟨0, gu14_0, Or.inl ⟨rfl, rfl, hi⟩⟩, by rw [ht]; exact hP, va_K.moved hW.alike hK, hD⟩, hS.F ht⟩) hS.2.2 dX12_feed_93
  · subst er2
    exact absurd hi (by decide)
set_option maxHeartbeats 400000 in
set_option maxRecDepth 100000 in
/-- the model's feed(3, ..) -/
theorem c_m_feed_3 (l : Launch) (D : va_G) (h0 mt wt : Nat) (cm cw : ClassId) (fs : List Value) (f0 : Nat → Int32) (p1 : Int64) (sz : Nat) (hlen : fs.length = 139) (hf_thrown : fs[0]? = some (.int 0)) (hf_size : fs[2]? = some (.int 0)) (hf_wasTried : fs[118]? = some (.ref wt)) (hf_text : fs[1]? = some (.ref mt)) : Met l yX12_feed v_c_m_feed ({ frames := 5, cells := 0, slots := 0, locals := 80 }) (va_Pc [.ref h0, .int 3, .long p1] (st_ D [(h0, .inr (12, fs)), (mt, .inl (cm, 3000, .inl f0)), (wt, .inl (cw, 2, .inl (fun _ => 0)))] [(cm, .byte), (cw, .boolean)] sz)) (va_Qi (fun (r : Int32) (u : List Value) => ∃ t : Int32, u[0]? = some (.int t) ∧ ((t = 0 ∧ r = (3 : Int32) ∧ (¬ (3 : Int32) < 1 ∧ ¬ 8 < (3 : Int32))) ∨ (t = 1 ∧ ((3 : Int32) < 1 ∨ 8 < (3 : Int32))) ∨ (t = 2 ∧ False))) (fun u t => va_P D vwCl [(h0, .inr (12, u))] t.heap ∧ va_K D vwCl [] t ∧ va_D (va_A [(h0, .inr (12, fs)), (mt, .inl (cm, 3000, .inl f0)), (wt, .inl (cw, 2, .inl (fun _ => 0)))] sz) [(h0, .inr (12, u))]) (va_A [(h0, .inr (12, fs)), (mt, .inl (cm, 3000, .inl f0)), (wt, .inl (cw, 2, .inl (fun _ => 0)))] sz)) 0 0 (va_A [(h0, .inr (12, fs)), (mt, .inl (cm, 3000, .inl f0)), (wt, .inl (cw, 2, .inl (fun _ => 0)))] sz) := by
  refine Met.ofW (cc := cX12_feed) (maxL := 5) (ret := (some .int)) (by decide) rfl ?_
  intro p e s m args below meth c s₁ B hml hv
  obtain ⟨rfl, hsz, hP, hK, hD0, hZ, hE⟩ := hv
  have hx := B.exec
  have hb := B.bytes
  have hr := B.returns
  have hts := atoms_spec (ws := v_c_m_feed) B.pre
  have hown : s.vm.findClass RX12 = some m.cls := findClass_of_methodNamed B.named
  have hlocks := B.notSynchronized
  subst hsz
  have hD := hD0.self (sz := s.heap.size)
  generalize hAe : va_A [(h0, .inr (12, fs)), (mt, .inl (cm, 3000, .inl f0)), (wt, .inl (cw, 2, .inl (fun _ => 0)))] s.heap.size = A at hD hZ ⊢
  have hA : ∀ q : Nat, s.heap.size ≤ q → A q := fun q h => by rw [← hAe]; exact Or.inr h
  have hS : va_S A s.heap s.heap [] := va_S.rf
  have hAO := hE.2.2.2.1
  have hP : va_P D vwCl [(h0, .inr (12, fs)), (mt, .inl (cm, 3000, .inl f0)), (wt, .inl (cw, 2, .inl (fun _ => 0)))] s.heap := hP
  have hl := lv_entry ([.ref h0, .int 3, .long p1]) (n := 5) (Nat.le_of_ble_eq_true rfl)
  rw [lg_entry_eq]
  generalize (lg_sl ([.ref h0, .int 3, .long p1]) ++ List.replicate (5 - (lg_sl ([.ref h0, .int 3, .long p1])).length) Slot.unset).toArray = ls at hl ⊢
  have hl : lv_has ls 5 [(0, .ref h0), (1, .int 3), (2, .long p1)] := hl
  refine lv_aload_n hx hb dX12_feed_0 rfl (lv_at hl 0 rfl) ?_
  refine lv_iconst (v := 0) hx hb dX12_feed_1 (by decide +kernel) ?_
  refine va_put (D := D) (ci := 12) (v := .int 0) (ty := .int) (C := RX12) (T := TX12) (N := 139) hx hb hts i_v_c_m_feed_X12 tyX12 tyX12_ok nmX12 hown hK hP hD hS 0 rfl rfl 0 (by decide) (hts (.fieldLink RX12 316 "ScheduleHouseModel" "thrown" "I") (by decide +kernel)) (fun _ h9 => h9) rfl (by decide +kernel) rfl rfl (by rw [hlen]; decide) dX12_feed_2 (fun H locs hP hD hS => ?_)
  obtain ⟨fs1, hfs1⟩ : ∃ z, z = fs.set 0 (.int 0) := ⟨_, rfl⟩
  rw [← hfs1] at hP hD
  have lfs1 : fs1.length = 139 := by rw [hfs1, List.length_set]; exact hlen
  have gfs1_2 : fs1[2]? = some (.int 0) := by rw [hfs1, List.getElem?_set_ne (by decide)]; exact hf_size
  have gfs1_118 : fs1[118]? = some (.ref wt) := by rw [hfs1, List.getElem?_set_ne (by decide)]; exact hf_wasTried
  have gfs1_1 : fs1[1]? = some (.ref mt) := by rw [hfs1, List.getElem?_set_ne (by decide)]; exact hf_text
  have gfs1_0 : fs1[0]? = some (.int 0) := by rw [hfs1]; exact List.getElem?_set_self (by rw [hlen]; decide)
  have hP : va_P D vwCl [(h0, .inr (12, fs1)), (mt, .inl (cm, 3000, .inl f0)), (wt, .inl (cw, 2, .inl (fun _ => 0)))] H := hP
  have hD : va_D A [(h0, .inr (12, fs1)), (mt, .inl (cm, 3000, .inl f0)), (wt, .inl (cw, 2, .inl (fun _ => 0)))] := hD
  refine lv_aload_n hx hb dX12_feed_5 rfl (lv_at hl 0 rfl) ?_
  refine lv_iload_n hx hb dX12_feed_6 rfl (lv_at hl 1 rfl) ?_
  refine lv_iconst (v := 1) hx hb dX12_feed_7 (by decide +kernel) ?_
  refine lv_bipush (v := 8) hx hb dX12_feed_8 (by decide +kernel) ?_
  have hPc := hP.sub (ws' := []) [] rfl
  have hDc := hD.sub (ws' := []) [] (by decide) rfl
  have hKc := hK.sub (tys' := []) [] rfl
  have hFc := va_free (wc := []) hD hS hA [] rfl
  refine va_calli (va_runS (As := [.int 3, .int 1, .int 8]) (rest := [.ref h0]) ⟨hx, hb, hml, hown, hts⟩ (c_m_in l D 3 1 8 H.size) (va_cwS 3 hts g_v_c_m_feed_1 rfl rfl rfl (by decide +kernel) ⟨Nat.le_of_ble_eq_true rfl, Nat.le_of_ble_eq_true rfl⟩) ⟨st_blind, fun U hU hW => ⟨rfl, st_call hU hW hPc hKc hDc hZ hS hFc hE⟩⟩ rfl rfl hl.1 rfl (lv_room (Nat.le_of_ble_eq_true rfl)) dX12_feed_10 ⟨Nat.le_of_ble_eq_true rfl, Nat.le_of_ble_eq_true rfl⟩) hS (fun q _ h => hFc q h) hFc (fun r2 u3 t H1 locs ht hvm hw hB hz1 hk1 hS => ?_)
  obtain ⟨hP, hD⟩ := va_join (wr := [(h0, .inr (12, fs1)), (mt, .inl (cm, 3000, .inl f0)), (wt, .inl (cw, 2, .inl (fun _ => 0)))]) (w1 := []) hP hD [] [0, 1, 2] rfl rfl (by decide) (by decide) hk1 hFc p_nil d_nil
  generalize H1 = H at hP hS ⊢
  have hP : va_P D vwCl [(h0, .inr (12, fs1)), (mt, .inl (cm, 3000, .inl f0)), (wt, .inl (cw, 2, .inl (fun _ => 0)))] H := hP
  have hD : va_D A [(h0, .inr (12, fs1)), (mt, .inl (cm, 3000, .inl f0)), (wt, .inl (cw, 2, .inl (fun _ => 0)))] := hD
  rcases hw with ⟨er2, hi⟩ | ⟨er2, hi⟩
  · subst er2
    refine lv_if_eq (tgt := 28) hx hb dX12_feed_13 (by decide) (fun c9 => False.elim (by revert c9; decide)) (fun _ => ?_)
    refine lv_aload_n hx hb dX12_feed_16 rfl (lv_at hl 0 rfl) ?_
    refine va_get (D := D) (ci := 12) (v := .int 0) (C := RX12) (T := TX12) (N := 139) hx hb hts i_v_c_m_feed_X12 hown hK hP 0 rfl rfl 2 (by decide) (hts (.fieldLink RX12 319 "ScheduleHouseModel" "size" "I") (by decide +kernel)) (fun _ h9 => h9) gfs1_2 dX12_feed_17 ?_
    refine lv_iload_n hx hb dX12_feed_20 rfl (lv_at hl 1 rfl) ?_
    refine lv_iadd hx hb dX12_feed_21 ?_
    rw [show (0 + 3 : Int32) = 3 by decide]
    refine lv_sipush (v := 3000) hx hb dX12_feed_22 (by decide +kernel) ?_
    refine lv_icmp_le (tgt := 32) hx hb dX12_feed_25 (by decide) (fun _ => ?_) (fun c9 => False.elim (by revert c9; decide))
    refine lv_iconst (v := 0) hx hb dX12_feed_32 (by decide +kernel) ?_
    refine lv_iconst (v := 1) hx hb dX12_feed_33 (by decide +kernel) ?_
    have hPc := hP.sub (ws' := [(h0, .inr (12, fs1))]) [0] rfl
    have hDc := hD.sub (ws' := [(h0, .inr (12, fs1))]) [0] (by decide) rfl
    have hKc := hK.sub (tys' := []) [] rfl
    have hFc := va_free (wc := [(h0, .inr (12, fs1))]) hD hS hA [0] rfl
    refine va_calli (va_runV (As := [.int 0, .int 1]) (rest := []) ⟨hx, hb, hml, hown, hts⟩ (c_m_refuses_no l D h0 fs1 1 H.size lfs1 gfs1_0) (cwV 2 hts g_v_c_m_feed_3 rfl rfl rfl (by decide +kernel) ⟨Nat.le_of_ble_eq_true rfl, Nat.le_of_ble_eq_true rfl⟩) ⟨st_blind, va_recv hKc hPc (ci := 12) (q0 := 0) rfl rfl, fun U hU hW => ⟨rfl, st_call hU hW hPc hKc hDc hZ hS hFc hE⟩⟩ rfl rfl hl.1 rfl (lv_room (Nat.le_of_ble_eq_true rfl)) dX12_feed_34 ⟨Nat.le_of_ble_eq_true rfl, Nat.le_of_ble_eq_true rfl⟩) hS (fun q _ h => hFc q h) hFc (fun r4 u5 t H1 locs ht hvm hw hB hz1 hk1 hS => ?_)
    obtain ⟨er4, eu5⟩ := hw
    rw [eu5] at hB
    obtain ⟨hP1, hK1, hD1⟩ := hB
    rw [ht] at hP1
    have hK1 := va_K.moved hvm.symm hK1
    obtain ⟨hP, hD⟩ := va_join (wr := [(mt, .inl (cm, 3000, .inl f0)), (wt, .inl (cw, 2, .inl (fun _ => 0)))]) (w1 := [(h0, .inr (12, fs1))]) hP hD [0] [1, 2] rfl rfl (by decide) (by decide) hk1 hFc hP1 hD1
    have hK := (hK.sub (tys' := [(cm, .byte), (cw, .boolean)]) [0, 1] rfl).app hK1
    generalize H1 = H at hP hS ⊢
    have hP : va_P D vwCl [(mt, .inl (cm, 3000, .inl f0)), (wt, .inl (cw, 2, .inl (fun _ => 0))), (h0, .inr (12, fs1))] H := hP
    have hD : va_D A [(mt, .inl (cm, 3000, .inl f0)), (wt, .inl (cw, 2, .inl (fun _ => 0))), (h0, .inr (12, fs1))] := hD
    have hK : va_K D vwCl [(cm, .byte), (cw, .boolean)] s := hK
    subst er4
    refine lv_if_eq (tgt := 42) hx hb dX12_feed_37 (by decide) (fun _ => ?_) (fun c9 => False.elim (by revert c9; decide))
    refine lv_iconst (v := 0) hx hb dX12_feed_42 (by decide +kernel) ?_
    refine lv_istore (lv' := [(4, .int 0), (0, .ref h0), (1, .int 3), (2, .long p1)]) hx hb dX12_feed_43 hl (by decide) rfl (fun ls hl => ?_)
    refine lv_iload hx hb dX12_feed_45 (lv_at hl 0 rfl) ?_
    refine lv_iload_n hx hb dX12_feed_47 rfl (lv_at hl 2 rfl) ?_
    refine lv_icmp_ge (tgt := 85) hx hb dX12_feed_48 (by decide) (fun c9 => False.elim (by revert c9; decide)) (fun _ => ?_)
    refine lv_aload_n hx hb dX12_feed_51 rfl (lv_at hl 1 rfl) ?_
    refine va_get (D := D) (ci := 12) (v := .ref mt) (C := RX12) (T := TX12) (N := 139) hx hb hts i_v_c_m_feed_X12 hown hK hP 2 rfl rfl 1 (by decide) (hts (.fieldLink RX12 7 "ScheduleHouseModel" "text" "[B") (by decide +kernel)) (fun _ h9 => h9) gfs1_1 dX12_feed_52 ?_
    refine lv_aload_n hx hb dX12_feed_55 rfl (lv_at hl 1 rfl) ?_
    refine va_get (D := D) (ci := 12) (v := .int 0) (C := RX12) (T := TX12) (N := 139) hx hb hts i_v_c_m_feed_X12 hown hK hP 2 rfl rfl 2 (by decide) (hts (.fieldLink RX12 319 "ScheduleHouseModel" "size" "I") (by decide +kernel)) (fun _ h9 => h9) gfs1_2 dX12_feed_56 ?_
    refine lv_lload_n hx hb dX12_feed_59 rfl (lv_at hl 3 rfl) ?_
    refine lv_bipush (v := 8) hx hb dX12_feed_60 (by decide +kernel) ?_
    refine lv_iload hx hb dX12_feed_62 (lv_at hl 0 rfl) ?_
    refine lv_imul hx hb dX12_feed_64 ?_
    rw [show (8 * 0 : Int32) = 0 by decide]
    obtain ⟨z6, hz6⟩ : ∃ z : Int64, z = p1 >>> ((0 : Int32).toInt64 &&& 63) := ⟨_, rfl⟩
    refine lv_lshr (v := z6) hx hb dX12_feed_65 hz6.symm ?_
    obtain ⟨b7, hb7⟩ : ∃ z : Int32, z = z6.toInt32 := ⟨_, rfl⟩
    refine lv_l2i (v := b7) hx hb dX12_feed_66 hb7.symm ?_
    refine lv_i2b (v := b7.toInt8.toInt32) hx hb dX12_feed_67 rfl ?_
    refine va_bast hx hb hK hP hD hS 0 0 rfl rfl (i := 0) (x := b7.toInt8.toInt32) (by unfold vp_in; decide) dX12_feed_68 (fun H locs hP hD hS => ?_)
    obtain ⟨fy8, hfy8⟩ : ∃ z : Nat → Int32, z = upd f0 (0 : Int32).toNatClampNeg (vp_nar .byte b7.toInt8.toInt32) := ⟨_, rfl⟩
    have hP : va_P D vwCl [(mt, .inl (cm, 3000, .inl fy8)), (wt, .inl (cw, 2, .inl (fun _ => 0))), (h0, .inr (12, fs1))] H := by rw [hfy8]; exact hP
    have hD : va_D A [(mt, .inl (cm, 3000, .inl fy8)), (wt, .inl (cw, 2, .inl (fun _ => 0))), (h0, .inr (12, fs1))] := by rw [hfy8]; exact hD
    refine lv_aload_n hx hb dX12_feed_69 rfl (lv_at hl 1 rfl) ?_
    refine lv_dup hx hb dX12_feed_70 rfl ?_
    refine va_get (D := D) (ci := 12) (v := .int 0) (C := RX12) (T := TX12) (N := 139) hx hb hts i_v_c_m_feed_X12 hown hK hP 2 rfl rfl 2 (by decide) (hts (.fieldLink RX12 319 "ScheduleHouseModel" "size" "I") (by decide +kernel)) (fun _ h9 => h9) gfs1_2 dX12_feed_71 ?_
    refine lv_iconst (v := 1) hx hb dX12_feed_74 (by decide +kernel) ?_
    refine lv_iadd hx hb dX12_feed_75 ?_
    rw [show (0 + 1 : Int32) = 1 by decide]
    refine va_put (D := D) (ci := 12) (v := .int 1) (ty := .int) (C := RX12) (T := TX12) (N := 139) hx hb hts i_v_c_m_feed_X12 tyX12 tyX12_ok nmX12 hown hK hP hD hS 2 rfl rfl 2 (by decide) (hts (.fieldLink RX12 319 "ScheduleHouseModel" "size" "I") (by decide +kernel)) (fun _ h9 => h9) rfl (by decide +kernel) rfl rfl (by rw [lfs1]; decide) dX12_feed_76 (fun H locs hP hD hS => ?_)
    obtain ⟨fs9, hfs9⟩ : ∃ z, z = fs1.set 2 (.int 1) := ⟨_, rfl⟩
    rw [← hfs9] at hP hD
    have lfs9 : fs9.length = 139 := by rw [hfs9, List.length_set]; exact lfs1
    have gfs9_118 : fs9[118]? = some (.ref wt) := by rw [hfs9, List.getElem?_set_ne (by decide)]; exact gfs1_118
    have gfs9_1 : fs9[1]? = some (.ref mt) := by rw [hfs9, List.getElem?_set_ne (by decide)]; exact gfs1_1
    have gfs9_0 : fs9[0]? = some (.int 0) := by rw [hfs9, List.getElem?_set_ne (by decide)]; exact gfs1_0
    have gfs9_2 : fs9[2]? = some (.int 1) := by rw [hfs9]; exact List.getElem?_set_self (by rw [lfs1]; decide)
    have hP : va_P D vwCl [(mt, .inl (cm, 3000, .inl fy8)), (wt, .inl (cw, 2, .inl (fun _ => 0))), (h0, .inr (12, fs9))] H := hP
    have hD : va_D A [(mt, .inl (cm, 3000, .inl fy8)), (wt, .inl (cw, 2, .inl (fun _ => 0))), (h0, .inr (12, fs9))] := hD
    refine lv_iinc (v := 1) (lv' := [(4, .int 1), (0, .ref h0), (1, .int 3), (2, .long p1)]) hx hb dX12_feed_79 hl (k := 0) rfl (by decide) (by decide) rfl (fun ls hl => ?_)
    refine lv_goto (tgt := 45) hx hb dX12_feed_82 (by decide) ?_
    refine lv_iload hx hb dX12_feed_45 (lv_at hl 0 rfl) ?_
    refine lv_iload_n hx hb dX12_feed_47 rfl (lv_at hl 2 rfl) ?_
    refine lv_icmp_ge (tgt := 85) hx hb dX12_feed_48 (by decide) (fun c9 => False.elim (by revert c9; decide)) (fun _ => ?_)
    refine lv_aload_n hx hb dX12_feed_51 rfl (lv_at hl 1 rfl) ?_
    refine va_get (D := D) (ci := 12) (v := .ref mt) (C := RX12) (T := TX12) (N := 139) hx hb hts i_v_c_m_feed_X12 hown hK hP 2 rfl rfl 1 (by decide) (hts (.fieldLink RX12 7 "ScheduleHouseModel" "text" "[B") (by decide +kernel)) (fun _ h9 => h9) gfs9_1 dX12_feed_52 ?_
    refine lv_aload_n hx hb dX12_feed_55 rfl (lv_at hl 1 rfl) ?_
    refine va_get (D := D) (ci := 12) (v := .int 1) (C := RX12) (T := TX12) (N := 139) hx hb hts i_v_c_m_feed_X12 hown hK hP 2 rfl rfl 2 (by decide) (hts (.fieldLink RX12 319 "ScheduleHouseModel" "size" "I") (by decide +kernel)) (fun _ h9 => h9) gfs9_2 dX12_feed_56 ?_
    refine lv_lload_n hx hb dX12_feed_59 rfl (lv_at hl 3 rfl) ?_
    refine lv_bipush (v := 8) hx hb dX12_feed_60 (by decide +kernel) ?_
    refine lv_iload hx hb dX12_feed_62 (lv_at hl 0 rfl) ?_
    refine lv_imul hx hb dX12_feed_64 ?_
    rw [show (8 * 1 : Int32) = 8 by decide]
    obtain ⟨z10, hz10⟩ : ∃ z : Int64, z = p1 >>> ((8 : Int32).toInt64 &&& 63) := ⟨_, rfl⟩
    refine lv_lshr (v := z10) hx hb dX12_feed_65 hz10.symm ?_
    obtain ⟨b11, hb11⟩ : ∃ z : Int32, z = z10.toInt32 := ⟨_, rfl⟩
    refine lv_l2i (v := b11) hx hb dX12_feed_66 hb11.symm ?_
    refine lv_i2b (v := b11.toInt8.toInt32) hx hb dX12_feed_67 rfl ?_
    refine va_bast hx hb hK hP hD hS 0 0 rfl rfl (i := 1) (x := b11.toInt8.toInt32) (by unfold vp_in; decide) dX12_feed_68 (fun H locs hP hD hS => ?_)
    obtain ⟨fy12, hfy12⟩ : ∃ z : Nat → Int32, z = upd fy8 (1 : Int32).toNatClampNeg (vp_nar .byte b11.toInt8.toInt32) := ⟨_, rfl⟩
    have hP : va_P D vwCl [(mt, .inl (cm, 3000, .inl fy12)), (wt, .inl (cw, 2, .inl (fun _ => 0))), (h0, .inr (12, fs9))] H := by rw [hfy12]; exact hP
    have hD : va_D A [(mt, .inl (cm, 3000, .inl fy12)), (wt, .inl (cw, 2, .inl (fun _ => 0))), (h0, .inr (12, fs9))] := by rw [hfy12]; exact hD
    refine lv_aload_n hx hb dX12_feed_69 rfl (lv_at hl 1 rfl) ?_
    refine lv_dup hx hb dX12_feed_70 rfl ?_
    refine va_get (D := D) (ci := 12) (v := .int 1) (C := RX12) (T := TX12) (N := 139) hx hb hts i_v_c_m_feed_X12 hown hK hP 2 rfl rfl 2 (by decide) (hts (.fieldLink RX12 319 "ScheduleHouseModel" "size" "I") (by decide +kernel)) (fun _ h9 => h9) gfs9_2 dX12_feed_71 ?_
    refine lv_iconst (v := 1) hx hb dX12_feed_74 (by decide +kernel) ?_
    refine lv_iadd hx hb dX12_feed_75 ?_
    rw [show (1 + 1 : Int32) = 2 by decide]
    refine va_put (D := D) (ci := 12) (v := .int 2) (ty := .int) (C := RX12) (T := TX12) (N := 139) hx hb hts i_v_c_m_feed_X12 tyX12 tyX12_ok nmX12 hown hK hP hD hS 2 rfl rfl 2 (by decide) (hts (.fieldLink RX12 319 "ScheduleHouseModel" "size" "I") (by decide +kernel)) (fun _ h9 => h9) rfl (by decide +kernel) rfl rfl (by rw [lfs9]; decide) dX12_feed_76 (fun H locs hP hD hS => ?_)
    obtain ⟨fs13, hfs13⟩ : ∃ z, z = fs9.set 2 (.int 2) := ⟨_, rfl⟩
    rw [← hfs13] at hP hD
    have lfs13 : fs13.length = 139 := by rw [hfs13, List.length_set]; exact lfs9
    have gfs13_118 : fs13[118]? = some (.ref wt) := by rw [hfs13, List.getElem?_set_ne (by decide)]; exact gfs9_118
    have gfs13_1 : fs13[1]? = some (.ref mt) := by rw [hfs13, List.getElem?_set_ne (by decide)]; exact gfs9_1
    have gfs13_0 : fs13[0]? = some (.int 0) := by rw [hfs13, List.getElem?_set_ne (by decide)]; exact gfs9_0
    have gfs13_2 : fs13[2]? = some (.int 2) := by rw [hfs13]; exact List.getElem?_set_self (by rw [lfs9]; decide)
    have hP : va_P D vwCl [(mt, .inl (cm, 3000, .inl fy12)), (wt, .inl (cw, 2, .inl (fun _ => 0))), (h0, .inr (12, fs13))] H := hP
    have hD : va_D A [(mt, .inl (cm, 3000, .inl fy12)), (wt, .inl (cw, 2, .inl (fun _ => 0))), (h0, .inr (12, fs13))] := hD
    refine lv_iinc (v := 2) (lv' := [(4, .int 2), (0, .ref h0), (1, .int 3), (2, .long p1)]) hx hb dX12_feed_79 hl (k := 0) rfl (by decide) (by decide) rfl (fun ls hl => ?_)
    refine lv_goto (tgt := 45) hx hb dX12_feed_82 (by decide) ?_
    refine lv_iload hx hb dX12_feed_45 (lv_at hl 0 rfl) ?_
    refine lv_iload_n hx hb dX12_feed_47 rfl (lv_at hl 2 rfl) ?_
    refine lv_icmp_ge (tgt := 85) hx hb dX12_feed_48 (by decide) (fun c9 => False.elim (by revert c9; decide)) (fun _ => ?_)
    refine lv_aload_n hx hb dX12_feed_51 rfl (lv_at hl 1 rfl) ?_
    refine va_get (D := D) (ci := 12) (v := .ref mt) (C := RX12) (T := TX12) (N := 139) hx hb hts i_v_c_m_feed_X12 hown hK hP 2 rfl rfl 1 (by decide) (hts (.fieldLink RX12 7 "ScheduleHouseModel" "text" "[B") (by decide +kernel)) (fun _ h9 => h9) gfs13_1 dX12_feed_52 ?_
    refine lv_aload_n hx hb dX12_feed_55 rfl (lv_at hl 1 rfl) ?_
    refine va_get (D := D) (ci := 12) (v := .int 2) (C := RX12) (T := TX12) (N := 139) hx hb hts i_v_c_m_feed_X12 hown hK hP 2 rfl rfl 2 (by decide) (hts (.fieldLink RX12 319 "ScheduleHouseModel" "size" "I") (by decide +kernel)) (fun _ h9 => h9) gfs13_2 dX12_feed_56 ?_
    refine lv_lload_n hx hb dX12_feed_59 rfl (lv_at hl 3 rfl) ?_
    refine lv_bipush (v := 8) hx hb dX12_feed_60 (by decide +kernel) ?_
    refine lv_iload hx hb dX12_feed_62 (lv_at hl 0 rfl) ?_
    refine lv_imul hx hb dX12_feed_64 ?_
    rw [show (8 * 2 : Int32) = 16 by decide]
    obtain ⟨z14, hz14⟩ : ∃ z : Int64, z = p1 >>> ((16 : Int32).toInt64 &&& 63) := ⟨_, rfl⟩
    refine lv_lshr (v := z14) hx hb dX12_feed_65 hz14.symm ?_
    obtain ⟨b15, hb15⟩ : ∃ z : Int32, z = z14.toInt32 := ⟨_, rfl⟩
    refine lv_l2i (v := b15) hx hb dX12_feed_66 hb15.symm ?_
    refine lv_i2b (v := b15.toInt8.toInt32) hx hb dX12_feed_67 rfl ?_
    refine va_bast hx hb hK hP hD hS 0 0 rfl rfl (i := 2) (x := b15.toInt8.toInt32) (by unfold vp_in; decide) dX12_feed_68 (fun H locs hP hD hS => ?_)
    obtain ⟨fy16, hfy16⟩ : ∃ z : Nat → Int32, z = upd fy12 (2 : Int32).toNatClampNeg (vp_nar .byte b15.toInt8.toInt32) := ⟨_, rfl⟩
    have hP : va_P D vwCl [(mt, .inl (cm, 3000, .inl fy16)), (wt, .inl (cw, 2, .inl (fun _ => 0))), (h0, .inr (12, fs13))] H := by rw [hfy16]; exact hP
    have hD : va_D A [(mt, .inl (cm, 3000, .inl fy16)), (wt, .inl (cw, 2, .inl (fun _ => 0))), (h0, .inr (12, fs13))] := by rw [hfy16]; exact hD
    refine lv_aload_n hx hb dX12_feed_69 rfl (lv_at hl 1 rfl) ?_
    refine lv_dup hx hb dX12_feed_70 rfl ?_
    refine va_get (D := D) (ci := 12) (v := .int 2) (C := RX12) (T := TX12) (N := 139) hx hb hts i_v_c_m_feed_X12 hown hK hP 2 rfl rfl 2 (by decide) (hts (.fieldLink RX12 319 "ScheduleHouseModel" "size" "I") (by decide +kernel)) (fun _ h9 => h9) gfs13_2 dX12_feed_71 ?_
    refine lv_iconst (v := 1) hx hb dX12_feed_74 (by decide +kernel) ?_
    refine lv_iadd hx hb dX12_feed_75 ?_
    rw [show (2 + 1 : Int32) = 3 by decide]
    refine va_put (D := D) (ci := 12) (v := .int 3) (ty := .int) (C := RX12) (T := TX12) (N := 139) hx hb hts i_v_c_m_feed_X12 tyX12 tyX12_ok nmX12 hown hK hP hD hS 2 rfl rfl 2 (by decide) (hts (.fieldLink RX12 319 "ScheduleHouseModel" "size" "I") (by decide +kernel)) (fun _ h9 => h9) rfl (by decide +kernel) rfl rfl (by rw [lfs13]; decide) dX12_feed_76 (fun H locs hP hD hS => ?_)
    obtain ⟨fs17, hfs17⟩ : ∃ z, z = fs13.set 2 (.int 3) := ⟨_, rfl⟩
    rw [← hfs17] at hP hD
    have lfs17 : fs17.length = 139 := by rw [hfs17, List.length_set]; exact lfs13
    have gfs17_118 : fs17[118]? = some (.ref wt) := by rw [hfs17, List.getElem?_set_ne (by decide)]; exact gfs13_118
    have gfs17_1 : fs17[1]? = some (.ref mt) := by rw [hfs17, List.getElem?_set_ne (by decide)]; exact gfs13_1
    have gfs17_0 : fs17[0]? = some (.int 0) := by rw [hfs17, List.getElem?_set_ne (by decide)]; exact gfs13_0
    have gfs17_2 : fs17[2]? = some (.int 3) := by rw [hfs17]; exact List.getElem?_set_self (by rw [lfs13]; decide)
    have hP : va_P D vwCl [(mt, .inl (cm, 3000, .inl fy16)), (wt, .inl (cw, 2, .inl (fun _ => 0))), (h0, .inr (12, fs17))] H := hP
    have hD : va_D A [(mt, .inl (cm, 3000, .inl fy16)), (wt, .inl (cw, 2, .inl (fun _ => 0))), (h0, .inr (12, fs17))] := hD
    refine lv_iinc (v := 3) (lv' := [(4, .int 3), (0, .ref h0), (1, .int 3), (2, .long p1)]) hx hb dX12_feed_79 hl (k := 0) rfl (by decide) (by decide) rfl (fun ls hl => ?_)
    refine lv_goto (tgt := 45) hx hb dX12_feed_82 (by decide) ?_
    refine lv_iload hx hb dX12_feed_45 (lv_at hl 0 rfl) ?_
    refine lv_iload_n hx hb dX12_feed_47 rfl (lv_at hl 2 rfl) ?_
    refine lv_icmp_ge (tgt := 85) hx hb dX12_feed_48 (by decide) (fun _ => ?_) (fun c9 => False.elim (by revert c9; decide))
    refine lv_aload_n hx hb dX12_feed_85 rfl (lv_at hl 1 rfl) ?_
    have hPc := hP.sub (ws' := [(h0, .inr (12, fs17)), (wt, .inl (cw, 2, .inl (fun _ => 0)))]) [2, 1] rfl
    have hDc := hD.sub (ws' := [(h0, .inr (12, fs17)), (wt, .inl (cw, 2, .inl (fun _ => 0)))]) [2, 1] (by decide) rfl
    have hKc := hK.sub (tys' := [(cw, .boolean)]) [1] rfl
    have hFc := va_free (wc := [(h0, .inr (12, fs17)), (wt, .inl (cw, 2, .inl (fun _ => 0)))]) hD hS hA [2, 1] rfl
    refine va_callv (va_runV (As := []) (rest := []) ⟨hx, hb, hml, hown, hts⟩ (c_m_forget l D h0 wt cw fs17 H.size lfs17 gfs17_118) (cwV 0 hts g_v_c_m_feed_4 rfl rfl rfl (by decide +kernel) ⟨Nat.le_of_ble_eq_true rfl, Nat.le_of_ble_eq_true rfl⟩) ⟨st_blind, va_recv hKc hPc (ci := 12) (q0 := 0) rfl rfl, fun U hU hW => ⟨rfl, st_call hU hW hPc hKc hDc hZ hS hFc hE⟩⟩ rfl rfl hl.1 rfl (lv_room (Nat.le_of_ble_eq_true rfl)) dX12_feed_86 ⟨Nat.le_of_ble_eq_true rfl, Nat.le_of_ble_eq_true rfl⟩) hS (fun q _ h => hFc q h) hFc (fun  u18 t H1 locs ht hvm hw hB hz1 hk1 hS => ?_)
    obtain ⟨ku18, tu18, au18, zu18⟩ := hw
    have lu18 : u18.length = 139 := by rw [ku18.1]; exact lfs17
    have gu18_118 : u18[118]? = some (.ref wt) := kp_at ku18 gfs17_118 (by decide)
    have gu18_1 : u18[1]? = some (.ref mt) := kp_at ku18 gfs17_1 (by decide)
    have gu18_0 : u18[0]? = some (.int 0) := kp_at ku18 gfs17_0 (by decide)
    have gu18_2 : u18[2]? = some (.int 3) := kp_at ku18 gfs17_2 (by decide)
    obtain ⟨fy19, hP1, hK1, hD1⟩ := hB
    rw [ht] at hP1
    have hK1 := va_K.moved hvm.symm hK1
    obtain ⟨hP, hD⟩ := va_join (wr := [(mt, .inl (cm, 3000, .inl fy16))]) (w1 := [(h0, .inr (12, u18)), (wt, .inl (cw, 2, .inl fy19))]) hP hD [2, 1] [0] rfl rfl (by decide) (by decide) hk1 hFc hP1 hD1
    have hK := (hK.sub (tys' := [(cm, .byte)]) [0] rfl).app hK1
    generalize H1 = H at hP hS ⊢
    have hP : va_P D vwCl [(mt, .inl (cm, 3000, .inl fy16)), (h0, .inr (12, u18)), (wt, .inl (cw, 2, .inl fy19))] H := hP
    have hD : va_D A [(mt, .inl (cm, 3000, .inl fy16)), (h0, .inr (12, u18)), (wt, .inl (cw, 2, .inl fy19))] := hD
    have hK : va_K D vwCl [(cm, .byte), (cw, .boolean)] s := hK
    refine lv_aload_n hx hb dX12_feed_89 rfl (lv_at hl 1 rfl) ?_
    refine va_get (D := D) (ci := 12) (v := .int 3) (C := RX12) (T := TX12) (N := 139) hx hb hts i_v_c_m_feed_X12 hown hK hP 1 rfl rfl 2 (by decide) (hts (.fieldLink RX12 319 "ScheduleHouseModel" "size" "I") (by decide +kernel)) (fun _ h9 => h9) gu18_2 dX12_feed_90 ?_
    have hP : va_P D vwCl [(h0, .inr (12, u18))] H := hP.sub [1] rfl
    have hD : va_D A [(h0, .inr (12, u18))] := hD.sub [1] (by decide) rfl
    have hK : va_K D vwCl [] s := hK.sub [] rfl
    exact W.iret (v := 3) hx hb hr (fun t ht hW => ⟨⟨3, u18, rfl, ⟨0, gu18_0, Or.inl ⟨rfl, rfl, hi⟩⟩, by rw [ht]; exact hP, va_K.moved hW.alike hK, hD⟩, hS.F ht⟩) hS.2.2 dX12_feed_93
  · subst er2
    exact absurd hi (by decide)
set_option maxHeartbeats 400000 in
set_option maxRecDepth 100000 in
/-- the model's feed(4, ..) -/
theorem c_m_feed_4 (l : Launch) (D : va_G) (h0 mt wt : Nat) (cm cw : ClassId) (fs : List Value) (f0 : Nat → Int32) (p1 : Int64) (sz : Nat) (hlen : fs.length = 139) (hf_thrown : fs[0]? = some (.int 0)) (hf_size : fs[2]? = some (.int 0)) (hf_wasTried : fs[118]? = some (.ref wt)) (hf_text : fs[1]? = some (.ref mt)) : Met l yX12_feed v_c_m_feed ({ frames := 5, cells := 0, slots := 0, locals := 80 }) (va_Pc [.ref h0, .int 4, .long p1] (st_ D [(h0, .inr (12, fs)), (mt, .inl (cm, 3000, .inl f0)), (wt, .inl (cw, 2, .inl (fun _ => 0)))] [(cm, .byte), (cw, .boolean)] sz)) (va_Qi (fun (r : Int32) (u : List Value) => ∃ t : Int32, u[0]? = some (.int t) ∧ ((t = 0 ∧ r = (4 : Int32) ∧ (¬ (4 : Int32) < 1 ∧ ¬ 8 < (4 : Int32))) ∨ (t = 1 ∧ ((4 : Int32) < 1 ∨ 8 < (4 : Int32))) ∨ (t = 2 ∧ False))) (fun u t => va_P D vwCl [(h0, .inr (12, u))] t.heap ∧ va_K D vwCl [] t ∧ va_D (va_A [(h0, .inr (12, fs)), (mt, .inl (cm, 3000, .inl f0)), (wt, .inl (cw, 2, .inl (fun _ => 0)))] sz) [(h0, .inr (12, u))]) (va_A [(h0, .inr (12, fs)), (mt, .inl (cm, 3000, .inl f0)), (wt, .inl (cw, 2, .inl (fun _ => 0)))] sz)) 0 0 (va_A [(h0, .inr (12, fs)), (mt, .inl (cm, 3000, .inl f0)), (wt, .inl (cw, 2, .inl (fun _ => 0)))] sz) := by
  refine Met.ofW (cc := cX12_feed) (maxL := 5) (ret := (some .int)) (by decide) rfl ?_
  intro p e s m args below meth c s₁ B hml hv
  obtain ⟨rfl, hsz, hP, hK, hD0, hZ, hE⟩ := hv
  have hx := B.exec
  have hb := B.bytes
  have hr := B.returns
  have hts := atoms_spec (ws := v_c_m_feed) B.pre
  have hown : s.vm.findClass RX12 = some m.cls := findClass_of_methodNamed B.named
  have hlocks := B.notSynchronized
  subst hsz
  have hD := hD0.self (sz := s.heap.size)
  generalize hAe : va_A [(h0, .inr (12, fs)), (mt, .inl (cm, 3000, .inl f0)), (wt, .inl (cw, 2, .inl (fun _ => 0)))] s.heap.size = A at hD hZ ⊢
  have hA : ∀ q : Nat, s.heap.size ≤ q → A q := fun q h => by rw [← hAe]; exact Or.inr h
  have hS : va_S A s.heap s.heap [] := va_S.rf
  have hAO := hE.2.2.2.1
  have hP : va_P D vwCl [(h0, .inr (12, fs)), (mt, .inl (cm, 3000, .inl f0)), (wt, .inl (cw, 2, .inl (fun _ => 0)))] s.heap := hP
  have hl := lv_entry ([.ref h0, .int 4, .long p1]) (n := 5) (Nat.le_of_ble_eq_true rfl)
  rw [lg_entry_eq]
  generalize (lg_sl ([.ref h0, .int 4, .long p1]) ++ List.replicate (5 - (lg_sl ([.ref h0, .int 4, .long p1])).length) Slot.unset).toArray = ls at hl ⊢
  have hl : lv_has ls 5 [(0, .ref h0), (1, .int 4), (2, .long p1)] := hl
  refine lv_aload_n hx hb dX12_feed_0 rfl (lv_at hl 0 rfl) ?_
  refine lv_iconst (v := 0) hx hb dX12_feed_1 (by decide +kernel) ?_
  refine va_put (D := D) (ci := 12) (v := .int 0) (ty := .int) (C := RX12) (T := TX12) (N := 139) hx hb hts i_v_c_m_feed_X12 tyX12 tyX12_ok nmX12 hown hK hP hD hS 0 rfl rfl 0 (by decide) (hts (.fieldLink RX12 316 "ScheduleHouseModel" "thrown" "I") (by decide +kernel)) (fun _ h9 => h9) rfl (by decide +kernel) rfl rfl (by rw [hlen]; decide) dX12_feed_2 (fun H locs hP hD hS => ?_)
  obtain ⟨fs1, hfs1⟩ : ∃ z, z = fs.set 0 (.int 0) := ⟨_, rfl⟩
  rw [← hfs1] at hP hD
  have lfs1 : fs1.length = 139 := by rw [hfs1, List.length_set]; exact hlen
  have gfs1_2 : fs1[2]? = some (.int 0) := by rw [hfs1, List.getElem?_set_ne (by decide)]; exact hf_size
  have gfs1_118 : fs1[118]? = some (.ref wt) := by rw [hfs1, List.getElem?_set_ne (by decide)]; exact hf_wasTried
  have gfs1_1 : fs1[1]? = some (.ref mt) := by rw [hfs1, List.getElem?_set_ne (by decide)]; exact hf_text
  have gfs1_0 : fs1[0]? = some (.int 0) := by rw [hfs1]; exact List.getElem?_set_self (by rw [hlen]; decide)
  have hP : va_P D vwCl [(h0, .inr (12, fs1)), (mt, .inl (cm, 3000, .inl f0)), (wt, .inl (cw, 2, .inl (fun _ => 0)))] H := hP
  have hD : va_D A [(h0, .inr (12, fs1)), (mt, .inl (cm, 3000, .inl f0)), (wt, .inl (cw, 2, .inl (fun _ => 0)))] := hD
  refine lv_aload_n hx hb dX12_feed_5 rfl (lv_at hl 0 rfl) ?_
  refine lv_iload_n hx hb dX12_feed_6 rfl (lv_at hl 1 rfl) ?_
  refine lv_iconst (v := 1) hx hb dX12_feed_7 (by decide +kernel) ?_
  refine lv_bipush (v := 8) hx hb dX12_feed_8 (by decide +kernel) ?_
  have hPc := hP.sub (ws' := []) [] rfl
  have hDc := hD.sub (ws' := []) [] (by decide) rfl
  have hKc := hK.sub (tys' := []) [] rfl
  have hFc := va_free (wc := []) hD hS hA [] rfl
  refine va_calli (va_runS (As := [.int 4, .int 1, .int 8]) (rest := [.ref h0]) ⟨hx, hb, hml, hown, hts⟩ (c_m_in l D 4 1 8 H.size) (va_cwS 3 hts g_v_c_m_feed_1 rfl rfl rfl (by decide +kernel) ⟨Nat.le_of_ble_eq_true rfl, Nat.le_of_ble_eq_true rfl⟩) ⟨st_blind, fun U hU hW => ⟨rfl, st_call hU hW hPc hKc hDc hZ hS hFc hE⟩⟩ rfl rfl hl.1 rfl (lv_room (Nat.le_of_ble_eq_true rfl)) dX12_feed_10 ⟨Nat.le_of_ble_eq_true rfl, Nat.le_of_ble_eq_true rfl⟩) hS (fun q _ h => hFc q h) hFc (fun r2 u3 t H1 locs ht hvm hw hB hz1 hk1 hS => ?_)
  obtain ⟨hP, hD⟩ := va_join (wr := [(h0, .inr (12, fs1)), (mt, .inl (cm, 3000, .inl f0)), (wt, .inl (cw, 2, .inl (fun _ => 0)))]) (w1 := []) hP hD [] [0, 1, 2] rfl rfl (by decide) (by decide) hk1 hFc p_nil d_nil
  generalize H1 = H at hP hS ⊢
  have hP : va_P D vwCl [(h0, .inr (12, fs1)), (mt, .inl (cm, 3000, .inl f0)), (wt, .inl (cw, 2, .inl (fun _ => 0)))] H := hP
  have hD : va_D A [(h0, .inr (12, fs1)), (mt, .inl (cm, 3000, .inl f0)), (wt, .inl (cw, 2, .inl (fun _ => 0)))] := hD
  rcases hw with ⟨er2, hi⟩ | ⟨er2, hi⟩
  · subst er2
    refine lv_if_eq (tgt := 28) hx hb dX12_feed_13 (by decide) (fun c9 => False.elim (by revert c9; decide)) (fun _ => ?_)
    refine lv_aload_n hx hb dX12_feed_16 rfl (lv_at hl 0 rfl) ?_
    refine va_get (D := D) (ci := 12) (v := .int 0) (C := RX12) (T := TX12) (N := 139) hx hb hts i_v_c_m_feed_X12 hown hK hP 0 rfl rfl 2 (by decide) (hts (.fieldLink RX12 319 "ScheduleHouseModel" "size" "I") (by decide +kernel)) (fun _ h9 => h9) gfs1_2 dX12_feed_17 ?_
    refine lv_iload_n hx hb dX12_feed_20 rfl (lv_at hl 1 rfl) ?_
    refine lv_iadd hx hb dX12_feed_21 ?_
    rw [show (0 + 4 : Int32) = 4 by decide]
    refine lv_sipush (v := 3000) hx hb dX12_feed_22 (by decide +kernel) ?_
    refine lv_icmp_le (tgt := 32) hx hb dX12_feed_25 (by decide) (fun _ => ?_) (fun c9 => False.elim (by revert c9; decide))
    refine lv_iconst (v := 0) hx hb dX12_feed_32 (by decide +kernel) ?_
    refine lv_iconst (v := 1) hx hb dX12_feed_33 (by decide +kernel) ?_
    have hPc := hP.sub (ws' := [(h0, .inr (12, fs1))]) [0] rfl
    have hDc := hD.sub (ws' := [(h0, .inr (12, fs1))]) [0] (by decide) rfl
    have hKc := hK.sub (tys' := []) [] rfl
    have hFc := va_free (wc := [(h0, .inr (12, fs1))]) hD hS hA [0] rfl
    refine va_calli (va_runV (As := [.int 0, .int 1]) (rest := []) ⟨hx, hb, hml, hown, hts⟩ (c_m_refuses_no l D h0 fs1 1 H.size lfs1 gfs1_0) (cwV 2 hts g_v_c_m_feed_3 rfl rfl rfl (by decide +kernel) ⟨Nat.le_of_ble_eq_true rfl, Nat.le_of_ble_eq_true rfl⟩) ⟨st_blind, va_recv hKc hPc (ci := 12) (q0 := 0) rfl rfl, fun U hU hW => ⟨rfl, st_call hU hW hPc hKc hDc hZ hS hFc hE⟩⟩ rfl rfl hl.1 rfl (lv_room (Nat.le_of_ble_eq_true rfl)) dX12_feed_34 ⟨Nat.le_of_ble_eq_true rfl, Nat.le_of_ble_eq_true rfl⟩) hS (fun q _ h => hFc q h) hFc (fun r4 u5 t H1 locs ht hvm hw hB hz1 hk1 hS => ?_)
    obtain ⟨er4, eu5⟩ := hw
    rw [eu5] at hB
    obtain ⟨hP1, hK1, hD1⟩ := hB
    rw [ht] at hP1
    have hK1 := va_K.moved hvm.symm hK1
    obtain ⟨hP, hD⟩ := va_join (wr := [(mt, .inl (cm, 3000, .inl f0)), (wt, .inl (cw, 2, .inl (fun _ => 0)))]) (w1 := [(h0, .inr (12, fs1))]) hP hD [0] [1, 2] rfl rfl (by decide) (by decide) hk1 hFc hP1 hD1
    have hK := (hK.sub (tys' := [(cm, .byte), (cw, .boolean)]) [0, 1] rfl).app hK1
    generalize H1 = H at hP hS ⊢
    have hP : va_P D vwCl [(mt, .inl (cm, 3000, .inl f0)), (wt, .inl (cw, 2, .inl (fun _ => 0))), (h0, .inr (12, fs1))] H := hP
    have hD : va_D A [(mt, .inl (cm, 3000, .inl f0)), (wt, .inl (cw, 2, .inl (fun _ => 0))), (h0, .inr (12, fs1))] := hD
    have hK : va_K D vwCl [(cm, .byte), (cw, .boolean)] s := hK
    subst er4
    refine lv_if_eq (tgt := 42) hx hb dX12_feed_37 (by decide) (fun _ => ?_) (fun c9 => False.elim (by revert c9; decide))
    refine lv_iconst (v := 0) hx hb dX12_feed_42 (by decide +kernel) ?_
    refine lv_istore (lv' := [(4, .int 0), (0, .ref h0), (1, .int 4), (2, .long p1)]) hx hb dX12_feed_43 hl (by decide) rfl (fun ls hl => ?_)
    refine lv_iload hx hb dX12_feed_45 (lv_at hl 0 rfl) ?_
    refine lv_iload_n hx hb dX12_feed_47 rfl (lv_at hl 2 rfl) ?_
    refine lv_icmp_ge (tgt := 85) hx hb dX12_feed_48 (by decide) (fun c9 => False.elim (by revert c9; decide)) (fun _ => ?_)
    refine lv_aload_n hx hb dX12_feed_51 rfl (lv_at hl 1 rfl) ?_
    refine va_get (D := D) (ci := 12) (v := .ref mt) (C := RX12) (T := TX12) (N := 139) hx hb hts i_v_c_m_feed_X12 hown hK hP 2 rfl rfl 1 (by decide) (hts (.fieldLink RX12 7 "ScheduleHouseModel" "text" "[B") (by decide +kernel)) (fun _ h9 => h9) gfs1_1 dX12_feed_52 ?_
    refine lv_aload_n hx hb dX12_feed_55 rfl (lv_at hl 1 rfl) ?_
    refine va_get (D := D) (ci := 12) (v := .int 0) (C := RX12) (T := TX12) (N := 139) hx hb hts i_v_c_m_feed_X12 hown hK hP 2 rfl rfl 2 (by decide) (hts (.fieldLink RX12 319 "ScheduleHouseModel" "size" "I") (by decide +kernel)) (fun _ h9 => h9) gfs1_2 dX12_feed_56 ?_
    refine lv_lload_n hx hb dX12_feed_59 rfl (lv_at hl 3 rfl) ?_
    refine lv_bipush (v := 8) hx hb dX12_feed_60 (by decide +kernel) ?_
    refine lv_iload hx hb dX12_feed_62 (lv_at hl 0 rfl) ?_
    refine lv_imul hx hb dX12_feed_64 ?_
    rw [show (8 * 0 : Int32) = 0 by decide]
    obtain ⟨z6, hz6⟩ : ∃ z : Int64, z = p1 >>> ((0 : Int32).toInt64 &&& 63) := ⟨_, rfl⟩
    refine lv_lshr (v := z6) hx hb dX12_feed_65 hz6.symm ?_
    obtain ⟨b7, hb7⟩ : ∃ z : Int32, z = z6.toInt32 := ⟨_, rfl⟩
    refine lv_l2i (v := b7) hx hb dX12_feed_66 hb7.symm ?_
    refine lv_i2b (v := b7.toInt8.toInt32) hx hb dX12_feed_67 rfl ?_
    refine va_bast hx hb hK hP hD hS 0 0 rfl rfl (i := 0) (x := b7.toInt8.toInt32) (by unfold vp_in; decide) dX12_feed_68 (fun H locs hP hD hS => ?_)
    obtain ⟨fy8, hfy8⟩ : ∃ z : Nat → Int32, z = upd f0 (0 : Int32).toNatClampNeg (vp_nar .byte b7.toInt8.toInt32) := ⟨_, rfl⟩
    have hP : va_P D vwCl [(mt, .inl (cm, 3000, .inl fy8)), (wt, .inl (cw, 2, .inl (fun _ => 0))), (h0, .inr (12, fs1))] H := by rw [hfy8]; exact hP
    have hD : va_D A [(mt, .inl (cm, 3000, .inl fy8)), (wt, .inl (cw, 2, .inl (fun _ => 0))), (h0, .inr (12, fs1))] := by rw [hfy8]; exact hD
    refine lv_aload_n hx hb dX12_feed_69 rfl (lv_at hl 1 rfl) ?_
    refine lv_dup hx hb dX12_feed_70 rfl ?_
    refine va_get (D := D) (ci := 12) (v := .int 0) (C := RX12) (T := TX12) (N := 139) hx hb hts i_v_c_m_feed_X12 hown hK hP 2 rfl rfl 2 (by decide) (hts (.fieldLink RX12 319 "ScheduleHouseModel" "size" "I") (by decide +kernel)) (fun _ h9 => h9) gfs1_2 dX12_feed_71 ?_
    refine lv_iconst (v := 1) hx hb dX12_feed_74 (by decide +kernel) ?_
    refine lv_iadd hx hb dX12_feed_75 ?_
    rw [show (0 + 1 : Int32) = 1 by decide]
    refine va_put (D := D) (ci := 12) (v := .int 1) (ty := .int) (C := RX12) (T := TX12) (N := 139) hx hb hts i_v_c_m_feed_X12 tyX12 tyX12_ok nmX12 hown hK hP hD hS 2 rfl rfl 2 (by decide) (hts (.fieldLink RX12 319 "ScheduleHouseModel" "size" "I") (by decide +kernel)) (fun _ h9 => h9) rfl (by decide +kernel) rfl rfl (by rw [lfs1]; decide) dX12_feed_76 (fun H locs hP hD hS => ?_)
    obtain ⟨fs9, hfs9⟩ : ∃ z, z = fs1.set 2 (.int 1) := ⟨_, rfl⟩
    rw [← hfs9] at hP hD
    have lfs9 : fs9.length = 139 := by rw [hfs9, List.length_set]; exact lfs1
    have gfs9_118 : fs9[118]? = some (.ref wt) := by rw [hfs9, List.getElem?_set_ne (by decide)]; exact gfs1_118
    have gfs9_1 : fs9[1]? = some (.ref mt) := by rw [hfs9, List.getElem?_set_ne (by decide)]; exact gfs1_1
    have gfs9_0 : fs9[0]? = some (.int 0) := by rw [hfs9, List.getElem?_set_ne (by decide)]; exact gfs1_0
    have gfs9_2 : fs9[2]? = some (.int 1) := by rw [hfs9]; exact List.getElem?_set_self (by rw [lfs1]; decide)
    have hP : va_P D vwCl [(mt, .inl (cm, 3000, .inl fy8)), (wt, .inl (cw, 2, .inl (fun _ => 0))), (h0, .inr (12, fs9))] H := hP
    have hD : va_D A [(mt, .inl (cm, 3000, .inl fy8)), (wt, .inl (cw, 2, .inl (fun _ => 0))), (h0, .inr (12, fs9))] := hD
    refine lv_iinc (v := 1) (lv' := [(4, .int 1), (0, .ref h0), (1, .int 4), (2, .long p1)]) hx hb dX12_feed_79 hl (k := 0) rfl (by decide) (by decide) rfl (fun ls hl => ?_)
    refine lv_goto (tgt := 45) hx hb dX12_feed_82 (by decide) ?_
    refine lv_iload hx hb dX12_feed_45 (lv_at hl 0 rfl) ?_
    refine lv_iload_n hx hb dX12_feed_47 rfl (lv_at hl 2 rfl) ?_
    refine lv_icmp_ge (tgt := 85) hx hb dX12_feed_48 (by decide) (fun c9 => False.elim (by revert c9; decide)) (fun _ => ?_)
    refine lv_aload_n hx hb dX12_feed_51 rfl (lv_at hl 1 rfl) ?_
    refine va_get (D := D) (ci := 12) (v := .ref mt) (C := RX12) (T := TX12) (N := 139) hx hb hts i_v_c_m_feed_X12 hown hK hP 2 rfl rfl 1 (by decide) (hts (.fieldLink RX12 7 "ScheduleHouseModel" "text" "[B") (by decide +kernel)) (fun _ h9 => h9) gfs9_1 dX12_feed_52 ?_
    refine lv_aload_n hx hb dX12_feed_55 rfl (lv_at hl 1 rfl) ?_
    refine va_get (D := D) (ci := 12) (v := .int 1) (C := RX12) (T := TX12) (N := 139) hx hb hts i_v_c_m_feed_X12 hown hK hP 2 rfl rfl 2 (by decide) (hts (.fieldLink RX12 319 "ScheduleHouseModel" "size" "I") (by decide +kernel)) (fun _ h9 => h9) gfs9_2 dX12_feed_56 ?_
    refine lv_lload_n hx hb dX12_feed_59 rfl (lv_at hl 3 rfl) ?_
    refine lv_bipush (v := 8) hx hb dX12_feed_60 (by decide +kernel) ?_
    refine lv_iload hx hb dX12_feed_62 (lv_at hl 0 rfl) ?_
    refine lv_imul hx hb dX12_feed_64 ?_
    rw [show (8 * 1 : Int32) = 8 by decide]
    obtain ⟨z10, hz10⟩ : ∃ z : Int64, z = p1 >>> ((8 : Int32).toInt64 &&& 63) := ⟨_, rfl⟩
    refine lv_lshr (v := z10) hx hb dX12_feed_65 hz10.symm ?_
    obtain ⟨b11, hb11⟩ : ∃ z : Int32, z = z10.toInt32 := ⟨_, rfl⟩
    refine lv_l2i (v := b11) hx hb dX12_feed_66 hb11.symm ?_
    refine lv_i2b (v := b11.toInt8.toInt32) hx hb dX12_feed_67 rfl ?_
    refine va_bast hx hb hK hP hD hS 0 0 rfl rfl (i := 1) (x := b11.toInt8.toInt32) (by unfold vp_in; decide) dX12_feed_68 (fun H locs hP hD hS => ?_)
    obtain ⟨fy12, hfy12⟩ : ∃ z : Nat → Int32, z = upd fy8 (1 : Int32).toNatClampNeg (vp_nar .byte b11.toInt8.toInt32) := ⟨_, rfl⟩
    have hP : va_P D vwCl [(mt, .inl (cm, 3000, .inl fy12)), (wt, .inl (cw, 2, .inl (fun _ => 0))), (h0, .inr (12, fs9))] H := by rw [hfy12]; exact hP
    have hD : va_D A [(mt, .inl (cm, 3000, .inl fy12)), (wt, .inl (cw, 2, .inl (fun _ => 0))), (h0, .inr (12, fs9))] := by rw [hfy12]; exact hD
    refine lv_aload_n hx hb dX12_feed_69 rfl (lv_at hl 1 rfl) ?_
    refine lv_dup hx hb dX12_feed_70 rfl ?_
    refine va_get (D := D) (ci := 12) (v := .int 1) (C := RX12) (T := TX12) (N := 139) hx hb hts i_v_c_m_feed_X12 hown hK hP 2 rfl rfl 2 (by decide) (hts (.fieldLink RX12 319 "ScheduleHouseModel" "size" "I") (by decide +kernel)) (fun _ h9 => h9) gfs9_2 dX12_feed_71 ?_
    refine lv_iconst (v := 1) hx hb dX12_feed_74 (by decide +kernel) ?_
    refine lv_iadd hx hb dX12_feed_75 ?_
    rw [show (1 + 1 : Int32) = 2 by decide]
    refine va_put (D := D) (ci := 12) (v := .int 2) (ty := .int) (C := RX12) (T := TX12) (N := 139) hx hb hts i_v_c_m_feed_X12 tyX12 tyX12_ok nmX12 hown hK hP hD hS 2 rfl rfl 2 (by decide) (hts (.fieldLink RX12 319 "ScheduleHouseModel" "size" "I") (by decide +kernel)) (fun _ h9 => h9) rfl (by decide +kernel) rfl rfl (by rw [lfs9]; decide) dX12_feed_76 (fun H locs hP hD hS => ?_)
    obtain ⟨fs13, hfs13⟩ : ∃ z, z = fs9.set 2 (.int 2) := ⟨_, rfl⟩
    rw [← hfs13] at hP hD
    have lfs13 : fs13.length = 139 := by rw [hfs13, List.length_set]; exact lfs9
    have gfs13_118 : fs13[118]? = some (.ref wt) := by rw [hfs13, List.getElem?_set_ne (by decide)]; exact gfs9_118
    have gfs13_1 : fs13[1]? = some (.ref mt) := by rw [hfs13, List.getElem?_set_ne (by decide)]; exact gfs9_1
    have gfs13_0 : fs13[0]? = some (.int 0) := by rw [hfs13, List.getElem?_set_ne (by decide)]; exact gfs9_0
    have gfs13_2 : fs13[2]? = some (.int 2) := by rw [hfs13]; exact List.getElem?_set_self (by rw [lfs9]; decide)
    have hP : va_P D vwCl [(mt, .inl (cm, 3000, .inl fy12)), (wt, .inl (cw, 2, .inl (fun _ => 0))), (h0, .inr (12, fs13))] H := hP
    have hD : va_D A [(mt, .inl (cm, 3000, .inl fy12)), (wt, .inl (cw, 2, .inl (fun _ => 0))), (h0, .inr (12, fs13))] := hD
    refine lv_iinc (v := 2) (lv' := [(4, .int 2), (0, .ref h0), (1, .int 4), (2, .long p1)]) hx hb dX12_feed_79 hl (k := 0) rfl (by decide) (by decide) rfl (fun ls hl => ?_)
    refine lv_goto (tgt := 45) hx hb dX12_feed_82 (by decide) ?_
    refine lv_iload hx hb dX12_feed_45 (lv_at hl 0 rfl) ?_
    refine lv_iload_n hx hb dX12_feed_47 rfl (lv_at hl 2 rfl) ?_
    refine lv_icmp_ge (tgt := 85) hx hb dX12_feed_48 (by decide) (fun c9 => False.elim (by revert c9; decide)) (fun _ => ?_)
    refine lv_aload_n hx hb dX12_feed_51 rfl (lv_at hl 1 rfl) ?_
    refine va_get (D := D) (ci := 12) (v := .ref mt) (C := RX12) (T := TX12) (N := 139) hx hb hts i_v_c_m_feed_X12 hown hK hP 2 rfl rfl 1 (by decide) (hts (.fieldLink RX12 7 "ScheduleHouseModel" "text" "[B") (by decide +kernel)) (fun _ h9 => h9) gfs13_1 dX12_feed_52 ?_
    refine lv_aload_n hx hb dX12_feed_55 rfl (lv_at hl 1 rfl) ?_
    refine va_get (D := D) (ci := 12) (v := .int 2) (C := RX12) (T := TX12) (N := 139) hx hb hts i_v_c_m_feed_X12 hown hK hP 2 rfl rfl 2 (by decide) (hts (.fieldLink RX12 319 "ScheduleHouseModel" "size" "I") (by decide +kernel)) (fun _ h9 => h9) gfs13_2 dX12_feed_56 ?_
    refine lv_lload_n hx hb dX12_feed_59 rfl (lv_at hl 3 rfl) ?_
    refine lv_bipush (v := 8) hx hb dX12_feed_60 (by decide +kernel) ?_
    refine lv_iload hx hb dX12_feed_62 (lv_at hl 0 rfl) ?_
    refine lv_imul hx hb dX12_feed_64 ?_
    rw [show (8 * 2 : Int32) = 16 by decide]
    obtain ⟨z14, hz14⟩ : ∃ z : Int64, z = p1 >>> ((16 : Int32).toInt64 &&& 63) := ⟨_, rfl⟩
    refine lv_lshr (v := z14) hx hb dX12_feed_65 hz14.symm ?_
    obtain ⟨b15, hb15⟩ : ∃ z : Int32, z = z14.toInt32 := ⟨_, rfl⟩
    refine lv_l2i (v := b15) hx hb dX12_feed_66 hb15.symm ?_
    refine lv_i2b (v := b15.toInt8.toInt32) hx hb dX12_feed_67 rfl ?_
    refine va_bast hx hb hK hP hD hS 0 0 rfl rfl (i := 2) (x := b15.toInt8.toInt32) (by unfold vp_in; decide) dX12_feed_68 (fun H locs hP hD hS => ?_)
    obtain ⟨fy16, hfy16⟩ : ∃ z : Nat → Int32, z = upd fy12 (2 : Int32).toNatClampNeg (vp_nar .byte b15.toInt8.toInt32) := ⟨_, rfl⟩
    have hP : va_P D vwCl [(mt, .inl (cm, 3000, .inl fy16)), (wt, .inl (cw, 2, .inl (fun _ => 0))), (h0, .inr (12, fs13))] H := by rw [hfy16]; exact hP
    have hD : va_D A [(mt, .inl (cm, 3000, .inl fy16)), (wt, .inl (cw, 2, .inl (fun _ => 0))), (h0, .inr (12, fs13))] := by rw [hfy16]; exact hD
    refine lv_aload_n hx hb dX12_feed_69 rfl (lv_at hl 1 rfl) ?_
    refine lv_dup hx hb dX12_feed_70 rfl ?_
    refine va_get (D := D) (ci := 12) (v := .int 2) (C := RX12) (T := TX12) (N := 139) hx hb hts i_v_c_m_feed_X12 hown hK hP 2 rfl rfl 2 (by decide) (hts (.fieldLink RX12 319 "ScheduleHouseModel" "size" "I") (by decide +kernel)) (fun _ h9 => h9) gfs13_2 dX12_feed_71 ?_
    refine lv_iconst (v := 1) hx hb dX12_feed_74 (by decide +kernel) ?_
    refine lv_iadd hx hb dX12_feed_75 ?_
    rw [show (2 + 1 : Int32) = 3 by decide]
    refine va_put (D := D) (ci := 12) (v := .int 3) (ty := .int) (C := RX12) (T := TX12) (N := 139) hx hb hts i_v_c_m_feed_X12 tyX12 tyX12_ok nmX12 hown hK hP hD hS 2 rfl rfl 2 (by decide) (hts (.fieldLink RX12 319 "ScheduleHouseModel" "size" "I") (by decide +kernel)) (fun _ h9 => h9) rfl (by decide +kernel) rfl rfl (by rw [lfs13]; decide) dX12_feed_76 (fun H locs hP hD hS => ?_)
    obtain ⟨fs17, hfs17⟩ : ∃ z, z = fs13.set 2 (.int 3) := ⟨_, rfl⟩
    rw [← hfs17] at hP hD
    have lfs17 : fs17.length = 139 := by rw [hfs17, List.length_set]; exact lfs13
    have gfs17_118 : fs17[118]? = some (.ref wt) := by rw [hfs17, List.getElem?_set_ne (by decide)]; exact gfs13_118
    have gfs17_1 : fs17[1]? = some (.ref mt) := by rw [hfs17, List.getElem?_set_ne (by decide)]; exact gfs13_1
    have gfs17_0 : fs17[0]? = some (.int 0) := by rw [hfs17, List.getElem?_set_ne (by decide)]; exact gfs13_0
    have gfs17_2 : fs17[2]? = some (.int 3) := by rw [hfs17]; exact List.getElem?_set_self (by rw [lfs13]; decide)
    have hP : va_P D vwCl [(mt, .inl (cm, 3000, .inl fy16)), (wt, .inl (cw, 2, .inl (fun _ => 0))), (h0, .inr (12, fs17))] H := hP
    have hD : va_D A [(mt, .inl (cm, 3000, .inl fy16)), (wt, .inl (cw, 2, .inl (fun _ => 0))), (h0, .inr (12, fs17))] := hD
    refine lv_iinc (v := 3) (lv' := [(4, .int 3), (0, .ref h0), (1, .int 4), (2, .long p1)]) hx hb dX12_feed_79 hl (k := 0) rfl (by decide) (by decide) rfl (fun ls hl => ?_)
    refine lv_goto (tgt := 45) hx hb dX12_feed_82 (by decide) ?_
    refine lv_iload hx hb dX12_feed_45 (lv_at hl 0 rfl) ?_
    refine lv_iload_n hx hb dX12_feed_47 rfl (lv_at hl 2 rfl) ?_
    refine lv_icmp_ge (tgt := 85) hx hb dX12_feed_48 (by decide) (fun c9 => False.elim (by revert c9; decide)) (fun _ => ?_)
    refine lv_aload_n hx hb dX12_feed_51 rfl (lv_at hl 1 rfl) ?_
    refine va_get (D := D) (ci := 12) (v := .ref mt) (C := RX12) (T := TX12) (N := 139) hx hb hts i_v_c_m_feed_X12 hown hK hP 2 rfl rfl 1 (by decide) (hts (.fieldLink RX12 7 "ScheduleHouseModel" "text" "[B") (by decide +kernel)) (fun _ h9 => h9) gfs17_1 dX12_feed_52 ?_
    refine lv_aload_n hx hb dX12_feed_55 rfl (lv_at hl 1 rfl) ?_
    refine va_get (D := D) (ci := 12) (v := .int 3) (C := RX12) (T := TX12) (N := 139) hx hb hts i_v_c_m_feed_X12 hown hK hP 2 rfl rfl 2 (by decide) (hts (.fieldLink RX12 319 "ScheduleHouseModel" "size" "I") (by decide +kernel)) (fun _ h9 => h9) gfs17_2 dX12_feed_56 ?_
    refine lv_lload_n hx hb dX12_feed_59 rfl (lv_at hl 3 rfl) ?_
    refine lv_bipush (v := 8) hx hb dX12_feed_60 (by decide +kernel) ?_
    refine lv_iload hx hb dX12_feed_62 (lv_at hl 0 rfl) ?_
    refine lv_imul hx hb dX12_feed_64 ?_
    rw [show (8 * 3 : Int32) = 24 by decide]
    obtain ⟨z18, hz18⟩ : ∃ z : Int64, z = p1 >>> ((24 : Int32).toInt64 &&& 63) := ⟨_, rfl⟩
    refine lv_lshr (v := z18) hx hb dX12_feed_65 hz18.symm ?_
    obtain ⟨b19, hb19⟩ : ∃ z : Int32, z = z18.toInt32 := ⟨_, rfl⟩
    refine lv_l2i (v := b19) hx hb dX12_feed_66 hb19.symm ?_
    refine lv_i2b (v := b19.toInt8.toInt32) hx hb dX12_feed_67 rfl ?_
    refine va_bast hx hb hK hP hD hS 0 0 rfl rfl (i := 3) (x := b19.toInt8.toInt32) (by unfold vp_in; decide) dX12_feed_68 (fun H locs hP hD hS => ?_)
    obtain ⟨fy20, hfy20⟩ : ∃ z : Nat → Int32, z = upd fy16 (3 : Int32).toNatClampNeg (vp_nar .byte b19.toInt8.toInt32) := ⟨_, rfl⟩
    have hP : va_P D vwCl [(mt, .inl (cm, 3000, .inl fy20)), (wt, .inl (cw, 2, .inl (fun _ => 0))), (h0, .inr (12, fs17))] H := by rw [hfy20]; exact hP
    have hD : va_D A [(mt, .inl (cm, 3000, .inl fy20)), (wt, .inl (cw, 2, .inl (fun _ => 0))), (h0, .inr (12, fs17))] := by rw [hfy20]; exact hD
    refine lv_aload_n hx hb dX12_feed_69 rfl (lv_at hl 1 rfl) ?_
    refine lv_dup hx hb dX12_feed_70 rfl ?_
    refine va_get (D := D) (ci := 12) (v := .int 3) (C := RX12) (T := TX12) (N := 139) hx hb hts i_v_c_m_feed_X12 hown hK hP 2 rfl rfl 2 (by decide) (hts (.fieldLink RX12 319 "ScheduleHouseModel" "size" "I") (by decide +kernel)) (fun _ h9 => h9) gfs17_2 dX12_feed_71 ?_
    refine lv_iconst (v := 1) hx hb dX12_feed_74 (by decide +kernel) ?_
    refine lv_iadd hx hb dX12_feed_75 ?_
    rw [show (3 + 1 : Int32) = 4 by decide]
    refine va_put (D := D) (ci := 12) (v := .int 4) (ty := .int) (C := RX12) (T := TX12) (N := 139) hx hb hts i_v_c_m_feed_X12 tyX12 tyX12_ok nmX12 hown hK hP hD hS 2 rfl rfl 2 (by decide) (hts (.fieldLink RX12 319 "ScheduleHouseModel" "size" "I") (by decide +kernel)) (fun _ h9 => h9) rfl (by decide +kernel) rfl rfl (by rw [lfs17]; decide) dX12_feed_76 (fun H locs hP hD hS => ?_)
    obtain ⟨fs21, hfs21⟩ : ∃ z, z = fs17.set 2 (.int 4) := ⟨_, rfl⟩
    rw [← hfs21] at hP hD
    have lfs21 : fs21.length = 139 := by rw [hfs21, List.length_set]; exact lfs17
    have gfs21_118 : fs21[118]? = some (.ref wt) := by rw [hfs21, List.getElem?_set_ne (by decide)]; exact gfs17_118
    have gfs21_1 : fs21[1]? = some (.ref mt) := by rw [hfs21, List.getElem?_set_ne (by decide)]; exact gfs17_1
    have gfs21_0 : fs21[0]? = some (.int 0) := by rw [hfs21, List.getElem?_set_ne (by decide)]; exact gfs17_0
    have gfs21_2 : fs21[2]? = some (.int 4) := by rw [hfs21]; exact List.getElem?_set_self (by rw [lfs17]; decide)
    have hP : va_P D vwCl [(mt, .inl (cm, 3000, .inl fy20)), (wt, .inl (cw, 2, .inl (fun _ => 0))), (h0, .inr (12, fs21))] H := hP
    have hD : va_D A [(mt, .inl (cm, 3000, .inl fy20)), (wt, .inl (cw, 2, .inl (fun _ => 0))), (h0, .inr (12, fs21))] := hD
    refine lv_iinc (v := 4) (lv' := [(4, .int 4), (0, .ref h0), (1, .int 4), (2, .long p1)]) hx hb dX12_feed_79 hl (k := 0) rfl (by decide) (by decide) rfl (fun ls hl => ?_)
    refine lv_goto (tgt := 45) hx hb dX12_feed_82 (by decide) ?_
    refine lv_iload hx hb dX12_feed_45 (lv_at hl 0 rfl) ?_
    refine lv_iload_n hx hb dX12_feed_47 rfl (lv_at hl 2 rfl) ?_
    refine lv_icmp_ge (tgt := 85) hx hb dX12_feed_48 (by decide) (fun _ => ?_) (fun c9 => False.elim (by revert c9; decide))
    refine lv_aload_n hx hb dX12_feed_85 rfl (lv_at hl 1 rfl) ?_
    have hPc := hP.sub (ws' := [(h0, .inr (12, fs21)), (wt, .inl (cw, 2, .inl (fun _ => 0)))]) [2, 1] rfl
    have hDc := hD.sub (ws' := [(h0, .inr (12, fs21)), (wt, .inl (cw, 2, .inl (fun _ => 0)))]) [2, 1] (by decide) rfl
    have hKc := hK.sub (tys' := [(cw, .boolean)]) [1] rfl
    have hFc := va_free (wc := [(h0, .inr (12, fs21)), (wt, .inl (cw, 2, .inl (fun _ => 0)))]) hD hS hA [2, 1] rfl
    refine va_callv (va_runV (As := []) (rest := []) ⟨hx, hb, hml, hown, hts⟩ (c_m_forget l D h0 wt cw fs21 H.size lfs21 gfs21_118) (cwV 0 hts g_v_c_m_feed_4 rfl rfl rfl (by decide +kernel) ⟨Nat.le_of_ble_eq_true rfl, Nat.le_of_ble_eq_true rfl⟩) ⟨st_blind, va_recv hKc hPc (ci := 12) (q0 := 0) rfl rfl, fun U hU hW => ⟨rfl, st_call hU hW hPc hKc hDc hZ hS hFc hE⟩⟩ rfl rfl hl.1 rfl (lv_room (Nat.le_of_ble_eq_true rfl)) dX12_feed_86 ⟨Nat.le_of_ble_eq_true rfl, Nat.le_of_ble_eq_true rfl⟩) hS (fun q _ h => hFc q h) hFc (fun  u22 t H1 locs ht hvm hw hB hz1 hk1 hS => ?_)
    obtain ⟨ku22, tu22, au22, zu22⟩ := hw
    have lu22 : u22.length = 139 := by rw [ku22.1]; exact lfs21
    have gu22_118 : u22[118]? = some (.ref wt) := kp_at ku22 gfs21_118 (by decide)
    have gu22_1 : u22[1]? = some (.ref mt) := kp_at ku22 gfs21_1 (by decide)
    have gu22_0 : u22[0]? = some (.int 0) := kp_at ku22 gfs21_0 (by decide)
    have gu22_2 : u22[2]? = some (.int 4) := kp_at ku22 gfs21_2 (by decide)
    obtain ⟨fy23, hP1, hK1, hD1⟩ := hB
    rw [ht] at hP1
    have hK1 := va_K.moved hvm.symm hK1
    obtain ⟨hP, hD⟩ := va_join (wr := [(mt, .inl (cm, 3000, .inl fy20))]) (w1 := [(h0, .inr (12, u22)), (wt, .inl (cw, 2, .inl fy23))]) hP hD [2, 1] [0] rfl rfl (by decide) (by decide) hk1 hFc hP1 hD1
    have hK := (hK.sub (tys' := [(cm, .byte)]) [0] rfl).app hK1
    generalize H1 = H at hP hS ⊢
    have hP : va_P D vwCl [(mt, .inl (cm, 3000, .inl fy20)), (h0, .inr (12, u22)), (wt, .inl (cw, 2, .inl fy23))] H := hP
    have hD : va_D A [(mt, .inl (cm, 3000, .inl fy20)), (h0, .inr (12, u22)), (wt, .inl (cw, 2, .inl fy23))] := hD
    have hK : va_K D vwCl [(cm, .byte), (cw, .boolean)] s := hK
    refine lv_aload_n hx hb dX12_feed_89 rfl (lv_at hl 1 rfl) ?_
    refine va_get (D := D) (ci := 12) (v := .int 4) (C := RX12) (T := TX12) (N := 139) hx hb hts i_v_c_m_feed_X12 hown hK hP 1 rfl rfl 2 (by decide) (hts (.fieldLink RX12 319 "ScheduleHouseModel" "size" "I") (by decide +kernel)) (fun _ h9 => h9) gu22_2 dX12_feed_90 ?_
    have hP : va_P D vwCl [(h0, .inr (12, u22))] H := hP.sub [1] rfl
    have hD : va_D A [(h0, .inr (12, u22))] := hD.sub [1] (by decide) rfl
    have hK : va_K D vwCl [] s := hK.sub [] rfl
    exact W.iret (v := 4) hx hb hr (fun t ht hW => ⟨⟨4, u22, rfl, ⟨0, gu22_0, Or.inl ⟨rfl, rfl, hi⟩⟩, by rw [ht]; exact hP, va_K.moved hW.alike hK, hD⟩, hS.F ht⟩) hS.2.2 dX12_feed_93
  · subst er2
    exact absurd hi (by decide)
set_option maxHeartbeats 400000 in
set_option maxRecDepth 100000 in
/-- the model's feed(5, ..) -/
theorem c_m_feed_5 (l : Launch) (D : va_G) (h0 mt wt : Nat) (cm cw : ClassId) (fs : List Value) (f0 : Nat → Int32) (p1 : Int64) (sz : Nat) (hlen : fs.length = 139) (hf_thrown : fs[0]? = some (.int 0)) (hf_size : fs[2]? = some (.int 0)) (hf_wasTried : fs[118]? = some (.ref wt)) (hf_text : fs[1]? = some (.ref mt)) : Met l yX12_feed v_c_m_feed ({ frames := 5, cells := 0, slots := 0, locals := 80 }) (va_Pc [.ref h0, .int 5, .long p1] (st_ D [(h0, .inr (12, fs)), (mt, .inl (cm, 3000, .inl f0)), (wt, .inl (cw, 2, .inl (fun _ => 0)))] [(cm, .byte), (cw, .boolean)] sz)) (va_Qi (fun (r : Int32) (u : List Value) => ∃ t : Int32, u[0]? = some (.int t) ∧ ((t = 0 ∧ r = (5 : Int32) ∧ (¬ (5 : Int32) < 1 ∧ ¬ 8 < (5 : Int32))) ∨ (t = 1 ∧ ((5 : Int32) < 1 ∨ 8 < (5 : Int32))) ∨ (t = 2 ∧ False))) (fun u t => va_P D vwCl [(h0, .inr (12, u))] t.heap ∧ va_K D vwCl [] t ∧ va_D (va_A [(h0, .inr (12, fs)), (mt, .inl (cm, 3000, .inl f0)), (wt, .inl (cw, 2, .inl (fun _ => 0)))] sz) [(h0, .inr (12, u))]) (va_A [(h0, .inr (12, fs)), (mt, .inl (cm, 3000, .inl f0)), (wt, .inl (cw, 2, .inl (fun _ => 0)))] sz)) 0 0 (va_A [(h0, .inr (12, fs)), (mt, .inl (cm, 3000, .inl f0)), (wt, .inl (cw, 2, .inl (fun _ => 0)))] sz) := by
  refine Met.ofW (cc := cX12_feed) (maxL := 5) (ret := (some .int)) (by decide) rfl ?_
  intro p e s m args below meth c s₁ B hml hv
  obtain ⟨rfl, hsz, hP, hK, hD0, hZ, hE⟩ := hv
  have hx := B.exec
  have hb := B.bytes
  have hr := B.returns
  have hts := atoms_spec (ws := v_c_m_feed) B.pre
  have hown : s.vm.findClass RX12 = some m.cls := findClass_of_methodNamed B.named
  have hlocks := B.notSynchronized
  subst hsz
  have hD := hD0.self (sz := s.heap.size)
  generalize hAe : va_A [(h0, .inr (12, fs)), (mt, .inl (cm, 3000, .inl f0)), (wt, .inl (cw, 2, .inl (fun _ => 0)))] s.heap.size = A at hD hZ ⊢
  have hA : ∀ q : Nat, s.heap.size ≤ q → A q := fun q h => by rw [← hAe]; exact Or.inr h
  have hS : va_S A s.heap s.heap [] := va_S.rf
  have hAO := hE.2.2.2.1
  have hP : va_P D vwCl [(h0, .inr (12, fs)), (mt, .inl (cm, 3000, .inl f0)), (wt, .inl (cw, 2, .inl (fun _ => 0)))] s.heap := hP
  have hl := lv_entry ([.ref h0, .int 5, .long p1]) (n := 5) (Nat.le_of_ble_eq_true rfl)
  rw [lg_entry_eq]
  generalize (lg_sl ([.ref h0, .int 5, .long p1]) ++ List.replicate (5 - (lg_sl ([.ref h0, .int 5, .long p1])).length) Slot.unset).toArray = ls at hl ⊢
  have hl : lv_has ls 5 [(0, .ref h0), (1, .int 5), (2, .long p1)] := hl
  refine lv_aload_n hx hb dX12_feed_0 rfl (lv_at hl 0 rfl) ?_
  refine lv_iconst (v := 0) hx hb dX12_feed_1 (by decide +kernel) ?_
  refine va_put (D := D) (ci := 12) (v := .int 0) (ty := .int) (C := RX12) (T := TX12) (N := 139) hx hb hts i_v_c_m_feed_X12 tyX12 tyX12_ok nmX12 hown hK hP hD hS 0 rfl rfl 0 (by decide) (hts (.fieldLink RX12 316 "ScheduleHouseModel" "thrown" "I") (by decide +kernel)) (fun _ h9 => h9) rfl (by decide +kernel) rfl rfl (by rw [hlen]; decide) dX12_feed_2 (fun H locs hP hD hS => ?_)
  obtain ⟨fs1, hfs1⟩ : ∃ z, z = fs.set 0 (.int 0) := ⟨_, rfl⟩
  rw [← hfs1] at hP hD
  have lfs1 : fs1.length = 139 := by rw [hfs1, List.length_set]; exact hlen
  have gfs1_2 : fs1[2]? = some (.int 0) := by rw [hfs1, List.getElem?_set_ne (by decide)]; exact hf_size
  have gfs1_118 : fs1[118]? = some (.ref wt) := by rw [hfs1, List.getElem?_set_ne (by decide)]; exact hf_wasTried
  have gfs1_1 : fs1[1]? = some (.ref mt) := by rw [hfs1, List.getElem?_set_ne (by decide)]; exact hf_text
  have gfs1_0 : fs1[0]? = some (.int 0) := by rw [hfs1]; exact List.getElem?_set_self (by rw [hlen]; decide)
  have hP : va_P D vwCl [(h0, .inr (12, fs1)), (mt, .inl (cm, 3000, .inl f0)), (wt, .inl (cw, 2, .inl (fun _ => 0)))] H := hP
  have hD : va_D A [(h0, .inr (12, fs1)), (mt, .inl (cm, 3000, .inl f0)), (wt, .inl (cw, 2, .inl (fun _ => 0)))] := hD
  refine lv_aload_n hx hb dX12_feed_5 rfl (lv_at hl 0 rfl) ?_
  refine lv_iload_n hx hb dX12_feed_6 rfl (lv_at hl 1 rfl) ?_
  refine lv_iconst (v := 1) hx hb dX12_feed_7 (by decide +kernel) ?_
  refine lv_bipush (v := 8) hx hb dX12_feed_8 (by decide +kernel) ?_
  have hPc := hP.sub (ws' := []) [] rfl
  have hDc := hD.sub (ws' := []) [] (by decide) rfl
  have hKc := hK.sub (tys' := []) [] rfl
  have hFc := va_free (wc := []) hD hS hA [] rfl
  refine va_calli (va_runS (As := [.int 5, .int 1, .int 8]) (rest := [.ref h0]) ⟨hx, hb, hml, hown, hts⟩ (c_m_in l D 5 1 8 H.size) (va_cwS 3 hts g_v_c_m_feed_1 rfl rfl rfl (by decide +kernel) ⟨Nat.le_of_ble_eq_true rfl, Nat.le_of_ble_eq_true rfl⟩) ⟨st_blind, fun U hU hW => ⟨rfl, st_call hU hW hPc hKc hDc hZ hS hFc hE⟩⟩ rfl rfl hl.1 rfl (lv_room (Nat.le_of_ble_eq_true rfl)) dX12_feed_10 ⟨Nat.le_of_ble_eq_true rfl, Nat.le_of_ble_eq_true rfl⟩) hS (fun q _ h => hFc q h) hFc (fun r2 u3 t H1 locs ht hvm hw hB hz1 hk1 hS => ?_)
  obtain ⟨hP, hD⟩ := va_join (wr := [(h0, .inr (12, fs1)), (mt, .inl (cm, 3000, .inl f0)), (wt, .inl (cw, 2, .inl (fun _ => 0)))]) (w1 := []) hP hD [] [0, 1, 2] rfl rfl (by decide) (by decide) hk1 hFc p_nil d_nil
  generalize H1 = H at hP hS ⊢
  have hP : va_P D vwCl [(h0, .inr (12, fs1)), (mt, .inl (cm, 3000, .inl f0)), (wt, .inl (cw, 2, .inl (fun _ => 0)))] H := hP
  have hD : va_D A [(h0, .inr (12, fs1)), (mt, .inl (cm, 3000, .inl f0)), (wt, .inl (cw, 2, .inl (fun _ => 0)))] := hD
  rcases hw with ⟨er2, hi⟩ | ⟨er2, hi⟩
  · subst er2
    refine lv_if_eq (tgt := 28) hx hb dX12_feed_13 (by decide) (fun c9 => False.elim (by revert c9; decide)) (fun _ => ?_)
    refine lv_aload_n hx hb dX12_feed_16 rfl (lv_at hl 0 rfl) ?_
    refine va_get (D := D) (ci := 12) (v := .int 0) (C := RX12) (T := TX12) (N := 139) hx hb hts i_v_c_m_feed_X12 hown hK hP 0 rfl rfl 2 (by decide) (hts (.fieldLink RX12 319 "ScheduleHouseModel" "size" "I") (by decide +kernel)) (fun _ h9 => h9) gfs1_2 dX12_feed_17 ?_
    refine lv_iload_n hx hb dX12_feed_20 rfl (lv_at hl 1 rfl) ?_
    refine lv_iadd hx hb dX12_feed_21 ?_
    rw [show (0 + 5 : Int32) = 5 by decide]
    refine lv_sipush (v := 3000) hx hb dX12_feed_22 (by decide +kernel) ?_
    refine lv_icmp_le (tgt := 32) hx hb dX12_feed_25 (by decide) (fun _ => ?_) (fun c9 => False.elim (by revert c9; decide))
    refine lv_iconst (v := 0) hx hb dX12_feed_32 (by decide +kernel) ?_
    refine lv_iconst (v := 1) hx hb dX12_feed_33 (by decide +kernel) ?_
    have hPc := hP.sub (ws' := [(h0, .inr (12, fs1))]) [0] rfl
    have hDc := hD.sub (ws' := [(h0, .inr (12, fs1))]) [0] (by decide) rfl
    have hKc := hK.sub (tys' := []) [] rfl
    have hFc := va_free (wc := [(h0, .inr (12, fs1))]) hD hS hA [0] rfl
    refine va_calli (va_runV (As := [.int 0, .int 1]) (rest := []) ⟨hx, hb, hml, hown, hts⟩ (c_m_refuses_no l D h0 fs1 1 H.size lfs1 gfs1_0) (cwV 2 hts g_v_c_m_feed_3 rfl rfl rfl (by decide +kernel) ⟨Nat.le_of_ble_eq_true rfl, Nat.le_of_ble_eq_true rfl⟩) ⟨st_blind, va_recv hKc hPc (ci := 12) (q0 := 0) rfl rfl, fun U hU hW => ⟨rfl, st_call hU hW hPc hKc hDc hZ hS hFc hE⟩⟩ rfl rfl hl.1 rfl (lv_room (Nat.le_of_ble_eq_true rfl)) dX12_feed_34 ⟨Nat.le_of_ble_eq_true rfl, Nat.le_of_ble_eq_true rfl⟩) hS (fun q _ h => hFc q h) hFc (fun r4 u5 t H1 locs ht hvm hw hB hz1 hk1 hS => ?_)
    obtain ⟨er4, eu5⟩ := hw
    rw [eu5] at hB
    obtain ⟨hP1, hK1, hD1⟩ := hB
    rw [ht] at hP1
    have hK1 := va_K.moved hvm.symm hK1
    obtain ⟨hP, hD⟩ := va_join (wr := [(mt, .inl (cm, 3000, .inl f0)), (wt, .inl (cw, 2, .inl (fun _ => 0)))]) (w1 := [(h0, .inr (12, fs1))]) hP hD [0] [1, 2] rfl rfl (by decide) (by decide) hk1 hFc hP1 hD1
    have hK := (hK.sub (tys' := [(cm, .byte), (cw, .boolean)]) [0, 1] rfl).app hK1
    generalize H1 = H at hP hS ⊢
    have hP : va_P D vwCl [(mt, .inl (cm, 3000, .inl f0)), (wt, .inl (cw, 2, .inl (fun _ => 0))), (h0, .inr (12, fs1))] H := hP
    have hD : va_D A [(mt, .inl (cm, 3000, .inl f0)), (wt, .inl (cw, 2, .inl (fun _ => 0))), (h0, .inr (12, fs1))] := hD
    have hK : va_K D vwCl [(cm, .byte), (cw, .boolean)] s := hK
    subst er4
    refine lv_if_eq (tgt := 42) hx hb dX12_feed_37 (by decide) (fun _ => ?_) (fun c9 => False.elim (by revert c9; decide))
    refine lv_iconst (v := 0) hx hb dX12_feed_42 (by decide +kernel) ?_
    refine lv_istore (lv' := [(4, .int 0), (0, .ref h0), (1, .int 5), (2, .long p1)]) hx hb dX12_feed_43 hl (by decide) rfl (fun ls hl => ?_)
    refine lv_iload hx hb dX12_feed_45 (lv_at hl 0 rfl) ?_
    refine lv_iload_n hx hb dX12_feed_47 rfl (lv_at hl 2 rfl) ?_
    refine lv_icmp_ge (tgt := 85) hx hb dX12_feed_48 (by decide) (fun c9 => False.elim (by revert c9; decide)) (fun _ => ?_)
    refine lv_aload_n hx hb dX12_feed_51 rfl (lv_at hl 1 rfl) ?_
    refine va_get (D := D) (ci := 12) (v := .ref mt) (C := RX12) (T := TX12) (N := 139) hx hb hts i_v_c_m_feed_X12 hown hK hP 2 rfl rfl 1 (by decide) (hts (.fieldLink RX12 7 "ScheduleHouseModel" "text" "[B") (by decide +kernel)) (fun _ h9 => h9) gfs1_1 dX12_feed_52 ?_
    refine lv_aload_n hx hb dX12_feed_55 rfl (lv_at hl 1 rfl) ?_
    refine va_get (D := D) (ci := 12) (v := .int 0) (C := RX12) (T := TX12) (N := 139) hx hb hts i_v_c_m_feed_X12 hown hK hP 2 rfl rfl 2 (by decide) (hts (.fieldLink RX12 319 "ScheduleHouseModel" "size" "I") (by decide +kernel)) (fun _ h9 => h9) gfs1_2 dX12_feed_56 ?_
    refine lv_lload_n hx hb dX12_feed_59 rfl (lv_at hl 3 rfl) ?_
    refine lv_bipush (v := 8) hx hb dX12_feed_60 (by decide +kernel) ?_
    refine lv_iload hx hb dX12_feed_62 (lv_at hl 0 rfl) ?_
    refine lv_imul hx hb dX12_feed_64 ?_
    rw [show (8 * 0 : Int32) = 0 by decide]
    obtain ⟨z6, hz6⟩ : ∃ z : Int64, z = p1 >>> ((0 : Int32).toInt64 &&& 63) := ⟨_, rfl⟩
    refine lv_lshr (v := z6) hx hb dX12_feed_65 hz6.symm ?_
    obtain ⟨b7, hb7⟩ : ∃ z : Int32, z = z6.toInt32 := ⟨_, rfl⟩
    refine lv_l2i (v := b7) hx hb dX12_feed_66 hb7.symm ?_
    refine lv_i2b (v := b7.toInt8.toInt32) hx hb dX12_feed_67 rfl ?_
    refine va_bast hx hb hK hP hD hS 0 0 rfl rfl (i := 0) (x := b7.toInt8.toInt32) (by unfold vp_in; decide) dX12_feed_68 (fun H locs hP hD hS => ?_)
    obtain ⟨fy8, hfy8⟩ : ∃ z : Nat → Int32, z = upd f0 (0 : Int32).toNatClampNeg (vp_nar .byte b7.toInt8.toInt32) := ⟨_, rfl⟩
    have hP : va_P D vwCl [(mt, .inl (cm, 3000, .inl fy8)), (wt, .inl (cw, 2, .inl (fun _ => 0))), (h0, .inr (12, fs1))] H := by rw [hfy8]; exact hP
    have hD : va_D A [(mt, .inl (cm, 3000, .inl fy8)), (wt, .inl (cw, 2, .inl (fun _ => 0))), (h0, .inr (12, fs1))] := by rw [hfy8]; exact hD
    refine lv_aload_n hx hb dX12_feed_69 rfl (lv_at hl 1 rfl) ?_
    refine lv_dup hx hb dX12_feed_70 rfl ?_
    refine va_get (D := D) (ci := 12) (v := .int 0) (C := RX12) (T := TX12) (N := 139) hx hb hts i_v_c_m_feed_X12 hown hK hP 2 rfl rfl 2 (by decide) (hts (.fieldLink RX12 319 "ScheduleHouseModel" "size" "I") (by decide +kernel)) (fun _ h9 => h9) gfs1_2 dX12_feed_71 ?_
    refine lv_iconst (v := 1) hx hb dX12_feed_74 (by decide +kernel) ?_
    refine lv_iadd hx hb dX12_feed_75 ?_
    rw [show (0 + 1 : Int32) = 1 by decide]
    refine va_put (D := D) (ci := 12) (v := .int 1) (ty := .int) (C := RX12) (T := TX12) (N := 139) hx hb hts i_v_c_m_feed_X12 tyX12 tyX12_ok nmX12 hown hK hP hD hS 2 rfl rfl 2 (by decide) (hts (.fieldLink RX12 319 "ScheduleHouseModel" "size" "I") (by decide +kernel)) (fun _ h9 => h9) rfl (by decide +kernel) rfl rfl (by rw [lfs1]; decide) dX12_feed_76 (fun H locs hP hD hS => ?_)
    obtain ⟨fs9, hfs9⟩ : ∃ z, z = fs1.set 2 (.int 1) := ⟨_, rfl⟩
    rw [← hfs9] at hP hD
    have lfs9 : fs9.length = 139 := by rw [hfs9, List.length_set]; exact lfs1
    have gfs9_118 : fs9[118]? = some (.ref wt) := by rw [hfs9, List.getElem?_set_ne (by decide)]; exact gfs1_118
    have gfs9_1 : fs9[1]? = some (.ref mt) := by rw [hfs9, List.getElem?_set_ne (by decide)]; exact gfs1_1
    have gfs9_0 : fs9[0]? = some (.int 0) := by rw [hfs9, List.getElem?_set_ne (by decide)]; exact gfs1_0
    have gfs9_2 : fs9[2]? = some (.int 1) := by rw [hfs9]; exact List.getElem?_set_self (by rw [lfs1]; decide)
    have hP : va_P D vwCl [(mt, .inl (cm, 3000, .inl fy8)), (wt, .inl (cw, 2, .inl (fun _ => 0))), (h0, .inr (12, fs9))] H := hP
    have hD : va_D A [(mt, .inl (cm, 3000, .inl fy8)), (wt, .inl (cw, 2, .inl (fun _ => 0))), (h0, .inr (12, fs9))] := hD
    refine lv_iinc (v := 1) (lv' := [(4, .int 1), (0, .ref h0), (1, .int 5), (2, .long p1)]) hx hb dX12_feed_79 hl (k := 0) rfl (by decide) (by decide) rfl (fun ls hl => ?_)
    refine lv_goto (tgt := 45) hx hb dX12_feed_82 (by decide) ?_
    refine lv_iload hx hb dX12_feed_45 (lv_at hl 0 rfl) ?_
    refine lv_iload_n hx hb dX12_feed_47 rfl (lv_at hl 2 rfl) ?_
    refine lv_icmp_ge (tgt := 85) hx hb dX12_feed_48 (by decide) (fun c9 => False.elim (by revert c9; decide)) (fun _ => ?_)
    refine lv_aload_n hx hb dX12_feed_51 rfl (lv_at hl 1 rfl) ?_
    refine va_get (D := D) (ci := 12) (v := .ref mt) (C := RX12) (T := TX12) (N := 139) hx hb hts i_v_c_m_feed_X12 hown hK hP 2 rfl rfl 1 (by decide) (hts (.fieldLink RX12 7 "ScheduleHouseModel" "text" "[B") (by decide +kernel)) (fun _ h9 => h9) gfs9_1 dX12_feed_52 ?_
    refine lv_aload_n hx hb dX12_feed_55 rfl (lv_at hl 1 rfl) ?_
    refine va_get (D := D) (ci := 12) (v := .int 1) (C := RX12) (T := TX12) (N := 139) hx hb hts i_v_c_m_feed_X12 hown hK hP 2 rfl rfl 2 (by decide) (hts (.fieldLink RX12 319 "ScheduleHouseModel" "size" "I") (by decide +kernel)) (fun _ h9 => h9) gfs9_2 dX12_feed_56 ?_
    refine lv_lload_n hx hb dX12_feed_59 rfl (lv_at hl 3 rfl) ?_
    refine lv_bipush (v := 8) hx hb dX12_feed_60 (by decide +kernel) ?_
    refine lv_iload hx hb dX12_feed_62 (lv_at hl 0 rfl) ?_
    refine lv_imul hx hb dX12_feed_64 ?_
    rw [show (8 * 1 : Int32) = 8 by decide]
    obtain ⟨z10, hz10⟩ : ∃ z : Int64, z = p1 >>> ((8 : Int32).toInt64 &&& 63) := ⟨_, rfl⟩
    refine lv_lshr (v := z10) hx hb dX12_feed_65 hz10.symm ?_
    obtain ⟨b11, hb11⟩ : ∃ z : Int32, z = z10.toInt32 := ⟨_, rfl⟩
    refine lv_l2i (v := b11) hx hb dX12_feed_66 hb11.symm ?_
    refine lv_i2b (v := b11.toInt8.toInt32) hx hb dX12_feed_67 rfl ?_
    refine va_bast hx hb hK hP hD hS 0 0 rfl rfl (i := 1) (x := b11.toInt8.toInt32) (by unfold vp_in; decide) dX12_feed_68 (fun H locs hP hD hS => ?_)
    obtain ⟨fy12, hfy12⟩ : ∃ z : Nat → Int32, z = upd fy8 (1 : Int32).toNatClampNeg (vp_nar .byte b11.toInt8.toInt32) := ⟨_, rfl⟩
    have hP : va_P D vwCl [(mt, .inl (cm, 3000, .inl fy12)), (wt, .inl (cw, 2, .inl (fun _ => 0))), (h0, .inr (12, fs9))] H := by rw [hfy12]; exact hP
    have hD : va_D A [(mt, .inl (cm, 3000, .inl fy12)), (wt, .inl (cw, 2, .inl (fun _ => 0))), (h0, .inr (12, fs9))] := by rw [hfy12]; exact hD
    refine lv_aload_n hx hb dX12_feed_69 rfl (lv_at hl 1 rfl) ?_
    refine lv_dup hx hb dX12_feed_70 rfl ?_
    refine va_get (D := D) (ci := 12) (v := .int 1) (C := RX12) (T := TX12) (N := 139) hx hb hts i_v_c_m_feed_X12 hown hK hP 2 rfl rfl 2 (by decide) (hts (.fieldLink RX12 319 "ScheduleHouseModel" "size" "I") (by decide +kernel)) (fun _ h9 => h9) gfs9_2 dX12_feed_71 ?_
    refine lv_iconst (v := 1) hx hb dX12_feed_74 (by decide +kernel) ?_
    refine lv_iadd hx hb dX12_feed_75 ?_
    rw [show (1 + 1 : Int32) = 2 by decide]
    refine va_put (D := D) (ci := 12) (v := .int 2) (ty := .int) (C := RX12) (T := TX12) (N := 139) hx hb hts i_v_c_m_feed_X12 tyX12 tyX12_ok nmX12 hown hK hP hD hS 2 rfl rfl 2 (by decide) (hts (.fieldLink RX12 319 "ScheduleHouseModel" "size" "I") (by decide +kernel)) (fun _ h9 => h9) rfl (by decide +kernel) rfl rfl (by rw [lfs9]; decide) dX12_feed_76 (fun H locs hP hD hS => ?_)
    obtain ⟨fs13, hfs13⟩ : ∃ z, z = fs9.set 2 (.int 2) := ⟨_, rfl⟩
    rw [← hfs13] at hP hD
    have lfs13 : fs13.length = 139 := by rw [hfs13, List.length_set]; exact lfs9
    have gfs13_118 : fs13[118]? = some (.ref wt) := by rw [hfs13, List.getElem?_set_ne (by decide)]; exact gfs9_118
    have gfs13_1 : fs13[1]? = some (.ref mt) := by rw [hfs13, List.getElem?_set_ne (by decide)]; exact gfs9_1
    have gfs13_0 : fs13[0]? = some (.int 0) := by rw [hfs13, List.getElem?_set_ne (by decide)]; exact gfs9_0
    have gfs13_2 : fs13[2]? = some (.int 2) := by rw [hfs13]; exact List.getElem?_set_self (by rw [lfs9]; decide)
    have hP : va_P D vwCl [(mt, .inl (cm, 3000, .inl fy12)), (wt, .inl (cw, 2, .inl (fun _ => 0))), (h0, .inr (12, fs13))] H := hP
    have hD : va_D A [(mt, .inl (cm, 3000, .inl fy12)), (wt, .inl (cw, 2, .inl (fun _ => 0))), (h0, .inr (12, fs13))] := hD
    refine lv_iinc (v := 2) (lv' := [(4, .int 2), (0, .ref h0), (1, .int 5), (2, .long p1)]) hx hb dX12_feed_79 hl (k := 0) rfl (by decide) (by decide) rfl (fun ls hl => ?_)
    refine lv_goto (tgt := 45) hx hb dX12_feed_82 (by decide) ?_
    refine lv_iload hx hb dX12_feed_45 (lv_at hl 0 rfl) ?_
    refine lv_iload_n hx hb dX12_feed_47 rfl (lv_at hl 2 rfl) ?_
    refine lv_icmp_ge (tgt := 85) hx hb dX12_feed_48 (by decide) (fun c9 => False.elim (by revert c9; decide)) (fun _ => ?_)
    refine lv_aload_n hx hb dX12_feed_51 rfl (lv_at hl 1 rfl) ?_
    refine va_get (D := D) (ci := 12) (v := .ref mt) (C := RX12) (T := TX12) (N := 139) hx hb hts i_v_c_m_feed_X12 hown hK hP 2 rfl rfl 1 (by decide) (hts (.fieldLink RX12 7 "ScheduleHouseModel" "text" "[B") (by decide +kernel)) (fun _ h9 => h9) gfs13_1 dX12_feed_52 ?_
    refine lv_aload_n hx hb dX12_feed_55 rfl (lv_at hl 1 rfl) ?_
    refine va_get (D := D) (ci := 12) (v := .int 2) (C := RX12) (T := TX12) (N := 139) hx hb hts i_v_c_m_feed_X12 hown hK hP 2 rfl rfl 2 (by decide) (hts (.fieldLink RX12 319 "ScheduleHouseModel" "size" "I") (by decide +kernel)) (fun _ h9 => h9) gfs13_2 dX12_feed_56 ?_
    refine lv_lload_n hx hb dX12_feed_59 rfl (lv_at hl 3 rfl) ?_
    refine lv_bipush (v := 8) hx hb dX12_feed_60 (by decide +kernel) ?_
    refine lv_iload hx hb dX12_feed_62 (lv_at hl 0 rfl) ?_
    refine lv_imul hx hb dX12_feed_64 ?_
    rw [show (8 * 2 : Int32) = 16 by decide]
    obtain ⟨z14, hz14⟩ : ∃ z : Int64, z = p1 >>> ((16 : Int32).toInt64 &&& 63) := ⟨_, rfl⟩
    refine lv_lshr (v := z14) hx hb dX12_feed_65 hz14.symm ?_
    obtain ⟨b15, hb15⟩ : ∃ z : Int32, z = z14.toInt32 := ⟨_, rfl⟩
    refine lv_l2i (v := b15) hx hb dX12_feed_66 hb15.symm ?_
    refine lv_i2b (v := b15.toInt8.toInt32) hx hb dX12_feed_67 rfl ?_
    refine va_bast hx hb hK hP hD hS 0 0 rfl rfl (i := 2) (x := b15.toInt8.toInt32) (by unfold vp_in; decide) dX12_feed_68 (fun H locs hP hD hS => ?_)
    obtain ⟨fy16, hfy16⟩ : ∃ z : Nat → Int32, z = upd fy12 (2 : Int32).toNatClampNeg (vp_nar .byte b15.toInt8.toInt32) := ⟨_, rfl⟩
    have hP : va_P D vwCl [(mt, .inl (cm, 3000, .inl fy16)), (wt, .inl (cw, 2, .inl (fun _ => 0))), (h0, .inr (12, fs13))] H := by rw [hfy16]; exact hP
    have hD : va_D A [(mt, .inl (cm, 3000, .inl fy16)), (wt, .inl (cw, 2, .inl (fun _ => 0))), (h0, .inr (12, fs13))] := by rw [hfy16]; exact hD
    refine lv_aload_n hx hb dX12_feed_69 rfl (lv_at hl 1 rfl) ?_
    refine lv_dup hx hb dX12_feed_70 rfl ?_
    refine va_get (D := D) (ci := 12) (v := .int 2) (C := RX12) (T := TX12) (N := 139) hx hb hts i_v_c_m_feed_X12 hown hK hP 2 rfl rfl 2 (by decide) (hts (.fieldLink RX12 319 "ScheduleHouseModel" "size" "I") (by decide +kernel)) (fun _ h9 => h9) gfs13_2 dX12_feed_71 ?_
    refine lv_iconst (v := 1) hx hb dX12_feed_74 (by decide +kernel) ?_
    refine lv_iadd hx hb dX12_feed_75 ?_
    rw [show (2 + 1 : Int32) = 3 by decide]
    refine va_put (D := D) (ci := 12) (v := .int 3) (ty := .int) (C := RX12) (T := TX12) (N := 139) hx hb hts i_v_c_m_feed_X12 tyX12 tyX12_ok nmX12 hown hK hP hD hS 2 rfl rfl 2 (by decide) (hts (.fieldLink RX12 319 "ScheduleHouseModel" "size" "I") (by decide +kernel)) (fun _ h9 => h9) rfl (by decide +kernel) rfl rfl (by rw [lfs13]; decide) dX12_feed_76 (fun H locs hP hD hS => ?_)
    obtain ⟨fs17, hfs17⟩ : ∃ z, z = fs13.set 2 (.int 3) := ⟨_, rfl⟩
    rw [← hfs17] at hP hD
    have lfs17 : fs17.length = 139 := by rw [hfs17, List.length_set]; exact lfs13
    have gfs17_118 : fs17[118]? = some (.ref wt) := by rw [hfs17, List.getElem?_set_ne (by decide)]; exact gfs13_118
    have gfs17_1 : fs17[1]? = some (.ref mt) := by rw [hfs17, List.getElem?_set_ne (by decide)]; exact gfs13_1
    have gfs17_0 : fs17[0]? = some (.int 0) := by rw [hfs17, List.getElem?_set_ne (by decide)]; exact gfs13_0
    have gfs17_2 : fs17[2]? = some (.int 3) := by rw [hfs17]; exact List.getElem?_set_self (by rw [lfs13]; decide)
    have hP : va_P D vwCl [(mt, .inl (cm, 3000, .inl fy16)), (wt, .inl (cw, 2, .inl (fun _ => 0))), (h0, .inr (12, fs17))] H := hP
    have hD : va_D A [(mt, .inl (cm, 3000, .inl fy16)), (wt, .inl (cw, 2, .inl (fun _ => 0))), (h0, .inr (12, fs17))] := hD
    refine lv_iinc (v := 3) (lv' := [(4, .int 3), (0, .ref h0), (1, .int 5), (2, .long p1)]) hx hb dX12_feed_79 hl (k := 0) rfl (by decide) (by decide) rfl (fun ls hl => ?_)
    refine lv_goto (tgt := 45) hx hb dX12_feed_82 (by decide) ?_
    refine lv_iload hx hb dX12_feed_45 (lv_at hl 0 rfl) ?_
    refine lv_iload_n hx hb dX12_feed_47 rfl (lv_at hl 2 rfl) ?_
    refine lv_icmp_ge (tgt := 85) hx hb dX12_feed_48 (by decide) (fun c9 => False.elim (by revert c9; decide)) (fun _ => ?_)
    refine lv_aload_n hx hb dX12_feed_51 rfl (lv_at hl 1 rfl) ?_
    refine va_get (D := D) (ci := 12) (v := .ref mt) (C := RX12) (T := TX12) (N := 139) hx hb hts i_v_c_m_feed_X12 hown hK hP 2 rfl rfl 1 (by decide) (hts (.fieldLink RX12 7 "ScheduleHouseModel" "text" "[B") (by decide +kernel)) (fun _ h9 => h9) gfs17_1 dX12_feed_52 ?_
    refine lv_aload_n hx hb dX12_feed_55 rfl (lv_at hl 1 rfl) ?_
    refine va_get (D := D) (ci := 12) (v := .int 3) (C := RX12) (T := TX12) (N := 139) hx hb hts i_v_c_m_feed_X12 hown hK hP 2 rfl rfl 2 (by decide) (hts (.fieldLink RX12 319 "ScheduleHouseModel" "size" "I") (by decide +kernel)) (fun _ h9 => h9) gfs17_2 dX12_feed_56 ?_
    refine lv_lload_n hx hb dX12_feed_59 rfl (lv_at hl 3 rfl) ?_
    refine lv_bipush (v := 8) hx hb dX12_feed_60 (by decide +kernel) ?_
    refine lv_iload hx hb dX12_feed_62 (lv_at hl 0 rfl) ?_
    refine lv_imul hx hb dX12_feed_64 ?_
    rw [show (8 * 3 : Int32) = 24 by decide]
    obtain ⟨z18, hz18⟩ : ∃ z : Int64, z = p1 >>> ((24 : Int32).toInt64 &&& 63) := ⟨_, rfl⟩
    refine lv_lshr (v := z18) hx hb dX12_feed_65 hz18.symm ?_
    obtain ⟨b19, hb19⟩ : ∃ z : Int32, z = z18.toInt32 := ⟨_, rfl⟩
    refine lv_l2i (v := b19) hx hb dX12_feed_66 hb19.symm ?_
    refine lv_i2b (v := b19.toInt8.toInt32) hx hb dX12_feed_67 rfl ?_
    refine va_bast hx hb hK hP hD hS 0 0 rfl rfl (i := 3) (x := b19.toInt8.toInt32) (by unfold vp_in; decide) dX12_feed_68 (fun H locs hP hD hS => ?_)
    obtain ⟨fy20, hfy20⟩ : ∃ z : Nat → Int32, z = upd fy16 (3 : Int32).toNatClampNeg (vp_nar .byte b19.toInt8.toInt32) := ⟨_, rfl⟩
    have hP : va_P D vwCl [(mt, .inl (cm, 3000, .inl fy20)), (wt, .inl (cw, 2, .inl (fun _ => 0))), (h0, .inr (12, fs17))] H := by rw [hfy20]; exact hP
    have hD : va_D A [(mt, .inl (cm, 3000, .inl fy20)), (wt, .inl (cw, 2, .inl (fun _ => 0))), (h0, .inr (12, fs17))] := by rw [hfy20]; exact hD
    refine lv_aload_n hx hb dX12_feed_69 rfl (lv_at hl 1 rfl) ?_
    refine lv_dup hx hb dX12_feed_70 rfl ?_
    refine va_get (D := D) (ci := 12) (v := .int 3) (C := RX12) (T := TX12) (N := 139) hx hb hts i_v_c_m_feed_X12 hown hK hP 2 rfl rfl 2 (by decide) (hts (.fieldLink RX12 319 "ScheduleHouseModel" "size" "I") (by decide +kernel)) (fun _ h9 => h9) gfs17_2 dX12_feed_71 ?_
    refine lv_iconst (v := 1) hx hb dX12_feed_74 (by decide +kernel) ?_
    refine lv_iadd hx hb dX12_feed_75 ?_
    rw [show (3 + 1 : Int32) = 4 by decide]
    refine va_put (D := D) (ci := 12) (v := .int 4) (ty := .int) (C := RX12) (T := TX12) (N := 139) hx hb hts i_v_c_m_feed_X12 tyX12 tyX12_ok nmX12 hown hK hP hD hS 2 rfl rfl 2 (by decide) (hts (.fieldLink RX12 319 "ScheduleHouseModel" "size" "I") (by decide +kernel)) (fun _ h9 => h9) rfl (by decide +kernel) rfl rfl (by rw [lfs17]; decide) dX12_feed_76 (fun H locs hP hD hS => ?_)
    obtain ⟨fs21, hfs21⟩ : ∃ z, z = fs17.set 2 (.int 4) := ⟨_, rfl⟩
    rw [← hfs21] at hP hD
    have lfs21 : fs21.length = 139 := by rw [hfs21, List.length_set]; exact lfs17
    have gfs21_118 : fs21[118]? = some (.ref wt) := by rw [hfs21, List.getElem?_set_ne (by decide)]; exact gfs17_118
    have gfs21_1 : fs21[1]? = some (.ref mt) := by rw [hfs21, List.getElem?_set_ne (by decide)]; exact gfs17_1
    have gfs21_0 : fs21[0]? = some (.int 0) := by rw [hfs21, List.getElem?_set_ne (by decide)]; exact gfs17_0
    have gfs21_2 : fs21[2]? = some (.int 4) := by rw [hfs21]; exact List.getElem?_set_self (by rw [lfs17]; decide)
    have hP : va_P D vwCl [(mt, .inl (cm, 3000, .inl fy20)), (wt, .inl (cw, 2, .inl (fun _ => 0))), (h0, .inr (12, fs21))] H := hP
    have hD : va_D A [(mt, .inl (cm, 3000, .inl fy20)), (wt, .inl (cw, 2, .inl (fun _ => 0))), (h0, .inr (12, fs21))] := hD
    refine lv_iinc (v := 4) (lv' := [(4, .int 4), (0, .ref h0), (1, .int 5), (2, .long p1)]) hx hb dX12_feed_79 hl (k := 0) rfl (by decide) (by decide) rfl (fun ls hl => ?_)
    refine lv_goto (tgt := 45) hx hb dX12_feed_82 (by decide) ?_
    refine lv_iload hx hb dX12_feed_45 (lv_at hl 0 rfl) ?_
    refine lv_iload_n hx hb dX12_feed_47 rfl (lv_at hl 2 rfl) ?_
    refine lv_icmp_ge (tgt := 85) hx hb dX12_feed_48 (by decide) (fun c9 => False.elim (by revert c9; decide)) (fun _ => ?_)
    refine lv_aload_n hx hb dX12_feed_51 rfl (lv_at hl 1 rfl) ?_
    refine va_get (D := D) (ci := 12) (v := .ref mt) (C := RX12) (T := TX12) (N := 139) hx hb hts i_v_c_m_feed_X12 hown hK hP 2 rfl rfl 1 (by decide) (hts (.fieldLink RX12 7 "ScheduleHouseModel" "text" "[B") (by decide +kernel)) (fun _ h9 => h9) gfs21_1 dX12_feed_52 ?_
    refine lv_aload_n hx hb dX12_feed_55 rfl (lv_at hl 1 rfl) ?_
    refine va_get (D := D) (ci := 12) (v := .int 4) (C := RX12) (T := TX12) (N := 139) hx hb hts i_v_c_m_feed_X12 hown hK hP 2 rfl rfl 2 (by decide) (hts (.fieldLink RX12 319 "ScheduleHouseModel" "size" "I") (by decide +kernel)) (fun _ h9 => h9) gfs21_2 dX12_feed_56 ?_
    refine lv_lload_n hx hb dX12_feed_59 rfl (lv_at hl 3 rfl) ?_
    refine lv_bipush (v := 8) hx hb dX12_feed_60 (by decide +kernel) ?_
    refine lv_iload hx hb dX12_feed_62 (lv_at hl 0 rfl) ?_
    refine lv_imul hx hb dX12_feed_64 ?_
    rw [show (8 * 4 : Int32) = 32 by decide]
    obtain ⟨z22, hz22⟩ : ∃ z : Int64, z = p1 >>> ((32 : Int32).toInt64 &&& 63) := ⟨_, rfl⟩
    refine lv_lshr (v := z22) hx hb dX12_feed_65 hz22.symm ?_
    obtain ⟨b23, hb23⟩ : ∃ z : Int32, z = z22.toInt32 := ⟨_, rfl⟩
    refine lv_l2i (v := b23) hx hb dX12_feed_66 hb23.symm ?_
    refine lv_i2b (v := b23.toInt8.toInt32) hx hb dX12_feed_67 rfl ?_
    refine va_bast hx hb hK hP hD hS 0 0 rfl rfl (i := 4) (x := b23.toInt8.toInt32) (by unfold vp_in; decide) dX12_feed_68 (fun H locs hP hD hS => ?_)
    obtain ⟨fy24, hfy24⟩ : ∃ z : Nat → Int32, z = upd fy20 (4 : Int32).toNatClampNeg (vp_nar .byte b23.toInt8.toInt32) := ⟨_, rfl⟩
    have hP : va_P D vwCl [(mt, .inl (cm, 3000, .inl fy24)), (wt, .inl (cw, 2, .inl (fun _ => 0))), (h0, .inr (12, fs21))] H := by rw [hfy24]; exact hP
    have hD : va_D A [(mt, .inl (cm, 3000, .inl fy24)), (wt, .inl (cw, 2, .inl (fun _ => 0))), (h0, .inr (12, fs21))] := by rw [hfy24]; exact hD
    refine lv_aload_n hx hb dX12_feed_69 rfl (lv_at hl 1 rfl) ?_
    refine lv_dup hx hb dX12_feed_70 rfl ?_
    refine va_get (D := D) (ci := 12) (v := .int 4) (C := RX12) (T := TX12) (N := 139) hx hb hts i_v_c_m_feed_X12 hown hK hP 2 rfl rfl 2 (by decide) (hts (.fieldLink RX12 319 "ScheduleHouseModel" "size" "I") (by decide +kernel)) (fun _ h9 => h9) gfs21_2 dX12_feed_71 ?_
    refine lv_iconst (v := 1) hx hb dX12_feed_74 (by decide +kernel) ?_
    refine lv_iadd hx hb dX12_feed_75 ?_
    rw [show (4 + 1 : Int32) = 5 by decide]
    refine va_put (D := D) (ci := 12) (v := .int 5) (ty := .int) (C := RX12) (T := TX12) (N := 139) hx hb hts i_v_c_m_feed_X12 tyX12 tyX12_ok nmX12 hown hK hP hD hS 2 rfl rfl 2 (by decide) (hts (.fieldLink RX12 319 "ScheduleHouseModel" "size" "I") (by decide +kernel)) (fun _ h9 => h9) rfl (by decide +kernel) rfl rfl (by rw [lfs21]; decide) dX12_feed_76 (fun H locs hP hD hS => ?_)
    obtain ⟨fs25, hfs25⟩ : ∃ z, z = fs21.set 2 (.int 5) := ⟨_, rfl⟩
    rw [← hfs25] at hP hD
    have lfs25 : fs25.length = 139 := by rw [hfs25, List.length_set]; exact lfs21
    have gfs25_118 : fs25[118]? = some (.ref wt) := by rw [hfs25, List.getElem?_set_ne (by decide)]; exact gfs21_118
    have gfs25_1 : fs25[1]? = some (.ref mt) := by rw [hfs25, List.getElem?_set_ne (by decide)]; exact gfs21_1
    have gfs25_0 : fs25[0]? = some (.int 0) := by rw [hfs25, List.getElem?_set_ne (by decide)]; exact gfs21_0
    have gfs25_2 : fs25[2]? = some (.int 5) := by rw [hfs25]; exact List.getElem?_set_self (by rw [lfs21]; decide)
    have hP : va_P D vwCl [(mt, .inl (cm, 3000, .inl fy24)), (wt, .inl (cw, 2, .inl (fun _ => 0))), (h0, .inr (12, fs25))] H := hP
    have hD : va_D A [(mt, .inl (cm, 3000, .inl fy24)), (wt, .inl (cw, 2, .inl (fun _ => 0))), (h0, .inr (12, fs25))] := hD
    refine lv_iinc (v := 5) (lv' := [(4, .int 5), (0, .ref h0), (1, .int 5), (2, .long p1)]) hx hb dX12_feed_79 hl (k := 0) rfl (by decide) (by decide) rfl (fun ls hl => ?_)
    refine lv_goto (tgt := 45) hx hb dX12_feed_82 (by decide) ?_
    refine lv_iload hx hb dX12_feed_45 (lv_at hl 0 rfl) ?_
    refine lv_iload_n hx hb dX12_feed_47 rfl (lv_at hl 2 rfl) ?_
    refine lv_icmp_ge (tgt := 85) hx hb dX12_feed_48 (by decide) (fun _ => ?_) (fun c9 => False.elim (by revert c9; decide))
    refine lv_aload_n hx hb dX12_feed_85 rfl (lv_at hl 1 rfl) ?_
    have hPc := hP.sub (ws' := [(h0, .inr (12, fs25)), (wt, .inl (cw, 2, .inl (fun _ => 0)))]) [2, 1] rfl
    have hDc := hD.sub (ws' := [(h0, .inr (12, fs25)), (wt, .inl (cw, 2, .inl (fun _ => 0)))]) [2, 1] (by decide) rfl
    have hKc := hK.sub (tys' := [(cw, .boolean)]) [1] rfl
    have hFc := va_free (wc := [(h0, .inr (12, fs25)), (wt, .inl (cw, 2, .inl (fun _ => 0)))]) hD hS hA [2, 1] rfl
    refine va_callv (va_runV (As := []) (rest := []) ⟨hx, hb, hml, hown, hts⟩ (c_m_forget l D h0 wt cw fs25 H.size lfs25 gfs25_118) (cwV 0 hts g_v_c_m_feed_4 rfl rfl rfl (by decide +kernel) ⟨Nat.le_of_ble_eq_true rfl, Nat.le_of_ble_eq_true rfl⟩) ⟨st_blind, va_recv hKc hPc (ci := 12) (q0 := 0) rfl rfl, fun U hU hW => ⟨rfl, st_call hU hW hPc hKc hDc hZ hS hFc hE⟩⟩ rfl rfl hl.1 rfl (lv_room (Nat.le_of_ble_eq_true rfl)) dX12_feed_86 ⟨Nat.le_of_ble_eq_true rfl, Nat.le_of_ble_eq_true rfl⟩) hS (fun q _ h => hFc q h) hFc (fun  u26 t H1 locs ht hvm hw hB hz1 hk1 hS => ?_)
    obtain ⟨ku26, tu26, au26, zu26⟩ := hw
    have lu26 : u26.length = 139 := by rw [ku26.1]; exact lfs25
    have gu26_118 : u26[118]? = some (.ref wt) := kp_at ku26 gfs25_118 (by decide)
    have gu26_1 : u26[1]? = some (.ref mt) := kp_at ku26 gfs25_1 (by decide)
    have gu26_0 : u26[0]? = some (.int 0) := kp_at ku26 gfs25_0 (by decide)
    have gu26_2 : u26[2]? = some (.int 5) := kp_at ku26 gfs25_2 (by decide)
    obtain ⟨fy27, hP1, hK1, hD1⟩ := hB
    rw [ht] at hP1
    have hK1 := va_K.moved hvm.symm hK1
    obtain ⟨hP, hD⟩ := va_join (wr := [(mt, .inl (cm, 3000, .inl fy24))]) (w1 := [(h0, .inr (12, u26)), (wt, .inl (cw, 2, .inl fy27))]) hP hD [2, 1] [0] rfl rfl (by decide) (by decide) hk1 hFc hP1 hD1
    have hK := (hK.sub (tys' := [(cm, .byte)]) [0] rfl).app hK1
    generalize H1 = H at hP hS ⊢
    have hP : va_P D vwCl [(mt, .inl (cm, 3000, .inl fy24)), (h0, .inr (12, u26)), (wt, .inl (cw, 2, .inl fy27))] H := hP
    have hD : va_D A [(mt, .inl (cm, 3000, .inl fy24)), (h0, .inr (12, u26)), (wt, .inl (cw, 2, .inl fy27))] := hD
    have hK : va_K D vwCl [(cm, .byte), (cw, .boolean)] s := hK
    refine lv_aload_n hx hb dX12_feed_89 rfl (lv_at hl 1 rfl) ?_
    refine va_get (D := D) (ci := 12) (v := .int 5) (C := RX12) (T := TX12) (N := 139) hx hb hts i_v_c_m_feed_X12 hown hK hP 1 rfl rfl 2 (by decide) (hts (.fieldLink RX12 319 "ScheduleHouseModel" "size" "I") (by decide +kernel)) (fun _ h9 => h9) gu26_2 dX12_feed_90 ?_
    have hP : va_P D vwCl [(h0, .inr (12, u26))] H := hP.sub [1] rfl
    have hD : va_D A [(h0, .inr (12, u26))] := hD.sub [1] (by decide) rfl
    have hK : va_K D vwCl [] s := hK.sub [] rfl
    exact W.iret (v := 5) hx hb hr (fun t ht hW => ⟨⟨5, u26, rfl, ⟨0, gu26_0, Or.inl ⟨rfl, rfl, hi⟩⟩, by rw [ht]; exact hP, va_K.moved hW.alike hK, hD⟩, hS.F ht⟩) hS.2.2 dX12_feed_93
  · subst er2
    exact absurd hi (by decide)
set_option maxHeartbeats 400000 in
set_option maxRecDepth 100000 in
/-- the model's feed(6, ..) -/
theorem c_m_feed_6 (l : Launch) (D : va_G) (h0 mt wt : Nat) (cm cw : ClassId) (fs : List Value) (f0 : Nat → Int32) (p1 : Int64) (sz : Nat) (hlen : fs.length = 139) (hf_thrown : fs[0]? = some (.int 0)) (hf_size : fs[2]? = some (.int 0)) (hf_wasTried : fs[118]? = some (.ref wt)) (hf_text : fs[1]? = some (.ref mt)) : Met l yX12_feed v_c_m_feed ({ frames := 5, cells := 0, slots := 0, locals := 80 }) (va_Pc [.ref h0, .int 6, .long p1] (st_ D [(h0, .inr (12, fs)), (mt, .inl (cm, 3000, .inl f0)), (wt, .inl (cw, 2, .inl (fun _ => 0)))] [(cm, .byte), (cw, .boolean)] sz)) (va_Qi (fun (r : Int32) (u : List Value) => ∃ t : Int32, u[0]? = some (.int t) ∧ ((t = 0 ∧ r = (6 : Int32) ∧ (¬ (6 : Int32) < 1 ∧ ¬ 8 < (6 : Int32))) ∨ (t = 1 ∧ ((6 : Int32) < 1 ∨ 8 < (6 : Int32))) ∨ (t = 2 ∧ False))) (fun u t => va_P D vwCl [(h0, .inr (12, u))] t.heap ∧ va_K D vwCl [] t ∧ va_D (va_A [(h0, .inr (12, fs)), (mt, .inl (cm, 3000, .inl f0)), (wt, .inl (cw, 2, .inl (fun _ => 0)))] sz) [(h0, .inr (12, u))]) (va_A [(h0, .inr (12, fs)), (mt, .inl (cm, 3000, .inl f0)), (wt, .inl (cw, 2, .inl (fun _ => 0)))] sz)) 0 0 (va_A [(h0, .inr (12, fs)), (mt, .inl (cm, 3000, .inl f0)), (wt, .inl (cw, 2, .inl (fun _ => 0)))] sz) := by
  refine Met.ofW (cc := cX12_feed) (maxL := 5) (ret := (some .int)) (by decide) rfl ?_
  intro p e s m args below meth c s₁ B hml hv
  obtain ⟨rfl, hsz, hP, hK, hD0, hZ, hE⟩ := hv
  have hx := B.exec
  have hb := B.bytes
  have hr := B.returns
  have hts := atoms_spec (ws := v_c_m_feed) B.pre
  have hown : s.vm.findClass RX12 = some m.cls := findClass_of_methodNamed B.named
  have hlocks := B.notSynchronized
  subst hsz
  have hD := hD0.self (sz := s.heap.size)
  generalize hAe : va_A [(h0, .inr (12, fs)), (mt, .inl (cm, 3000, .inl f0)), (wt, .inl (cw, 2, .inl (fun _ => 0)))] s.heap.size = A at hD hZ ⊢
  have hA : ∀ q : Nat, s.heap.size ≤ q → A q := fun q h => by rw [← hAe]; exact Or.inr h
  have hS : va_S A s.heap s.heap [] := va_S.rf
  have hAO := hE.2.2.2.1
  have hP : va_P D vwCl [(h0, .inr (12, fs)), (mt, .inl (cm, 3000, .inl f0)), (wt, .inl (cw, 2, .inl (fun _ => 0)))] s.heap := hP
  have hl := lv_entry ([.ref h0, .int 6, .long p1]) (n := 5) (Nat.le_of_ble_eq_true rfl)
  rw [lg_entry_eq]
  generalize (lg_sl ([.ref h0, .int 6, .long p1]) ++ List.replicate (5 - (lg_sl ([.ref h0, .int 6, .long p1])).length) Slot.unset).toArray = ls at hl ⊢
  have hl : lv_has ls 5 [(0, .ref h0), (1, .int 6), (2, .long p1)] := hl
  refine lv_aload_n hx hb dX12_feed_0 rfl (lv_at hl 0 rfl) ?_
  refine lv_iconst (v := 0) hx hb dX12_feed_1 (by decide +kernel) ?_
  refine va_put (D := D) (ci := 12) (v := .int 0) (ty := .int) (C := RX12) (T := TX12) (N := 139) hx hb hts i_v_c_m_feed_X12 tyX12 tyX12_ok nmX12 hown hK hP hD hS 0 rfl rfl 0 (by decide) (hts (.fieldLink RX12 316 "ScheduleHouseModel" "thrown" "I") (by decide +kernel)) (fun _ h9 => h9) rfl (by decide +kernel) rfl rfl (by rw [hlen]; decide) dX12_feed_2 (fun H locs hP hD hS => ?_)
  obtain ⟨fs1, hfs1⟩ : ∃ z, z = fs.set 0 (.int 0) := ⟨_, rfl⟩
  rw [← hfs1] at hP hD
  have lfs1 : fs1.length = 139 := by rw [hfs1, List.length_set]; exact hlen
  have gfs1_2 : fs1[2]? = some (.int 0) := by rw [hfs1, List.getElem?_set_ne (by decide)]; exact hf_size
  have gfs1_118 : fs1[118]? = some (.ref wt) := by rw [hfs1, List.getElem?_set_ne (by decide)]; exact hf_wasTried
  have gfs1_1 : fs1[1]? = some (.ref mt) := by rw [hfs1, List.getElem?_set_ne (by decide)]; exact hf_text
  have gfs1_0 : fs1[0]? = some (.int 0) := by rw [hfs1]; exact List.getElem?_set_self (by rw [hlen]; decide)
  have hP : va_P D vwCl [(h0, .inr (12, fs1)), (mt, .inl (cm, 3000, .inl f0)), (wt, .inl (cw, 2, .inl (fun _ => 0)))] H := hP
  have hD : va_D A [(h0, .inr (12, fs1)), (mt, .inl (cm, 3000, .inl f0)), (wt, .inl (cw, 2, .inl (fun _ => 0)))] := hD
  refine lv_aload_n hx hb dX12_feed_5 rfl (lv_at hl 0 rfl) ?_
  refine lv_iload_n hx hb dX12_feed_6 rfl (lv_at hl 1 rfl) ?_
  refine lv_iconst (v := 1) hx hb dX12_feed_7 (by decide +kernel) ?_
  refine lv_bipush (v := 8) hx hb dX12_feed_8 (by decide +kernel) ?_
  have hPc := hP.sub (ws' := []) [] rfl
  have hDc := hD.sub (ws' := []) [] (by decide) rfl
  have hKc := hK.sub (tys' := []) [] rfl
  have hFc := va_free (wc := []) hD hS hA [] rfl
  refine va_calli (va_runS (As := [.int 6, .int 1, .int 8]) (rest := [.ref h0]) ⟨hx, hb, hml, hown, hts⟩ (c_m_in l D 6 1 8 H.size) (va_cwS 3 hts g_v_c_m_feed_1 rfl rfl rfl (by decide +kernel) ⟨Nat.le_of_ble_eq_true rfl, Nat.le_of_ble_eq_true rfl⟩) ⟨st_blind, fun U hU hW => ⟨rfl, st_call hU hW hPc hKc hDc hZ hS hFc hE⟩⟩ rfl rfl hl.1 rfl (lv_room (Nat.le_of_ble_eq_true rfl)) dX12_feed_10 ⟨Nat.le_of_ble_eq_true rfl, Nat.le_of_ble_eq_true rfl⟩) hS (fun q _ h => hFc q h) hFc (fun r2 u3 t H1 locs ht hvm hw hB hz1 hk1 hS => ?_)
  obtain ⟨hP, hD⟩ := va_join (wr := [(h0, .inr (12, fs1)), (mt, .inl (cm, 3000, .inl f0)), (wt, .inl (cw, 2, .inl (fun _ => 0)))]) (w1 := []) hP hD [] [0, 1, 2] rfl rfl (by decide) (by decide) hk1 hFc p_nil d_nil
  generalize H1 = H at hP hS ⊢
  have hP : va_P D vwCl [(h0, .inr (12, fs1)), (mt, .inl (cm, 3000, .inl f0)), (wt, .inl (cw, 2, .inl (fun _ => 0)))] H := hP
  have hD : va_D A [(h0, .inr (12, fs1)), (mt, .inl (cm, 3000, .inl f0)), (wt, .inl (cw, 2, .inl (fun _ => 0)))] := hD
  rcases hw with ⟨er2, hi⟩ | ⟨er2, hi⟩
  · subst er2
    refine lv_if_eq (tgt := 28) hx hb dX12_feed_13 (by decide) (fun c9 => False.elim (by revert c9; decide)) (fun _ => ?_)
    refine lv_aload_n hx hb dX12_feed_16 rfl (lv_at hl 0 rfl) ?_
    refine va_get (D := D) (ci := 12) (v := .int 0) (C := RX12) (T := TX12) (N := 139) hx hb hts i_v_c_m_feed_X12 hown hK hP 0 rfl rfl 2 (by decide) (hts (.fieldLink RX12 319 "ScheduleHouseModel" "size" "I") (by decide +kernel)) (fun _ h9 => h9) gfs1_2 dX12_feed_17 ?_
    refine lv_iload_n hx hb dX12_feed_20 rfl (lv_at hl 1 rfl) ?_
    refine lv_iadd hx hb dX12_feed_21 ?_
    rw [show (0 + 6 : Int32) = 6 by decide]
    refine lv_sipush (v := 3000) hx hb dX12_feed_22 (by decide +kernel) ?_
    refine lv_icmp_le (tgt := 32) hx hb dX12_feed_25 (by decide) (fun _ => ?_) (fun c9 => False.elim (by revert c9; decide))
    refine lv_iconst (v := 0) hx hb dX12_feed_32 (by decide +kernel) ?_
    refine lv_iconst (v := 1) hx hb dX12_feed_33 (by decide +kernel) ?_
    have hPc := hP.sub (ws' := [(h0, .inr (12, fs1))]) [0] rfl
    have hDc := hD.sub (ws' := [(h0, .inr (12, fs1))]) [0] (by decide) rfl
    have hKc := hK.sub (tys' := []) [] rfl
    have hFc := va_free (wc := [(h0, .inr (12, fs1))]) hD hS hA [0] rfl
    refine va_calli (va_runV (As := [.int 0, .int 1]) (rest := []) ⟨hx, hb, hml, hown, hts⟩ (c_m_refuses_no l D h0 fs1 1 H.size lfs1 gfs1_0) (cwV 2 hts g_v_c_m_feed_3 rfl rfl rfl (by decide +kernel) ⟨Nat.le_of_ble_eq_true rfl, Nat.le_of_ble_eq_true rfl⟩) ⟨st_blind, va_recv hKc hPc (ci := 12) (q0 := 0) rfl rfl, fun U hU hW => ⟨rfl, st_call hU hW hPc hKc hDc hZ hS hFc hE⟩⟩ rfl rfl hl.1 rfl (lv_room (Nat.le_of_ble_eq_true rfl)) dX12_feed_34 ⟨Nat.le_of_ble_eq_true rfl, Nat.le_of_ble_eq_true rfl⟩) hS (fun q _ h => hFc q h) hFc (fun r4 u5 t H1 locs ht hvm hw hB hz1 hk1 hS => ?_)
    obtain ⟨er4, eu5⟩ := hw
    rw [eu5] at hB
    obtain ⟨hP1, hK1, hD1⟩ := hB
    rw [ht] at hP1
    have hK1 := va_K.moved hvm.symm hK1
    obtain ⟨hP, hD⟩ := va_join (wr := [(mt, .inl (cm, 3000, .inl f0)), (wt, .inl (cw, 2, .inl (fun _ => 0)))]) (w1 := [(h0, .inr (12, fs1))]) hP hD [0] [1, 2] rfl rfl (by decide) (by decide) hk1 hFc hP1 hD1
    have hK := (hK.sub (tys' := [(cm, .byte), (cw, .boolean)]) [0, 1] rfl).app hK1
    generalize H1 = H at hP hS ⊢
    have hP : va_P D vwCl [(mt, .inl (cm, 3000, .inl f0)), (wt, .inl (cw, 2, .inl (fun _ => 0))), (h0, .inr (12, fs1))] H := hP
    have hD : va_D A [(mt, .inl (cm, 3000, .inl f0)), (wt, .inl (cw, 2, .inl (fun _ => 0))), (h0, .inr (12, fs1))] := hD
    have hK : va_K D vwCl [(cm, .byte), (cw, .boolean)] s := hK
    subst er4
    refine lv_if_eq (tgt := 42) hx hb dX12_feed_37 (by decide) (fun _ => ?_) (fun c9 => False.elim (by revert c9; decide))
    refine lv_iconst (v := 0) hx hb dX12_feed_42 (by decide +kernel) ?_
    refine lv_istore (lv' := [(4, .int 0), (0, .ref h0), (1, .int 6), (2, .long p1)]) hx hb dX12_feed_43 hl (by decide) rfl (fun ls hl => ?_)
    refine lv_iload hx hb dX12_feed_45 (lv_at hl 0 rfl) ?_
    refine lv_iload_n hx hb dX12_feed_47 rfl (lv_at hl 2 rfl) ?_
    refine lv_icmp_ge (tgt := 85) hx hb dX12_feed_48 (by decide) (fun c9 => False.elim (by revert c9; decide)) (fun _ => ?_)
    refine lv_aload_n hx hb dX12_feed_51 rfl (lv_at hl 1 rfl) ?_
    refine va_get (D := D) (ci := 12) (v := .ref mt) (C := RX12) (T := TX12) (N := 139) hx hb hts i_v_c_m_feed_X12 hown hK hP 2 rfl rfl 1 (by decide) (hts (.fieldLink RX12 7 "ScheduleHouseModel" "text" "[B") (by decide +kernel)) (fun _ h9 => h9) gfs1_1 dX12_feed_52 ?_
    refine lv_aload_n hx hb dX12_feed_55 rfl (lv_at hl 1 rfl) ?_
    refine va_get (D := D) (ci := 12) (v := .int 0) (C := RX12) (T := TX12) (N := 139) hx hb hts i_v_c_m_feed_X12 hown hK hP 2 rfl rfl 2 (by decide) (hts (.fieldLink RX12 319 "ScheduleHouseModel" "size" "I") (by decide +kernel)) (fun _ h9 => h9) gfs1_2 dX12_feed_56 ?_
    refine lv_lload_n hx hb dX12_feed_59 rfl (lv_at hl 3 rfl) ?_
    refine lv_bipush (v := 8) hx hb dX12_feed_60 (by decide +kernel) ?_
    refine lv_iload hx hb dX12_feed_62 (lv_at hl 0 rfl) ?_
    refine lv_imul hx hb dX12_feed_64 ?_
    rw [show (8 * 0 : Int32) = 0 by decide]
    obtain ⟨z6, hz6⟩ : ∃ z : Int64, z = p1 >>> ((0 : Int32).toInt64 &&& 63) := ⟨_, rfl⟩
    refine lv_lshr (v := z6) hx hb dX12_feed_65 hz6.symm ?_
    obtain ⟨b7, hb7⟩ : ∃ z : Int32, z = z6.toInt32 := ⟨_, rfl⟩
    refine lv_l2i (v := b7) hx hb dX12_feed_66 hb7.symm ?_
    refine lv_i2b (v := b7.toInt8.toInt32) hx hb dX12_feed_67 rfl ?_
    refine va_bast hx hb hK hP hD hS 0 0 rfl rfl (i := 0) (x := b7.toInt8.toInt32) (by unfold vp_in; decide) dX12_feed_68 (fun H locs hP hD hS => ?_)
    obtain ⟨fy8, hfy8⟩ : ∃ z : Nat → Int32, z = upd f0 (0 : Int32).toNatClampNeg (vp_nar .byte b7.toInt8.toInt32) := ⟨_, rfl⟩
    have hP : va_P D vwCl [(mt, .inl (cm, 3000, .inl fy8)), (wt, .inl (cw, 2, .inl (fun _ => 0))), (h0, .inr (12, fs1))] H := by rw [hfy8]; exact hP
    have hD : va_D A [(mt, .inl (cm, 3000, .inl fy8)), (wt, .inl (cw, 2, .inl (fun _ => 0))), (h0, .inr (12, fs1))] := by rw [hfy8]; exact hD
    refine lv_aload_n hx hb dX12_feed_69 rfl (lv_at hl 1 rfl) ?_
    refine lv_dup hx hb dX12_feed_70 rfl ?_
    refine va_get (D := D) (ci := 12) (v := .int 0) (C := RX12) (T := TX12) (N := 139) hx hb hts i_v_c_m_feed_X12 hown hK hP 2 rfl rfl 2 (by decide) (hts (.fieldLink RX12 319 "ScheduleHouseModel" "size" "I") (by decide +kernel)) (fun _ h9 => h9) gfs1_2 dX12_feed_71 ?_
    refine lv_iconst (v := 1) hx hb dX12_feed_74 (by decide +kernel) ?_
    refine lv_iadd hx hb dX12_feed_75 ?_
    rw [show (0 + 1 : Int32) = 1 by decide]
    refine va_put (D := D) (ci := 12) (v := .int 1) (ty := .int) (C := RX12) (T := TX12) (N := 139) hx hb hts i_v_c_m_feed_X12 tyX12 tyX12_ok nmX12 hown hK hP hD hS 2 rfl rfl 2 (by decide) (hts (.fieldLink RX12 319 "ScheduleHouseModel" "size" "I") (by decide +kernel)) (fun _ h9 => h9) rfl (by decide +kernel) rfl rfl (by rw [lfs1]; decide) dX12_feed_76 (fun H locs hP hD hS => ?_)
    obtain ⟨fs9, hfs9⟩ : ∃ z, z = fs1.set 2 (.int 1) := ⟨_, rfl⟩
    rw [← hfs9] at hP hD
    have lfs9 : fs9.length = 139 := by rw [hfs9, List.length_set]; exact lfs1
    have gfs9_118 : fs9[118]? = some (.ref wt) := by rw [hfs9, List.getElem?_set_ne (by decide)]; exact gfs1_118
    have gfs9_1 : fs9[1]? = some (.ref mt) := by rw [hfs9, List.getElem?_set_ne (by decide)]; exact gfs1_1
    have gfs9_0 : fs9[0]? = some (.int 0) := by rw [hfs9, List.getElem?_set_ne (by decide)]; exact gfs1_0
    have gfs9_2 : fs9[2]? = some (.int 1) := by rw [hfs9]; exact List.getElem?_set_self (by rw [lfs1]; decide)
    have hP : va_P D vwCl [(mt, .inl (cm, 3000, .inl fy8)), (wt, .inl (cw, 2, .inl (fun _ => 0))), (h0, .inr (12, fs9))] H := hP
    have hD : va_D A [(mt, .inl (cm, 3000, .inl fy8)), (wt, .inl (cw, 2, .inl (fun _ => 0))), (h0, .inr (12, fs9))] := hD
    refine lv_iinc (v := 1) (lv' := [(4, .int 1), (0, .ref h0), (1, .int 6), (2, .long p1)]) hx hb dX12_feed_79 hl (k := 0) rfl (by decide) (by decide) rfl (fun ls hl => ?_)
    refine lv_goto (tgt := 45) hx hb dX12_feed_82 (by decide) ?_
    refine lv_iload hx hb dX12_feed_45 (lv_at hl 0 rfl) ?_
    refine lv_iload_n hx hb dX12_feed_47 rfl (lv_at hl 2 rfl) ?_
    refine lv_icmp_ge (tgt := 85) hx hb dX12_feed_48 (by decide) (fun c9 => False.elim (by revert c9; decide)) (fun _ => ?_)
    refine lv_aload_n hx hb dX12_feed_51 rfl (lv_at hl 1 rfl) ?_
    refine va_get (D := D) (ci := 12) (v := .ref mt) (C := RX12) (T := TX12) (N := 139) hx hb hts i_v_c_m_feed_X12 hown hK hP 2 rfl rfl 1 (by decide) (hts (.fieldLink RX12 7 "ScheduleHouseModel" "text" "[B") (by decide +kernel)) (fun _ h9 => h9) gfs9_1 dX12_feed_52 ?_
    refine lv_aload_n hx hb dX12_feed_55 rfl (lv_at hl 1 rfl) ?_
    refine va_get (D := D) (ci := 12) (v := .int 1) (C := RX12) (T := TX12) (N := 139) hx hb hts i_v_c_m_feed_X12 hown hK hP 2 rfl rfl 2 (by decide) (hts (.fieldLink RX12 319 "ScheduleHouseModel" "size" "I") (by decide +kernel)) (fun _ h9 => h9) gfs9_2 dX12_feed_56 ?_
    refine lv_lload_n hx hb dX12_feed_59 rfl (lv_at hl 3 rfl) ?_
    refine lv_bipush (v := 8) hx hb dX12_feed_60 (by decide +kernel) ?_
    refine lv_iload hx hb dX12_feed_62 (lv_at hl 0 rfl) ?_
    refine lv_imul hx hb dX12_feed_64 ?_
    rw [show (8 * 1 : Int32) = 8 by decide]
    obtain ⟨z10, hz10⟩ : ∃ z : Int64, z = p1 >>> ((8 : Int32).toInt64 &&& 63) := ⟨_, rfl⟩
    refine lv_lshr (v := z10) hx hb dX12_feed_65 hz10.symm ?_
    obtain ⟨b11, hb11⟩ : ∃ z : Int32, z = z10.toInt32 := ⟨_, rfl⟩
    refine lv_l2i (v := b11) hx hb dX12_feed_66 hb11.symm ?_
    refine lv_i2b (v := b11.toInt8.toInt32) hx hb dX12_feed_67 rfl ?_
    refine va_bast hx hb hK hP hD hS 0 0 rfl rfl (i := 1) (x := b11.toInt8.toInt32) (by unfold vp_in; decide) dX12_feed_68 (fun H locs hP hD hS => ?_)
    obtain ⟨fy12, hfy12⟩ : ∃ z : Nat → Int32, z = upd fy8 (1 : Int32).toNatClampNeg (vp_nar .byte b11.toInt8.toInt32) := ⟨_, rfl⟩
    have hP : va_P D vwCl [(mt, .inl (cm, 3000, .inl fy12)), (wt, .inl (cw, 2, .inl (fun _ => 0))), (h0, .inr (12, fs9))] H := by rw [hfy12]; exact hP
    have hD : va_D A [(mt, .inl (cm, 3000, .inl fy12)), (wt, .inl (cw, 2, .inl (fun _ => 0))), (h0, .inr (12, fs9))] := by rw [hfy12]; exact hD
    refine lv_aload_n hx hb dX12_feed_69 rfl (lv_at hl 1 rfl) ?_
    refine lv_dup hx hb dX12_feed_70 rfl ?_
    refine va_get (D := D) (ci := 12) (v := .int 1) (C := RX12) (T := TX12) (N := 139) hx hb hts i_v_c_m_feed_X12 hown hK hP 2 rfl rfl 2 (by decide) (hts (.fieldLink RX12 319 "ScheduleHouseModel" "size" "I") (by decide +kernel)) (fun _ h9 => h9) gfs9_2 dX12_feed_71 ?_
    refine lv_iconst (v := 1) hx hb dX12_feed_74 (by decide +kernel) ?_
    refine lv_iadd hx hb dX12_feed_75 ?_
    rw [show (1 + 1 : Int32) = 2 by decide]
    refine va_put (D := D) (ci := 12) (v := .int 2) (ty := .int) (C := RX12) (T := TX12) (N := 139) hx hb hts i_v_c_m_feed_X12 tyX12 tyX12_ok nmX12 hown hK hP hD hS 2 rfl rfl 2 (by decide) (hts (.fieldLink RX12 319 "ScheduleHouseModel" "size" "I") (by decide +kernel)) (fun _ h9 => h9) rfl (by decide +kernel) rfl rfl (by rw [lfs9]; decide) dX12_feed_76 (fun H locs hP hD hS => ?_)
    obtain ⟨fs13, hfs13⟩ : ∃ z, z = fs9.set 2 (.int 2) := ⟨_, rfl⟩
    rw [← hfs13] at hP hD
    have lfs13 : fs13.length = 139 := by rw [hfs13, List.length_set]; exact lfs9
    have gfs13_118 : fs13[118]? = some (.ref wt) := by rw [hfs13, List.getElem?_set_ne (by decide)]; exact gfs9_118
    have gfs13_1 : fs13[1]? = some (.ref mt) := by rw [hfs13, List.getElem?_set_ne (by decide)]; exact gfs9_1
    have gfs13_0 : fs13[0]? = some (.int 0) := by rw [hfs13, List.getElem?_set_ne (by decide)]; exact gfs9_0
    have gfs13_2 : fs13[2]? = some (.int 2) := by rw [hfs13]; exact List.getElem?_set_self (by rw [lfs9]; decide)
    have hP : va_P D vwCl [(mt, .inl (cm, 3000, .inl fy12)), (wt, .inl (cw, 2, .inl (fun _ => 0))), (h0, .inr (12, fs13))] H := hP
    have hD : va_D A [(mt, .inl (cm, 3000, .inl fy12)), (wt, .inl (cw, 2, .inl (fun _ => 0))), (h0, .inr (12, fs13))] := hD
    refine lv_iinc (v := 2) (lv' := [(4, .int 2), (0, .ref h0), (1, .int 6), (2, .long p1)]) hx hb dX12_feed_79 hl (k := 0) rfl (by decide) (by decide) rfl (fun ls hl => ?_)
    refine lv_goto (tgt := 45) hx hb dX12_feed_82 (by decide) ?_
    refine lv_iload hx hb dX12_feed_45 (lv_at hl 0 rfl) ?_
    refine lv_iload_n hx hb dX12_feed_47 rfl (lv_at hl 2 rfl) ?_
    refine lv_icmp_ge (tgt := 85) hx hb dX12_feed_48 (by decide) (fun c9 => False.elim (by revert c9; decide)) (fun _ => ?_)
    refine lv_aload_n hx hb dX12_feed_51 rfl (lv_at hl 1 rfl) ?_
    refine va_get (D := D) (ci := 12) (v := .ref mt) (C := RX12) (T := TX12) (N := 139) hx hb hts i_v_c_m_feed_X12 hown hK hP 2 rfl rfl 1 (by decide) (hts (.fieldLink RX12 7 "ScheduleHouseModel" "text" "[B") (by decide +kernel)) (fun _ h9 => h9) gfs13_1 dX12_feed_52 ?_
    refine lv_aload_n hx hb dX12_feed_55 rfl (lv_at hl 1 rfl) ?_
    refine va_get (D := D) (ci := 12) (v := .int 2) (C := RX12) (T := TX12) (N := 139) hx hb hts i_v_c_m_feed_X12 hown hK hP 2 rfl rfl 2 (by decide) (hts (.fieldLink RX12 319 "ScheduleHouseModel" "size" "I") (by decide +kernel)) (fun _ h9 => h9) gfs13_2 dX12_feed_56 ?_
    refine lv_lload_n hx hb dX12_feed_59 rfl (lv_at hl 3 rfl) ?_
    refine lv_bipush (v := 8) hx hb dX12_feed_60 (by decide +kernel) ?_
    refine lv_iload hx hb dX12_feed_62 (lv_at hl 0 rfl) ?_
    refine lv_imul hx hb dX12_feed_64 ?_
    rw [show (8 * 2 : Int32) = 16 by decide]
    obtain ⟨z14, hz14⟩ : ∃ z : Int64, z = p1 >>> ((16 : Int32).toInt64 &&& 63) := ⟨_, rfl⟩
    refine lv_lshr (v := z14) hx hb dX12_feed_65 hz14.symm ?_
    obtain ⟨b15, hb15⟩ : ∃ z : Int32, z = z14.toInt32 := ⟨_, rfl⟩
    refine lv_l2i (v := b15) hx hb dX12_feed_66 hb15.symm ?_
    refine lv_i2b (v := b15.toInt8.toInt32) hx hb dX12_feed_67 rfl ?_
    refine va_bast hx hb hK hP hD hS 0 0 rfl rfl (i := 2) (x := b15.toInt8.toInt32) (by unfold vp_in; decide) dX12_feed_68 (fun H locs hP hD hS => ?_)
    obtain ⟨fy16, hfy16⟩ : ∃ z : Nat → Int32, z = upd fy12 (2 : Int32).toNatClampNeg (vp_nar .byte b15.toInt8.toInt32) := ⟨_, rfl⟩
    have hP : va_P D vwCl [(mt, .inl (cm, 3000, .inl fy16)), (wt, .inl (cw, 2, .inl (fun _ => 0))), (h0, .inr (12, fs13))] H := by rw [hfy16]; exact hP
    have hD : va_D A [(mt, .inl (cm, 3000, .inl fy16)), (wt, .inl (cw, 2, .inl (fun _ => 0))), (h0, .inr (12, fs13))] := by rw [hfy16]; exact hD
    refine lv_aload_n hx hb dX12_feed_69 rfl (lv_at hl 1 rfl) ?_
    refine lv_dup hx hb dX12_feed_70 rfl ?_
    refine va_get (D := D) (ci := 12) (v := .int 2) (C := RX12) (T := TX12) (N := 139) hx hb hts i_v_c_m_feed_X12 hown hK hP 2 rfl rfl 2 (by decide) (hts (.fieldLink RX12 319 "ScheduleHouseModel" "size" "I") (by decide +kernel)) (fun _ h9 => h9) gfs13_2 dX12_feed_71 ?_
    refine lv_iconst (v := 1) hx hb dX12_feed_74 (by decide +kernel) ?_
    refine lv_iadd hx hb dX12_feed_75 ?_
    rw [show (2 + 1 : Int32) = 3 by decide]
    refine va_put (D := D) (ci := 12) (v := .int 3) (ty := .int) (C := RX12) (T := TX12) (N := 139) hx hb hts i_v_c_m_feed_X12 tyX12 tyX12_ok nmX12 hown hK hP hD hS 2 rfl rfl 2 (by decide) (hts (.fieldLink RX12 319 "ScheduleHouseModel" "size" "I") (by decide +kernel)) (fun _ h9 => h9) rfl (by decide +kernel) rfl rfl (by rw [lfs13]; decide) dX12_feed_76 (fun H locs hP hD hS => ?_)
    obtain ⟨fs17, hfs17⟩ : ∃ z, z = fs13.set 2 (.int 3) := ⟨_, rfl⟩
    rw [← hfs17] at hP hD
    have lfs17 : fs17.length = 139 := by rw [hfs17, List.length_set]; exact lfs13
    have gfs17_118 : fs17[118]? = some (.ref wt) := by rw [hfs17, List.getElem?_set_ne (by decide)]; exact gfs13_118
    have gfs17_1 : fs17[1]? = some (.ref mt) := by rw [hfs17, List.getElem?_set_ne (by decide)]; exact gfs13_1
    have gfs17_0 : fs17[0]? = some (.int 0) := by rw [hfs17, List.getElem?_set_ne (by decide)]; exact gfs13_0
    have gfs17_2 : fs17[2]? = some (.int 3) := by rw [hfs17]; exact List.getElem?_set_self (by rw [lfs13]; decide)
    have hP : va_P D vwCl [(mt, .inl (cm, 3000, .inl fy16)), (wt, .inl (cw, 2, .inl (fun _ => 0))), (h0, .inr (12, fs17))] H := hP
    have hD : va_D A [(mt, .inl (cm, 3000, .inl fy16)), (wt, .inl (cw, 2, .inl (fun _ => 0))), (h0, .inr (12, fs17))] := hD
    refine lv_iinc (v := 3) (lv' := [(4, .int 3), (0, .ref h0), (1, .int 6), (2, .long p1)]) hx hb dX12_feed_79 hl (k := 0) rfl (by decide) (by decide) rfl (fun ls hl => ?_)
    refine lv_goto (tgt := 45) hx hb dX12_feed_82 (by decide) ?_
    refine lv_iload hx hb dX12_feed_45 (lv_at hl 0 rfl) ?_
    refine lv_iload_n hx hb dX12_feed_47 rfl (lv_at hl 2 rfl) ?_
    refine lv_icmp_ge (tgt := 85) hx hb dX12_feed_48 (by decide) (fun c9 => False.elim (by revert c9; decide)) (fun _ => ?_)
    refine lv_aload_n hx hb dX12_feed_51 rfl (lv_at hl 1 rfl) ?_
    refine va_get (D := D) (ci := 12) (v := .ref mt) (C := RX12) (T := TX12) (N := 139) hx hb hts i_v_c_m_feed_X12 hown hK hP 2 rfl rfl 1 (by decide) (hts (.fieldLink RX12 7 "ScheduleHouseModel" "text" "[B") (by decide +kernel)) (fun _ h9 => h9) gfs17_1 dX12_feed_52 ?_
    refine lv_aload_n hx hb dX12_feed_55 rfl (lv_at hl 1 rfl) ?_
    refine va_get (D := D) (ci := 12) (v := .int 3) (C := RX12) (T := TX12) (N := 139) hx hb hts i_v_c_m_feed_X12 hown hK hP 2 rfl rfl 2 (by decide) (hts (.fieldLink RX12 319 "ScheduleHouseModel" "size" "I") (by decide +kernel)) (fun _ h9 => h9) gfs17_2 dX12_feed_56 ?_
    refine lv_lload_n hx hb dX12_feed_59 rfl (lv_at hl 3 rfl) ?_
    refine lv_bipush (v := 8) hx hb dX12_feed_60 (by decide +kernel) ?_
    refine lv_iload hx hb dX12_feed_62 (lv_at hl 0 rfl) ?_
    refine lv_imul hx hb dX12_feed_64 ?_
    rw [show (8 * 3 : Int32) = 24 by decide]
    obtain ⟨z18, hz18⟩ : ∃ z : Int64, z = p1 >>> ((24 : Int32).toInt64 &&& 63) := ⟨_, rfl⟩
    refine lv_lshr (v := z18) hx hb dX12_feed_65 hz18.symm ?_
    obtain ⟨b19, hb19⟩ : ∃ z : Int32, z = z18.toInt32 := ⟨_, rfl⟩
    refine lv_l2i (v := b19) hx hb dX12_feed_66 hb19.symm ?_
    refine lv_i2b (v := b19.toInt8.toInt32) hx hb dX12_feed_67 rfl ?_
    refine va_bast hx hb hK hP hD hS 0 0 rfl rfl (i := 3) (x := b19.toInt8.toInt32) (by unfold vp_in; decide) dX12_feed_68 (fun H locs hP hD hS => ?_)
    obtain ⟨fy20, hfy20⟩ : ∃ z : Nat → Int32, z = upd fy16 (3 : Int32).toNatClampNeg (vp_nar .byte b19.toInt8.toInt32) := ⟨_, rfl⟩
    have hP : va_P D vwCl [(mt, .inl (cm, 3000, .inl fy20)), (wt, .inl (cw, 2, .inl (fun _ => 0))), (h0, .inr (12, fs17))] H := by rw [hfy20]; exact hP
    have hD : va_D A [(mt, .inl (cm, 3000, .inl fy20)), (wt, .inl (cw, 2, .inl (fun _ => 0))), (h0, .inr (12, fs17))] := by rw [hfy20]; exact hD
    refine lv_aload_n hx hb dX12_feed_69 rfl (lv_at hl 1 rfl) ?_
    refine lv_dup hx hb dX12_feed_70 rfl ?_
    refine va_get (D := D) (ci := 12) (v := .int 3) (C := RX12) (T := TX12) (N := 139) hx hb hts i_v_c_m_feed_X12 hown hK hP 2 rfl rfl 2 (by decide) (hts (.fieldLink RX12 319 "ScheduleHouseModel" "size" "I") (by decide +kernel)) (fun _ h9 => h9) gfs17_2 dX12_feed_71 ?_
    refine lv_iconst (v := 1) hx hb dX12_feed_74 (by decide +kernel) ?_
    refine lv_iadd hx hb dX12_feed_75 ?_
    rw [show (3 + 1 : Int32) = 4 by decide]
    refine va_put (D := D) (ci := 12) (v := .int 4) (ty := .int) (C := RX12) (T := TX12) (N := 139) hx hb hts i_v_c_m_feed_X12 tyX12 tyX12_ok nmX12 hown hK hP hD hS 2 rfl rfl 2 (by decide) (hts (.fieldLink RX12 319 "ScheduleHouseModel" "size" "I") (by decide +kernel)) (fun _ h9 => h9) rfl (by decide +kernel) rfl rfl (by rw [lfs17]; decide) dX12_feed_76 (fun H locs hP hD hS => ?_)
    obtain ⟨fs21, hfs21⟩ : ∃ z, z = fs17.set 2 (.int 4) := ⟨_, rfl⟩
    rw [← hfs21] at hP hD
    have lfs21 : fs21.length = 139 := by rw [hfs21, List.length_set]; exact lfs17
    have gfs21_118 : fs21[118]? = some (.ref wt) := by rw [hfs21, List.getElem?_set_ne (by decide)]; exact gfs17_118
    have gfs21_1 : fs21[1]? = some (.ref mt) := by rw [hfs21, List.getElem?_set_ne (by decide)]; exact gfs17_1
    have gfs21_0 : fs21[0]? = some (.int 0) := by rw [hfs21, List.getElem?_set_ne (by decide)]; exact gfs17_0
    have gfs21_2 : fs21[2]? = some (.int 4) := by rw [hfs21]; exact List.getElem?_set_self (by rw [lfs17]; decide)
    have hP : va_P D vwCl [(mt, .inl (cm, 3000, .inl fy20)), (wt, .inl (cw, 2, .inl (fun _ => 0))), (h0, .inr (12, fs21))] H := hP
    have hD : va_D A [(mt, .inl (cm, 3000, .inl fy20)), (wt, .inl (cw, 2, .inl (fun _ => 0))), (h0, .inr (12, fs21))] := hD
    refine lv_iinc (v := 4) (lv' := [(4, .int 4), (0, .ref h0), (1, .int 6), (2, .long p1)]) hx hb dX12_feed_79 hl (k := 0) rfl (by decide) (by decide) rfl (fun ls hl => ?_)
    refine lv_goto (tgt := 45) hx hb dX12_feed_82 (by decide) ?_
    refine lv_iload hx hb dX12_feed_45 (lv_at hl 0 rfl) ?_
    refine lv_iload_n hx hb dX12_feed_47 rfl (lv_at hl 2 rfl) ?_
    refine lv_icmp_ge (tgt := 85) hx hb dX12_feed_48 (by decide) (fun c9 => False.elim (by revert c9; decide)) (fun _ => ?_)
    refine lv_aload_n hx hb dX12_feed_51 rfl (lv_at hl 1 rfl) ?_
    refine va_get (D := D) (ci := 12) (v := .ref mt) (C := RX12) (T := TX12) (N := 139) hx hb hts i_v_c_m_feed_X12 hown hK hP 2 rfl rfl 1 (by decide) (hts (.fieldLink RX12 7 "ScheduleHouseModel" "text" "[B") (by decide +kernel)) (fun _ h9 => h9) gfs21_1 dX12_feed_52 ?_
    refine lv_aload_n hx hb dX12_feed_55 rfl (lv_at hl 1 rfl) ?_
    refine va_get (D := D) (ci := 12) (v := .int 4) (C := RX12) (T := TX12) (N := 139) hx hb hts i_v_c_m_feed_X12 hown hK hP 2 rfl rfl 2 (by decide) (hts (.fieldLink RX12 319 "ScheduleHouseModel" "size" "I") (by decide +kernel)) (fun _ h9 => h9) gfs21_2 dX12_feed_56 ?_
    refine lv_lload_n hx hb dX12_feed_59 rfl (lv_at hl 3 rfl) ?_
    refine lv_bipush (v := 8) hx hb dX12_feed_60 (by decide +kernel) ?_
    refine lv_iload hx hb dX12_feed_62 (lv_at hl 0 rfl) ?_
    refine lv_imul hx hb dX12_feed_64 ?_
    rw [show (8 * 4 : Int32) = 32 by decide]
    obtain ⟨z22, hz22⟩ : ∃ z : Int64, z = p1 >>> ((32 : Int32).toInt64 &&& 63) := ⟨_, rfl⟩
    refine lv_lshr (v := z22) hx hb dX12_feed_65 hz22.symm ?_
    obtain ⟨b23, hb23⟩ : ∃ z : Int32, z = z22.toInt32 := ⟨_, rfl⟩
    refine lv_l2i (v := b23) hx hb dX12_feed_66 hb23.symm ?_
    refine lv_i2b (v := b23.toInt8.toInt32) hx hb dX12_feed_67 rfl ?_
    refine va_bast hx hb hK hP hD hS 0 0 rfl rfl (i := 4) (x := b23.toInt8.toInt32) (by unfold vp_in; decide) dX12_feed_68 (fun H locs hP hD hS => ?_)
    obtain ⟨fy24, hfy24⟩ : ∃ z : Nat → Int32, z = upd fy20 (4 : Int32).toNatClampNeg (vp_nar .byte b23.toInt8.toInt32) := ⟨_, rfl⟩
    have hP : va_P D vwCl [(mt, .inl (cm, 3000, .inl fy24)), (wt, .inl (cw, 2, .inl (fun _ => 0))), (h0, .inr (12, fs21))] H := by rw [hfy24]; exact hP
    have hD : va_D A [(mt, .inl (cm, 3000, .inl fy24)), (wt, .inl (cw, 2, .inl (fun _ => 0))), (h0, .inr (12, fs21))] := by rw [hfy24]; exact hD
    refine lv_aload_n hx hb dX12_feed_69 rfl (lv_at hl 1 rfl) ?_
    refine lv_dup hx hb dX12_feed_70 rfl ?_
    refine va_get (D := D) (ci := 12) (v := .int 4) (C := RX12) (T := TX12) (N := 139) hx hb hts i_v_c_m_feed_X12 hown hK hP 2 rfl rfl 2 (by decide) (hts (.fieldLink RX12 319 "ScheduleHouseModel" "size" "I") (by decide +kernel)) (fun _ h9 => h9) gfs21_2 dX12_feed_71 ?_
    refine lv_iconst (v := 1) hx hb dX12_feed_74 (by decide +kernel) ?_
    refine lv_iadd hx hb dX12_feed_75 ?_
    rw [show (4 + 1 : Int32) = 5 by decide]
    refine va_put (D := D) (ci := 12) (v := .int 5) (ty := .int) (C := RX12) (T := TX12) (N := 139) hx hb hts i_v_c_m_feed_X12 tyX12 tyX12_ok nmX12 hown hK hP hD hS 2 rfl rfl 2 (by decide) (hts (.fieldLink RX12 319 "ScheduleHouseModel" "size" "I") (by decide +kernel)) (fun _ h9 => h9) rfl (by decide +kernel) rfl rfl (by rw [lfs21]; decide) dX12_feed_76 (fun H locs hP hD hS => ?_)
    obtain ⟨fs25, hfs25⟩ : ∃ z, z = fs21.set 2 (.int 5) := ⟨_, rfl⟩
    rw [← hfs25] at hP hD
    have lfs25 : fs25.length = 139 := by rw [hfs25, List.length_set]; exact lfs21
    have gfs25_118 : fs25[118]? = some (.ref wt) := by rw [hfs25, List.getElem?_set_ne (by decide)]; exact gfs21_118
    have gfs25_1 : fs25[1]? = some (.ref mt) := by rw [hfs25, List.getElem?_set_ne (by decide)]; exact gfs21_1
    have gfs25_0 : fs25[0]? = some (.int 0) := by rw [hfs25, List.getElem?_set_ne (by decide)]; exact gfs21_0
    have gfs25_2 : fs25[2]? = some (.int 5) := by rw [hfs25]; exact List.getElem?_set_self (by rw [lfs21]; decide)
    have hP : va_P D vwCl [(mt, .inl (cm, 3000, .inl fy24)), (wt, .inl (cw, 2, .inl (fun _ => 0))), (h0, .inr (12, fs25))] H := hP
    have hD : va_D A [(mt, .inl (cm, 3000, .inl fy24)), (wt, .inl (cw, 2, .inl (fun _ => 0))), (h0, .inr (12, fs25))] := hD
    refine lv_iinc (v := 5) (lv' := [(4, .int 5), (0, .ref h0), (1, .int 6), (2, .long p1)]) hx hb dX12_feed_79 hl (k := 0) rfl (by decide) (by decide) rfl (fun ls hl => ?_)
    refine lv_goto (tgt := 45) hx hb dX12_feed_82 (by decide) ?_
    refine lv_iload hx hb dX12_feed_45 (lv_at hl 0 rfl) ?_
    refine lv_iload_n hx hb dX12_feed_47 rfl (lv_at hl 2 rfl) ?_
    refine lv_icmp_ge (tgt := 85) hx hb dX12_feed_48 (by decide) (fun c9 => False.elim (by revert c9; decide)) (fun _ => ?_)
    refine lv_aload_n hx hb dX12_feed_51 rfl (lv_at hl 1 rfl) ?_
    refine va_get (D := D) (ci := 12) (v := .ref mt) (C := RX12) (T := TX12) (N := 139) hx hb hts i_v_c_m_feed_X12 hown hK hP 2 rfl rfl 1 (by decide) (hts (.fieldLink RX12 7 "ScheduleHouseModel" "text" "[B") (by decide +kernel)) (fun _ h9 => h9) gfs25_1 dX12_feed_52 ?_
    refine lv_aload_n hx hb dX12_feed_55 rfl (lv_at hl 1 rfl) ?_
    refine va_get (D := D) (ci := 12) (v := .int 5) (C := RX12) (T := TX12) (N := 139) hx hb hts i_v_c_m_feed_X12 hown hK hP 2 rfl rfl 2 (by decide) (hts (.fieldLink RX12 319 "ScheduleHouseModel" "size" "I") (by decide +kernel)) (fun _ h9 => h9) gfs25_2 dX12_feed_56 ?_
    refine lv_lload_n hx hb dX12_feed_59 rfl (lv_at hl 3 rfl) ?_
    refine lv_bipush (v := 8) hx hb dX12_feed_60 (by decide +kernel) ?_
    refine lv_iload hx hb dX12_feed_62 (lv_at hl 0 rfl) ?_
    refine lv_imul hx hb dX12_feed_64 ?_
    rw [show (8 * 5 : Int32) = 40 by decide]
    obtain ⟨z26, hz26⟩ : ∃ z : Int64, z = p1 >>> ((40 : Int32).toInt64 &&& 63) := ⟨_, rfl⟩
    refine lv_lshr (v := z26) hx hb dX12_feed_65 hz26.symm ?_
    obtain ⟨b27, hb27⟩ : ∃ z : Int32, z = z26.toInt32 := ⟨_, rfl⟩
    refine lv_l2i (v := b27) hx hb dX12_feed_66 hb27.symm ?_
    refine lv_i2b (v := b27.toInt8.toInt32) hx hb dX12_feed_67 rfl ?_
    refine va_bast hx hb hK hP hD hS 0 0 rfl rfl (i := 5) (x := b27.toInt8.toInt32) (by unfold vp_in; decide) dX12_feed_68 (fun H locs hP hD hS => ?_)
    obtain ⟨fy28, hfy28⟩ : ∃ z : Nat → Int32, z = upd fy24 (5 : Int32).toNatClampNeg (vp_nar .byte b27.toInt8.toInt32) := ⟨_, rfl⟩
    have hP : va_P D vwCl [(mt, .inl (cm, 3000, .inl fy28)), (wt, .inl (cw, 2, .inl (fun _ => 0))), (h0, .inr (12, fs25))] H := by rw [hfy28]; exact hP
    have hD : va_D A [(mt, .inl (cm, 3000, .inl fy28)), (wt, .inl (cw, 2, .inl (fun _ => 0))), (h0, .inr (12, fs25))] := by rw [hfy28]; exact hD
    refine lv_aload_n hx hb dX12_feed_69 rfl (lv_at hl 1 rfl) ?_
    refine lv_dup hx hb dX12_feed_70 rfl ?_
    refine va_get (D := D) (ci := 12) (v := .int 5) (C := RX12) (T := TX12) (N := 139) hx hb hts i_v_c_m_feed_X12 hown hK hP 2 rfl rfl 2 (by decide) (hts (.fieldLink RX12 319 "ScheduleHouseModel" "size" "I") (by decide +kernel)) (fun _ h9 => h9) gfs25_2 dX12_feed_71 ?_
    refine lv_iconst (v := 1) hx hb dX12_feed_74 (by decide +kernel) ?_
    refine lv_iadd hx hb dX12_feed_75 ?_
    rw [show (5 + 1 : Int32) = 6 by decide]
    refine va_put (D := D) (ci := 12) (v := .int 6) (ty := .int) (C := RX12) (T := TX12) (N := 139) hx hb hts i_v_c_m_feed_X12 tyX12 tyX12_ok nmX12 hown hK hP hD hS 2 rfl rfl 2 (by decide) (hts (.fieldLink RX12 319 "ScheduleHouseModel" "size" "I") (by decide +kernel)) (fun _ h9 => h9) rfl (by decide +kernel) rfl rfl (by rw [lfs25]; decide) dX12_feed_76 (fun H locs hP hD hS => ?_)
    obtain ⟨fs29, hfs29⟩ : ∃ z, z = fs25.set 2 (.int 6) := ⟨_, rfl⟩
    rw [← hfs29] at hP hD
    have lfs29 : fs29.length = 139 := by rw [hfs29, List.length_set]; exact lfs25
    have gfs29_118 : fs29[118]? = some (.ref wt) := by rw [hfs29, List.getElem?_set_ne (by decide)]; exact gfs25_118
    have gfs29_1 : fs29[1]? = some (.ref mt) := by rw [hfs29, List.getElem?_set_ne (by decide)]; exact gfs25_1
    have gfs29_0 : fs29[0]? = some (.int 0) := by rw [hfs29, List.getElem?_set_ne (by decide)]; exact gfs25_0
    have gfs29_2 : fs29[2]? = some (.int 6) := by rw [hfs29]; exact List.getElem?_set_self (by rw [lfs25]; decide)
    have hP : va_P D vwCl [(mt, .inl (cm, 3000, .inl fy28)), (wt, .inl (cw, 2, .inl (fun _ => 0))), (h0, .inr (12, fs29))] H := hP
    have hD : va_D A [(mt, .inl (cm, 3000, .inl fy28)), (wt, .inl (cw, 2, .inl (fun _ => 0))), (h0, .inr (12, fs29))] := hD
    refine lv_iinc (v := 6) (lv' := [(4, .int 6), (0, .ref h0), (1, .int 6), (2, .long p1)]) hx hb dX12_feed_79 hl (k := 0) rfl (by decide) (by decide) rfl (fun ls hl => ?_)
    refine lv_goto (tgt := 45) hx hb dX12_feed_82 (by decide) ?_
    refine lv_iload hx hb dX12_feed_45 (lv_at hl 0 rfl) ?_
    refine lv_iload_n hx hb dX12_feed_47 rfl (lv_at hl 2 rfl) ?_
    refine lv_icmp_ge (tgt := 85) hx hb dX12_feed_48 (by decide) (fun _ => ?_) (fun c9 => False.elim (by revert c9; decide))
    refine lv_aload_n hx hb dX12_feed_85 rfl (lv_at hl 1 rfl) ?_
    have hPc := hP.sub (ws' := [(h0, .inr (12, fs29)), (wt, .inl (cw, 2, .inl (fun _ => 0)))]) [2, 1] rfl
    have hDc := hD.sub (ws' := [(h0, .inr (12, fs29)), (wt, .inl (cw, 2, .inl (fun _ => 0)))]) [2, 1] (by decide) rfl
    have hKc := hK.sub (tys' := [(cw, .boolean)]) [1] rfl
    have hFc := va_free (wc := [(h0, .inr (12, fs29)), (wt, .inl (cw, 2, .inl (fun _ => 0)))]) hD hS hA [2, 1] rfl
    refine va_callv (va_runV (As := []) (rest := []) ⟨hx, hb, hml, hown, hts⟩ (c_m_forget l D h0 wt cw fs29 H.size lfs29 gfs29_118) (cwV 0 hts g_v_c_m_feed_4 rfl rfl rfl (by decide +kernel) ⟨Nat.le_of_ble_eq_true rfl, Nat.le_of_ble_eq_true rfl⟩) ⟨st_blind, va_recv hKc hPc (ci := 12) (q0 := 0) rfl rfl, fun U hU hW => ⟨rfl, st_call hU hW hPc hKc hDc hZ hS hFc hE⟩⟩ rfl rfl hl.1 rfl (lv_room (Nat.le_of_ble_eq_true rfl)) dX12_feed_86 ⟨Nat.le_of_ble_eq_true rfl, Nat.le_of_ble_eq_true rfl⟩) hS (fun q _ h => hFc q h) hFc (fun  u30 t H1 locs ht hvm hw hB hz1 hk1 hS => ?_)
    obtain ⟨ku30, tu30, au30, zu30⟩ := hw
    have lu30 : u30.length = 139 := by rw [ku30.1]; exact lfs29
    have gu30_118 : u30[118]? = some (.ref wt) := kp_at ku30 gfs29_118 (by decide)
    have gu30_1 : u30[1]? = some (.ref mt) := kp_at ku30 gfs29_1 (by decide)
    have gu30_0 : u30[0]? = some (.int 0) := kp_at ku30 gfs29_0 (by decide)
    have gu30_2 : u30[2]? = some (.int 6) := kp_at ku30 gfs29_2 (by decide)
    obtain ⟨fy31, hP1, hK1, hD1⟩ := hB
    rw [ht] at hP1
    have hK1 := va_K.moved hvm.symm hK1
    obtain ⟨hP, hD⟩ := va_join (wr := [(mt, .inl (cm, 3000, .inl fy28))]) (w1 := [(h0, .inr (12, u30)), (wt, .inl (cw, 2, .inl fy31))]) hP hD [2, 1] [0] rfl rfl (by decide) (by decide) hk1 hFc hP1 hD1
    have hK := (hK.sub (tys' := [(cm, .byte)]) [0] rfl).app hK1
    generalize H1 = H at hP hS ⊢
    have hP : va_P D vwCl [(mt, .inl (cm, 3000, .inl fy28)), (h0, .inr (12, u30)), (wt, .inl (cw, 2, .inl fy31))] H := hP
    have hD : va_D A [(mt, .inl (cm, 3000, .inl fy28)), (h0, .inr (12, u30)), (wt, .inl (cw, 2, .inl fy31))] := hD
    have hK : va_K D vwCl [(cm, .byte), (cw, .boolean)] s := hK
    refine lv_aload_n hx hb dX12_feed_89 rfl (lv_at hl 1 rfl) ?_
    refine va_get (D := D) (ci := 12) (v := .int 6) (C := RX12) (T := TX12) (N := 139) hx hb hts i_v_c_m_feed_X12 hown hK hP 1 rfl rfl 2 (by decide) (hts (.fieldLink RX12 319 "ScheduleHouseModel" "size" "I") (by decide +kernel)) (fun _ h9 => h9) gu30_2 dX12_feed_90 ?_
    have hP : va_P D vwCl [(h0, .inr (12, u30))] H := hP.sub [1] rfl
    have hD : va_D A [(h0, .inr (12, u30))] := hD.sub [1] (by decide) rfl
    have hK : va_K D vwCl [] s := hK.sub [] rfl
    exact W.iret (v := 6) hx hb hr (fun t ht hW => ⟨⟨6, u30, rfl, ⟨0, gu30_0, Or.inl ⟨rfl, rfl, hi⟩⟩, by rw [ht]; exact hP, va_K.moved hW.alike hK, hD⟩, hS.F ht⟩) hS.2.2 dX12_feed_93
  · subst er2
    exact absurd hi (by decide)
set_option maxHeartbeats 400000 in
set_option maxRecDepth 100000 in
/-- the model's feed(7, ..) -/
theorem c_m_feed_7 (l : Launch) (D : va_G) (h0 mt wt : Nat) (cm cw : ClassId) (fs : List Value) (f0 : Nat → Int32) (p1 : Int64) (sz : Nat) (hlen : fs.length = 139) (hf_thrown : fs[0]? = some (.int 0)) (hf_size : fs[2]? = some (.int 0)) (hf_wasTried : fs[118]? = some (.ref wt)) (hf_text : fs[1]? = some (.ref mt)) : Met l yX12_feed v_c_m_feed ({ frames := 5, cells := 0, slots := 0, locals := 80 }) (va_Pc [.ref h0, .int 7, .long p1] (st_ D [(h0, .inr (12, fs)), (mt, .inl (cm, 3000, .inl f0)), (wt, .inl (cw, 2, .inl (fun _ => 0)))] [(cm, .byte), (cw, .boolean)] sz)) (va_Qi (fun (r : Int32) (u : List Value) => ∃ t : Int32, u[0]? = some (.int t) ∧ ((t = 0 ∧ r = (7 : Int32) ∧ (¬ (7 : Int32) < 1 ∧ ¬ 8 < (7 : Int32))) ∨ (t = 1 ∧ ((7 : Int32) < 1 ∨ 8 < (7 : Int32))) ∨ (t = 2 ∧ False))) (fun u t => va_P D vwCl [(h0, .inr (12, u))] t.heap ∧ va_K D vwCl [] t ∧ va_D (va_A [(h0, .inr (12, fs)), (mt, .inl (cm, 3000, .inl f0)), (wt, .inl (cw, 2, .inl (fun _ => 0)))] sz) [(h0, .inr (12, u))]) (va_A [(h0, .inr (12, fs)), (mt, .inl (cm, 3000, .inl f0)), (wt, .inl (cw, 2, .inl (fun _ => 0)))] sz)) 0 0 (va_A [(h0, .inr (12, fs)), (mt, .inl (cm, 3000, .inl f0)), (wt, .inl (cw, 2, .inl (fun _ => 0)))] sz) := by
  refine Met.ofW (cc := cX12_feed) (maxL := 5) (ret := (some .int)) (by decide) rfl ?_
  intro p e s m args below meth c s₁ B hml hv
  obtain ⟨rfl, hsz, hP, hK, hD0, hZ, hE⟩ := hv
  have hx := B.exec
  have hb := B.bytes
  have hr := B.returns
  have hts := atoms_spec (ws := v_c_m_feed) B.pre
  have hown : s.vm.findClass RX12 = some m.cls := findClass_of_methodNamed B.named
  have hlocks := B.notSynchronized
  subst hsz
  have hD := hD0.self (sz := s.heap.size)
  generalize hAe : va_A [(h0, .inr (12, fs)), (mt, .inl (cm, 3000, .inl f0)), (wt, .inl (cw, 2, .inl (fun _ => 0)))] s.heap.size = A at hD hZ ⊢
  have hA : ∀ q : Nat, s.heap.size ≤ q → A q := fun q h => by rw [← hAe]; exact Or.inr h
  have hS : va_S A s.heap s.heap [] := va_S.rf
  have hAO := hE.2.2.2.1
  have hP : va_P D vwCl [(h0, .inr (12, fs)), (mt, .inl (cm, 3000, .inl f0)), (wt, .inl (cw, 2, .inl (fun _ => 0)))] s.heap := hP
  have hl := lv_entry ([.ref h0, .int 7, .long p1]) (n := 5) (Nat.le_of_ble_eq_true rfl)
  rw [lg_entry_eq]
  generalize (lg_sl ([.ref h0, .int 7, .long p1]) ++ List.replicate (5 - (lg_sl ([.ref h0, .int 7, .long p1])).length) Slot.unset).toArray = ls at hl ⊢
  have hl : lv_has ls 5 [(0, .ref h0), (1, .int 7), (2, .long p1)] := hl
  refine lv_aload_n hx hb dX12_feed_0 rfl (lv_at hl 0 rfl) ?_
  refine lv_iconst (v := 0) hx hb dX12_feed_1 (by decide +kernel) ?_
  refine va_put (D := D) (ci := 12) (v := .int 0) (ty := .int) (C := RX12) (T := TX12) (N := 139) hx hb hts i_v_c_m_feed_X12 tyX12 tyX12_ok nmX12 hown hK hP hD hS 0 rfl rfl 0 (by decide) (hts (.fieldLink RX12 316 "ScheduleHouseModel" "thrown" "I") (by decide +kernel)) (fun _ h9 => h9) rfl (by decide +kernel) rfl rfl (by rw [hlen]; decide) dX12_feed_2 (fun H locs hP hD hS => ?_)
  obtain ⟨fs1, hfs1⟩ : ∃ z, z = fs.set 0 (.int 0) := ⟨_, rfl⟩
  rw [← hfs1] at hP hD
  have lfs1 : fs1.length = 139 := by rw [hfs1, List.length_set]; exact hlen
  have gfs1_2 : fs1[2]? = some (.int 0) := by rw [hfs1, List.getElem?_set_ne (by decide)]; exact hf_size
  have gfs1_118 : fs1[118]? = some (.ref wt) := by rw [hfs1, List.getElem?_set_ne (by decide)]; exact hf_wasTried
  have gfs1_1 : fs1[1]? = some (.ref mt) := by rw [hfs1, List.getElem?_set_ne (by decide)]; exact hf_text
  have gfs1_0 : fs1[0]? = some (.int 0) := by rw [hfs1]; exact List.getElem?_set_self (by rw [hlen]; decide)
  have hP : va_P D vwCl [(h0, .inr (12, fs1)), (mt, .inl (cm, 3000, .inl f0)), (wt, .inl (cw, 2, .inl (fun _ => 0)))] H := hP
  have hD : va_D A [(h0, .inr (12, fs1)), (mt, .inl (cm, 3000, .inl f0)), (wt, .inl (cw, 2, .inl (fun _ => 0)))] := hD
  refine lv_aload_n hx hb dX12_feed_5 rfl (lv_at hl 0 rfl) ?_
  refine lv_iload_n hx hb dX12_feed_6 rfl (lv_at hl 1 rfl) ?_
  refine lv_iconst (v := 1) hx hb dX12_feed_7 (by decide +kernel) ?_
  refine lv_bipush (v := 8) hx hb dX12_feed_8 (by decide +kernel) ?_
  have hPc := hP.sub (ws' := []) [] rfl
  have hDc := hD.sub (ws' := []) [] (by decide) rfl
  have hKc := hK.sub (tys' := []) [] rfl
  have hFc := va_free (wc := []) hD hS hA [] rfl
  refine va_calli (va_runS (As := [.int 7, .int 1, .int 8]) (rest := [.ref h0]) ⟨hx, hb, hml, hown, hts⟩ (c_m_in l D 7 1 8 H.size) (va_cwS 3 hts g_v_c_m_feed_1 rfl rfl rfl (by decide +kernel) ⟨Nat.le_of_ble_eq_true rfl, Nat.le_of_ble_eq_true rfl⟩) ⟨st_blind, fun U hU hW => ⟨rfl, st_call hU hW hPc hKc hDc hZ hS hFc hE⟩⟩ rfl rfl hl.1 rfl (lv_room (Nat.le_of_ble_eq_true rfl)) dX12_feed_10 ⟨Nat.le_of_ble_eq_true rfl, Nat.le_of_ble_eq_true rfl⟩) hS (fun q _ h => hFc q h) hFc (fun r2 u3 t H1 locs ht hvm hw hB hz1 hk1 hS => ?_)
  obtain ⟨hP, hD⟩ := va_join (wr := [(h0, .inr (12, fs1)), (mt, .inl (cm, 3000, .inl f0)), (wt, .inl (cw, 2, .inl (fun _ => 0)))]) (w1 := []) hP hD [] [0, 1, 2] rfl rfl (by decide) (by decide) hk1 hFc p_nil d_nil
  generalize H1 = H at hP hS ⊢
  have hP : va_P D vwCl [(h0, .inr (12, fs1)), (mt, .inl (cm, 3000, .inl f0)), (wt, .inl (cw, 2, .inl (fun _ => 0)))] H := hP
  have hD : va_D A [(h0, .inr (12, fs1)), (mt, .inl (cm, 3000, .inl f0)), (wt, .inl (cw, 2, .inl (fun _ => 0)))] := hD
  rcases hw with ⟨er2, hi⟩ | ⟨er2, hi⟩
  · subst er2
    refine lv_if_eq (tgt := 28) hx hb dX12_feed_13 (by decide) (fun c9 => False.elim (by revert c9; decide)) (fun _ => ?_)
    refine lv_aload_n hx hb dX12_feed_16 rfl (lv_at hl 0 rfl) ?_
    refine va_get (D := D) (ci := 12) (v := .int 0) (C := RX12) (T := TX12) (N := 139) hx hb hts i_v_c_m_feed_X12 hown hK hP 0 rfl rfl 2 (by decide) (hts (.fieldLink RX12 319 "ScheduleHouseModel" "size" "I") (by decide +kernel)) (fun _ h9 => h9) gfs1_2 dX12_feed_17 ?_
    refine lv_iload_n hx hb dX12_feed_20 rfl (lv_at hl 1 rfl) ?_
    refine lv_iadd hx hb dX12_feed_21 ?_
    rw [show (0 + 7 : Int32) = 7 by decide]
    refine lv_sipush (v := 3000) hx hb dX12_feed_22 (by decide +kernel) ?_
    refine lv_icmp_le (tgt := 32) hx hb dX12_feed_25 (by decide) (fun _ => ?_) (fun c9 => False.elim (by revert c9; decide))
    refine lv_iconst (v := 0) hx hb dX12_feed_32 (by decide +kernel) ?_
    refine lv_iconst (v := 1) hx hb dX12_feed_33 (by decide +kernel) ?_
    have hPc := hP.sub (ws' := [(h0, .inr (12, fs1))]) [0] rfl
    have hDc := hD.sub (ws' := [(h0, .inr (12, fs1))]) [0] (by decide) rfl
    have hKc := hK.sub (tys' := []) [] rfl
    have hFc := va_free (wc := [(h0, .inr (12, fs1))]) hD hS hA [0] rfl
    refine va_calli (va_runV (As := [.int 0, .int 1]) (rest := []) ⟨hx, hb, hml, hown, hts⟩ (c_m_refuses_no l D h0 fs1 1 H.size lfs1 gfs1_0) (cwV 2 hts g_v_c_m_feed_3 rfl rfl rfl (by decide +kernel) ⟨Nat.le_of_ble_eq_true rfl, Nat.le_of_ble_eq_true rfl⟩) ⟨st_blind, va_recv hKc hPc (ci := 12) (q0 := 0) rfl rfl, fun U hU hW => ⟨rfl, st_call hU hW hPc hKc hDc hZ hS hFc hE⟩⟩ rfl rfl hl.1 rfl (lv_room (Nat.le_of_ble_eq_true rfl)) dX12_feed_34 ⟨Nat.le_of_ble_eq_true rfl, Nat.le_of_ble_eq_true rfl⟩) hS (fun q _ h => hFc q h) hFc (fun r4 u5 t H1 locs ht hvm hw hB hz1 hk1 hS => ?_)
    obtain ⟨er4, eu5⟩ := hw
    rw [eu5] at hB
    obtain ⟨hP1, hK1, hD1⟩ := hB
    rw [ht] at hP1
    have hK1 := va_K.moved hvm.symm hK1
    obtain ⟨hP, hD⟩ := va_join (wr := [(mt, .inl (cm, 3000, .inl f0)), (wt, .inl (cw, 2, .inl (fun _ => 0)))]) (w1 := [(h0, .inr (12, fs1))]) hP hD [0] [1, 2] rfl rfl (by decide) (by decide) hk1 hFc hP1 hD1
    have hK := (hK.sub (tys' := [(cm, .byte), (cw, .boolean)]) [0, 1] rfl).app hK1
    generalize H1 = H at hP hS ⊢
    have hP : va_P D vwCl [(mt, .inl (cm, 3000, .inl f0)), (wt, .inl (cw, 2, .inl (fun _ => 0))), (h0, .inr (12, fs1))] H := hP
    have hD : va_D A [(mt, .inl (cm, 3000, .inl f0)), (wt, .inl (cw, 2, .inl (fun _ => 0))), (h0, .inr (12, fs1))] := hD
    have hK : va_K D vwCl [(cm, .byte), (cw, .boolean)] s := hK
    subst er4
    refine lv_if_eq (tgt := 42) hx hb dX12_feed_37 (by decide) (fun _ => ?_) (fun c9 => False.elim (by revert c9; decide))
    refine lv_iconst (v := 0) hx hb dX12_feed_42 (by decide +kernel) ?_
    refine lv_istore (lv' := [(4, .int 0), (0, .ref h0), (1, .int 7), (2, .long p1)]) hx hb dX12_feed_43 hl (by decide) rfl (fun ls hl => ?_)
    refine lv_iload hx hb dX12_feed_45 (lv_at hl 0 rfl) ?_
    refine lv_iload_n hx hb dX12_feed_47 rfl (lv_at hl 2 rfl) ?_
    refine lv_icmp_ge (tgt := 85) hx hb dX12_feed_48 (by decide) (fun c9 => False.elim (by revert c9; decide)) (fun _ => ?_)
    refine lv_aload_n hx hb dX12_feed_51 rfl (lv_at hl 1 rfl) ?_
    refine va_get (D := D) (ci := 12) (v := .ref mt) (C := RX12) (T := TX12) (N := 139) hx hb hts i_v_c_m_feed_X12 hown hK hP 2 rfl rfl 1 (by decide) (hts (.fieldLink RX12 7 "ScheduleHouseModel" "text" "[B") (by decide +kernel)) (fun _ h9 => h9) gfs1_1 dX12_feed_52 ?_
    refine lv_aload_n hx hb dX12_feed_55 rfl (lv_at hl 1 rfl) ?_
    refine va_get (D := D) (ci := 12) (v := .int 0) (C := RX12) (T := TX12) (N := 139) hx hb hts i_v_c_m_feed_X12 hown hK hP 2 rfl rfl 2 (by decide) (hts (.fieldLink RX12 319 "ScheduleHouseModel" "size" "I") (by decide +kernel)) (fun _ h9 => h9) gfs1_2 dX12_feed_56 ?_
    refine lv_lload_n hx hb dX12_feed_59 rfl (lv_at hl 3 rfl) ?_
    refine lv_bipush (v := 8) hx hb dX12_feed_60 (by decide +kernel) ?_
    refine lv_iload hx hb dX12_feed_62 (lv_at hl 0 rfl) ?_
    refine lv_imul hx hb dX12_feed_64 ?_
    rw [show (8 * 0 : Int32) = 0 by decide]
    obtain ⟨z6, hz6⟩ : ∃ z : Int64, z = p1 >>> ((0 : Int32).toInt64 &&& 63) := ⟨_, rfl⟩
    refine lv_lshr (v := z6) hx hb dX12_feed_65 hz6.symm ?_
    obtain ⟨b7, hb7⟩ : ∃ z : Int32, z = z6.toInt32 := ⟨_, rfl⟩
    refine lv_l2i (v := b7) hx hb dX12_feed_66 hb7.symm ?_
    refine lv_i2b (v := b7.toInt8.toInt32) hx hb dX12_feed_67 rfl ?_
    refine va_bast hx hb hK hP hD hS 0 0 rfl rfl (i := 0) (x := b7.toInt8.toInt32) (by unfold vp_in; decide) dX12_feed_68 (fun H locs hP hD hS => ?_)
    obtain ⟨fy8, hfy8⟩ : ∃ z : Nat → Int32, z = upd f0 (0 : Int32).toNatClampNeg (vp_nar .byte b7.toInt8.toInt32) := ⟨_, rfl⟩
    have hP : va_P D vwCl [(mt, .inl (cm, 3000, .inl fy8)), (wt, .inl (cw, 2, .inl (fun _ => 0))), (h0, .inr (12, fs1))] H := by rw [hfy8]; exact hP
    have hD : va_D A [(mt, .inl (cm, 3000, .inl fy8)), (wt, .inl (cw, 2, .inl (fun _ => 0))), (h0, .inr (12, fs1))] := by rw [hfy8]; exact hD
    refine lv_aload_n hx hb dX12_feed_69 rfl (lv_at hl 1 rfl) ?_
    refine lv_dup hx hb dX12_feed_70 rfl ?_
    refine va_get (D := D) (ci := 12) (v := .int 0) (C := RX12) (T := TX12) (N := 139) hx hb hts i_v_c_m_feed_X12 hown hK hP 2 rfl rfl 2 (by decide) (hts (.fieldLink RX12 319 "ScheduleHouseModel" "size" "I") (by decide +kernel)) (fun _ h9 => h9) gfs1_2 dX12_feed_71 ?_
    refine lv_iconst (v := 1) hx hb dX12_feed_74 (by decide +kernel) ?_
    refine lv_iadd hx hb dX12_feed_75 ?_
    rw [show (0 + 1 : Int32) = 1 by decide]
    refine va_put (D := D) (ci := 12) (v := .int 1) (ty := .int) (C := RX12) (T := TX12) (N := 139) hx hb hts i_v_c_m_feed_X12 tyX12 tyX12_ok nmX12 hown hK hP hD hS 2 rfl rfl 2 (by decide) (hts (.fieldLink RX12 319 "ScheduleHouseModel" "size" "I") (by decide +kernel)) (fun _ h9 => h9) rfl (by decide +kernel) rfl rfl (by rw [lfs1]; decide) dX12_feed_76 (fun H locs hP hD hS => ?_)
    obtain ⟨fs9, hfs9⟩ : ∃ z, z = fs1.set 2 (.int 1) := ⟨_, rfl⟩
    rw [← hfs9] at hP hD
    have lfs9 : fs9.length = 139 := by rw [hfs9, List.length_set]; exact lfs1
    have gfs9_118 : fs9[118]? = some (.ref wt) := by rw [hfs9, List.getElem?_set_ne (by decide)]; exact gfs1_118
    have gfs9_1 : fs9[1]? = some (.ref mt) := by rw [hfs9, List.getElem?_set_ne (by decide)]; exact gfs1_1
    have gfs9_0 : fs9[0]? = some (.int 0) := by rw [hfs9, List.getElem?_set_ne (by decide)]; exact gfs1_0
    have gfs9_2 : fs9[2]? = some (.int 1) := by rw [hfs9]; exact List.getElem?_set_self (by rw [lfs1]; decide)
    have hP : va_P D vwCl [(mt, .inl (cm, 3000, .inl fy8)), (wt, .inl (cw, 2, .inl (fun _ => 0))), (h0, .inr (12, fs9))] H := hP
    have hD : va_D A [(mt, .inl (cm, 3000, .inl fy8)), (wt, .inl (cw, 2, .inl (fun _ => 0))), (h0, .inr (12, fs9))] := hD
    refine lv_iinc (v := 1) (lv' := [(4, .int 1), (0, .ref h0), (1, .int 7), (2, .long p1)]) hx hb dX12_feed_79 hl (k := 0) rfl (by decide) (by decide) rfl (fun ls hl => ?_)
    refine lv_goto (tgt := 45) hx hb dX12_feed_82 (by decide) ?_
    refine lv_iload hx hb dX12_feed_45 (lv_at hl 0 rfl) ?_
    refine lv_iload_n hx hb dX12_feed_47 rfl (lv_at hl 2 rfl) ?_
    refine lv_icmp_ge (tgt := 85) hx hb dX12_feed_48 (by decide) (fun c9 => False.elim (by revert c9; decide)) (fun _ => ?_)
    refine lv_aload_n hx hb dX12_feed_51 rfl (lv_at hl 1 rfl) ?_
    refine va_get (D := D) (ci := 12) (v := .ref mt) (C := RX12) (T := TX12) (N := 139) hx hb hts i_v_c_m_feed_X12 hown hK hP 2 rfl rfl 1 (by decide) (hts (.fieldLink RX12 7 "ScheduleHouseModel" "text" "[B") (by decide +kernel)) (fun _ h9 => h9) gfs9_1 dX12_feed_52 ?_
    refine lv_aload_n hx hb dX12_feed_55 rfl (lv_at hl 1 rfl) ?_
    refine va_get (D := D) (ci := 12) (v := .int 1) (C := RX12) (T := TX12) (N := 139) hx hb hts i_v_c_m_feed_X12 hown hK hP 2 rfl rfl 2 (by decide) (hts (.fieldLink RX12 319 "ScheduleHouseModel" "size" "I") (by decide +kernel)) (fun _ h9 => h9) gfs9_2 dX12_feed_56 ?_
    refine lv_lload_n hx hb dX12_feed_59 rfl (lv_at hl 3 rfl) ?_
    refine lv_bipush (v := 8) hx hb dX12_feed_60 (by decide +kernel) ?_
    refine lv_iload hx hb dX12_feed_62 (lv_at hl 0 rfl) ?_
    refine lv_imul hx hb dX12_feed_64 ?_
    rw [show (8 * 1 : Int32) = 8 by decide]
    obtain ⟨z10, hz10⟩ : ∃ z : Int64, z = p1 >>> ((8 : Int32).toInt64 &&& 63) := ⟨_, rfl⟩
    refine lv_lshr (v := z10) hx hb dX12_feed_65 hz10.symm ?_
    obtain ⟨b11, hb11⟩ : ∃ z : Int32, z = z10.toInt32 := ⟨_, rfl⟩
    refine lv_l2i (v := b11) hx hb dX12_feed_66 hb11.symm ?_
    refine lv_i2b (v := b11.toInt8.toInt32) hx hb dX12_feed_67 rfl ?_
    refine va_bast hx hb hK hP hD hS 0 0 rfl rfl (i := 1) (x := b11.toInt8.toInt32) (by unfold vp_in; decide) dX12_feed_68 (fun H locs hP hD hS => ?_)
    obtain ⟨fy12, hfy12⟩ : ∃ z : Nat → Int32, z = upd fy8 (1 : Int32).toNatClampNeg (vp_nar .byte b11.toInt8.toInt32) := ⟨_, rfl⟩
    have hP : va_P D vwCl [(mt, .inl (cm, 3000, .inl fy12)), (wt, .inl (cw, 2, .inl (fun _ => 0))), (h0, .inr (12, fs9))] H := by rw [hfy12]; exact hP
    have hD : va_D A [(mt, .inl (cm, 3000, .inl fy12)), (wt, .inl (cw, 2, .inl (fun _ => 0))), (h0, .inr (12, fs9))] := by rw [hfy12]; exact hD
    refine lv_aload_n hx hb dX12_feed_69 rfl (lv_at hl 1 rfl) ?_
    refine lv_dup hx hb dX12_feed_70 rfl ?_
    refine va_get (D := D) (ci := 12) (v := .int 1) (C := RX12) (T := TX12) (N := 139) hx hb hts i_v_c_m_feed_X12 hown hK hP 2 rfl rfl 2 (by decide) (hts (.fieldLink RX12 319 "ScheduleHouseModel" "size" "I") (by decide +kernel)) (fun _ h9 => h9) gfs9_2 dX12_feed_71 ?_
    refine lv_iconst (v := 1) hx hb dX12_feed_74 (by decide +kernel) ?_
    refine lv_iadd hx hb dX12_feed_75 ?_
    rw [show (1 + 1 : Int32) = 2 by decide]
    refine va_put (D := D) (ci := 12) (v := .int 2) (ty := .int) (C := RX12) (T := TX12) (N := 139) hx hb hts i_v_c_m_feed_X12 tyX12 tyX12_ok nmX12 hown hK hP hD hS 2 rfl rfl 2 (by decide) (hts (.fieldLink RX12 319 "ScheduleHouseModel" "size" "I") (by decide +kernel)) (fun _ h9 => h9) rfl (by decide +kernel) rfl rfl (by rw [lfs9]; decide) dX12_feed_76 (fun H locs hP hD hS => ?_)
    obtain ⟨fs13, hfs13⟩ : ∃ z, z = fs9.set 2 (.int 2) := ⟨_, rfl⟩
    rw [← hfs13] at hP hD
    have lfs13 : fs13.length = 139 := by rw [hfs13, List.length_set]; exact lfs9
    have gfs13_118 : fs13[118]? = some (.ref wt) := by rw [hfs13, List.getElem?_set_ne (by decide)]; exact gfs9_118
    have gfs13_1 : fs13[1]? = some (.ref mt) := by rw [hfs13, List.getElem?_set_ne (by decide)]; exact gfs9_1
    have gfs13_0 : fs13[0]? = some (.int 0) := by rw [hfs13, List.getElem?_set_ne (by decide)]; exact gfs9_0
    have gfs13_2 : fs13[2]? = some (.int 2) := by rw [hfs13]; exact List.getElem?_set_self (by rw [lfs9]; decide)
    have hP : va_P D vwCl [(mt, .inl (cm, 3000, .inl fy12)), (wt, .inl (cw, 2, .inl (fun _ => 0))), (h0, .inr (12, fs13))] H := hP
    have hD : va_D A [(mt, .inl (cm, 3000, .inl fy12)), (wt, .inl (cw, 2, .inl (fun _ => 0))), (h0, .inr (12, fs13))] := hD
    refine lv_iinc (v := 2) (lv' := [(4, .int 2), (0, .ref h0), (1, .int 7), (2, .long p1)]) hx hb dX12_feed_79 hl (k := 0) rfl (by decide) (by decide) rfl (fun ls hl => ?_)
    refine lv_goto (tgt := 45) hx hb dX12_feed_82 (by decide) ?_
    refine lv_iload hx hb dX12_feed_45 (lv_at hl 0 rfl) ?_
    refine lv_iload_n hx hb dX12_feed_47 rfl (lv_at hl 2 rfl) ?_
    refine lv_icmp_ge (tgt := 85) hx hb dX12_feed_48 (by decide) (fun c9 => False.elim (by revert c9; decide)) (fun _ => ?_)
    refine lv_aload_n hx hb dX12_feed_51 rfl (lv_at hl 1 rfl) ?_
    refine va_get (D := D) (ci := 12) (v := .ref mt) (C := RX12) (T := TX12) (N := 139) hx hb hts i_v_c_m_feed_X12 hown hK hP 2 rfl rfl 1 (by decide) (hts (.fieldLink RX12 7 "ScheduleHouseModel" "text" "[B") (by decide +kernel)) (fun _ h9 => h9) gfs13_1 dX12_feed_52 ?_
    refine lv_aload_n hx hb dX12_feed_55 rfl (lv_at hl 1 rfl) ?_
    refine va_get (D := D) (ci := 12) (v := .int 2) (C := RX12) (T := TX12) (N := 139) hx hb hts i_v_c_m_feed_X12 hown hK hP 2 rfl rfl 2 (by decide) (hts (.fieldLink RX12 319 "ScheduleHouseModel" "size" "I") (by decide +kernel)) (fun _ h9 => h9) gfs13_2 dX12_feed_56 ?_
    refine lv_lload_n hx hb dX12_feed_59 rfl (lv_at hl 3 rfl) ?_
    refine lv_bipush (v := 8) hx hb dX12_feed_60 (by decide +kernel) ?_
    refine lv_iload hx hb dX12_feed_62 (lv_at hl 0 rfl) ?_
    refine lv_imul hx hb dX12_feed_64 ?_
    rw [show (8 * 2 : Int32) = 16 by decide]
    obtain ⟨z14, hz14⟩ : ∃ z : Int64, z = p1 >>> ((16 : Int32).toInt64 &&& 63) := ⟨_, rfl⟩
    refine lv_lshr (v := z14) hx hb dX12_feed_65 hz14.symm ?_
    obtain ⟨b15, hb15⟩ : ∃ z : Int32, z = z14.toInt32 := ⟨_, rfl⟩
    refine lv_l2i (v := b15) hx hb dX12_feed_66 hb15.symm ?_
    refine lv_i2b (v := b15.toInt8.toInt32) hx hb dX12_feed_67 rfl ?_
    refine va_bast hx hb hK hP hD hS 0 0 rfl rfl (i := 2) (x := b15.toInt8.toInt32) (by unfold vp_in; decide) dX12_feed_68 (fun H locs hP hD hS => ?_)
    obtain ⟨fy16, hfy16⟩ : ∃ z : Nat → Int32, z = upd fy12 (2 : Int32).toNatClampNeg (vp_nar .byte b15.toInt8.toInt32) := ⟨_, rfl⟩
    have hP : va_P D vwCl [(mt, .inl (cm, 3000, .inl fy16)), (wt, .inl (cw, 2, .inl (fun _ => 0))), (h0, .inr (12, fs13))] H := by rw [hfy16]; exact hP
    have hD : va_D A [(mt, .inl (cm, 3000, .inl fy16)), (wt, .inl (cw, 2, .inl (fun _ => 0))), (h0, .inr (12, fs13))] := by rw [hfy16]; exact hD
    refine lv_aload_n hx hb dX12_feed_69 rfl (lv_at hl 1 rfl) ?_
    refine lv_dup hx hb dX12_feed_70 rfl ?_
    refine va_get (D := D) (ci := 12) (v := .int 2) (C := RX12) (T := TX12) (N := 139) hx hb hts i_v_c_m_feed_X12 hown hK hP 2 rfl rfl 2 (by decide) (hts (.fieldLink RX12 319 "ScheduleHouseModel" "size" "I") (by decide +kernel)) (fun _ h9 => h9) gfs13_2 dX12_feed_71 ?_
    refine lv_iconst (v := 1) hx hb dX12_feed_74 (by decide +kernel) ?_
    refine lv_iadd hx hb dX12_feed_75 ?_
    rw [show (2 + 1 : Int32) = 3 by decide]
    refine va_put (D := D) (ci := 12) (v := .int 3) (ty := .int) (C := RX12) (T := TX12) (N := 139) hx hb hts i_v_c_m_feed_X12 tyX12 tyX12_ok nmX12 hown hK hP hD hS 2 rfl rfl 2 (by decide) (hts (.fieldLink RX12 319 "ScheduleHouseModel" "size" "I") (by decide +kernel)) (fun _ h9 => h9) rfl (by decide +kernel) rfl rfl (by rw [lfs13]; decide) dX12_feed_76 (fun H locs hP hD hS => ?_)
    obtain ⟨fs17, hfs17⟩ : ∃ z, z = fs13.set 2 (.int 3) := ⟨_, rfl⟩
    rw [← hfs17] at hP hD
    have lfs17 : fs17.length = 139 := by rw [hfs17, List.length_set]; exact lfs13
    have gfs17_118 : fs17[118]? = some (.ref wt) := by rw [hfs17, List.getElem?_set_ne (by decide)]; exact gfs13_118
    have gfs17_1 : fs17[1]? = some (.ref mt) := by rw [hfs17, List.getElem?_set_ne (by decide)]; exact gfs13_1
    have gfs17_0 : fs17[0]? = some (.int 0) := by rw [hfs17, List.getElem?_set_ne (by decide)]; exact gfs13_0
    have gfs17_2 : fs17[2]? = some (.int 3) := by rw [hfs17]; exact List.getElem?_set_self (by rw [lfs13]; decide)
    have hP : va_P D vwCl [(mt, .inl (cm, 3000, .inl fy16)), (wt, .inl (cw, 2, .inl (fun _ => 0))), (h0, .inr (12, fs17))] H := hP
    have hD : va_D A [(mt, .inl (cm, 3000, .inl fy16)), (wt, .inl (cw, 2, .inl (fun _ => 0))), (h0, .inr (12, fs17))] := hD
    refine lv_iinc (v := 3) (lv' := [(4, .int 3), (0, .ref h0), (1, .int 7), (2, .long p1)]) hx hb dX12_feed_79 hl (k := 0) rfl (by decide) (by decide) rfl (fun ls hl => ?_)
    refine lv_goto (tgt := 45) hx hb dX12_feed_82 (by decide) ?_
    refine lv_iload hx hb dX12_feed_45 (lv_at hl 0 rfl) ?_
    refine lv_iload_n hx hb dX12_feed_47 rfl (lv_at hl 2 rfl) ?_
    refine lv_icmp_ge (tgt := 85) hx hb dX12_feed_48 (by decide) (fun c9 => False.elim (by revert c9; decide)) (fun _ => ?_)
    refine lv_aload_n hx hb dX12_feed_51 rfl (lv_at hl 1 rfl) ?_
    refine va_get (D := D) (ci := 12) (v := .ref mt) (C := RX12) (T := TX12) (N := 139) hx hb hts i_v_c_m_feed_X12 hown hK hP 2 rfl rfl 1 (by decide) (hts (.fieldLink RX12 7 "ScheduleHouseModel" "text" "[B") (by decide +kernel)) (fun _ h9 => h9) gfs17_1 dX12_feed_52 ?_
    refine lv_aload_n hx hb dX12_feed_55 rfl (lv_at hl 1 rfl) ?_
    refine va_get (D := D) (ci := 12) (v := .int 3) (C := RX12) (T := TX12) (N := 139) hx hb hts i_v_c_m_feed_X12 hown hK hP 2 rfl rfl 2 (by decide) (hts (.fieldLink RX12 319 "ScheduleHouseModel" "size" "I") (by decide +kernel)) (fun _ h9 => h9) gfs17_2 dX12_feed_56 ?_
    refine lv_lload_n hx hb dX12_feed_59 rfl (lv_at hl 3 rfl) ?_
    refine lv_bipush (v := 8) hx hb dX12_feed_60 (by decide +kernel) ?_
    refine lv_iload hx hb dX12_feed_62 (lv_at hl 0 rfl) ?_
    refine lv_imul hx hb dX12_feed_64 ?_
    rw [show (8 * 3 : Int32) = 24 by decide]
    obtain ⟨z18, hz18⟩ : ∃ z : Int64, z = p1 >>> ((24 : Int32).toInt64 &&& 63) := ⟨_, rfl⟩
    refine lv_lshr (v := z18) hx hb dX12_feed_65 hz18.symm ?_
    obtain ⟨b19, hb19⟩ : ∃ z : Int32, z = z18.toInt32 := ⟨_, rfl⟩
    refine lv_l2i (v := b19) hx hb dX12_feed_66 hb19.symm ?_
    refine lv_i2b (v := b19.toInt8.toInt32) hx hb dX12_feed_67 rfl ?_
    refine va_bast hx hb hK hP hD hS 0 0 rfl rfl (i := 3) (x := b19.toInt8.toInt32) (by unfold vp_in; decide) dX12_feed_68 (fun H locs hP hD hS => ?_)
    obtain ⟨fy20, hfy20⟩ : ∃ z : Nat → Int32, z = upd fy16 (3 : Int32).toNatClampNeg (vp_nar .byte b19.toInt8.toInt32) := ⟨_, rfl⟩
    have hP : va_P D vwCl [(mt, .inl (cm, 3000, .inl fy20)), (wt, .inl (cw, 2, .inl (fun _ => 0))), (h0, .inr (12, fs17))] H := by rw [hfy20]; exact hP
    have hD : va_D A [(mt, .inl (cm, 3000, .inl fy20)), (wt, .inl (cw, 2, .inl (fun _ => 0))), (h0, .inr (12, fs17))] := by rw [hfy20]; exact hD
    refine lv_aload_n hx hb dX12_feed_69 rfl (lv_at hl 1 rfl) ?_
    refine lv_dup hx hb dX12_feed_70 rfl ?_
    refine va_get (D := D) (ci := 12) (v := .int 3) (C := RX12) (T := TX12) (N := 139) hx hb hts i_v_c_m_feed_X12 hown hK hP 2 rfl rfl 2 (by decide) (hts (.fieldLink RX12 319 "ScheduleHouseModel" "size" "I") (by decide +kernel)) (fun _ h9 => h9) gfs17_2 dX12_feed_71 ?_
    refine lv_iconst (v := 1) hx hb dX12_feed_74 (by decide +kernel) ?_
    refine lv_iadd hx hb dX12_feed_75 ?_
    rw [show (3 + 1 : Int32) = 4 by decide]
    refine va_put (D := D) (ci := 12) (v := .int 4) (ty := .int) (C := RX12) (T := TX12) (N := 139) hx hb hts i_v_c_m_feed_X12 tyX12 tyX12_ok nmX12 hown hK hP hD hS 2 rfl rfl 2 (by decide) (hts (.fieldLink RX12 319 "ScheduleHouseModel" "size" "I") (by decide +kernel)) (fun _ h9 => h9) rfl (by decide +kernel) rfl rfl (by rw [lfs17]; decide) dX12_feed_76 (fun H locs hP hD hS => ?_)
    obtain ⟨fs21, hfs21⟩ : ∃ z, z = fs17.set 2 (.int 4) := ⟨_, rfl⟩
    rw [← hfs21] at hP hD
    have lfs21 : fs21.length = 139 := by rw [hfs21, List.length_set]; exact lfs17
    have gfs21_118 : fs21[118]? = some (.ref wt) := by rw [hfs21, List.getElem?_set_ne (by decide)]; exact gfs17_118
    have gfs21_1 : fs21[1]? = some (.ref mt) := by rw [hfs21, List.getElem?_set_ne (by decide)]; exact gfs17_1
    have gfs21_0 : fs21[0]? = some (.int 0) := by rw [hfs21, List.getElem?_set_ne (by decide)]; exact gfs17_0
    have gfs21_2 : fs21[2]? = some (.int 4) := by rw [hfs21]; exact List.getElem?_set_self (by rw [lfs17]; decide)
    have hP : va_P D vwCl [(mt, .inl (cm, 3000, .inl fy20)), (wt, .inl (cw, 2, .inl (fun _ => 0))), (h0, .inr (12, fs21))] H := hP
    have hD : va_D A [(mt, .inl (cm, 3000, .inl fy20)), (wt, .inl (cw, 2, .inl (fun _ => 0))), (h0, .inr (12, fs21))] := hD
    refine lv_iinc (v := 4) (lv' := [(4, .int 4), (0, .ref h0), (1, .int 7), (2, .long p1)]) hx hb dX12_feed_79 hl (k := 0) rfl (by decide) (by decide) rfl (fun ls hl => ?_)
    refine lv_goto (tgt := 45) hx hb dX12_feed_82 (by decide) ?_
    refine lv_iload hx hb dX12_feed_45 (lv_at hl 0 rfl) ?_
    refine lv_iload_n hx hb dX12_feed_47 rfl (lv_at hl 2 rfl) ?_
    refine lv_icmp_ge (tgt := 85) hx hb dX12_feed_48 (by decide) (fun c9 => False.elim (by revert c9; decide)) (fun _ => ?_)
    refine lv_aload_n hx hb dX12_feed_51 rfl (lv_at hl 1 rfl) ?_
    refine va_get (D := D) (ci := 12) (v := .ref mt) (C := RX12) (T := TX12) (N := 139) hx hb hts i_v_c_m_feed_X12 hown hK hP 2 rfl rfl 1 (by decide) (hts (.fieldLink RX12 7 "ScheduleHouseModel" "text" "[B") (by decide +kernel)) (fun _ h9 => h9) gfs21_1 dX12_feed_52 ?_
    refine lv_aload_n hx hb dX12_feed_55 rfl (lv_at hl 1 rfl) ?_
    refine va_get (D := D) (ci := 12) (v := .int 4) (C := RX12) (T := TX12) (N := 139) hx hb hts i_v_c_m_feed_X12 hown hK hP 2 rfl rfl 2 (by decide) (hts (.fieldLink RX12 319 "ScheduleHouseModel" "size" "I") (by decide +kernel)) (fun _ h9 => h9) gfs21_2 dX12_feed_56 ?_
    refine lv_lload_n hx hb dX12_feed_59 rfl (lv_at hl 3 rfl) ?_
    refine lv_bipush (v := 8) hx hb dX12_feed_60 (by decide +kernel) ?_
    refine lv_iload hx hb dX12_feed_62 (lv_at hl 0 rfl) ?_
    refine lv_imul hx hb dX12_feed_64 ?_
    rw [show (8 * 4 : Int32) = 32 by decide]
    obtain ⟨z22, hz22⟩ : ∃ z : Int64, z = p1 >>> ((32 : Int32).toInt64 &&& 63) := ⟨_, rfl⟩
    refine lv_lshr (v := z22) hx hb dX12_feed_65 hz22.symm ?_
    obtain ⟨b23, hb23⟩ : ∃ z : Int32, z = z22.toInt32 := ⟨_, rfl⟩
    refine lv_l2i (v := b23) hx hb dX12_feed_66 hb23.symm ?_
    refine lv_i2b (v := b23.toInt8.toInt32) hx hb dX12_feed_67 rfl ?_
    refine va_bast hx hb hK hP hD hS 0 0 rfl rfl (i := 4) (x := b23.toInt8.toInt32) (by unfold vp_in; decide) dX12_feed_68 (fun H locs hP hD hS => ?_)
    obtain ⟨fy24, hfy24⟩ : ∃ z : Nat → Int32, z = upd fy20 (4 : Int32).toNatClampNeg (vp_nar .byte b23.toInt8.toInt32) := ⟨_, rfl⟩
    have hP : va_P D vwCl [(mt, .inl (cm, 3000, .inl fy24)), (wt, .inl (cw, 2, .inl (fun _ => 0))), (h0, .inr (12, fs21))] H := by rw [hfy24]; exact hP
    have hD : va_D A [(mt, .inl (cm, 3000, .inl fy24)), (wt, .inl (cw, 2, .inl (fun _ => 0))), (h0, .inr (12, fs21))] := by rw [hfy24]; exact hD
    refine lv_aload_n hx hb dX12_feed_69 rfl (lv_at hl 1 rfl) ?_
    refine lv_dup hx hb dX12_feed_70 rfl ?_
    refine va_get (D := D) (ci := 12) (v := .int 4) (C := RX12) (T := TX12) (N := 139) hx hb hts i_v_c_m_feed_X12 hown hK hP 2 rfl rfl 2 (by decide) (hts (.fieldLink RX12 319 "ScheduleHouseModel" "size" "I") (by decide +kernel)) (fun _ h9 => h9) gfs21_2 dX12_feed_71 ?_
    refine lv_iconst (v := 1) hx hb dX12_feed_74 (by decide +kernel) ?_
    refine lv_iadd hx hb dX12_feed_75 ?_
    rw [show (4 + 1 : Int32) = 5 by decide]
    refine va_put (D := D) (ci := 12) (v := .int 5) (ty := .int) (C := RX12) (T := TX12) (N := 139) hx hb hts i_v_c_m_feed_X12 tyX12 tyX12_ok nmX12 hown hK hP hD hS 2 rfl rfl 2 (by decide) (hts (.fieldLink RX12 319 "ScheduleHouseModel" "size" "I") (by decide +kernel)) (fun _ h9 => h9) rfl (by decide +kernel) rfl rfl (by rw [lfs21]; decide) dX12_feed_76 (fun H locs hP hD hS => ?_)
    obtain ⟨fs25, hfs25⟩ : ∃ z, z = fs21.set 2 (.int 5) := ⟨_, rfl⟩
    rw [← hfs25] at hP hD
    have lfs25 : fs25.length = 139 := by rw [hfs25, List.length_set]; exact lfs21
    have gfs25_118 : fs25[118]? = some (.ref wt) := by rw [hfs25, List.getElem?_set_ne (by decide)]; exact gfs21_118
    have gfs25_1 : fs25[1]? = some (.ref mt) := by rw [hfs25, List.getElem?_set_ne (by decide)]; exact gfs21_1
    have gfs25_0 : fs25[0]? = some (.int 0) := by rw [hfs25, List.getElem?_set_ne (by decide)]; exact gfs21_0
    have gfs25_2 : fs25[2]? = some (.int 5) := by rw [hfs25]; exact List.getElem?_set_self (by rw [lfs21]; decide)
    have hP : va_P D vwCl [(mt, .inl (cm, 3000, .inl fy24)), (wt, .inl (cw, 2, .inl (fun _ => 0))), (h0, .inr (12, fs25))] H := hP
    have hD : va_D A [(mt, .inl (cm, 3000, .inl fy24)), (wt, .inl (cw, 2, .inl (fun _ => 0))), (h0, .inr (12, fs25))] := hD
    refine lv_iinc (v := 5) (lv' := [(4, .int 5), (0, .ref h0), (1, .int 7), (2, .long p1)]) hx hb dX12_feed_79 hl (k := 0) rfl (by decide) (by decide) rfl (fun ls hl => ?_)
    refine lv_goto (tgt := 45) hx hb dX12_feed_82 (by decide) ?_
    refine lv_iload hx hb dX12_feed_45 (lv_at hl 0 rfl) ?_
    refine lv_iload_n hx hb dX12_feed_47 rfl (lv_at hl 2 rfl) ?_
    refine lv_icmp_ge (tgt := 85) hx hb dX12_feed_48 (by decide) (fun c9 => False.elim (by revert c9; decide)) (fun _ => ?_)
    refine lv_aload_n hx hb dX12_feed_51 rfl (lv_at hl 1 rfl) ?_
    refine va_get (D := D) (ci := 12) (v := .ref mt) (C := RX12) (T := TX12) (N := 139) hx hb hts i_v_c_m_feed_X12 hown hK hP 2 rfl rfl 1 (by decide) (hts (.fieldLink RX12 7 "ScheduleHouseModel" "text" "[B") (by decide +kernel)) (fun _ h9 => h9) gfs25_1 dX12_feed_52 ?_
    refine lv_aload_n hx hb dX12_feed_55 rfl (lv_at hl 1 rfl) ?_
    refine va_get (D := D) (ci := 12) (v := .int 5) (C := RX12) (T := TX12) (N := 139) hx hb hts i_v_c_m_feed_X12 hown hK hP 2 rfl rfl 2 (by decide) (hts (.fieldLink RX12 319 "ScheduleHouseModel" "size" "I") (by decide +kernel)) (fun _ h9 => h9) gfs25_2 dX12_feed_56 ?_
    refine lv_lload_n hx hb dX12_feed_59 rfl (lv_at hl 3 rfl) ?_
    refine lv_bipush (v := 8) hx hb dX12_feed_60 (by decide +kernel) ?_
    refine lv_iload hx hb dX12_feed_62 (lv_at hl 0 rfl) ?_
    refine lv_imul hx hb dX12_feed_64 ?_
    rw [show (8 * 5 : Int32) = 40 by decide]
    obtain ⟨z26, hz26⟩ : ∃ z : Int64, z = p1 >>> ((40 : Int32).toInt64 &&& 63) := ⟨_, rfl⟩
    refine lv_lshr (v := z26) hx hb dX12_feed_65 hz26.symm ?_
    obtain ⟨b27, hb27⟩ : ∃ z : Int32, z = z26.toInt32 := ⟨_, rfl⟩
    refine lv_l2i (v := b27) hx hb dX12_feed_66 hb27.symm ?_
    refine lv_i2b (v := b27.toInt8.toInt32) hx hb dX12_feed_67 rfl ?_
    refine va_bast hx hb hK hP hD hS 0 0 rfl rfl (i := 5) (x := b27.toInt8.toInt32) (by unfold vp_in; decide) dX12_feed_68 (fun H locs hP hD hS => ?_)
    obtain ⟨fy28, hfy28⟩ : ∃ z : Nat → Int32, z = upd fy24 (5 : Int32).toNatClampNeg (vp_nar .byte b27.toInt8.toInt32) := ⟨_, rfl⟩
    have hP : va_P D vwCl [(mt, .inl (cm, 3000, .inl fy28)), (wt, .inl (cw, 2, .inl (fun _ => 0))), (h0, .inr (12, fs25))] H := by rw [hfy28]; exact hP
    have hD : va_D A [(mt, .inl (cm, 3000, .inl fy28)), (wt, .inl (cw, 2, .inl (fun _ => 0))), (h0, .inr (12, fs25))] := by rw [hfy28]; exact hD
    refine lv_aload_n hx hb dX12_feed_69 rfl (lv_at hl 1 rfl) ?_
    refine lv_dup hx hb dX12_feed_70 rfl ?_
    refine va_get (D := D) (ci := 12) (v := .int 5) (C := RX12) (T := TX12) (N := 139) hx hb hts i_v_c_m_feed_X12 hown hK hP 2 rfl rfl 2 (by decide) (hts (.fieldLink RX12 319 "ScheduleHouseModel" "size" "I") (by decide +kernel)) (fun _ h9 => h9) gfs25_2 dX12_feed_71 ?_
    refine lv_iconst (v := 1) hx hb dX12_feed_74 (by decide +kernel) ?_
    refine lv_iadd hx hb dX12_feed_75 ?_
    rw [show (5 + 1 : Int32) = 6 by decide]
    refine va_put (D := D) (ci := 12) (v := .int 6) (ty := .int) (C := RX12) (T := TX12) (N := 139) hx hb hts i_v_c_m_feed_X12 tyX12 tyX12_ok nmX12 hown hK hP hD hS 2 rfl rfl 2 (by decide) (hts (.fieldLink RX12 319 "ScheduleHouseModel" "size" "I") (by decide +kernel)) (fun _ h9 => h9) rfl (by decide +kernel) rfl rfl (by rw [lfs25]; decide) dX12_feed_76 (fun H locs hP hD hS => ?_)
    obtain ⟨fs29, hfs29⟩ : ∃ z, z = fs25.set 2 (.int 6) := ⟨_, rfl⟩
    rw [← hfs29] at hP hD
    have lfs29 : fs29.length = 139 := by rw [hfs29, List.length_set]; exact lfs25
    have gfs29_118 : fs29[118]? = some (.ref wt) := by rw [hfs29, List.getElem?_set_ne (by decide)]; exact gfs25_118
    have gfs29_1 : fs29[1]? = some (.ref mt) := by rw [hfs29, List.getElem?_set_ne (by decide)]; exact gfs25_1
    have gfs29_0 : fs29[0]? = some (.int 0) := by rw [hfs29, List.getElem?_set_ne (by decide)]; exact gfs25_0
    have gfs29_2 : fs29[2]? = some (.int 6) := by rw [hfs29]; exact List.getElem?_set_self (by rw [lfs25]; decide)
    have hP : va_P D vwCl [(mt, .inl (cm, 3000, .inl fy28)), (wt, .inl (cw, 2, .inl (fun _ => 0))), (h0, .inr (12, fs29))] H := hP
    have hD : va_D A [(mt, .inl (cm, 3000, .inl fy28)), (wt, .inl (cw, 2, .inl (fun _ => 0))), (h0, .inr (12, fs29))] := hD
    refine lv_iinc (v := 6) (lv' := [(4, .int 6), (0, .ref h0), (1, .int 7), (2, .long p1)]) hx hb dX12_feed_79 hl (k := 0) rfl (by decide) (by decide) rfl (fun ls hl => ?_)
    refine lv_goto (tgt := 45) hx hb dX12_feed_82 (by decide) ?_
    refine lv_iload hx hb dX12_feed_45 (lv_at hl 0 rfl) ?_
    refine lv_iload_n hx hb dX12_feed_47 rfl (lv_at hl 2 rfl) ?_
    refine lv_icmp_ge (tgt := 85) hx hb dX12_feed_48 (by decide) (fun c9 => False.elim (by revert c9; decide)) (fun _ => ?_)
    refine lv_aload_n hx hb dX12_feed_51 rfl (lv_at hl 1 rfl) ?_
    refine va_get (D := D) (ci := 12) (v := .ref mt) (C := RX12) (T := TX12) (N := 139) hx hb hts i_v_c_m_feed_X12 hown hK hP 2 rfl rfl 1 (by decide) (hts (.fieldLink RX12 7 "ScheduleHouseModel" "text" "[B") (by decide +kernel)) (fun _ h9 => h9) gfs29_1 dX12_feed_52 ?_
    refine lv_aload_n hx hb dX12_feed_55 rfl (lv_at hl 1 rfl) ?_
    refine va_get (D := D) (ci := 12) (v := .int 6) (C := RX12) (T := TX12) (N := 139) hx hb hts i_v_c_m_feed_X12 hown hK hP 2 rfl rfl 2 (by decide) (hts (.fieldLink RX12 319 "ScheduleHouseModel" "size" "I") (by decide +kernel)) (fun _ h9 => h9) gfs29_2 dX12_feed_56 ?_
    refine lv_lload_n hx hb dX12_feed_59 rfl (lv_at hl 3 rfl) ?_
    refine lv_bipush (v := 8) hx hb dX12_feed_60 (by decide +kernel) ?_
    refine lv_iload hx hb dX12_feed_62 (lv_at hl 0 rfl) ?_
    refine lv_imul hx hb dX12_feed_64 ?_
    rw [show (8 * 6 : Int32) = 48 by decide]
    obtain ⟨z30, hz30⟩ : ∃ z : Int64, z = p1 >>> ((48 : Int32).toInt64 &&& 63) := ⟨_, rfl⟩
    refine lv_lshr (v := z30) hx hb dX12_feed_65 hz30.symm ?_
    obtain ⟨b31, hb31⟩ : ∃ z : Int32, z = z30.toInt32 := ⟨_, rfl⟩
    refine lv_l2i (v := b31) hx hb dX12_feed_66 hb31.symm ?_
    refine lv_i2b (v := b31.toInt8.toInt32) hx hb dX12_feed_67 rfl ?_
    refine va_bast hx hb hK hP hD hS 0 0 rfl rfl (i := 6) (x := b31.toInt8.toInt32) (by unfold vp_in; decide) dX12_feed_68 (fun H locs hP hD hS => ?_)
    obtain ⟨fy32, hfy32⟩ : ∃ z : Nat → Int32, z = upd fy28 (6 : Int32).toNatClampNeg (vp_nar .byte b31.toInt8.toInt32) := ⟨_, rfl⟩
    have hP : va_P D vwCl [(mt, .inl (cm, 3000, .inl fy32)), (wt, .inl (cw, 2, .inl (fun _ => 0))), (h0, .inr (12, fs29))] H := by rw [hfy32]; exact hP
    have hD : va_D A [(mt, .inl (cm, 3000, .inl fy32)), (wt, .inl (cw, 2, .inl (fun _ => 0))), (h0, .inr (12, fs29))] := by rw [hfy32]; exact hD
    refine lv_aload_n hx hb dX12_feed_69 rfl (lv_at hl 1 rfl) ?_
    refine lv_dup hx hb dX12_feed_70 rfl ?_
    refine va_get (D := D) (ci := 12) (v := .int 6) (C := RX12) (T := TX12) (N := 139) hx hb hts i_v_c_m_feed_X12 hown hK hP 2 rfl rfl 2 (by decide) (hts (.fieldLink RX12 319 "ScheduleHouseModel" "size" "I") (by decide +kernel)) (fun _ h9 => h9) gfs29_2 dX12_feed_71 ?_
    refine lv_iconst (v := 1) hx hb dX12_feed_74 (by decide +kernel) ?_
    refine lv_iadd hx hb dX12_feed_75 ?_
    rw [show (6 + 1 : Int32) = 7 by decide]
    refine va_put (D := D) (ci := 12) (v := .int 7) (ty := .int) (C := RX12) (T := TX12) (N := 139) hx hb hts i_v_c_m_feed_X12 tyX12 tyX12_ok nmX12 hown hK hP hD hS 2 rfl rfl 2 (by decide) (hts (.fieldLink RX12 319 "ScheduleHouseModel" "size" "I") (by decide +kernel)) (fun _ h9 => h9) rfl (by decide +kernel) rfl rfl (by rw [lfs29]; decide) dX12_feed_76 (fun H locs hP hD hS => ?_)
    obtain ⟨fs33, hfs33⟩ : ∃ z, z = fs29.set 2 (.int 7) := ⟨_, rfl⟩
    rw [← hfs33] at hP hD
    have lfs33 : fs33.length = 139 := by rw [hfs33, List.length_set]; exact lfs29
    have gfs33_118 : fs33[118]? = some (.ref wt) := by rw [hfs33, List.getElem?_set_ne (by decide)]; exact gfs29_118
    have gfs33_1 : fs33[1]? = some (.ref mt) := by rw [hfs33, List.getElem?_set_ne (by decide)]; exact gfs29_1
    have gfs33_0 : fs33[0]? = some (.int 0) := by rw [hfs33, List.getElem?_set_ne (by decide)]; exact gfs29_0
    have gfs33_2 : fs33[2]? = some (.int 7) := by rw [hfs33]; exact List.getElem?_set_self (by rw [lfs29]; decide)
    have hP : va_P D vwCl [(mt, .inl (cm, 3000, .inl fy32)), (wt, .inl (cw, 2, .inl (fun _ => 0))), (h0, .inr (12, fs33))] H := hP
    have hD : va_D A [(mt, .inl (cm, 3000, .inl fy32)), (wt, .inl (cw, 2, .inl (fun _ => 0))), (h0, .inr (12, fs33))] := hD
    refine lv_iinc (v := 7) (lv' := [(4, .int 7), (0, .ref h0), (1, .int 7), (2, .long p1)]) hx hb dX12_feed_79 hl (k := 0) rfl (by decide) (by decide) rfl (fun ls hl => ?_)
    refine lv_goto (tgt := 45) hx hb dX12_feed_82 (by decide) ?_
    refine lv_iload hx hb dX12_feed_45 (lv_at hl 0 rfl) ?_
    refine lv_iload_n hx hb dX12_feed_47 rfl (lv_at hl 2 rfl) ?_
    refine lv_icmp_ge (tgt := 85) hx hb dX12_feed_48 (by decide) (fun _ => ?_) (fun c9 => False.elim (by revert c9; decide))
    refine lv_aload_n hx hb dX12_feed_85 rfl (lv_at hl 1 rfl) ?_
    have hPc := hP.sub (ws' := [(h0, .inr (12, fs33)), (wt, .inl (cw, 2, .inl (fun _ => 0)))]) [2, 1] rfl
    have hDc := hD.sub (ws' := [(h0, .inr (12, fs33)), (wt, .inl (cw, 2, .inl (fun _ => 0)))]) [2, 1] (by decide) rfl
    have hKc := hK.sub (tys' := [(cw, .boolean)]) [1] rfl
    have hFc := va_free (wc := [(h0, .inr (12, fs33)), (wt, .inl (cw, 2, .inl (fun _ => 0)))]) hD hS hA [2, 1] rfl
    refine va_callv (va_runV (As := []) (rest := []) ⟨hx, hb, hml, hown, hts⟩ (c_m_forget l D h0 wt cw fs33 H.size lfs33 gfs33_118) (cwV 0 hts g_v_c_m_feed_4 rfl rfl rfl (by decide +kernel) ⟨Nat.le_of_ble_eq_true rfl, Nat.le_of_ble_eq_true rfl⟩) ⟨st_blind, va_recv hKc hPc (ci := 12) (q0 := 0) rfl rfl, fun U hU hW => ⟨rfl, st_call hU hW hPc hKc hDc hZ hS hFc hE⟩⟩ rfl rfl hl.1 rfl (lv_room (Nat.le_of_ble_eq_true rfl)) dX12_feed_86 ⟨Nat.le_of_ble_eq_true rfl, Nat.le_of_ble_eq_true rfl⟩) hS (fun q _ h => hFc q h) hFc (fun  u34 t H1 locs ht hvm hw hB hz1 hk1 hS => ?_)
    obtain ⟨ku34, tu34, au34, zu34⟩ := hw
    have lu34 : u34.length = 139 := by rw [ku34.1]; exact lfs33
    have gu34_118 : u34[118]? = some (.ref wt) := kp_at ku34 gfs33_118 (by decide)
    have gu34_1 : u34[1]? = some (.ref mt) := kp_at ku34 gfs33_1 (by decide)
    have gu34_0 : u34[0]? = some (.int 0) := kp_at ku34 gfs33_0 (by decide)
    have gu34_2 : u34[2]? = some (.int 7) := kp_at ku34 gfs33_2 (by decide)
    obtain ⟨fy35, hP1, hK1, hD1⟩ := hB
    rw [ht] at hP1
    have hK1 := va_K.moved hvm.symm hK1
    obtain ⟨hP, hD⟩ := va_join (wr := [(mt, .inl (cm, 3000, .inl fy32))]) (w1 := [(h0, .inr (12, u34)), (wt, .inl (cw, 2, .inl fy35))]) hP hD [2, 1] [0] rfl rfl (by decide) (by decide) hk1 hFc hP1 hD1
    have hK := (hK.sub (tys' := [(cm, .byte)]) [0] rfl).app hK1
    generalize H1 = H at hP hS ⊢
    have hP : va_P D vwCl [(mt, .inl (cm, 3000, .inl fy32)), (h0, .inr (12, u34)), (wt, .inl (cw, 2, .inl fy35))] H := hP
    have hD : va_D A [(mt, .inl (cm, 3000, .inl fy32)), (h0, .inr (12, u34)), (wt, .inl (cw, 2, .inl fy35))] := hD
    have hK : va_K D vwCl [(cm, .byte), (cw, .boolean)] s := hK
    refine lv_aload_n hx hb dX12_feed_89 rfl (lv_at hl 1 rfl) ?_
    refine va_get (D := D) (ci := 12) (v := .int 7) (C := RX12) (T := TX12) (N := 139) hx hb hts i_v_c_m_feed_X12 hown hK hP 1 rfl rfl 2 (by decide) (hts (.fieldLink RX12 319 "ScheduleHouseModel" "size" "I") (by decide +kernel)) (fun _ h9 => h9) gu34_2 dX12_feed_90 ?_
    have hP : va_P D vwCl [(h0, .inr (12, u34))] H := hP.sub [1] rfl
    have hD : va_D A [(h0, .inr (12, u34))] := hD.sub [1] (by decide) rfl
    have hK : va_K D vwCl [] s := hK.sub [] rfl
    exact W.iret (v := 7) hx hb hr (fun t ht hW => ⟨⟨7, u34, rfl, ⟨0, gu34_0, Or.inl ⟨rfl, rfl, hi⟩⟩, by rw [ht]; exact hP, va_K.moved hW.alike hK, hD⟩, hS.F ht⟩) hS.2.2 dX12_feed_93
  · subst er2
    exact absurd hi (by decide)
set_option maxHeartbeats 400000 in
set_option maxRecDepth 100000 in
/-- the model's feed(8, ..) -/
theorem c_m_feed_8 (l : Launch) (D : va_G) (h0 mt wt : Nat) (cm cw : ClassId) (fs : List Value) (f0 : Nat → Int32) (p1 : Int64) (sz : Nat) (hlen : fs.length = 139) (hf_thrown : fs[0]? = some (.int 0)) (hf_size : fs[2]? = some (.int 0)) (hf_wasTried : fs[118]? = some (.ref wt)) (hf_text : fs[1]? = some (.ref mt)) : Met l yX12_feed v_c_m_feed ({ frames := 5, cells := 0, slots := 0, locals := 80 }) (va_Pc [.ref h0, .int 8, .long p1] (st_ D [(h0, .inr (12, fs)), (mt, .inl (cm, 3000, .inl f0)), (wt, .inl (cw, 2, .inl (fun _ => 0)))] [(cm, .byte), (cw, .boolean)] sz)) (va_Qi (fun (r : Int32) (u : List Value) => ∃ t : Int32, u[0]? = some (.int t) ∧ ((t = 0 ∧ r = (8 : Int32) ∧ (¬ (8 : Int32) < 1 ∧ ¬ 8 < (8 : Int32))) ∨ (t = 1 ∧ ((8 : Int32) < 1 ∨ 8 < (8 : Int32))) ∨ (t = 2 ∧ False))) (fun u t => va_P D vwCl [(h0, .inr (12, u))] t.heap ∧ va_K D vwCl [] t ∧ va_D (va_A [(h0, .inr (12, fs)), (mt, .inl (cm, 3000, .inl f0)), (wt, .inl (cw, 2, .inl (fun _ => 0)))] sz) [(h0, .inr (12, u))]) (va_A [(h0, .inr (12, fs)), (mt, .inl (cm, 3000, .inl f0)), (wt, .inl (cw, 2, .inl (fun _ => 0)))] sz)) 0 0 (va_A [(h0, .inr (12, fs)), (mt, .inl (cm, 3000, .inl f0)), (wt, .inl (cw, 2, .inl (fun _ => 0)))] sz) := by
  refine Met.ofW (cc := cX12_feed) (maxL := 5) (ret := (some .int)) (by decide) rfl ?_
  intro p e s m args below meth c s₁ B hml hv
  obtain ⟨rfl, hsz, hP, hK, hD0, hZ, hE⟩ := hv
  have hx := B.exec
  have hb := B.bytes
  have hr := B.returns
  have hts := atoms_spec (ws := v_c_m_feed) B.pre
  have hown : s.vm.findClass RX12 = some m.cls := findClass_of_methodNamed B.named
  have hlocks := B.notSynchronized
  subst hsz
  have hD := hD0.self (sz := s.heap.size)
  generalize hAe : va_A [(h0, .inr (12, fs)), (mt, .inl (cm, 3000, .inl f0)), (wt, .inl (cw, 2, .inl (fun _ => 0)))] s.heap.size = A at hD hZ ⊢
  have hA : ∀ q : Nat, s.heap.size ≤ q → A q := fun q h => by rw [← hAe]; exact Or.inr h
  have hS : va_S A s.heap s.heap [] := va_S.rf
  have hAO := hE.2.2.2.1
  have hP : va_P D vwCl [(h0, .inr (12, fs)), (mt, .inl (cm, 3000, .inl f0)), (wt, .inl (cw, 2, .inl (fun _ => 0)))] s.heap := hP
  have hl := lv_entry ([.ref h0, .int 8, .long p1]) (n := 5) (Nat.le_of_ble_eq_true rfl)
  rw [lg_entry_eq]
  generalize (lg_sl ([.ref h0, .int 8, .long p1]) ++ List.replicate (5 - (lg_sl ([.ref h0, .int 8, .long p1])).length) Slot.unset).toArray = ls at hl ⊢
  have hl : lv_has ls 5 [(0, .ref h0), (1, .int 8), (2, .long p1)] := hl
  refine lv_aload_n hx hb dX12_feed_0 rfl (lv_at hl 0 rfl) ?_
  refine lv_iconst (v := 0) hx hb dX12_feed_1 (by decide +kernel) ?_
  refine va_put (D := D) (ci := 12) (v := .int 0) (ty := .int) (C := RX12) (T := TX12) (N := 139) hx hb hts i_v_c_m_feed_X12 tyX12 tyX12_ok nmX12 hown hK hP hD hS 0 rfl rfl 0 (by decide) (hts (.fieldLink RX12 316 "ScheduleHouseModel" "thrown" "I") (by decide +kernel)) (fun _ h9 => h9) rfl (by decide +kernel) rfl rfl (by rw [hlen]; decide) dX12_feed_2 (fun H locs hP hD hS => ?_)
  obtain ⟨fs1, hfs1⟩ : ∃ z, z = fs.set 0 (.int 0) := ⟨_, rfl⟩
  rw [← hfs1] at hP hD
  have lfs1 : fs1.length = 139 := by rw [hfs1, List.length_set]; exact hlen
  have gfs1_2 : fs1[2]? = some (.int 0) := by rw [hfs1, List.getElem?_set_ne (by decide)]; exact hf_size
  have gfs1_118 : fs1[118]? = some (.ref wt) := by rw [hfs1, List.getElem?_set_ne (by decide)]; exact hf_wasTried
  have gfs1_1 : fs1[1]? = some (.ref mt) := by rw [hfs1, List.getElem?_set_ne (by decide)]; exact hf_text
  have gfs1_0 : fs1[0]? = some (.int 0) := by rw [hfs1]; exact List.getElem?_set_self (by rw [hlen]; decide)
  have hP : va_P D vwCl [(h0, .inr (12, fs1)), (mt, .inl (cm, 3000, .inl f0)), (wt, .inl (cw, 2, .inl (fun _ => 0)))] H := hP
  have hD : va_D A [(h0, .inr (12, fs1)), (mt, .inl (cm, 3000, .inl f0)), (wt, .inl (cw, 2, .inl (fun _ => 0)))] := hD
  refine lv_aload_n hx hb dX12_feed_5 rfl (lv_at hl 0 rfl) ?_
  refine lv_iload_n hx hb dX12_feed_6 rfl (lv_at hl 1 rfl) ?_
  refine lv_iconst (v := 1) hx hb dX12_feed_7 (by decide +kernel) ?_
  refine lv_bipush (v := 8) hx hb dX12_feed_8 (by decide +kernel) ?_
  have hPc := hP.sub (ws' := []) [] rfl
  have hDc := hD.sub (ws' := []) [] (by decide) rfl
  have hKc := hK.sub (tys' := []) [] rfl
  have hFc := va_free (wc := []) hD hS hA [] rfl
  refine va_calli (va_runS (As := [.int 8, .int 1, .int 8]) (rest := [.ref h0]) ⟨hx, hb, hml, hown, hts⟩ (c_m_in l D 8 1 8 H.size) (va_cwS 3 hts g_v_c_m_feed_1 rfl rfl rfl (by decide +kernel) ⟨Nat.le_of_ble_eq_true rfl, Nat.le_of_ble_eq_true rfl⟩) ⟨st_blind, fun U hU hW => ⟨rfl, st_call hU hW hPc hKc hDc hZ hS hFc hE⟩⟩ rfl rfl hl.1 rfl (lv_room (Nat.le_of_ble_eq_true rfl)) dX12_feed_10 ⟨Nat.le_of_ble_eq_true rfl, Nat.le_of_ble_eq_true rfl⟩) hS (fun q _ h => hFc q h) hFc (fun r2 u3 t H1 locs ht hvm hw hB hz1 hk1 hS => ?_)
  obtain ⟨hP, hD⟩ := va_join (wr := [(h0, .inr (12, fs1)), (mt, .inl (cm, 3000, .inl f0)), (wt, .inl (cw, 2, .inl (fun _ => 0)))]) (w1 := []) hP hD [] [0, 1, 2] rfl rfl (by decide) (by decide) hk1 hFc p_nil d_nil
  generalize H1 = H at hP hS ⊢
  have hP : va_P D vwCl [(h0, .inr (12, fs1)), (mt, .inl (cm, 3000, .inl f0)), (wt, .inl (cw, 2, .inl (fun _ => 0)))] H := hP
  have hD : va_D A [(h0, .inr (12, fs1)), (mt, .inl (cm, 3000, .inl f0)), (wt, .inl (cw, 2, .inl (fun _ => 0)))] := hD
  rcases hw with ⟨er2, hi⟩ | ⟨er2, hi⟩
  · subst er2
    refine lv_if_eq (tgt := 28) hx hb dX12_feed_13 (by decide) (fun c9 => False.elim (by revert c9; decide)) (fun _ => ?_)
    refine lv_aload_n hx hb dX12_feed_16 rfl (lv_at hl 0 rfl) ?_
    refine va_get (D := D) (ci := 12) (v := .int 0) (C := RX12) (T := TX12) (N := 139) hx hb hts i_v_c_m_feed_X12 hown hK hP 0 rfl rfl 2 (by decide) (hts (.fieldLink RX12 319 "ScheduleHouseModel" "size" "I") (by decide +kernel)) (fun _ h9 => h9) gfs1_2 dX12_feed_17 ?_
    refine lv_iload_n hx hb dX12_feed_20 rfl (lv_at hl 1 rfl) ?_
    refine lv_iadd hx hb dX12_feed_21 ?_
    rw [show (0 + 8 : Int32) = 8 by decide]
    refine lv_sipush (v := 3000) hx hb dX12_feed_22 (by decide +kernel) ?_
    refine lv_icmp_le (tgt := 32) hx hb dX12_feed_25 (by decide) (fun _ => ?_) (fun c9 => False.elim (by revert c9; decide))
    refine lv_iconst (v := 0) hx hb dX12_feed_32 (by decide +kernel) ?_
    refine lv_iconst (v := 1) hx hb dX12_feed_33 (by decide +kernel) ?_
    have hPc := hP.sub (ws' := [(h0, .inr (12, fs1))]) [0] rfl
    have hDc := hD.sub (ws' := [(h0, .inr (12, fs1))]) [0] (by decide) rfl
    have hKc := hK.sub (tys' := []) [] rfl
    have hFc := va_free (wc := [(h0, .inr (12, fs1))]) hD hS hA [0] rfl
    refine va_calli (va_runV (As := [.int 0, .int 1]) (rest := []) ⟨hx, hb, hml, hown, hts⟩ (c_m_refuses_no l D h0 fs1 1 H.size lfs1 gfs1_0) (cwV 2 hts g_v_c_m_feed_3 rfl rfl rfl (by decide +kernel) ⟨Nat.le_of_ble_eq_true rfl, Nat.le_of_ble_eq_true rfl⟩) ⟨st_blind, va_recv hKc hPc (ci := 12) (q0 := 0) rfl rfl, fun U hU hW => ⟨rfl, st_call hU hW hPc hKc hDc hZ hS hFc hE⟩⟩ rfl rfl hl.1 rfl (lv_room (Nat.le_of_ble_eq_true rfl)) dX12_feed_34 ⟨Nat.le_of_ble_eq_true rfl, Nat.le_of_ble_eq_true rfl⟩) hS (fun q _ h => hFc q h) hFc (fun r4 u5 t H1 locs ht hvm hw hB hz1 hk1 hS => ?_)
    obtain ⟨er4, eu5⟩ := hw
    rw [eu5] at hB
    obtain ⟨hP1, hK1, hD1⟩ := hB
    rw [ht] at hP1
    have hK1 := va_K.moved hvm.symm hK1
    obtain ⟨hP, hD⟩ := va_join (wr := [(mt, .inl (cm, 3000, .inl f0)), (wt, .inl (cw, 2, .inl (fun _ => 0)))]) (w1 := [(h0, .inr (12, fs1))]) hP hD [0] [1, 2] rfl rfl (by decide) (by decide) hk1 hFc hP1 hD1
    have hK := (hK.sub (tys' := [(cm, .byte), (cw, .boolean)]) [0, 1] rfl).app hK1
    generalize H1 = H at hP hS ⊢
    have hP : va_P D vwCl [(mt, .inl (cm, 3000, .inl f0)), (wt, .inl (cw, 2, .inl (fun _ => 0))), (h0, .inr (12, fs1))] H := hP
    have hD : va_D A [(mt, .inl (cm, 3000, .inl f0)), (wt, .inl (cw, 2, .inl (fun _ => 0))), (h0, .inr (12, fs1))] := hD
    have hK : va_K D vwCl [(cm, .byte), (cw, .boolean)] s := hK
    subst er4
    refine lv_if_eq (tgt := 42) hx hb dX12_feed_37 (by decide) (fun _ => ?_) (fun c9 => False.elim (by revert c9; decide))
    refine lv_iconst (v := 0) hx hb dX12_feed_42 (by decide +kernel) ?_
    refine lv_istore (lv' := [(4, .int 0), (0, .ref h0), (1, .int 8), (2, .long p1)]) hx hb dX12_feed_43 hl (by decide) rfl (fun ls hl => ?_)
    refine lv_iload hx hb dX12_feed_45 (lv_at hl 0 rfl) ?_
    refine lv_iload_n hx hb dX12_feed_47 rfl (lv_at hl 2 rfl) ?_
    refine lv_icmp_ge (tgt := 85) hx hb dX12_feed_48 (by decide) (fun c9 => False.elim (by revert c9; decide)) (fun _ => ?_)
    refine lv_aload_n hx hb dX12_feed_51 rfl (lv_at hl 1 rfl) ?_
    refine va_get (D := D) (ci := 12) (v := .ref mt) (C := RX12) (T := TX12) (N := 139) hx hb hts i_v_c_m_feed_X12 hown hK hP 2 rfl rfl 1 (by decide) (hts (.fieldLink RX12 7 "ScheduleHouseModel" "text" "[B") (by decide +kernel)) (fun _ h9 => h9) gfs1_1 dX12_feed_52 ?_
    refine lv_aload_n hx hb dX12_feed_55 rfl (lv_at hl 1 rfl) ?_
    refine va_get (D := D) (ci := 12) (v := .int 0) (C := RX12) (T := TX12) (N := 139) hx hb hts i_v_c_m_feed_X12 hown hK hP 2 rfl rfl 2 (by decide) (hts (.fieldLink RX12 319 "ScheduleHouseModel" "size" "I") (by decide +kernel)) (fun _ h9 => h9) gfs1_2 dX12_feed_56 ?_
    refine lv_lload_n hx hb dX12_feed_59 rfl (lv_at hl 3 rfl) ?_
    refine lv_bipush (v := 8) hx hb dX12_feed_60 (by decide +kernel) ?_
    refine lv_iload hx hb dX12_feed_62 (lv_at hl 0 rfl) ?_
    refine lv_imul hx hb dX12_feed_64 ?_
    rw [show (8 * 0 : Int32) = 0 by decide]
    obtain ⟨z6, hz6⟩ : ∃ z : Int64, z = p1 >>> ((0 : Int32).toInt64 &&& 63) := ⟨_, rfl⟩
    refine lv_lshr (v := z6) hx hb dX12_feed_65 hz6.symm ?_
    obtain ⟨b7, hb7⟩ : ∃ z : Int32, z = z6.toInt32 := ⟨_, rfl⟩
    refine lv_l2i (v := b7) hx hb dX12_feed_66 hb7.symm ?_
    refine lv_i2b (v := b7.toInt8.toInt32) hx hb dX12_feed_67 rfl ?_
    refine va_bast hx hb hK hP hD hS 0 0 rfl rfl (i := 0) (x := b7.toInt8.toInt32) (by unfold vp_in; decide) dX12_feed_68 (fun H locs hP hD hS => ?_)
    obtain ⟨fy8, hfy8⟩ : ∃ z : Nat → Int32, z = upd f0 (0 : Int32).toNatClampNeg (vp_nar .byte b7.toInt8.toInt32) := ⟨_, rfl⟩
    have hP : va_P D vwCl [(mt, .inl (cm, 3000, .inl fy8)), (wt, .inl (cw, 2, .inl (fun _ => 0))), (h0, .inr (12, fs1))] H := by rw [hfy8]; exact hP
    have hD : va_D A [(mt, .inl (cm, 3000, .inl fy8)), (wt, .inl (cw, 2, .inl (fun _ => 0))), (h0, .inr (12, fs1))] := by rw [hfy8]; exact hD
    refine lv_aload_n hx hb dX12_feed_69 rfl (lv_at hl 1 rfl) ?_
    refine lv_dup hx hb dX12_feed_70 rfl ?_
    refine va_get (D := D) (ci := 12) (v := .int 0) (C := RX12) (T := TX12) (N := 139) hx hb hts i_v_c_m_feed_X12 hown hK hP 2 rfl rfl 2 (by decide) (hts (.fieldLink RX12 319 "ScheduleHouseModel" "size" "I") (by decide +kernel)) (fun _ h9 => h9) gfs1_2 dX12_feed_71 ?_
    refine lv_iconst (v := 1) hx hb dX12_feed_74 (by decide +kernel) ?_
    refine lv_iadd hx hb dX12_feed_75 ?_
    rw [show (0 + 1 : Int32) = 1 by decide]
    refine va_put (D := D) (ci := 12) (v := .int 1) (ty := .int) (C := RX12) (T := TX12) (N := 139) hx hb hts i_v_c_m_feed_X12 tyX12 tyX12_ok nmX12 hown hK hP hD hS 2 rfl rfl 2 (by decide) (hts (.fieldLink RX12 319 "ScheduleHouseModel" "size" "I") (by decide +kernel)) (fun _ h9 => h9) rfl (by decide +kernel) rfl rfl (by rw [lfs1]; decide) dX12_feed_76 (fun H locs hP hD hS => ?_)
    obtain ⟨fs9, hfs9⟩ : ∃ z, z = fs1.set 2 (.int 1) := ⟨_, rfl⟩
    rw [← hfs9] at hP hD
    have lfs9 : fs9.length = 139 := by rw [hfs9, List.length_set]; exact lfs1
    have gfs9_118 : fs9[118]? = some (.ref wt) := by rw [hfs9, List.getElem?_set_ne (by decide)]; exact gfs1_118
    have gfs9_1 : fs9[1]? = some (.ref mt) := by rw [hfs9, List.getElem?_set_ne (by decide)]; exact gfs1_1
    have gfs9_0 : fs9[0]? = some (.int 0) := by rw [hfs9, List.getElem?_set_ne (by decide)]; exact gfs1_0
    have gfs9_2 : fs9[2]? = some (.int 1) := by rw [hfs9]; exact List.getElem?_set_self (by rw [lfs1]; decide)
    have hP : va_P D vwCl [(mt, .inl (cm, 3000, .inl fy8)), (wt, .inl (cw, 2, .inl (fun _ => 0))), (h0, .inr (12, fs9))] H := hP
    have hD : va_D A [(mt, .inl (cm, 3000, .inl fy8)), (wt, .inl (cw, 2, .inl (fun _ => 0))), (h0, .inr (12, fs9))] := hD
    refine lv_iinc (v := 1) (lv' := [(4, .int 1), (0, .ref h0), (1, .int 8), (2, .long p1)]) hx hb dX12_feed_79 hl (k := 0) rfl (by decide) (by decide) rfl (fun ls hl => ?_)
    refine lv_goto (tgt := 45) hx hb dX12_feed_82 (by decide) ?_
    refine lv_iload hx hb dX12_feed_45 (lv_at hl 0 rfl) ?_
    refine lv_iload_n hx hb dX12_feed_47 rfl (lv_at hl 2 rfl) ?_
    refine lv_icmp_ge (tgt := 85) hx hb dX12_feed_48 (by decide) (fun c9 => False.elim (by revert c9; decide)) (fun _ => ?_)
    refine lv_aload_n hx hb dX12_feed_51 rfl (lv_at hl 1 rfl) ?_
    refine va_get (D := D) (ci := 12) (v := .ref mt) (C := RX12) (T := TX12) (N := 139) hx hb hts i_v_c_m_feed_X12 hown hK hP 2 rfl rfl 1 (by decide) (hts (.fieldLink RX12 7 "ScheduleHouseModel" "text" "[B") (by decide +kernel)) (fun _ h9 => h9) gfs9_1 dX12_feed_52 ?_
    refine lv_aload_n hx hb dX12_feed_55 rfl (lv_at hl 1 rfl) ?_
    refine va_get (D := D) (ci := 12) (v := .int 1) (C := RX12) (T := TX12) (N := 139) hx hb hts i_v_c_m_feed_X12 hown hK hP 2 rfl rfl 2 (by decide) (hts (.fieldLink RX12 319 "ScheduleHouseModel" "size" "I") (by decide +kernel)) (fun _ h9 => h9) gfs9_2 dX12_feed_56 ?_
    refine lv_lload_n hx hb dX12_feed_59 rfl (lv_at hl 3 rfl) ?_
    refine lv_bipush (v := 8) hx hb dX12_feed_60 (by decide +kernel) ?_
    refine lv_iload hx hb dX12_feed_62 (lv_at hl 0 rfl) ?_
    refine lv_imul hx hb dX12_feed_64 ?_
    rw [show (8 * 1 : Int32) = 8 by decide]
    obtain ⟨z10, hz10⟩ : ∃ z : Int64, z = p1 >>> ((8 : Int32).toInt64 &&& 63) := ⟨_, rfl⟩
    refine lv_lshr (v := z10) hx hb dX12_feed_65 hz10.symm ?_
    obtain ⟨b11, hb11⟩ : ∃ z : Int32, z = z10.toInt32 := ⟨_, rfl⟩
    refine lv_l2i (v := b11) hx hb dX12_feed_66 hb11.symm ?_
    refine lv_i2b (v := b11.toInt8.toInt32) hx hb dX12_feed_67 rfl ?_
    refine va_bast hx hb hK hP hD hS 0 0 rfl rfl (i := 1) (x := b11.toInt8.toInt32) (by unfold vp_in; decide) dX12_feed_68 (fun H locs hP hD hS => ?_)
    obtain ⟨fy12, hfy12⟩ : ∃ z : Nat → Int32, z = upd fy8 (1 : Int32).toNatClampNeg (vp_nar .byte b11.toInt8.toInt32) := ⟨_, rfl⟩
    have hP : va_P D vwCl [(mt, .inl (cm, 3000, .inl fy12)), (wt, .inl (cw, 2, .inl (fun _ => 0))), (h0, .inr (12, fs9))] H := by rw [hfy12]; exact hP
    have hD : va_D A [(mt, .inl (cm, 3000, .inl fy12)), (wt, .inl (cw, 2, .inl (fun _ => 0))), (h0, .inr (12, fs9))] := by rw [hfy12]; exact hD
    refine lv_aload_n hx hb dX12_feed_69 rfl (lv_at hl 1 rfl) ?_
    refine lv_dup hx hb dX12_feed_70 rfl ?_
    refine va_get (D := D) (ci := 12) (v := .int 1) (C := RX12) (T := TX12) (N := 139) hx hb hts i_v_c_m_feed_X12 hown hK hP 2 rfl rfl 2 (by decide) (hts (.fieldLink RX12 319 "ScheduleHouseModel" "size" "I") (by decide +kernel)) (fun _ h9 => h9) gfs9_2 dX12_feed_71 ?_
    refine lv_iconst (v := 1) hx hb dX12_feed_74 (by decide +kernel) ?_
    refine lv_iadd hx hb dX12_feed_75 ?_
    rw [show (1 + 1 : Int32) = 2 by decide]
    refine va_put (D := D) (ci := 12) (v := .int 2) (ty := .int) (C := RX12) (T := TX12) (N := 139) hx hb hts i_v_c_m_feed_X12 tyX12 tyX12_ok nmX12 hown hK hP hD hS 2 rfl rfl 2 (by decide) (hts (.fieldLink RX12 319 "ScheduleHouseModel" "size" "I") (by decide +kernel)) (fun _ h9 => h9) rfl (by decide +kernel) rfl rfl (by rw [lfs9]; decide) dX12_feed_76 (fun H locs hP hD hS => ?_)
    obtain ⟨fs13, hfs13⟩ : ∃ z, z = fs9.set 2 (.int 2) := ⟨_, rfl⟩
    rw [← hfs13] at hP hD
    have lfs13 : fs13.length = 139 := by rw [hfs13, List.length_set]; exact lfs9
    have gfs13_118 : fs13[118]? = some (.ref wt) := by rw [hfs13, List.getElem?_set_ne (by decide)]; exact gfs9_118
    have gfs13_1 : fs13[1]? = some (.ref mt) := by rw [hfs13, List.getElem?_set_ne (by decide)]; exact gfs9_1
    have gfs13_0 : fs13[0]? = some (.int 0) := by rw [hfs13, List.getElem?_set_ne (by decide)]; exact gfs9_0
    have gfs13_2 : fs13[2]? = some (.int 2) := by rw [hfs13]; exact List.getElem?_set_self (by rw [lfs9]; decide)
    have hP : va_P D vwCl [(mt, .inl (cm, 3000, .inl fy12)), (wt, .inl (cw, 2, .inl (fun _ => 0))), (h0, .inr (12, fs13))] H := hP
    have hD : va_D A [(mt, .inl (cm, 3000, .inl fy12)), (wt, .inl (cw, 2, .inl (fun _ => 0))), (h0, .inr (12, fs13))] := hD
    refine lv_iinc (v := 2) (lv' := [(4, .int 2), (0, .ref h0), (1, .int 8), (2, .long p1)]) hx hb dX12_feed_79 hl (k := 0) rfl (by decide) (by decide) rfl (fun ls hl => ?_)
    refine lv_goto (tgt := 45) hx hb dX12_feed_82 (by decide) ?_
    refine lv_iload hx hb dX12_feed_45 (lv_at hl 0 rfl) ?_
    refine lv_iload_n hx hb dX12_feed_47 rfl (lv_at hl 2 rfl) ?_
    refine lv_icmp_ge (tgt := 85) hx hb dX12_feed_48 (by decide) (fun c9 => False.elim (by revert c9; decide)) (fun _ => ?_)
    refine lv_aload_n hx hb dX12_feed_51 rfl (lv_at hl 1 rfl) ?_
    refine va_get (D := D) (ci := 12) (v := .ref mt) (C := RX12) (T := TX12) (N := 139) hx hb hts i_v_c_m_feed_X12 hown hK hP 2 rfl rfl 1 (by decide) (hts (.fieldLink RX12 7 "ScheduleHouseModel" "text" "[B") (by decide +kernel)) (fun _ h9 => h9) gfs13_1 dX12_feed_52 ?_
    refine lv_aload_n hx hb dX12_feed_55 rfl (lv_at hl 1 rfl) ?_
    refine va_get (D := D) (ci := 12) (v := .int 2) (C := RX12) (T := TX12) (N := 139) hx hb hts i_v_c_m_feed_X12 hown hK hP 2 rfl rfl 2 (by decide) (hts (.fieldLink RX12 319 "ScheduleHouseModel" "size" "I") (by decide +kernel)) (fun _ h9 => h9) gfs13_2 dX12_feed_56 ?_
    refine lv_lload_n hx hb dX12_feed_59 rfl (lv_at hl 3 rfl) ?_
    refine lv_bipush (v := 8) hx hb dX12_feed_60 (by decide +kernel) ?_
    refine lv_iload hx hb dX12_feed_62 (lv_at hl 0 rfl) ?_
    refine lv_imul hx hb dX12_feed_64 ?_
    rw [show (8 * 2 : Int32) = 16 by decide]
    obtain ⟨z14, hz14⟩ : ∃ z : Int64, z = p1 >>> ((16 : Int32).toInt64 &&& 63) := ⟨_, rfl⟩
    refine lv_lshr (v := z14) hx hb dX12_feed_65 hz14.symm ?_
    obtain ⟨b15, hb15⟩ : ∃ z : Int32, z = z14.toInt32 := ⟨_, rfl⟩
    refine lv_l2i (v := b15) hx hb dX12_feed_66 hb15.symm ?_
    refine lv_i2b (v := b15.toInt8.toInt32) hx hb dX12_feed_67 rfl ?_
    refine va_bast hx hb hK hP hD hS 0 0 rfl rfl (i := 2) (x := b15.toInt8.toInt32) (by unfold vp_in; decide) dX12_feed_68 (fun H locs hP hD hS => ?_)
    obtain ⟨fy16, hfy16⟩ : ∃ z : Nat → Int32, z = upd fy12 (2 : Int32).toNatClampNeg (vp_nar .byte b15.toInt8.toInt32) := ⟨_, rfl⟩
    have hP : va_P D vwCl [(mt, .inl (cm, 3000, .inl fy16)), (wt, .inl (cw, 2, .inl (fun _ => 0))), (h0, .inr (12, fs13))] H := by rw [hfy16]; exact hP
    have hD : va_D A [(mt, .inl (cm, 3000, .inl fy16)), (wt, .inl (cw, 2, .inl (fun _ => 0))), (h0, .inr (12, fs13))] := by rw [hfy16]; exact hD
    refine lv_aload_n hx hb dX12_feed_69 rfl (lv_at hl 1 rfl) ?_
    refine lv_dup hx hb dX12_feed_70 rfl ?_
    refine va_get (D := D) (ci := 12) (v := .int 2) (C := RX12) (T := TX12) (N := 139) hx hb hts i_v_c_m_feed_X12 hown hK hP 2 rfl rfl 2 (by decide) (hts (.fieldLink RX12 319 "ScheduleHouseModel" "size" "I") (by decide +kernel)) (fun _ h9 => h9) gfs13_2 dX12_feed_71 ?_
    refine lv_iconst (v := 1) hx hb dX12_feed_74 (by decide +kernel) ?_
    refine lv_iadd hx hb dX12_feed_75 ?_
    rw [show (2 + 1 : Int32) = 3 by decide]
    refine va_put (D := D) (ci := 12) (v := .int 3) (ty := .int) (C := RX12) (T := TX12) (N := 139) hx hb hts i_v_c_m_feed_X12 tyX12 tyX12_ok nmX12 hown hK hP hD hS 2 rfl rfl 2 (by decide) (hts (.fieldLink RX12 319 "ScheduleHouseModel" "size" "I") (by decide +kernel)) (fun _ h9 => h9) rfl (by decide +kernel) rfl rfl (by rw [lfs13]; decide) dX12_feed_76 (fun H locs hP hD hS => ?_)
    obtain ⟨fs17, hfs17⟩ : ∃ z, z = fs13.set 2 (.int 3) := ⟨_, rfl⟩
    rw [← hfs17] at hP hD
    have lfs17 : fs17.length = 139 := by rw [hfs17, List.length_set]; exact lfs13
    have gfs17_118 : fs17[118]? = some (.ref wt) := by rw [hfs17, List.getElem?_set_ne (by decide)]; exact gfs13_118
    have gfs17_1 : fs17[1]? = some (.ref mt) := by rw [hfs17, List.getElem?_set_ne (by decide)]; exact gfs13_1
    have gfs17_0 : fs17[0]? = some (.int 0) := by rw [hfs17, List.getElem?_set_ne (by decide)]; exact gfs13_0
    have gfs17_2 : fs17[2]? = some (.int 3) := by rw [hfs17]; exact List.getElem?_set_self (by rw [lfs13]; decide)
    have hP : va_P D vwCl [(mt, .inl (cm, 3000, .inl fy16)), (wt, .inl (cw, 2, .inl (fun _ => 0))), (h0, .inr (12, fs17))] H := hP
    have hD : va_D A [(mt, .inl (cm, 3000, .inl fy16)), (wt, .inl (cw, 2, .inl (fun _ => 0))), (h0, .inr (12, fs17))] := hD
    refine lv_iinc (v := 3) (lv' := [(4, .int 3), (0, .ref h0), (1, .int 8), (2, .long p1)]) hx hb dX12_feed_79 hl (k := 0) rfl (by decide) (by decide) rfl (fun ls hl => ?_)
    refine lv_goto (tgt := 45) hx hb dX12_feed_82 (by decide) ?_
    refine lv_iload hx hb dX12_feed_45 (lv_at hl 0 rfl) ?_
    refine lv_iload_n hx hb dX12_feed_47 rfl (lv_at hl 2 rfl) ?_
    refine lv_icmp_ge (tgt := 85) hx hb dX12_feed_48 (by decide) (fun c9 => False.elim (by revert c9; decide)) (fun _ => ?_)
    refine lv_aload_n hx hb dX12_feed_51 rfl (lv_at hl 1 rfl) ?_
    refine va_get (D := D) (ci := 12) (v := .ref mt) (C := RX12) (T := TX12) (N := 139) hx hb hts i_v_c_m_feed_X12 hown hK hP 2 rfl rfl 1 (by decide) (hts (.fieldLink RX12 7 "ScheduleHouseModel" "text" "[B") (by decide +kernel)) (fun _ h9 => h9) gfs17_1 dX12_feed_52 ?_
    refine lv_aload_n hx hb dX12_feed_55 rfl (lv_at hl 1 rfl) ?_
    refine va_get (D := D) (ci := 12) (v := .int 3) (C := RX12) (T := TX12) (N := 139) hx hb hts i_v_c_m_feed_X12 hown hK hP 2 rfl rfl 2 (by decide) (hts (.fieldLink RX12 319 "ScheduleHouseModel" "size" "I") (by decide +kernel)) (fun _ h9 => h9) gfs17_2 dX12_feed_56 ?_
    refine lv_lload_n hx hb dX12_feed_59 rfl (lv_at hl 3 rfl) ?_
    refine lv_bipush (v := 8) hx hb dX12_feed_60 (by decide +kernel) ?_
    refine lv_iload hx hb dX12_feed_62 (lv_at hl 0 rfl) ?_
    refine lv_imul hx hb dX12_feed_64 ?_
    rw [show (8 * 3 : Int32) = 24 by decide]
    obtain ⟨z18, hz18⟩ : ∃ z : Int64, z = p1 >>> ((24 : Int32).toInt64 &&& 63) := ⟨_, rfl⟩
    refine lv_lshr (v := z18) hx hb dX12_feed_65 hz18.symm ?_
    obtain ⟨b19, hb19⟩ : ∃ z : Int32, z = z18.toInt32 := ⟨_, rfl⟩
    refine lv_l2i (v := b19) hx hb dX12_feed_66 hb19.symm ?_
    refine lv_i2b (v := b19.toInt8.toInt32) hx hb dX12_feed_67 rfl ?_
    refine va_bast hx hb hK hP hD hS 0 0 rfl rfl (i := 3) (x := b19.toInt8.toInt32) (by unfold vp_in; decide) dX12_feed_68 (fun H locs hP hD hS => ?_)
    obtain ⟨fy20, hfy20⟩ : ∃ z : Nat → Int32, z = upd fy16 (3 : Int32).toNatClampNeg (vp_nar .byte b19.toInt8.toInt32) := ⟨_, rfl⟩
    have hP : va_P D vwCl [(mt, .inl (cm, 3000, .inl fy20)), (wt, .inl (cw, 2, .inl (fun _ => 0))), (h0, .inr (12, fs17))] H := by rw [hfy20]; exact hP
    have hD : va_D A [(mt, .inl (cm, 3000, .inl fy20)), (wt, .inl (cw, 2, .inl (fun _ => 0))), (h0, .inr (12, fs17))] := by rw [hfy20]; exact hD
    refine lv_aload_n hx hb dX12_feed_69 rfl (lv_at hl 1 rfl) ?_
    refine lv_dup hx hb dX12_feed_70 rfl ?_
    refine va_get (D := D) (ci := 12) (v := .int 3) (C := RX12) (T := TX12) (N := 139) hx hb hts i_v_c_m_feed_X12 hown hK hP 2 rfl rfl 2 (by decide) (hts (.fieldLink RX12 319 "ScheduleHouseModel" "size" "I") (by decide +kernel)) (fun _ h9 => h9) gfs17_2 dX12_feed_71 ?_
    refine lv_iconst (v := 1) hx hb dX12_feed_74 (by decide +kernel) ?_
    refine lv_iadd hx hb dX12_feed_75 ?_
    rw [show (3 + 1 : Int32) = 4 by decide]
    refine va_put (D := D) (ci := 12) (v := .int 4) (ty := .int) (C := RX12) (T := TX12) (N := 139) hx hb hts i_v_c_m_feed_X12 tyX12 tyX12_ok nmX12 hown hK hP hD hS 2 rfl rfl 2 (by decide) (hts (.fieldLink RX12 319 "ScheduleHouseModel" "size" "I") (by decide +kernel)) (fun _ h9 => h9) rfl (by decide +kernel) rfl rfl (by rw [lfs17]; decide) dX12_feed_76 (fun H locs hP hD hS => ?_)
    obtain ⟨fs21, hfs21⟩ : ∃ z, z = fs17.set 2 (.int 4) := ⟨_, rfl⟩
    rw [← hfs21] at hP hD
    have lfs21 : fs21.length = 139 := by rw [hfs21, List.length_set]; exact lfs17
    have gfs21_118 : fs21[118]? = some (.ref wt) := by rw [hfs21, List.getElem?_set_ne (by decide)]; exact gfs17_118
    have gfs21_1 : fs21[1]? = some (.ref mt) := by rw [hfs21, List.getElem?_set_ne (by decide)]; exact gfs17_1
    have gfs21_0 : fs21[0]? = some (.int 0) := by rw [hfs21, List.getElem?_set_ne (by decide)]; exact gfs17_0
    have gfs21_2 : fs21[2]? = some (.int 4) := by rw [hfs21]; exact List.getElem?_set_self (by rw [lfs17]; decide)
    have hP : va_P D vwCl [(mt, .inl (cm, 3000, .inl fy20)), (wt, .inl (cw, 2, .inl (fun _ => 0))), (h0, .inr (12, fs21))] H := hP
    have hD : va_D A [(mt, .inl (cm, 3000, .inl fy20)), (wt, .inl (cw, 2, .inl (fun _ => 0))), (h0, .inr (12, fs21))] := hD
    refine lv_iinc (v := 4) (lv' := [(4, .int 4), (0, .ref h0), (1, .int 8), (2, .long p1)]) hx hb dX12_feed_79 hl (k := 0) rfl (by decide) (by decide) rfl (fun ls hl => ?_)
    refine lv_goto (tgt := 45) hx hb dX12_feed_82 (by decide) ?_
    refine lv_iload hx hb dX12_feed_45 (lv_at hl 0 rfl) ?_
    refine lv_iload_n hx hb dX12_feed_47 rfl (lv_at hl 2 rfl) ?_
    refine lv_icmp_ge (tgt := 85) hx hb dX12_feed_48 (by decide) (fun c9 => False.elim (by revert c9; decide)) (fun _ => ?_)
    refine lv_aload_n hx hb dX12_feed_51 rfl (lv_at hl 1 rfl) ?_
    refine va_get (D := D) (ci := 12) (v := .ref mt) (C := RX12) (T := TX12) (N := 139) hx hb hts i_v_c_m_feed_X12 hown hK hP 2 rfl rfl 1 (by decide) (hts (.fieldLink RX12 7 "ScheduleHouseModel" "text" "[B") (by decide +kernel)) (fun _ h9 => h9) gfs21_1 dX12_feed_52 ?_
    refine lv_aload_n hx hb dX12_feed_55 rfl (lv_at hl 1 rfl) ?_
    refine va_get (D := D) (ci := 12) (v := .int 4) (C := RX12) (T := TX12) (N := 139) hx hb hts i_v_c_m_feed_X12 hown hK hP 2 rfl rfl 2 (by decide) (hts (.fieldLink RX12 319 "ScheduleHouseModel" "size" "I") (by decide +kernel)) (fun _ h9 => h9) gfs21_2 dX12_feed_56 ?_
    refine lv_lload_n hx hb dX12_feed_59 rfl (lv_at hl 3 rfl) ?_
    refine lv_bipush (v := 8) hx hb dX12_feed_60 (by decide +kernel) ?_
    refine lv_iload hx hb dX12_feed_62 (lv_at hl 0 rfl) ?_
    refine lv_imul hx hb dX12_feed_64 ?_
    rw [show (8 * 4 : Int32) = 32 by decide]
    obtain ⟨z22, hz22⟩ : ∃ z : Int64, z = p1 >>> ((32 : Int32).toInt64 &&& 63) := ⟨_, rfl⟩
    refine lv_lshr (v := z22) hx hb dX12_feed_65 hz22.symm ?_
    obtain ⟨b23, hb23⟩ : ∃ z : Int32, z = z22.toInt32 := ⟨_, rfl⟩
    refine lv_l2i (v := b23) hx hb dX12_feed_66 hb23.symm ?_
    refine lv_i2b (v := b23.toInt8.toInt32) hx hb dX12_feed_67 rfl ?_
    refine va_bast hx hb hK hP hD hS 0 0 rfl rfl (i := 4) (x := b23.toInt8.toInt32) (by unfold vp_in; decide) dX12_feed_68 (fun H locs hP hD hS => ?_)
    obtain ⟨fy24, hfy24⟩ : ∃ z : Nat → Int32, z = upd fy20 (4 : Int32).toNatClampNeg (vp_nar .byte b23.toInt8.toInt32) := ⟨_, rfl⟩
    have hP : va_P D vwCl [(mt, .inl (cm, 3000, .inl fy24)), (wt, .inl (cw, 2, .inl (fun _ => 0))), (h0, .inr (12, fs21))] H := by rw [hfy24]; exact hP
    have hD : va_D A [(mt, .inl (cm, 3000, .inl fy24)), (wt, .inl (cw, 2, .inl (fun _ => 0))), (h0, .inr (12, fs21))] := by rw [hfy24]; exact hD
    refine lv_aload_n hx hb dX12_feed_69 rfl (lv_at hl 1 rfl) ?_
    refine lv_dup hx hb dX12_feed_70 rfl ?_
    refine va_get (D := D) (ci := 12) (v := .int 4) (C := RX12) (T := TX12) (N := 139) hx hb hts i_v_c_m_feed_X12 hown hK hP 2 rfl rfl 2 (by decide) (hts (.fieldLink RX12 319 "ScheduleHouseModel" "size" "I") (by decide +kernel)) (fun _ h9 => h9) gfs21_2 dX12_feed_71 ?_
    refine lv_iconst (v := 1) hx hb dX12_feed_74 (by decide +kernel) ?_
    refine lv_iadd hx hb dX12_feed_75 ?_
    rw [show (4 + 1 : Int32) = 5 by decide]
    refine va_put (D := D) (ci := 12) (v := .int 5) (ty := .int) (C := RX12) (T := TX12) (N := 139) hx hb hts i_v_c_m_feed_X12 tyX12 tyX12_ok nmX12 hown hK hP hD hS 2 rfl rfl 2 (by decide) (hts (.fieldLink RX12 319 "ScheduleHouseModel" "size" "I") (by decide +kernel)) (fun _ h9 => h9) rfl (by decide +kernel) rfl rfl (by rw [lfs21]; decide) dX12_feed_76 (fun H locs hP hD hS => ?_)
    obtain ⟨fs25, hfs25⟩ : ∃ z, z = fs21.set 2 (.int 5) := ⟨_, rfl⟩
    rw [← hfs25] at hP hD
    have lfs25 : fs25.length = 139 := by rw [hfs25, List.length_set]; exact lfs21
    have gfs25_118 : fs25[118]? = some (.ref wt) := by rw [hfs25, List.getElem?_set_ne (by decide)]; exact gfs21_118
    have gfs25_1 : fs25[1]? = some (.ref mt) := by rw [hfs25, List.getElem?_set_ne (by decide)]; exact gfs21_1
    have gfs25_0 : fs25[0]? = some (.int 0) := by rw [hfs25, List.getElem?_set_ne (by decide)]; exact gfs21_0
    have gfs25_2 : fs25[2]? = some (.int 5) := by rw [hfs25]; exact List.getElem?_set_self (by rw [lfs21]; decide)
    have hP : va_P D vwCl [(mt, .inl (cm, 3000, .inl fy24)), (wt, .inl (cw, 2, .inl (fun _ => 0))), (h0, .inr (12, fs25))] H := hP
    have hD : va_D A [(mt, .inl (cm, 3000, .inl fy24)), (wt, .inl (cw, 2, .inl (fun _ => 0))), (h0, .inr (12, fs25))] := hD
    refine lv_iinc (v := 5) (lv' := [(4, .int 5), (0, .ref h0), (1, .int 8), (2, .long p1)]) hx hb dX12_feed_79 hl (k := 0) rfl (by decide) (by decide) rfl (fun ls hl => ?_)
    refine lv_goto (tgt := 45) hx hb dX12_feed_82 (by decide) ?_
    refine lv_iload hx hb dX12_feed_45 (lv_at hl 0 rfl) ?_
    refine lv_iload_n hx hb dX12_feed_47 rfl (lv_at hl 2 rfl) ?_
    refine lv_icmp_ge (tgt := 85) hx hb dX12_feed_48 (by decide) (fun c9 => False.elim (by revert c9; decide)) (fun _ => ?_)
    refine lv_aload_n hx hb dX12_feed_51 rfl (lv_at hl 1 rfl) ?_
    refine va_get (D := D) (ci := 12) (v := .ref mt) (C := RX12) (T := TX12) (N := 139) hx hb hts i_v_c_m_feed_X12 hown hK hP 2 rfl rfl 1 (by decide) (hts (.fieldLink RX12 7 "ScheduleHouseModel" "text" "[B") (by decide +kernel)) (fun _ h9 => h9) gfs25_1 dX12_feed_52 ?_
    refine lv_aload_n hx hb dX12_feed_55 rfl (lv_at hl 1 rfl) ?_
    refine va_get (D := D) (ci := 12) (v := .int 5) (C := RX12) (T := TX12) (N := 139) hx hb hts i_v_c_m_feed_X12 hown hK hP 2 rfl rfl 2 (by decide) (hts (.fieldLink RX12 319 "ScheduleHouseModel" "size" "I") (by decide +kernel)) (fun _ h9 => h9) gfs25_2 dX12_feed_56 ?_
    refine lv_lload_n hx hb dX12_feed_59 rfl (lv_at hl 3 rfl) ?_
    refine lv_bipush (v := 8) hx hb dX12_feed_60 (by decide +kernel) ?_
    refine lv_iload hx hb dX12_feed_62 (lv_at hl 0 rfl) ?_
    refine lv_imul hx hb dX12_feed_64 ?_
    rw [show (8 * 5 : Int32) = 40 by decide]
    obtain ⟨z26, hz26⟩ : ∃ z : Int64, z = p1 >>> ((40 : Int32).toInt64 &&& 63) := ⟨_, rfl⟩
    refine lv_lshr (v := z26) hx hb dX12_feed_65 hz26.symm ?_
    obtain ⟨b27, hb27⟩ : ∃ z : Int32, z = z26.toInt32 := ⟨_, rfl⟩
    refine lv_l2i (v := b27) hx hb dX12_feed_66 hb27.symm ?_
    refine lv_i2b (v := b27.toInt8.toInt32) hx hb dX12_feed_67 rfl ?_
    refine va_bast hx hb hK hP hD hS 0 0 rfl rfl (i := 5) (x := b27.toInt8.toInt32) (by unfold vp_in; decide) dX12_feed_68 (fun H locs hP hD hS => ?_)
    obtain ⟨fy28, hfy28⟩ : ∃ z : Nat → Int32, z = upd fy24 (5 : Int32).toNatClampNeg (vp_nar .byte b27.toInt8.toInt32) := ⟨_, rfl⟩
    have hP : va_P D vwCl [(mt, .inl (cm, 3000, .inl fy28)), (wt, .inl (cw, 2, .inl (fun _ => 0))), (h0, .inr (12, fs25))] H := by rw [hfy28]; exact hP
    have hD : va_D A [(mt, .inl (cm, 3000, .inl fy28)), (wt, .inl (cw, 2, .inl (fun _ => 0))), (h0, .inr (12, fs25))] := by rw [hfy28]; exact hD
    refine lv_aload_n hx hb dX12_feed_69 rfl (lv_at hl 1 rfl) ?_
    refine lv_dup hx hb dX12_feed_70 rfl ?_
    refine va_get (D := D) (ci := 12) (v := .int 5) (C := RX12) (T := TX12) (N := 139) hx hb hts i_v_c_m_feed_X12 hown hK hP 2 rfl rfl 2 (by decide) (hts (.fieldLink RX12 319 "ScheduleHouseModel" "size" "I") (by decide +kernel)) (fun _ h9 => h9) gfs25_2 dX12_feed_71 ?_
    refine lv_iconst (v := 1) hx hb dX12_feed_74 (by decide +kernel) ?_
    refine lv_iadd hx hb dX12_feed_75 ?_
    rw [show (5 + 1 : Int32) = 6 by decide]
    refine va_put (D := D) (ci := 12) (v := .int 6) (ty := .int) (C := RX12) (T := TX12) (N := 139) hx hb hts i_v_c_m_feed_X12 tyX12 tyX12_ok nmX12 hown hK hP hD hS 2 rfl rfl 2 (by decide) (hts (.fieldLink RX12 319 "ScheduleHouseModel" "size" "I") (by decide +kernel)) (fun _ h9 => h9) rfl (by decide +kernel) rfl rfl (by rw [lfs25]; decide) dX12_feed_76 (fun H locs hP hD hS => ?_)
    obtain ⟨fs29, hfs29⟩ : ∃ z, z = fs25.set 2 (.int 6) := ⟨_, rfl⟩
    rw [← hfs29] at hP hD
    have lfs29 : fs29.length = 139 := by rw [hfs29, List.length_set]; exact lfs25
    have gfs29_118 : fs29[118]? = some (.ref wt) := by rw [hfs29, List.getElem?_set_ne (by decide)]; exact gfs25_118
    have gfs29_1 : fs29[1]? = some (.ref mt) := by rw [hfs29, List.getElem?_set_ne (by decide)]; exact gfs25_1
    have gfs29_0 : fs29[0]? = some (.int 0) := by rw [hfs29, List.getElem?_set_ne (by decide)]; exact gfs25_0
    have gfs29_2 : fs29[2]? = some (.int 6) := by rw [hfs29]; exact List.getElem?_set_self (by rw [lfs25]; decide)
    have hP : va_P D vwCl [(mt, .inl (cm, 3000, .inl fy28)), (wt, .inl (cw, 2, .inl (fun _ => 0))), (h0, .inr (12, fs29))] H := hP
    have hD : va_D A [(mt, .inl (cm, 3000, .inl fy28)), (wt, .inl (cw, 2, .inl (fun _ => 0))), (h0, .inr (12, fs29))] := hD
    refine lv_iinc (v := 6) (lv' := [(4, .int 6), (0, .ref h0), (1, .int 8), (2, .long p1)]) hx hb dX12_feed_79 hl (k := 0) rfl (by decide) (by decide) rfl (fun ls hl => ?_)
    refine lv_goto (tgt := 45) hx hb dX12_feed_82 (by decide) ?_
    refine lv_iload hx hb dX12_feed_45 (lv_at hl 0 rfl) ?_
    refine lv_iload_n hx hb dX12_feed_47 rfl (lv_at hl 2 rfl) ?_
    refine lv_icmp_ge (tgt := 85) hx hb dX12_feed_48 (by decide) (fun c9 => False.elim (by revert c9; decide)) (fun _ => ?_)
    refine lv_aload_n hx hb dX12_feed_51 rfl (lv_at hl 1 rfl) ?_
    refine va_get (D := D) (ci := 12) (v := .ref mt) (C := RX12) (T := TX12) (N := 139) hx hb hts i_v_c_m_feed_X12 hown hK hP 2 rfl rfl 1 (by decide) (hts (.fieldLink RX12 7 "ScheduleHouseModel" "text" "[B") (by decide +kernel)) (fun _ h9 => h9) gfs29_1 dX12_feed_52 ?_
    refine lv_aload_n hx hb dX12_feed_55 rfl (lv_at hl 1 rfl) ?_
    refine va_get (D := D) (ci := 12) (v := .int 6) (C := RX12) (T := TX12) (N := 139) hx hb hts i_v_c_m_feed_X12 hown hK hP 2 rfl rfl 2 (by decide) (hts (.fieldLink RX12 319 "ScheduleHouseModel" "size" "I") (by decide +kernel)) (fun _ h9 => h9) gfs29_2 dX12_feed_56 ?_
    refine lv_lload_n hx hb dX12_feed_59 rfl (lv_at hl 3 rfl) ?_
    refine lv_bipush (v := 8) hx hb dX12_feed_60 (by decide +kernel) ?_
    refine lv_iload hx hb dX12_feed_62 (lv_at hl 0 rfl) ?_
    refine lv_imul hx hb dX12_feed_64 ?_
    rw [show (8 * 6 : Int32) = 48 by decide]
    obtain ⟨z30, hz30⟩ : ∃ z : Int64, z = p1 >>> ((48 : Int32).toInt64 &&& 63) := ⟨_, rfl⟩
    refine lv_lshr (v := z30) hx hb dX12_feed_65 hz30.symm ?_
    obtain ⟨b31, hb31⟩ : ∃ z : Int32, z = z30.toInt32 := ⟨_, rfl⟩
    refine lv_l2i (v := b31) hx hb dX12_feed_66 hb31.symm ?_
    refine lv_i2b (v := b31.toInt8.toInt32) hx hb dX12_feed_67 rfl ?_
    refine va_bast hx hb hK hP hD hS 0 0 rfl rfl (i := 6) (x := b31.toInt8.toInt32) (by unfold vp_in; decide) dX12_feed_68 (fun H locs hP hD hS => ?_)
    obtain ⟨fy32, hfy32⟩ : ∃ z : Nat → Int32, z = upd fy28 (6 : Int32).toNatClampNeg (vp_nar .byte b31.toInt8.toInt32) := ⟨_, rfl⟩
    have hP : va_P D vwCl [(mt, .inl (cm, 3000, .inl fy32)), (wt, .inl (cw, 2, .inl (fun _ => 0))), (h0, .inr (12, fs29))] H := by rw [hfy32]; exact hP
    have hD : va_D A [(mt, .inl (cm, 3000, .inl fy32)), (wt, .inl (cw, 2, .inl (fun _ => 0))), (h0, .inr (12, fs29))] := by rw [hfy32]; exact hD
    refine lv_aload_n hx hb dX12_feed_69 rfl (lv_at hl 1 rfl) ?_
    refine lv_dup hx hb dX12_feed_70 rfl ?_
    refine va_get (D := D) (ci := 12) (v := .int 6) (C := RX12) (T := TX12) (N := 139) hx hb hts i_v_c_m_feed_X12 hown hK hP 2 rfl rfl 2 (by decide) (hts (.fieldLink RX12 319 "ScheduleHouseModel" "size" "I") (by decide +kernel)) (fun _ h9 => h9) gfs29_2 dX12_feed_71 ?_
    refine lv_iconst (v := 1) hx hb dX12_feed_74 (by decide +kernel) ?_
    refine lv_iadd hx hb dX12_feed_75 ?_
    rw [show (6 + 1 : Int32) = 7 by decide]
    refine va_put (D := D) (ci := 12) (v := .int 7) (ty := .int) (C := RX12) (T := TX12) (N := 139) hx hb hts i_v_c_m_feed_X12 tyX12 tyX12_ok nmX12 hown hK hP hD hS 2 rfl rfl 2 (by decide) (hts (.fieldLink RX12 319 "ScheduleHouseModel" "size" "I") (by decide +kernel)) (fun _ h9 => h9) rfl (by decide +kernel) rfl rfl (by rw [lfs29]; decide) dX12_feed_76 (fun H locs hP hD hS => ?_)
    obtain ⟨fs33, hfs33⟩ : ∃ z, z = fs29.set 2 (.int 7) := ⟨_, rfl⟩
    rw [← hfs33] at hP hD
    have lfs33 : fs33.length = 139 := by rw [hfs33, List.length_set]; exact lfs29
    have gfs33_118 : fs33[118]? = some (.ref wt) := by rw [hfs33, List.getElem?_set_ne (by decide)]; exact gfs29_118
    have gfs33_1 : fs33[1]? = some (.ref mt) := by rw [hfs33, List.getElem?_set_ne (by decide)]; exact gfs29_1
    have gfs33_0 : fs33[0]? = some (.int 0) := by rw [hfs33, List.getElem?_set_ne (by decide)]; exact gfs29_0
    have gfs33_2 : fs33[2]? = some (.int 7) := by rw [hfs33]; exact List.getElem?_set_self (by rw [lfs29]; decide)
    have hP : va_P D vwCl [(mt, .inl (cm, 3000, .inl fy32)), (wt, .inl (cw, 2, .inl (fun _ => 0))), (h0, .inr (12, fs33))] H := hP
    have hD : va_D A [(mt, .inl (cm, 3000, .inl fy32)), (wt, .inl (cw, 2, .inl (fun _ => 0))), (h0, .inr (12, fs33))] := hD
    refine lv_iinc (v := 7) (lv' := [(4, .int 7), (0, .ref h0), (1, .int 8), (2, .long p1)]) hx hb dX12_feed_79 hl (k := 0) rfl (by decide) (by decide) rfl (fun ls hl => ?_)
    refine lv_goto (tgt := 45) hx hb dX12_feed_82 (by decide) ?_
    refine lv_iload hx hb dX12_feed_45 (lv_at hl 0 rfl) ?_
    refine lv_iload_n hx hb dX12_feed_47 rfl (lv_at hl 2 rfl) ?_
    refine lv_icmp_ge (tgt := 85) hx hb dX12_feed_48 (by decide) (fun c9 => False.elim (by revert c9; decide)) (fun _ => ?_)
    refine lv_aload_n hx hb dX12_feed_51 rfl (lv_at hl 1 rfl) ?_
    refine va_get (D := D) (ci := 12) (v := .ref mt) (C := RX12) (T := TX12) (N := 139) hx hb hts i_v_c_m_feed_X12 hown hK hP 2 rfl rfl 1 (by decide) (hts (.fieldLink RX12 7 "ScheduleHouseModel" "text" "[B") (by decide +kernel)) (fun _ h9 => h9) gfs33_1 dX12_feed_52 ?_
    refine lv_aload_n hx hb dX12_feed_55 rfl (lv_at hl 1 rfl) ?_
    refine va_get (D := D) (ci := 12) (v := .int 7) (C := RX12) (T := TX12) (N := 139) hx hb hts i_v_c_m_feed_X12 hown hK hP 2 rfl rfl 2 (by decide) (hts (.fieldLink RX12 319 "ScheduleHouseModel" "size" "I") (by decide +kernel)) (fun _ h9 => h9) gfs33_2 dX12_feed_56 ?_
    refine lv_lload_n hx hb dX12_feed_59 rfl (lv_at hl 3 rfl) ?_
    refine lv_bipush (v := 8) hx hb dX12_feed_60 (by decide +kernel) ?_
    refine lv_iload hx hb dX12_feed_62 (lv_at hl 0 rfl) ?_
    refine lv_imul hx hb dX12_feed_64 ?_
    rw [show (8 * 7 : Int32) = 56 by decide]
    obtain ⟨z34, hz34⟩ : ∃ z : Int64, z = p1 >>> ((56 : Int32).toInt64 &&& 63) := ⟨_, rfl⟩
    refine lv_lshr (v := z34) hx hb dX12_feed_65 hz34.symm ?_
    obtain ⟨b35, hb35⟩ : ∃ z : Int32, z = z34.toInt32 := ⟨_, rfl⟩
    refine lv_l2i (v := b35) hx hb dX12_feed_66 hb35.symm ?_
    refine lv_i2b (v := b35.toInt8.toInt32) hx hb dX12_feed_67 rfl ?_
    refine va_bast hx hb hK hP hD hS 0 0 rfl rfl (i := 7) (x := b35.toInt8.toInt32) (by unfold vp_in; decide) dX12_feed_68 (fun H locs hP hD hS => ?_)
    obtain ⟨fy36, hfy36⟩ : ∃ z : Nat → Int32, z = upd fy32 (7 : Int32).toNatClampNeg (vp_nar .byte b35.toInt8.toInt32) := ⟨_, rfl⟩
    have hP : va_P D vwCl [(mt, .inl (cm, 3000, .inl fy36)), (wt, .inl (cw, 2, .inl (fun _ => 0))), (h0, .inr (12, fs33))] H := by rw [hfy36]; exact hP
    have hD : va_D A [(mt, .inl (cm, 3000, .inl fy36)), (wt, .inl (cw, 2, .inl (fun _ => 0))), (h0, .inr (12, fs33))] := by rw [hfy36]; exact hD
    refine lv_aload_n hx hb dX12_feed_69 rfl (lv_at hl 1 rfl) ?_
    refine lv_dup hx hb dX12_feed_70 rfl ?_
    refine va_get (D := D) (ci := 12) (v := .int 7) (C := RX12) (T := TX12) (N := 139) hx hb hts i_v_c_m_feed_X12 hown hK hP 2 rfl rfl 2 (by decide) (hts (.fieldLink RX12 319 "ScheduleHouseModel" "size" "I") (by decide +kernel)) (fun _ h9 => h9) gfs33_2 dX12_feed_71 ?_
    refine lv_iconst (v := 1) hx hb dX12_feed_74 (by decide +kernel) ?_
    refine lv_iadd hx hb dX12_feed_75 ?_
    rw [show (7 + 1 : Int32) = 8 by decide]
    refine va_put (D := D) (ci := 12) (v := .int 8) (ty := .int) (C := RX12) (T := TX12) (N := 139) hx hb hts i_v_c_m_feed_X12 tyX12 tyX12_ok nmX12 hown hK hP hD hS 2 rfl rfl 2 (by decide) (hts (.fieldLink RX12 319 "ScheduleHouseModel" "size" "I") (by decide +kernel)) (fun _ h9 => h9) rfl (by decide +kernel) rfl rfl (by rw [lfs33]; decide) dX12_feed_76 (fun H locs hP hD hS => ?_)
    obtain ⟨fs37, hfs37⟩ : ∃ z, z = fs33.set 2 (.int 8) := ⟨_, rfl⟩
    rw [← hfs37] at hP hD
    have lfs37 : fs37.length = 139 := by rw [hfs37, List.length_set]; exact lfs33
    have gfs37_118 : fs37[118]? = some (.ref wt) := by rw [hfs37, List.getElem?_set_ne (by decide)]; exact gfs33_118
    have gfs37_1 : fs37[1]? = some (.ref mt) := by rw [hfs37, List.getElem?_set_ne (by decide)]; exact gfs33_1
    have gfs37_0 : fs37[0]? = some (.int 0) := by rw [hfs37, List.getElem?_set_ne (by decide)]; exact gfs33_0
    have gfs37_2 : fs37[2]? = some (.int 8) := by rw [hfs37]; exact List.getElem?_set_self (by rw [lfs33]; decide)
    have hP : va_P D vwCl [(mt, .inl (cm, 3000, .inl fy36)), (wt, .inl (cw, 2, .inl (fun _ => 0))), (h0, .inr (12, fs37))] H := hP
    have hD : va_D A [(mt, .inl (cm, 3000, .inl fy36)), (wt, .inl (cw, 2, .inl (fun _ => 0))), (h0, .inr (12, fs37))] := hD
    refine lv_iinc (v := 8) (lv' := [(4, .int 8), (0, .ref h0), (1, .int 8), (2, .long p1)]) hx hb dX12_feed_79 hl (k := 0) rfl (by decide) (by decide) rfl (fun ls hl => ?_)
    refine lv_goto (tgt := 45) hx hb dX12_feed_82 (by decide) ?_
    refine lv_iload hx hb dX12_feed_45 (lv_at hl 0 rfl) ?_
    refine lv_iload_n hx hb dX12_feed_47 rfl (lv_at hl 2 rfl) ?_
    refine lv_icmp_ge (tgt := 85) hx hb dX12_feed_48 (by decide) (fun _ => ?_) (fun c9 => False.elim (by revert c9; decide))
    refine lv_aload_n hx hb dX12_feed_85 rfl (lv_at hl 1 rfl) ?_
    have hPc := hP.sub (ws' := [(h0, .inr (12, fs37)), (wt, .inl (cw, 2, .inl (fun _ => 0)))]) [2, 1] rfl
    have hDc := hD.sub (ws' := [(h0, .inr (12, fs37)), (wt, .inl (cw, 2, .inl (fun _ => 0)))]) [2, 1] (by decide) rfl
    have hKc := hK.sub (tys' := [(cw, .boolean)]) [1] rfl
    have hFc := va_free (wc := [(h0, .inr (12, fs37)), (wt, .inl (cw, 2, .inl (fun _ => 0)))]) hD hS hA [2, 1] rfl
    refine va_callv (va_runV (As := []) (rest := []) ⟨hx, hb, hml, hown, hts⟩ (c_m_forget l D h0 wt cw fs37 H.size lfs37 gfs37_118) (cwV 0 hts g_v_c_m_feed_4 rfl rfl rfl (by decide +kernel) ⟨Nat.le_of_ble_eq_true rfl, Nat.le_of_ble_eq_true rfl⟩) ⟨st_blind, va_recv hKc hPc (ci := 12) (q0 := 0) rfl rfl, fun U hU hW => ⟨rfl, st_call hU hW hPc hKc hDc hZ hS hFc hE⟩⟩ rfl rfl hl.1 rfl (lv_room (Nat.le_of_ble_eq_true rfl)) dX12_feed_86 ⟨Nat.le_of_ble_eq_true rfl, Nat.le_of_ble_eq_true rfl⟩) hS (fun q _ h => hFc q h) hFc (fun  u38 t H1 locs ht hvm hw hB hz1 hk1 hS => ?_)
    obtain ⟨ku38, tu38, au38, zu38⟩ := hw
    have lu38 : u38.length = 139 := by rw [ku38.1]; exact lfs37
    have gu38_118 : u38[118]? = some (.ref wt) := kp_at ku38 gfs37_118 (by decide)
    have gu38_1 : u38[1]? = some (.ref mt) := kp_at ku38 gfs37_1 (by decide)
    have gu38_0 : u38[0]? = some (.int 0) := kp_at ku38 gfs37_0 (by decide)
    have gu38_2 : u38[2]? = some (.int 8) := kp_at ku38 gfs37_2 (by decide)
    obtain ⟨fy39, hP1, hK1, hD1⟩ := hB
    rw [ht] at hP1
    have hK1 := va_K.moved hvm.symm hK1
    obtain ⟨hP, hD⟩ := va_join (wr := [(mt, .inl (cm, 3000, .inl fy36))]) (w1 := [(h0, .inr (12, u38)), (wt, .inl (cw, 2, .inl fy39))]) hP hD [2, 1] [0] rfl rfl (by decide) (by decide) hk1 hFc hP1 hD1
    have hK := (hK.sub (tys' := [(cm, .byte)]) [0] rfl).app hK1
    generalize H1 = H at hP hS ⊢
    have hP : va_P D vwCl [(mt, .inl (cm, 3000, .inl fy36)), (h0, .inr (12, u38)), (wt, .inl (cw, 2, .inl fy39))] H := hP
    have hD : va_D A [(mt, .inl (cm, 3000, .inl fy36)), (h0, .inr (12, u38)), (wt, .inl (cw, 2, .inl fy39))] := hD
    have hK : va_K D vwCl [(cm, .byte), (cw, .boolean)] s := hK
    refine lv_aload_n hx hb dX12_feed_89 rfl (lv_at hl 1 rfl) ?_
    refine va_get (D := D) (ci := 12) (v := .int 8) (C := RX12) (T := TX12) (N := 139) hx hb hts i_v_c_m_feed_X12 hown hK hP 1 rfl rfl 2 (by decide) (hts (.fieldLink RX12 319 "ScheduleHouseModel" "size" "I") (by decide +kernel)) (fun _ h9 => h9) gu38_2 dX12_feed_90 ?_
    have hP : va_P D vwCl [(h0, .inr (12, u38))] H := hP.sub [1] rfl
    have hD : va_D A [(h0, .inr (12, u38))] := hD.sub [1] (by decide) rfl
    have hK : va_K D vwCl [] s := hK.sub [] rfl
    exact W.iret (v := 8) hx hb hr (fun t ht hW => ⟨⟨8, u38, rfl, ⟨0, gu38_0, Or.inl ⟨rfl, rfl, hi⟩⟩, by rw [ht]; exact hP, va_K.moved hW.alike hK, hD⟩, hS.F ht⟩) hS.2.2 dX12_feed_93
  · subst er2
    exact absurd hi (by decide)
theorem nle8 {x : Int32} (h : x < 1 ∨ ¬ x ≤ 8) : x < 1 ∨ 8 < x := h.imp id (fun h => Int32.not_le.mp h)
set_option maxHeartbeats 400000 in
set_option maxRecDepth 100000 in
/-- the model's feed -/
theorem c_m_feed (l : Launch) (D : va_G) (h0 mt wt : Nat) (cm cw : ClassId) (fs : List Value) (f0 : Nat → Int32) (p0 : Int32) (p1 : Int64) (sz : Nat) (hlen : fs.length = 139) (hf_thrown : fs[0]? = some (.int 0)) (hf_size : fs[2]? = some (.int 0)) (hf_wasTried : fs[118]? = some (.ref wt)) (hf_text : fs[1]? = some (.ref mt)) : Met l yX12_feed v_c_m_feed ({ frames := 5, cells := 0, slots := 0, locals := 80 }) (va_Pc [.ref h0, .int p0, .long p1] (st_ D [(h0, .inr (12, fs)), (mt, .inl (cm, 3000, .inl f0)), (wt, .inl (cw, 2, .inl (fun _ => 0)))] [(cm, .byte), (cw, .boolean)] sz)) (va_Qi (fun (r : Int32) (u : List Value) => ∃ t : Int32, u[0]? = some (.int t) ∧ ((t = 0 ∧ r = p0 ∧ (¬ p0 < 1 ∧ ¬ 8 < p0)) ∨ (t = 1 ∧ (p0 < 1 ∨ 8 < p0)) ∨ (t = 2 ∧ False))) (fun u t => va_P D vwCl [(h0, .inr (12, u))] t.heap ∧ va_K D vwCl [] t ∧ va_D (va_A [(h0, .inr (12, fs)), (mt, .inl (cm, 3000, .inl f0)), (wt, .inl (cw, 2, .inl (fun _ => 0)))] sz) [(h0, .inr (12, u))]) (va_A [(h0, .inr (12, fs)), (mt, .inl (cm, 3000, .inl f0)), (wt, .inl (cw, 2, .inl (fun _ => 0)))] sz)) 0 0 (va_A [(h0, .inr (12, fs)), (mt, .inl (cm, 3000, .inl f0)), (wt, .inl (cw, 2, .inl (fun _ => 0)))] sz) := by
  rcases feed_cases p0 with h | h | h | h | h | h | h | h | h
  · exact c_m_feed_no l D h0 mt wt cm cw fs f0 p0 p1 sz hlen hf_thrown hf_size hf_wasTried hf_text (nle8 h)
  · subst h
    exact c_m_feed_1 l D h0 mt wt cm cw fs f0 p1 sz hlen hf_thrown hf_size hf_wasTried hf_text
  · subst h
    exact c_m_feed_2 l D h0 mt wt cm cw fs f0 p1 sz hlen hf_thrown hf_size hf_wasTried hf_text
  · subst h
    exact c_m_feed_3 l D h0 mt wt cm cw fs f0 p1 sz hlen hf_thrown hf_size hf_wasTried hf_text
  · subst h
    exact c_m_feed_4 l D h0 mt wt cm cw fs f0 p1 sz hlen hf_thrown hf_size hf_wasTried hf_text
  · subst h
    exact c_m_feed_5 l D h0 mt wt cm cw fs f0 p1 sz hlen hf_thrown hf_size hf_wasTried hf_text
  · subst h
    exact c_m_feed_6 l D h0 mt wt cm cw fs f0 p1 sz hlen hf_thrown hf_size hf_wasTried hf_text
  · subst h
    exact c_m_feed_7 l D h0 mt wt cm cw fs f0 p1 sz hlen hf_thrown hf_size hf_wasTried hf_text
  · subst h
    exact c_m_feed_8 l D h0 mt wt cm cw fs f0 p1 sz hlen hf_thrown hf_size hf_wasTried hf_text
noncomputable def v_c_m_byteAt : List Cond := .code yX12_byteAt cX12_byteAt 2 (some .int) :: ([.fieldLink RX12 319 "ScheduleHouseModel" "size" "I"] ++ (wsX120 ++ ([])))
theorem i_v_c_m_byteAt_X12 : ∀ w ∈ wsX120, w ∈ v_c_m_byteAt := fun _ h => List.mem_cons_of_mem _ (List.mem_append_right _ (List.mem_append_left _ h))
theorem t_v_c_m_byteAt : ∀ w ∈ v_c_m_byteAt, w ∈ lw_tbl := tb_c (List.mem_of_getElem? (i := 2524) (by decide +kernel)) (tb_a (tb_c (List.mem_of_getElem? (i := 2074) (by decide +kernel)) (tb_n)) (tb_a (tw_wsX120) (tb_n)))
set_option maxHeartbeats 400000 in
set_option maxRecDepth 100000 in
/-- the model's byteAt at the end -/
theorem c_m_byteAt (l : Launch) (D : va_G) (h0 : Nat) (fs : List Value) (sz : Nat) (hlen : fs.length = 139) (hf_size : fs[2]? = some (.int 0)) : Met l yX12_byteAt v_c_m_byteAt ({ frames := 1, cells := 0, slots := 0, locals := 12 }) (va_Pc [.ref h0, .int 0] (st_ D [(h0, .inr (12, fs))] [] sz)) (va_Qi (fun (r : Int32) (_ : Unit) => r = -1) (fun _ t => va_P D vwCl [(h0, .inr (12, fs))] t.heap ∧ va_K D vwCl [] t ∧ va_D (va_A [(h0, .inr (12, fs))] sz) [(h0, .inr (12, fs))]) (va_A [(h0, .inr (12, fs))] sz)) 0 0 (va_A [(h0, .inr (12, fs))] sz) := by
  refine Met.ofW (cc := cX12_byteAt) (maxL := 2) (ret := (some .int)) (by decide) rfl ?_
  intro p e s m args below meth c s₁ B hml hv
  obtain ⟨rfl, hsz, hP, hK, hD0, hZ, hE⟩ := hv
  have hx := B.exec
  have hb := B.bytes
  have hr := B.returns
  have hts := atoms_spec (ws := v_c_m_byteAt) B.pre
  have hown : s.vm.findClass RX12 = some m.cls := findClass_of_methodNamed B.named
  have hlocks := B.notSynchronized
  subst hsz
  have hD := hD0.self (sz := s.heap.size)
  generalize hAe : va_A [(h0, .inr (12, fs))] s.heap.size = A at hD hZ ⊢
  have hA : ∀ q : Nat, s.heap.size ≤ q → A q := fun q h => by rw [← hAe]; exact Or.inr h
  have hS : va_S A s.heap s.heap [] := va_S.rf
  have hAO := hE.2.2.2.1
  have hP : va_P D vwCl [(h0, .inr (12, fs))] s.heap := hP
  have hl := lv_entry ([.ref h0, .int 0]) (n := 2) (Nat.le_of_ble_eq_true rfl)
  rw [lg_entry_eq]
  generalize (lg_sl ([.ref h0, .int 0]) ++ List.replicate (2 - (lg_sl ([.ref h0, .int 0])).length) Slot.unset).toArray = ls at hl ⊢
  have hl : lv_has ls 2 [(0, .ref h0), (1, .int 0)] := hl
  refine lv_iload_n hx hb dX12_byteAt_0 rfl (lv_at hl 1 rfl) ?_
  refine lv_aload_n hx hb dX12_byteAt_1 rfl (lv_at hl 0 rfl) ?_
  refine va_get (D := D) (ci := 12) (v := .int 0) (C := RX12) (T := TX12) (N := 139) hx hb hts i_v_c_m_byteAt_X12 hown hK hP 0 rfl rfl 2 (by decide) (hts (.fieldLink RX12 319 "ScheduleHouseModel" "size" "I") (by decide +kernel)) (fun _ h9 => h9) hf_size dX12_byteAt_2 ?_
  refine lv_icmp_ge (tgt := 21) hx hb dX12_byteAt_5 (by decide) (fun _ => ?_) (fun c9 => False.elim (by revert c9; decide))
  refine lv_iconst (v := (-1)) hx hb dX12_byteAt_21 (by decide +kernel) ?_
  exact W.iret (v := (-1)) hx hb hr (fun t ht hW => ⟨⟨-1, (), rfl, rfl, by rw [ht]; exact hP, va_K.moved hW.alike hK, hD⟩, hS.F ht⟩) hS.2.2 dX12_byteAt_22
noncomputable def v_c_m_isLetter : List Cond := .code yX12_isLetter cX12_isLetter 1 (some .boolean) :: ([] ++ ((va_wsS RX12 322 yX12_in v_c_m_in) ++ ([])))
theorem g_v_c_m_isLetter_0 : GoodIn v_c_m_isLetter (va_wsS RX12 322 yX12_in v_c_m_in) := goodIn_sub (fun _ h => List.mem_cons_of_mem _ (List.mem_append_right _ (List.mem_append_left _ h))) (by decide +kernel)
theorem t_v_c_m_isLetter : ∀ w ∈ v_c_m_isLetter, w ∈ lw_tbl := tb_c (List.mem_of_getElem? (i := 2527) (by decide +kernel)) (tb_a (tb_n) (tb_a (tb_a (tb_c (List.mem_of_getElem? (i := 2498) (by decide +kernel)) (tb_c (List.mem_of_getElem? (i := 2499) (by decide +kernel)) (tb_c (List.mem_of_getElem? (i := 215) (by decide +kernel)) (tb_n)))) t_v_c_m_in) (tb_n)))
set_option maxHeartbeats 400000 in
set_option maxRecDepth 100000 in
/-- the model's isLetter of -1 -/
theorem c_m_isLetter (l : Launch) (D : va_G) (sz : Nat) : Met l yX12_isLetter v_c_m_isLetter ({ frames := 3, cells := 0, slots := 0, locals := 40 }) (va_Pc [.int (-1)] (st_ D [] [] sz)) (va_Qi (fun (r : Int32) (_ : Unit) => r = 0) (fun _ _ => True) (va_A [] sz)) 0 0 (va_A [] sz) := by
  refine Met.ofW (cc := cX12_isLetter) (maxL := 1) (ret := (some .boolean)) (by decide) rfl ?_
  intro p e s m args below meth c s₁ B hml hv
  obtain ⟨rfl, hsz, hP, hK, hD0, hZ, hE⟩ := hv
  have hx := B.exec
  have hb := B.bytes
  have hr := B.returns
  have hts := atoms_spec (ws := v_c_m_isLetter) B.pre
  have hown : s.vm.findClass RX12 = some m.cls := findClass_of_methodNamed B.named
  have hlocks := B.notSynchronized
  subst hsz
  have hD := hD0.self (sz := s.heap.size)
  generalize hAe : va_A [] s.heap.size = A at hD hZ ⊢
  have hA : ∀ q : Nat, s.heap.size ≤ q → A q := fun q h => by rw [← hAe]; exact Or.inr h
  have hS : va_S A s.heap s.heap [] := va_S.rf
  have hAO := hE.2.2.2.1
  have hP : va_P D vwCl [] s.heap := hP
  have hl := lv_entry ([.int (-1)]) (n := 1) (Nat.le_of_ble_eq_true rfl)
  rw [lg_entry_eq]
  generalize (lg_sl ([.int (-1)]) ++ List.replicate (1 - (lg_sl ([.int (-1)])).length) Slot.unset).toArray = ls at hl ⊢
  have hl : lv_has ls 1 [(0, .int (-1))] := hl
  refine lv_iload_n hx hb dX12_isLetter_0 rfl (lv_at hl 0 rfl) ?_
  refine lv_bipush (v := 97) hx hb dX12_isLetter_1 (by decide +kernel) ?_
  refine lv_bipush (v := 122) hx hb dX12_isLetter_3 (by decide +kernel) ?_
  have hPc := hP.sub (ws' := []) [] rfl
  have hDc := hD.sub (ws' := []) [] (by decide) rfl
  have hKc := hK.sub (tys' := []) [] rfl
  have hFc := va_free (wc := []) hD hS hA [] rfl
  refine va_calli (va_runS (As := [.int (-1), .int 97, .int 122]) (rest := []) ⟨hx, hb, hml, hown, hts⟩ (c_m_in l D (-1) 97 122 s.heap.size) (va_cwS 3 hts g_v_c_m_isLetter_0 rfl rfl rfl (by decide +kernel) ⟨Nat.le_of_ble_eq_true rfl, Nat.le_of_ble_eq_true rfl⟩) ⟨st_blind, fun U hU hW => ⟨rfl, st_call hU hW hPc hKc hDc hZ hS hFc hE⟩⟩ rfl rfl hl.1 rfl (lv_room (Nat.le_of_ble_eq_true rfl)) dX12_isLetter_5 ⟨Nat.le_of_ble_eq_true rfl, Nat.le_of_ble_eq_true rfl⟩) hS (fun q _ h => hFc q h) hFc (fun r1 u2 t H1 locs ht hvm hw hB hz1 hk1 hS => ?_)
  obtain ⟨hP, hD⟩ := va_join (wr := []) (w1 := []) hP hD [] [] rfl rfl (by decide) (by decide) hk1 hFc p_nil d_nil
  generalize H1 = H at hP hS ⊢
  have hP : va_P D vwCl [] H := hP
  have hD : va_D A [] := hD
  rcases hw with ⟨er1, hi⟩ | ⟨er1, hi⟩
  · subst er1
    exact absurd hi (by decide)
  · subst er1
    refine lv_if_ne (tgt := 22) hx hb dX12_isLetter_8 (by decide) (fun c9 => False.elim (by revert c9; decide)) (fun _ => ?_)
    refine lv_iload_n hx hb dX12_isLetter_11 rfl (lv_at hl 0 rfl) ?_
    refine lv_bipush (v := 65) hx hb dX12_isLetter_12 (by decide +kernel) ?_
    refine lv_bipush (v := 90) hx hb dX12_isLetter_14 (by decide +kernel) ?_
    have hPc := hP.sub (ws' := []) [] rfl
    have hDc := hD.sub (ws' := []) [] (by decide) rfl
    have hKc := hK.sub (tys' := []) [] rfl
    have hFc := va_free (wc := []) hD hS hA [] rfl
    refine va_calli (va_runS (As := [.int (-1), .int 65, .int 90]) (rest := []) ⟨hx, hb, hml, hown, hts⟩ (c_m_in l D (-1) 65 90 H.size) (va_cwS 3 hts g_v_c_m_isLetter_0 rfl rfl rfl (by decide +kernel) ⟨Nat.le_of_ble_eq_true rfl, Nat.le_of_ble_eq_true rfl⟩) ⟨st_blind, fun U hU hW => ⟨rfl, st_call hU hW hPc hKc hDc hZ hS hFc hE⟩⟩ rfl rfl hl.1 rfl (lv_room (Nat.le_of_ble_eq_true rfl)) dX12_isLetter_16 ⟨Nat.le_of_ble_eq_true rfl, Nat.le_of_ble_eq_true rfl⟩) hS (fun q _ h => hFc q h) hFc (fun r3 u4 t H1 locs ht hvm hw hB hz1 hk1 hS => ?_)
    obtain ⟨hP, hD⟩ := va_join (wr := []) (w1 := []) hP hD [] [] rfl rfl (by decide) (by decide) hk1 hFc p_nil d_nil
    generalize H1 = H at hP hS ⊢
    have hP : va_P D vwCl [] H := hP
    have hD : va_D A [] := hD
    rcases hw with ⟨er3, hi⟩ | ⟨er3, hi⟩
    · subst er3
      exact absurd hi (by decide)
    · subst er3
      refine lv_if_eq (tgt := 26) hx hb dX12_isLetter_19 (by decide) (fun _ => ?_) (fun c9 => False.elim (by revert c9; decide))
      refine lv_iconst (v := 0) hx hb dX12_isLetter_26 (by decide +kernel) ?_
      exact W.zret (v := 0) hx hb hr rfl (fun t ht hW => ⟨⟨0, (), rfl, rfl, trivial⟩, hS.F ht⟩) hS.2.2 dX12_isLetter_27
noncomputable def v_c_m_isDigit : List Cond := .code yX12_isDigit cX12_isDigit 1 (some .boolean) :: ([] ++ ((va_wsS RX12 322 yX12_in v_c_m_in) ++ ([])))
theorem g_v_c_m_isDigit_0 : GoodIn v_c_m_isDigit (va_wsS RX12 322 yX12_in v_c_m_in) := goodIn_sub (fun _ h => List.mem_cons_of_mem _ (List.mem_append_right _ (List.mem_append_left _ h))) (by decide +kernel)
theorem t_v_c_m_isDigit : ∀ w ∈ v_c_m_isDigit, w ∈ lw_tbl := tb_c (List.mem_of_getElem? (i := 2530) (by decide +kernel)) (tb_a (tb_n) (tb_a (tb_a (tb_c (List.mem_of_getElem? (i := 2498) (by decide +kernel)) (tb_c (List.mem_of_getElem? (i := 2499) (by decide +kernel)) (tb_c (List.mem_of_getElem? (i := 215) (by decide +kernel)) (tb_n)))) t_v_c_m_in) (tb_n)))
set_option maxHeartbeats 400000 in
set_option maxRecDepth 100000 in
/-- the model's isDigit of -1 -/
theorem c_m_isDigit (l : Launch) (D : va_G) (sz : Nat) : Met l yX12_isDigit v_c_m_isDigit ({ frames := 3, cells := 0, slots := 0, locals := 40 }) (va_Pc [.int (-1)] (st_ D [] [] sz)) (va_Qi (fun (r : Int32) (_ : Unit) => r = 0) (fun _ _ => True) (va_A [] sz)) 0 0 (va_A [] sz) := by
  refine Met.ofW (cc := cX12_isDigit) (maxL := 1) (ret := (some .boolean)) (by decide) rfl ?_
  intro p e s m args below meth c s₁ B hml hv
  obtain ⟨rfl, hsz, hP, hK, hD0, hZ, hE⟩ := hv
  have hx := B.exec
  have hb := B.bytes
  have hr := B.returns
  have hts := atoms_spec (ws := v_c_m_isDigit) B.pre
  have hown : s.vm.findClass RX12 = some m.cls := findClass_of_methodNamed B.named
  have hlocks := B.notSynchronized
  subst hsz
  have hD := hD0.self (sz := s.heap.size)
  generalize hAe : va_A [] s.heap.size = A at hD hZ ⊢
  have hA : ∀ q : Nat, s.heap.size ≤ q → A q := fun q h => by rw [← hAe]; exact Or.inr h
  have hS : va_S A s.heap s.heap [] := va_S.rf
  have hAO := hE.2.2.2.1
  have hP : va_P D vwCl [] s.heap := hP
  have hl := lv_entry ([.int (-1)]) (n := 1) (Nat.le_of_ble_eq_true rfl)
  rw [lg_entry_eq]
  generalize (lg_sl ([.int (-1)]) ++ List.replicate (1 - (lg_sl ([.int (-1)])).length) Slot.unset).toArray = ls at hl ⊢
  have hl : lv_has ls 1 [(0, .int (-1))] := hl
  refine lv_iload_n hx hb dX12_isDigit_0 rfl (lv_at hl 0 rfl) ?_
  refine lv_bipush (v := 48) hx hb dX12_isDigit_1 (by decide +kernel) ?_
  refine lv_bipush (v := 57) hx hb dX12_isDigit_3 (by decide +kernel) ?_
  have hPc := hP.sub (ws' := []) [] rfl
  have hDc := hD.sub (ws' := []) [] (by decide) rfl
  have hKc := hK.sub (tys' := []) [] rfl
  have hFc := va_free (wc := []) hD hS hA [] rfl
  refine va_calli (va_runS (As := [.int (-1), .int 48, .int 57]) (rest := []) ⟨hx, hb, hml, hown, hts⟩ (c_m_in l D (-1) 48 57 s.heap.size) (va_cwS 3 hts g_v_c_m_isDigit_0 rfl rfl rfl (by decide +kernel) ⟨Nat.le_of_ble_eq_true rfl, Nat.le_of_ble_eq_true rfl⟩) ⟨st_blind, fun U hU hW => ⟨rfl, st_call hU hW hPc hKc hDc hZ hS hFc hE⟩⟩ rfl rfl hl.1 rfl (lv_room (Nat.le_of_ble_eq_true rfl)) dX12_isDigit_5 ⟨Nat.le_of_ble_eq_true rfl, Nat.le_of_ble_eq_true rfl⟩) hS (fun q _ h => hFc q h) hFc (fun r1 u2 t H1 locs ht hvm hw hB hz1 hk1 hS => ?_)
  obtain ⟨hP, hD⟩ := va_join (wr := []) (w1 := []) hP hD [] [] rfl rfl (by decide) (by decide) hk1 hFc p_nil d_nil
  generalize H1 = H at hP hS ⊢
  have hP : va_P D vwCl [] H := hP
  have hD : va_D A [] := hD
  rcases hw with ⟨er1, hi⟩ | ⟨er1, hi⟩
  · subst er1
    exact absurd hi (by decide)
  · subst er1
    exact W.zret (v := 0) hx hb hr rfl (fun t ht hW => ⟨⟨0, (), rfl, rfl, trivial⟩, hS.F ht⟩) hS.2.2 dX12_isDigit_8
noncomputable def v_c_m_put : List Cond := .code yX12_put cX12_put 5 none :: ([.fieldLink RX12 13 "ScheduleHouseModel" "kind" "[I", .fieldLink RX12 342 "ScheduleHouseModel" "tokens" "I", .fieldLink RX12 17 "ScheduleHouseModel" "place" "[I", .fieldLink RX12 23 "ScheduleHouseModel" "sizeOf" "[I", .fieldLink RX12 20 "ScheduleHouseModel" "valueOf" "[I"] ++ (wsX120 ++ ([])))
theorem i_v_c_m_put_X12 : ∀ w ∈ wsX120, w ∈ v_c_m_put := fun _ h => List.mem_cons_of_mem _ (List.mem_append_right _ (List.mem_append_left _ h))
theorem t_v_c_m_put : ∀ w ∈ v_c_m_put, w ∈ lw_tbl := tb_c (List.mem_of_getElem? (i := 2552) (by decide +kernel)) (tb_a (tb_c (List.mem_of_getElem? (i := 2076) (by decide +kernel)) (tb_c (List.mem_of_getElem? (i := 2075) (by decide +kernel)) (tb_c (List.mem_of_getElem? (i := 2077) (by decide +kernel)) (tb_c (List.mem_of_getElem? (i := 2079) (by decide +kernel)) (tb_c (List.mem_of_getElem? (i := 2078) (by decide +kernel)) (tb_n)))))) (tb_a (tw_wsX120) (tb_n)))
set_option maxHeartbeats 400000 in
set_option maxRecDepth 100000 in
/-- the model's put of the end -/
theorem c_m_put (l : Launch) (D : va_G) (h0 ka pa za va : Nat) (cka cpa cza cva : ClassId) (fs : List Value) (f0 f1 f2 f3 : Nat → Int32) (sz : Nat) (hlen : fs.length = 139) (hf_tokens : fs[3]? = some (.int 0)) (hf_kind : fs[4]? = some (.ref ka)) (hf_place : fs[5]? = some (.ref pa)) (hf_sizeOf : fs[7]? = some (.ref za)) (hf_valueOf : fs[6]? = some (.ref va)) : Met l yX12_put v_c_m_put ({ frames := 1, cells := 0, slots := 0, locals := 12 }) (va_Pc [.ref h0, .int 0, .int 0, .int 0, .int 0] (st_ D [(h0, .inr (12, fs)), (ka, .inl (cka, 710, .inl f0)), (pa, .inl (cpa, 710, .inl f1)), (za, .inl (cza, 710, .inl f2)), (va, .inl (cva, 710, .inl f3))] [(cka, .int), (cpa, .int), (cza, .int), (cva, .int)] sz)) (va_Qv (fun u : List Value => u = fs.set 3 (.int 1)) (fun u t => ∃ f : Nat → Int32, f 0 = 0 ∧ va_P D vwCl [(h0, .inr (12, u)), (ka, .inl (cka, 710, .inl f))] t.heap ∧ va_K D vwCl [(cka, .int)] t ∧ va_D (va_A [(h0, .inr (12, fs)), (ka, .inl (cka, 710, .inl f0)), (pa, .inl (cpa, 710, .inl f1)), (za, .inl (cza, 710, .inl f2)), (va, .inl (cva, 710, .inl f3))] sz) [(h0, .inr (12, u)), (ka, .inl (cka, 710, .inl f))]) (va_A [(h0, .inr (12, fs)), (ka, .inl (cka, 710, .inl f0)), (pa, .inl (cpa, 710, .inl f1)), (za, .inl (cza, 710, .inl f2)), (va, .inl (cva, 710, .inl f3))] sz)) 0 0 (va_A [(h0, .inr (12, fs)), (ka, .inl (cka, 710, .inl f0)), (pa, .inl (cpa, 710, .inl f1)), (za, .inl (cza, 710, .inl f2)), (va, .inl (cva, 710, .inl f3))] sz) := by
  refine Met.ofW (cc := cX12_put) (maxL := 5) (ret := none) (by decide) rfl ?_
  intro p e s m args below meth c s₁ B hml hv
  obtain ⟨rfl, hsz, hP, hK, hD0, hZ, hE⟩ := hv
  have hx := B.exec
  have hb := B.bytes
  have hr := B.returns
  have hts := atoms_spec (ws := v_c_m_put) B.pre
  have hown : s.vm.findClass RX12 = some m.cls := findClass_of_methodNamed B.named
  have hlocks := B.notSynchronized
  subst hsz
  have hD := hD0.self (sz := s.heap.size)
  generalize hAe : va_A [(h0, .inr (12, fs)), (ka, .inl (cka, 710, .inl f0)), (pa, .inl (cpa, 710, .inl f1)), (za, .inl (cza, 710, .inl f2)), (va, .inl (cva, 710, .inl f3))] s.heap.size = A at hD hZ ⊢
  have hA : ∀ q : Nat, s.heap.size ≤ q → A q := fun q h => by rw [← hAe]; exact Or.inr h
  have hS : va_S A s.heap s.heap [] := va_S.rf
  have hAO := hE.2.2.2.1
  have hP : va_P D vwCl [(h0, .inr (12, fs)), (ka, .inl (cka, 710, .inl f0)), (pa, .inl (cpa, 710, .inl f1)), (za, .inl (cza, 710, .inl f2)), (va, .inl (cva, 710, .inl f3))] s.heap := hP
  have hl := lv_entry ([.ref h0, .int 0, .int 0, .int 0, .int 0]) (n := 5) (Nat.le_of_ble_eq_true rfl)
  rw [lg_entry_eq]
  generalize (lg_sl ([.ref h0, .int 0, .int 0, .int 0, .int 0]) ++ List.replicate (5 - (lg_sl ([.ref h0, .int 0, .int 0, .int 0, .int 0])).length) Slot.unset).toArray = ls at hl ⊢
  have hl : lv_has ls 5 [(0, .ref h0), (1, .int 0), (2, .int 0), (3, .int 0), (4, .int 0)] := hl
  refine lv_aload_n hx hb dX12_put_0 rfl (lv_at hl 0 rfl) ?_
  refine va_get (D := D) (ci := 12) (v := .ref ka) (C := RX12) (T := TX12) (N := 139) hx hb hts i_v_c_m_put_X12 hown hK hP 0 rfl rfl 4 (by decide) (hts (.fieldLink RX12 13 "ScheduleHouseModel" "kind" "[I") (by decide +kernel)) (fun _ h9 => h9) hf_kind dX12_put_1 ?_
  refine lv_aload_n hx hb dX12_put_4 rfl (lv_at hl 0 rfl) ?_
  refine va_get (D := D) (ci := 12) (v := .int 0) (C := RX12) (T := TX12) (N := 139) hx hb hts i_v_c_m_put_X12 hown hK hP 0 rfl rfl 3 (by decide) (hts (.fieldLink RX12 342 "ScheduleHouseModel" "tokens" "I") (by decide +kernel)) (fun _ h9 => h9) hf_tokens dX12_put_5 ?_
  refine lv_iload_n hx hb dX12_put_8 rfl (lv_at hl 1 rfl) ?_
  refine va_iast hx hb hK hP hD hS 1 0 rfl rfl (i := 0) (x := 0) (by unfold vp_in; decide) dX12_put_9 (fun H locs hP hD hS => ?_)
  obtain ⟨fy1, hfy1⟩ : ∃ z : Nat → Int32, z = upd f0 (0 : Int32).toNatClampNeg 0 := ⟨_, rfl⟩
  have hP : va_P D vwCl [(h0, .inr (12, fs)), (ka, .inl (cka, 710, .inl fy1)), (pa, .inl (cpa, 710, .inl f1)), (za, .inl (cza, 710, .inl f2)), (va, .inl (cva, 710, .inl f3))] H := by rw [hfy1]; exact hP
  have hD : va_D A [(h0, .inr (12, fs)), (ka, .inl (cka, 710, .inl fy1)), (pa, .inl (cpa, 710, .inl f1)), (za, .inl (cza, 710, .inl f2)), (va, .inl (cva, 710, .inl f3))] := by rw [hfy1]; exact hD
  refine lv_aload_n hx hb dX12_put_10 rfl (lv_at hl 0 rfl) ?_
  refine va_get (D := D) (ci := 12) (v := .ref pa) (C := RX12) (T := TX12) (N := 139) hx hb hts i_v_c_m_put_X12 hown hK hP 0 rfl rfl 5 (by decide) (hts (.fieldLink RX12 17 "ScheduleHouseModel" "place" "[I") (by decide +kernel)) (fun _ h9 => h9) hf_place dX12_put_11 ?_
  refine lv_aload_n hx hb dX12_put_14 rfl (lv_at hl 0 rfl) ?_
  refine va_get (D := D) (ci := 12) (v := .int 0) (C := RX12) (T := TX12) (N := 139) hx hb hts i_v_c_m_put_X12 hown hK hP 0 rfl rfl 3 (by decide) (hts (.fieldLink RX12 342 "ScheduleHouseModel" "tokens" "I") (by decide +kernel)) (fun _ h9 => h9) hf_tokens dX12_put_15 ?_
  refine lv_iload_n hx hb dX12_put_18 rfl (lv_at hl 2 rfl) ?_
  refine va_iast hx hb hK hP hD hS 2 1 rfl rfl (i := 0) (x := 0) (by unfold vp_in; decide) dX12_put_19 (fun H locs hP hD hS => ?_)
  obtain ⟨fy2, hfy2⟩ : ∃ z : Nat → Int32, z = upd f1 (0 : Int32).toNatClampNeg 0 := ⟨_, rfl⟩
  have hP : va_P D vwCl [(h0, .inr (12, fs)), (ka, .inl (cka, 710, .inl fy1)), (pa, .inl (cpa, 710, .inl fy2)), (za, .inl (cza, 710, .inl f2)), (va, .inl (cva, 710, .inl f3))] H := by rw [hfy2]; exact hP
  have hD : va_D A [(h0, .inr (12, fs)), (ka, .inl (cka, 710, .inl fy1)), (pa, .inl (cpa, 710, .inl fy2)), (za, .inl (cza, 710, .inl f2)), (va, .inl (cva, 710, .inl f3))] := by rw [hfy2]; exact hD
  refine lv_aload_n hx hb dX12_put_20 rfl (lv_at hl 0 rfl) ?_
  refine va_get (D := D) (ci := 12) (v := .ref za) (C := RX12) (T := TX12) (N := 139) hx hb hts i_v_c_m_put_X12 hown hK hP 0 rfl rfl 7 (by decide) (hts (.fieldLink RX12 23 "ScheduleHouseModel" "sizeOf" "[I") (by decide +kernel)) (fun _ h9 => h9) hf_sizeOf dX12_put_21 ?_
  refine lv_aload_n hx hb dX12_put_24 rfl (lv_at hl 0 rfl) ?_
  refine va_get (D := D) (ci := 12) (v := .int 0) (C := RX12) (T := TX12) (N := 139) hx hb hts i_v_c_m_put_X12 hown hK hP 0 rfl rfl 3 (by decide) (hts (.fieldLink RX12 342 "ScheduleHouseModel" "tokens" "I") (by decide +kernel)) (fun _ h9 => h9) hf_tokens dX12_put_25 ?_
  refine lv_iload_n hx hb dX12_put_28 rfl (lv_at hl 3 rfl) ?_
  refine va_iast hx hb hK hP hD hS 3 2 rfl rfl (i := 0) (x := 0) (by unfold vp_in; decide) dX12_put_29 (fun H locs hP hD hS => ?_)
  obtain ⟨fy3, hfy3⟩ : ∃ z : Nat → Int32, z = upd f2 (0 : Int32).toNatClampNeg 0 := ⟨_, rfl⟩
  have hP : va_P D vwCl [(h0, .inr (12, fs)), (ka, .inl (cka, 710, .inl fy1)), (pa, .inl (cpa, 710, .inl fy2)), (za, .inl (cza, 710, .inl fy3)), (va, .inl (cva, 710, .inl f3))] H := by rw [hfy3]; exact hP
  have hD : va_D A [(h0, .inr (12, fs)), (ka, .inl (cka, 710, .inl fy1)), (pa, .inl (cpa, 710, .inl fy2)), (za, .inl (cza, 710, .inl fy3)), (va, .inl (cva, 710, .inl f3))] := by rw [hfy3]; exact hD
  refine lv_aload_n hx hb dX12_put_30 rfl (lv_at hl 0 rfl) ?_
  refine va_get (D := D) (ci := 12) (v := .ref va) (C := RX12) (T := TX12) (N := 139) hx hb hts i_v_c_m_put_X12 hown hK hP 0 rfl rfl 6 (by decide) (hts (.fieldLink RX12 20 "ScheduleHouseModel" "valueOf" "[I") (by decide +kernel)) (fun _ h9 => h9) hf_valueOf dX12_put_31 ?_
  refine lv_aload_n hx hb dX12_put_34 rfl (lv_at hl 0 rfl) ?_
  refine va_get (D := D) (ci := 12) (v := .int 0) (C := RX12) (T := TX12) (N := 139) hx hb hts i_v_c_m_put_X12 hown hK hP 0 rfl rfl 3 (by decide) (hts (.fieldLink RX12 342 "ScheduleHouseModel" "tokens" "I") (by decide +kernel)) (fun _ h9 => h9) hf_tokens dX12_put_35 ?_
  refine lv_iload hx hb dX12_put_38 (lv_at hl 4 rfl) ?_
  refine va_iast hx hb hK hP hD hS 4 3 rfl rfl (i := 0) (x := 0) (by unfold vp_in; decide) dX12_put_40 (fun H locs hP hD hS => ?_)
  obtain ⟨fy4, hfy4⟩ : ∃ z : Nat → Int32, z = upd f3 (0 : Int32).toNatClampNeg 0 := ⟨_, rfl⟩
  have hP : va_P D vwCl [(h0, .inr (12, fs)), (ka, .inl (cka, 710, .inl fy1)), (pa, .inl (cpa, 710, .inl fy2)), (za, .inl (cza, 710, .inl fy3)), (va, .inl (cva, 710, .inl fy4))] H := by rw [hfy4]; exact hP
  have hD : va_D A [(h0, .inr (12, fs)), (ka, .inl (cka, 710, .inl fy1)), (pa, .inl (cpa, 710, .inl fy2)), (za, .inl (cza, 710, .inl fy3)), (va, .inl (cva, 710, .inl fy4))] := by rw [hfy4]; exact hD
  refine lv_aload_n hx hb dX12_put_41 rfl (lv_at hl 0 rfl) ?_
  refine lv_dup hx hb dX12_put_42 rfl ?_
  refine va_get (D := D) (ci := 12) (v := .int 0) (C := RX12) (T := TX12) (N := 139) hx hb hts i_v_c_m_put_X12 hown hK hP 0 rfl rfl 3 (by decide) (hts (.fieldLink RX12 342 "ScheduleHouseModel" "tokens" "I") (by decide +kernel)) (fun _ h9 => h9) hf_tokens dX12_put_43 ?_
  refine lv_iconst (v := 1) hx hb dX12_put_46 (by decide +kernel) ?_
  refine lv_iadd hx hb dX12_put_47 ?_
  rw [show (0 + 1 : Int32) = 1 by decide]
  refine va_put (D := D) (ci := 12) (v := .int 1) (ty := .int) (C := RX12) (T := TX12) (N := 139) hx hb hts i_v_c_m_put_X12 tyX12 tyX12_ok nmX12 hown hK hP hD hS 0 rfl rfl 3 (by decide) (hts (.fieldLink RX12 342 "ScheduleHouseModel" "tokens" "I") (by decide +kernel)) (fun _ h9 => h9) rfl (by decide +kernel) rfl rfl (by rw [hlen]; decide) dX12_put_48 (fun H locs hP hD hS => ?_)
  obtain ⟨fs5, hfs5⟩ : ∃ z, z = fs.set 3 (.int 1) := ⟨_, rfl⟩
  rw [← hfs5] at hP hD
  have lfs5 : fs5.length = 139 := by rw [hfs5, List.length_set]; exact hlen
  have gfs5_4 : fs5[4]? = some (.ref ka) := by rw [hfs5, List.getElem?_set_ne (by decide)]; exact hf_kind
  have gfs5_5 : fs5[5]? = some (.ref pa) := by rw [hfs5, List.getElem?_set_ne (by decide)]; exact hf_place
  have gfs5_7 : fs5[7]? = some (.ref za) := by rw [hfs5, List.getElem?_set_ne (by decide)]; exact hf_sizeOf
  have gfs5_6 : fs5[6]? = some (.ref va) := by rw [hfs5, List.getElem?_set_ne (by decide)]; exact hf_valueOf
  have gfs5_3 : fs5[3]? = some (.int 1) := by rw [hfs5]; exact List.getElem?_set_self (by rw [hlen]; decide)
  have hP : va_P D vwCl [(h0, .inr (12, fs5)), (ka, .inl (cka, 710, .inl fy1)), (pa, .inl (cpa, 710, .inl fy2)), (za, .inl (cza, 710, .inl fy3)), (va, .inl (cva, 710, .inl fy4))] H := hP
  have hD : va_D A [(h0, .inr (12, fs5)), (ka, .inl (cka, 710, .inl fy1)), (pa, .inl (cpa, 710, .inl fy2)), (za, .inl (cza, 710, .inl fy3)), (va, .inl (cva, 710, .inl fy4))] := hD
  have e0 : fy1 0 = 0 := by rw [hfy1]; rfl
  have hP : va_P D vwCl [(h0, .inr (12, fs5)), (ka, .inl (cka, 710, .inl fy1))] H := hP.sub [0, 1] rfl
  have hD : va_D A [(h0, .inr (12, fs5)), (ka, .inl (cka, 710, .inl fy1))] := hD.sub [0, 1] (by decide) rfl
  have hK : va_K D vwCl [(cka, .int)] s := hK.sub [0] rfl
  exact W.vret hx hb hr (fun t ht hW => ⟨⟨fs5, rfl, hfs5, fy1, e0, by rw [ht]; exact hP, va_K.moved hW.alike hK, hD⟩, hS.F ht⟩) hS.2.2 dX12_put_51
noncomputable def v_c_m_readTokens : List Cond := .code yX12_readTokens cX12_readTokens 7 none :: ([.fieldLink RX12 342 "ScheduleHouseModel" "tokens" "I"] ++ (wsX120 ++ ((wsV RX12 338 RX12 yX12_byteAt v_c_m_byteAt) ++ ((va_wsS RX12 345 yX12_isLetter v_c_m_isLetter) ++ ((va_wsS RX12 349 yX12_isDigit v_c_m_isDigit) ++ ((wsV RX12 359 RX12 yX12_put v_c_m_put) ++ ([])))))))
theorem i_v_c_m_readTokens_X12 : ∀ w ∈ wsX120, w ∈ v_c_m_readTokens := fun _ h => List.mem_cons_of_mem _ (List.mem_append_right _ (List.mem_append_left _ h))
theorem g_v_c_m_readTokens_1 : GoodIn v_c_m_readTokens (wsV RX12 338 RX12 yX12_byteAt v_c_m_byteAt) := goodIn_sub (fun _ h => List.mem_cons_of_mem _ (List.mem_append_right _ (List.mem_append_right _ (List.mem_append_left _ h)))) (by decide +kernel)
theorem g_v_c_m_readTokens_2 : GoodIn v_c_m_readTokens (va_wsS RX12 345 yX12_isLetter v_c_m_isLetter) := goodIn_sub (fun _ h => List.mem_cons_of_mem _ (List.mem_append_right _ (List.mem_append_right _ (List.mem_append_right _ (List.mem_append_left _ h))))) (by decide +kernel)
theorem g_v_c_m_readTokens_3 : GoodIn v_c_m_readTokens (va_wsS RX12 349 yX12_isDigit v_c_m_isDigit) := goodIn_sub (fun _ h => List.mem_cons_of_mem _ (List.mem_append_right _ (List.mem_append_right _ (List.mem_append_right _ (List.mem_append_right _ (List.mem_append_left _ h)))))) (by decide +kernel)
theorem g_v_c_m_readTokens_4 : GoodIn v_c_m_readTokens (wsV RX12 359 RX12 yX12_put v_c_m_put) := goodIn_sub (fun _ h => List.mem_cons_of_mem _ (List.mem_append_right _ (List.mem_append_right _ (List.mem_append_right _ (List.mem_append_right _ (List.mem_append_right _ (List.mem_append_left _ h))))))) (by decide +kernel)
theorem t_v_c_m_readTokens : ∀ w ∈ v_c_m_readTokens, w ∈ lw_tbl := tb_c (List.mem_of_getElem? (i := 2520) (by decide +kernel)) (tb_a (tb_c (List.mem_of_getElem? (i := 2075) (by decide +kernel)) (tb_n)) (tb_a (tw_wsX120) (tb_a (tb_a (tb_c (List.mem_of_getElem? (i := 2521) (by decide +kernel)) (tb_c (List.mem_of_getElem? (i := 2523) (by decide +kernel)) (tb_c (List.mem_of_getElem? (i := 116) (by decide +kernel)) (tb_c (List.mem_of_getElem? (i := 215) (by decide +kernel)) (tb_n))))) t_v_c_m_byteAt) (tb_a (tb_a (tb_c (List.mem_of_getElem? (i := 2525) (by decide +kernel)) (tb_c (List.mem_of_getElem? (i := 2526) (by decide +kernel)) (tb_c (List.mem_of_getElem? (i := 215) (by decide +kernel)) (tb_n)))) t_v_c_m_isLetter) (tb_a (tb_a (tb_c (List.mem_of_getElem? (i := 2528) (by decide +kernel)) (tb_c (List.mem_of_getElem? (i := 2529) (by decide +kernel)) (tb_c (List.mem_of_getElem? (i := 215) (by decide +kernel)) (tb_n)))) t_v_c_m_isDigit) (tb_a (tb_a (tb_c (List.mem_of_getElem? (i := 2549) (by decide +kernel)) (tb_c (List.mem_of_getElem? (i := 2551) (by decide +kernel)) (tb_c (List.mem_of_getElem? (i := 119) (by decide +kernel)) (tb_c (List.mem_of_getElem? (i := 215) (by decide +kernel)) (tb_n))))) t_v_c_m_put) (tb_n)))))))
set_option maxHeartbeats 400000 in
set_option maxRecDepth 100000 in
/-- the model's readTokens of the empty text -/
theorem c_m_readTokens (l : Launch) (D : va_G) (h0 ka pa za va : Nat) (cka cpa cza cva : ClassId) (fs : List Value) (f0 f1 f2 f3 : Nat → Int32) (sz : Nat) (hlen : fs.length = 139) (hf_thrown : fs[0]? = some (.int 0)) (hf_size : fs[2]? = some (.int 0)) (hf_wrongPlace : fs[42]? = some (.int 0)) (hf_threads : fs[25]? = some (.int 0)) (hf_always : fs[26]? = some (.int 0)) (hf_finals : fs[27]? = some (.int 0)) (hf_kind : fs[4]? = some (.ref ka)) (hf_place : fs[5]? = some (.ref pa)) (hf_sizeOf : fs[7]? = some (.ref za)) (hf_valueOf : fs[6]? = some (.ref va)) : Met l yX12_readTokens v_c_m_readTokens ({ frames := 5, cells := 0, slots := 0, locals := 80 }) (va_Pc [.ref h0] (st_ D [(h0, .inr (12, fs)), (ka, .inl (cka, 710, .inl f0)), (pa, .inl (cpa, 710, .inl f1)), (za, .inl (cza, 710, .inl f2)), (va, .inl (cva, 710, .inl f3))] [(cka, .int), (cpa, .int), (cza, .int), (cva, .int)] sz)) (va_Qv (fun u : List Value => u.length = 139 ∧ u[4]? = some (.ref ka) ∧ u[0]? = some (.int 0) ∧ u[2]? = some (.int 0) ∧ u[42]? = some (.int 0) ∧ u[25]? = some (.int 0) ∧ u[26]? = some (.int 0) ∧ u[27]? = some (.int 0)) (fun u t => ∃ f : Nat → Int32, f 0 = 0 ∧ va_P D vwCl [(h0, .inr (12, u)), (ka, .inl (cka, 710, .inl f))] t.heap ∧ va_K D vwCl [(cka, .int)] t ∧ va_D (va_A [(h0, .inr (12, fs)), (ka, .inl (cka, 710, .inl f0)), (pa, .inl (cpa, 710, .inl f1)), (za, .inl (cza, 710, .inl f2)), (va, .inl (cva, 710, .inl f3))] sz) [(h0, .inr (12, u)), (ka, .inl (cka, 710, .inl f))]) (va_A [(h0, .inr (12, fs)), (ka, .inl (cka, 710, .inl f0)), (pa, .inl (cpa, 710, .inl f1)), (za, .inl (cza, 710, .inl f2)), (va, .inl (cva, 710, .inl f3))] sz)) 0 0 (va_A [(h0, .inr (12, fs)), (ka, .inl (cka, 710, .inl f0)), (pa, .inl (cpa, 710, .inl f1)), (za, .inl (cza, 710, .inl f2)), (va, .inl (cva, 710, .inl f3))] sz) := by
  refine Met.ofW (cc := cX12_readTokens) (maxL := 7) (ret := none) (by decide) rfl ?_
  intro p e s m args below meth c s₁ B hml hv
  obtain ⟨rfl, hsz, hP, hK, hD0, hZ, hE⟩ := hv
  have hx := B.exec
  have hb := B.bytes
  have hr := B.returns
  have hts := atoms_spec (ws := v_c_m_readTokens) B.pre
  have hown : s.vm.findClass RX12 = some m.cls := findClass_of_methodNamed B.named
  have hlocks := B.notSynchronized
  subst hsz
  have hD := hD0.self (sz := s.heap.size)
  generalize hAe : va_A [(h0, .inr (12, fs)), (ka, .inl (cka, 710, .inl f0)), (pa, .inl (cpa, 710, .inl f1)), (za, .inl (cza, 710, .inl f2)), (va, .inl (cva, 710, .inl f3))] s.heap.size = A at hD hZ ⊢
  have hA : ∀ q : Nat, s.heap.size ≤ q → A q := fun q h => by rw [← hAe]; exact Or.inr h
  have hS : va_S A s.heap s.heap [] := va_S.rf
  have hAO := hE.2.2.2.1
  have hP : va_P D vwCl [(h0, .inr (12, fs)), (ka, .inl (cka, 710, .inl f0)), (pa, .inl (cpa, 710, .inl f1)), (za, .inl (cza, 710, .inl f2)), (va, .inl (cva, 710, .inl f3))] s.heap := hP
  have hl := lv_entry ([.ref h0]) (n := 7) (Nat.le_of_ble_eq_true rfl)
  rw [lg_entry_eq]
  generalize (lg_sl ([.ref h0]) ++ List.replicate (7 - (lg_sl ([.ref h0])).length) Slot.unset).toArray = ls at hl ⊢
  have hl : lv_has ls 7 [(0, .ref h0)] := hl
  refine lv_aload_n hx hb dX12_readTokens_0 rfl (lv_at hl 0 rfl) ?_
  refine lv_iconst (v := 0) hx hb dX12_readTokens_1 (by decide +kernel) ?_
  refine va_put (D := D) (ci := 12) (v := .int 0) (ty := .int) (C := RX12) (T := TX12) (N := 139) hx hb hts i_v_c_m_readTokens_X12 tyX12 tyX12_ok nmX12 hown hK hP hD hS 0 rfl rfl 3 (by decide) (hts (.fieldLink RX12 342 "ScheduleHouseModel" "tokens" "I") (by decide +kernel)) (fun _ h9 => h9) rfl (by decide +kernel) rfl rfl (by rw [hlen]; decide) dX12_readTokens_2 (fun H locs hP hD hS => ?_)
  obtain ⟨fs1, hfs1⟩ : ∃ z, z = fs.set 3 (.int 0) := ⟨_, rfl⟩
  rw [← hfs1] at hP hD
  have lfs1 : fs1.length = 139 := by rw [hfs1, List.length_set]; exact hlen
  have gfs1_0 : fs1[0]? = some (.int 0) := by rw [hfs1, List.getElem?_set_ne (by decide)]; exact hf_thrown
  have gfs1_2 : fs1[2]? = some (.int 0) := by rw [hfs1, List.getElem?_set_ne (by decide)]; exact hf_size
  have gfs1_42 : fs1[42]? = some (.int 0) := by rw [hfs1, List.getElem?_set_ne (by decide)]; exact hf_wrongPlace
  have gfs1_25 : fs1[25]? = some (.int 0) := by rw [hfs1, List.getElem?_set_ne (by decide)]; exact hf_threads
  have gfs1_26 : fs1[26]? = some (.int 0) := by rw [hfs1, List.getElem?_set_ne (by decide)]; exact hf_always
  have gfs1_27 : fs1[27]? = some (.int 0) := by rw [hfs1, List.getElem?_set_ne (by decide)]; exact hf_finals
  have gfs1_4 : fs1[4]? = some (.ref ka) := by rw [hfs1, List.getElem?_set_ne (by decide)]; exact hf_kind
  have gfs1_5 : fs1[5]? = some (.ref pa) := by rw [hfs1, List.getElem?_set_ne (by decide)]; exact hf_place
  have gfs1_7 : fs1[7]? = some (.ref za) := by rw [hfs1, List.getElem?_set_ne (by decide)]; exact hf_sizeOf
  have gfs1_6 : fs1[6]? = some (.ref va) := by rw [hfs1, List.getElem?_set_ne (by decide)]; exact hf_valueOf
  have gfs1_3 : fs1[3]? = some (.int 0) := by rw [hfs1]; exact List.getElem?_set_self (by rw [hlen]; decide)
  have hP : va_P D vwCl [(h0, .inr (12, fs1)), (ka, .inl (cka, 710, .inl f0)), (pa, .inl (cpa, 710, .inl f1)), (za, .inl (cza, 710, .inl f2)), (va, .inl (cva, 710, .inl f3))] H := hP
  have hD : va_D A [(h0, .inr (12, fs1)), (ka, .inl (cka, 710, .inl f0)), (pa, .inl (cpa, 710, .inl f1)), (za, .inl (cza, 710, .inl f2)), (va, .inl (cva, 710, .inl f3))] := hD
  refine lv_iconst (v := 0) hx hb dX12_readTokens_5 (by decide +kernel) ?_
  refine lv_istore_n (lv' := [(1, .int 0), (0, .ref h0)]) hx hb dX12_readTokens_6 rfl hl (by decide) rfl (fun ls hl => ?_)
  refine lv_aload_n hx hb dX12_readTokens_7 rfl (lv_at hl 1 rfl) ?_
  refine va_get (D := D) (ci := 12) (v := .int 0) (C := RX12) (T := TX12) (N := 139) hx hb hts i_v_c_m_readTokens_X12 hown hK hP 0 rfl rfl 3 (by decide) (hts (.fieldLink RX12 342 "ScheduleHouseModel" "tokens" "I") (by decide +kernel)) (fun _ h9 => h9) gfs1_3 dX12_readTokens_8 ?_
  refine lv_sipush (v := 700) hx hb dX12_readTokens_11 (by decide +kernel) ?_
  refine lv_icmp_gt (tgt := 381) hx hb dX12_readTokens_14 (by decide) (fun c9 => False.elim (by revert c9; decide)) (fun _ => ?_)
  refine lv_iconst (v := 1) hx hb dX12_readTokens_17 (by decide +kernel) ?_
  refine lv_istore_n (lv' := [(2, .int 1), (1, .int 0), (0, .ref h0)]) hx hb dX12_readTokens_18 rfl hl (by decide) rfl (fun ls hl => ?_)
  refine lv_iload_n hx hb dX12_readTokens_19 rfl (lv_at hl 0 rfl) ?_
  refine lv_if_eq (tgt := 118) hx hb dX12_readTokens_20 (by decide) (fun c9 => False.elim (by revert c9; decide)) (fun _ => ?_)
  refine lv_aload_n hx hb dX12_readTokens_23 rfl (lv_at hl 2 rfl) ?_
  refine lv_iload_n hx hb dX12_readTokens_24 rfl (lv_at hl 1 rfl) ?_
  have hPc := hP.sub (ws' := [(h0, .inr (12, fs1))]) [0] rfl
  have hDc := hD.sub (ws' := [(h0, .inr (12, fs1))]) [0] (by decide) rfl
  have hKc := hK.sub (tys' := []) [] rfl
  have hFc := va_free (wc := [(h0, .inr (12, fs1))]) hD hS hA [0] rfl
  refine va_calli (va_runV (As := [.int 0]) (rest := []) ⟨hx, hb, hml, hown, hts⟩ (c_m_byteAt l D h0 fs1 H.size lfs1 gfs1_2) (cwV 1 hts g_v_c_m_readTokens_1 rfl rfl rfl (by decide +kernel) ⟨Nat.le_of_ble_eq_true rfl, Nat.le_of_ble_eq_true rfl⟩) ⟨st_blind, va_recv hKc hPc (ci := 12) (q0 := 0) rfl rfl, fun U hU hW => ⟨rfl, st_call hU hW hPc hKc hDc hZ hS hFc hE⟩⟩ rfl rfl hl.1 rfl (lv_room (Nat.le_of_ble_eq_true rfl)) dX12_readTokens_25 ⟨Nat.le_of_ble_eq_true rfl, Nat.le_of_ble_eq_true rfl⟩) hS (fun q _ h => hFc q h) hFc (fun r2 u3 t H1 locs ht hvm hw hB hz1 hk1 hS => ?_)
  obtain ⟨hP1, hK1, hD1⟩ := hB
  rw [ht] at hP1
  have hK1 := va_K.moved hvm.symm hK1
  obtain ⟨hP, hD⟩ := va_join (wr := [(ka, .inl (cka, 710, .inl f0)), (pa, .inl (cpa, 710, .inl f1)), (za, .inl (cza, 710, .inl f2)), (va, .inl (cva, 710, .inl f3))]) (w1 := [(h0, .inr (12, fs1))]) hP hD [0] [1, 2, 3, 4] rfl rfl (by decide) (by decide) hk1 hFc hP1 hD1
  have hK := (hK.sub (tys' := [(cka, .int), (cpa, .int), (cza, .int), (cva, .int)]) [0, 1, 2, 3] rfl).app hK1
  generalize H1 = H at hP hS ⊢
  have hP : va_P D vwCl [(ka, .inl (cka, 710, .inl f0)), (pa, .inl (cpa, 710, .inl f1)), (za, .inl (cza, 710, .inl f2)), (va, .inl (cva, 710, .inl f3)), (h0, .inr (12, fs1))] H := hP
  have hD : va_D A [(ka, .inl (cka, 710, .inl f0)), (pa, .inl (cpa, 710, .inl f1)), (za, .inl (cza, 710, .inl f2)), (va, .inl (cva, 710, .inl f3)), (h0, .inr (12, fs1))] := hD
  have hK : va_K D vwCl [(cka, .int), (cpa, .int), (cza, .int), (cva, .int)] s := hK
  subst hw
  refine lv_istore_n (lv' := [(3, .int (-1)), (2, .int 1), (1, .int 0), (0, .ref h0)]) hx hb dX12_readTokens_28 rfl hl (by decide) rfl (fun ls hl => ?_)
  refine lv_iload_n hx hb dX12_readTokens_29 rfl (lv_at hl 0 rfl) ?_
  refine lv_bipush (v := 32) hx hb dX12_readTokens_30 (by decide +kernel) ?_
  refine lv_icmp_eq (tgt := 53) hx hb dX12_readTokens_32 (by decide) (fun c9 => False.elim (by revert c9; decide)) (fun _ => ?_)
  refine lv_iload_n hx hb dX12_readTokens_35 rfl (lv_at hl 0 rfl) ?_
  refine lv_bipush (v := 9) hx hb dX12_readTokens_36 (by decide +kernel) ?_
  refine lv_icmp_eq (tgt := 53) hx hb dX12_readTokens_38 (by decide) (fun c9 => False.elim (by revert c9; decide)) (fun _ => ?_)
  refine lv_iload_n hx hb dX12_readTokens_41 rfl (lv_at hl 0 rfl) ?_
  refine lv_bipush (v := 13) hx hb dX12_readTokens_42 (by decide +kernel) ?_
  refine lv_icmp_eq (tgt := 53) hx hb dX12_readTokens_44 (by decide) (fun c9 => False.elim (by revert c9; decide)) (fun _ => ?_)
  refine lv_iload_n hx hb dX12_readTokens_47 rfl (lv_at hl 0 rfl) ?_
  refine lv_bipush (v := 10) hx hb dX12_readTokens_48 (by decide +kernel) ?_
  refine lv_icmp_ne (tgt := 57) hx hb dX12_readTokens_50 (by decide) (fun _ => ?_) (fun c9 => False.elim (by revert c9; decide))
  refine lv_iconst (v := 0) hx hb dX12_readTokens_57 (by decide +kernel) ?_
  refine lv_istore_n (lv' := [(2, .int 0), (3, .int (-1)), (1, .int 0), (0, .ref h0)]) hx hb dX12_readTokens_58 rfl hl (by decide) rfl (fun ls hl => ?_)
  refine lv_iload_n hx hb dX12_readTokens_59 rfl (lv_at hl 2 rfl) ?_
  refine lv_iload_n hx hb dX12_readTokens_60 rfl (lv_at hl 0 rfl) ?_
  refine lv_if_eq (tgt := 68) hx hb dX12_readTokens_61 (by decide) (fun _ => ?_) (fun c9 => False.elim (by revert c9; decide))
  refine lv_iconst (v := 0) hx hb dX12_readTokens_68 (by decide +kernel) ?_
  refine lv_iadd hx hb dX12_readTokens_69 ?_
  rw [show (0 + 0 : Int32) = 0 by decide]
  refine lv_istore_n (lv' := [(1, .int 0), (2, .int 0), (3, .int (-1)), (0, .ref h0)]) hx hb dX12_readTokens_70 rfl hl (by decide) rfl (fun ls hl => ?_)
  refine lv_iload_n hx hb dX12_readTokens_71 rfl (lv_at hl 2 rfl) ?_
  refine lv_bipush (v := 47) hx hb dX12_readTokens_72 (by decide +kernel) ?_
  refine lv_icmp_ne (tgt := 115) hx hb dX12_readTokens_74 (by decide) (fun _ => ?_) (fun c9 => False.elim (by revert c9; decide))
  refine lv_goto (tgt := 19) hx hb dX12_readTokens_115 (by decide) ?_
  refine lv_iload_n hx hb dX12_readTokens_19 rfl (lv_at hl 1 rfl) ?_
  refine lv_if_eq (tgt := 118) hx hb dX12_readTokens_20 (by decide) (fun _ => ?_) (fun c9 => False.elim (by revert c9; decide))
  refine lv_aload_n hx hb dX12_readTokens_118 rfl (lv_at hl 3 rfl) ?_
  refine lv_iload_n hx hb dX12_readTokens_119 rfl (lv_at hl 0 rfl) ?_
  have hPc := hP.sub (ws' := [(h0, .inr (12, fs1))]) [4] rfl
  have hDc := hD.sub (ws' := [(h0, .inr (12, fs1))]) [4] (by decide) rfl
  have hKc := hK.sub (tys' := []) [] rfl
  have hFc := va_free (wc := [(h0, .inr (12, fs1))]) hD hS hA [4] rfl
  refine va_calli (va_runV (As := [.int 0]) (rest := []) ⟨hx, hb, hml, hown, hts⟩ (c_m_byteAt l D h0 fs1 H.size lfs1 gfs1_2) (cwV 1 hts g_v_c_m_readTokens_1 rfl rfl rfl (by decide +kernel) ⟨Nat.le_of_ble_eq_true rfl, Nat.le_of_ble_eq_true rfl⟩) ⟨st_blind, va_recv hKc hPc (ci := 12) (q0 := 0) rfl rfl, fun U hU hW => ⟨rfl, st_call hU hW hPc hKc hDc hZ hS hFc hE⟩⟩ rfl rfl hl.1 rfl (lv_room (Nat.le_of_ble_eq_true rfl)) dX12_readTokens_120 ⟨Nat.le_of_ble_eq_true rfl, Nat.le_of_ble_eq_true rfl⟩) hS (fun q _ h => hFc q h) hFc (fun r4 u5 t H1 locs ht hvm hw hB hz1 hk1 hS => ?_)
  obtain ⟨hP1, hK1, hD1⟩ := hB
  rw [ht] at hP1
  have hK1 := va_K.moved hvm.symm hK1
  obtain ⟨hP, hD⟩ := va_join (wr := [(ka, .inl (cka, 710, .inl f0)), (pa, .inl (cpa, 710, .inl f1)), (za, .inl (cza, 710, .inl f2)), (va, .inl (cva, 710, .inl f3))]) (w1 := [(h0, .inr (12, fs1))]) hP hD [4] [0, 1, 2, 3] rfl rfl (by decide) (by decide) hk1 hFc hP1 hD1
  have hK := (hK.sub (tys' := [(cka, .int), (cpa, .int), (cza, .int), (cva, .int)]) [0, 1, 2, 3] rfl).app hK1
  generalize H1 = H at hP hS ⊢
  have hP : va_P D vwCl [(ka, .inl (cka, 710, .inl f0)), (pa, .inl (cpa, 710, .inl f1)), (za, .inl (cza, 710, .inl f2)), (va, .inl (cva, 710, .inl f3)), (h0, .inr (12, fs1))] H := hP
  have hD : va_D A [(ka, .inl (cka, 710, .inl f0)), (pa, .inl (cpa, 710, .inl f1)), (za, .inl (cza, 710, .inl f2)), (va, .inl (cva, 710, .inl f3)), (h0, .inr (12, fs1))] := hD
  have hK : va_K D vwCl [(cka, .int), (cpa, .int), (cza, .int), (cva, .int)] s := hK
  subst hw
  refine lv_istore_n (lv' := [(3, .int (-1)), (1, .int 0), (2, .int 0), (0, .ref h0)]) hx hb dX12_readTokens_123 rfl hl (by decide) rfl (fun ls hl => ?_)
  refine lv_iconst (v := 0) hx hb dX12_readTokens_124 (by decide +kernel) ?_
  refine lv_istore (lv' := [(4, .int 0), (3, .int (-1)), (1, .int 0), (2, .int 0), (0, .ref h0)]) hx hb dX12_readTokens_125 hl (by decide) rfl (fun ls hl => ?_)
  refine lv_iconst (v := 0) hx hb dX12_readTokens_127 (by decide +kernel) ?_
  refine lv_istore (lv' := [(5, .int 0), (4, .int 0), (3, .int (-1)), (1, .int 0), (2, .int 0), (0, .ref h0)]) hx hb dX12_readTokens_128 hl (by decide) rfl (fun ls hl => ?_)
  refine lv_iconst (v := 0) hx hb dX12_readTokens_130 (by decide +kernel) ?_
  refine lv_istore (lv' := [(6, .int 0), (5, .int 0), (4, .int 0), (3, .int (-1)), (1, .int 0), (2, .int 0), (0, .ref h0)]) hx hb dX12_readTokens_131 hl (by decide) rfl (fun ls hl => ?_)
  refine lv_iload_n hx hb dX12_readTokens_133 rfl (lv_at hl 3 rfl) ?_
  have hPc := hP.sub (ws' := []) [] rfl
  have hDc := hD.sub (ws' := []) [] (by decide) rfl
  have hKc := hK.sub (tys' := []) [] rfl
  have hFc := va_free (wc := []) hD hS hA [] rfl
  refine va_calli (va_runS (As := [.int (-1)]) (rest := []) ⟨hx, hb, hml, hown, hts⟩ (c_m_isLetter l D H.size) (va_cwS 1 hts g_v_c_m_readTokens_2 rfl rfl rfl (by decide +kernel) ⟨Nat.le_of_ble_eq_true rfl, Nat.le_of_ble_eq_true rfl⟩) ⟨st_blind, fun U hU hW => ⟨rfl, st_call hU hW hPc hKc hDc hZ hS hFc hE⟩⟩ rfl rfl hl.1 rfl (lv_room (Nat.le_of_ble_eq_true rfl)) dX12_readTokens_134 ⟨Nat.le_of_ble_eq_true rfl, Nat.le_of_ble_eq_true rfl⟩) hS (fun q _ h => hFc q h) hFc (fun r6 u7 t H1 locs ht hvm hw hB hz1 hk1 hS => ?_)
  obtain ⟨hP, hD⟩ := va_join (wr := [(ka, .inl (cka, 710, .inl f0)), (pa, .inl (cpa, 710, .inl f1)), (za, .inl (cza, 710, .inl f2)), (va, .inl (cva, 710, .inl f3)), (h0, .inr (12, fs1))]) (w1 := []) hP hD [] [0, 1, 2, 3, 4] rfl rfl (by decide) (by decide) hk1 hFc p_nil d_nil
  generalize H1 = H at hP hS ⊢
  have hP : va_P D vwCl [(ka, .inl (cka, 710, .inl f0)), (pa, .inl (cpa, 710, .inl f1)), (za, .inl (cza, 710, .inl f2)), (va, .inl (cva, 710, .inl f3)), (h0, .inr (12, fs1))] H := hP
  have hD : va_D A [(ka, .inl (cka, 710, .inl f0)), (pa, .inl (cpa, 710, .inl f1)), (za, .inl (cza, 710, .inl f2)), (va, .inl (cva, 710, .inl f3)), (h0, .inr (12, fs1))] := hD
  subst hw
  refine lv_if_eq (tgt := 207) hx hb dX12_readTokens_137 (by decide) (fun _ => ?_) (fun c9 => False.elim (by revert c9; decide))
  refine lv_iload_n hx hb dX12_readTokens_207 rfl (lv_at hl 3 rfl) ?_
  have hPc := hP.sub (ws' := []) [] rfl
  have hDc := hD.sub (ws' := []) [] (by decide) rfl
  have hKc := hK.sub (tys' := []) [] rfl
  have hFc := va_free (wc := []) hD hS hA [] rfl
  refine va_calli (va_runS (As := [.int (-1)]) (rest := []) ⟨hx, hb, hml, hown, hts⟩ (c_m_isDigit l D H.size) (va_cwS 1 hts g_v_c_m_readTokens_3 rfl rfl rfl (by decide +kernel) ⟨Nat.le_of_ble_eq_true rfl, Nat.le_of_ble_eq_true rfl⟩) ⟨st_blind, fun U hU hW => ⟨rfl, st_call hU hW hPc hKc hDc hZ hS hFc hE⟩⟩ rfl rfl hl.1 rfl (lv_room (Nat.le_of_ble_eq_true rfl)) dX12_readTokens_208 ⟨Nat.le_of_ble_eq_true rfl, Nat.le_of_ble_eq_true rfl⟩) hS (fun q _ h => hFc q h) hFc (fun r8 u9 t H1 locs ht hvm hw hB hz1 hk1 hS => ?_)
  obtain ⟨hP, hD⟩ := va_join (wr := [(ka, .inl (cka, 710, .inl f0)), (pa, .inl (cpa, 710, .inl f1)), (za, .inl (cza, 710, .inl f2)), (va, .inl (cva, 710, .inl f3)), (h0, .inr (12, fs1))]) (w1 := []) hP hD [] [0, 1, 2, 3, 4] rfl rfl (by decide) (by decide) hk1 hFc p_nil d_nil
  generalize H1 = H at hP hS ⊢
  have hP : va_P D vwCl [(ka, .inl (cka, 710, .inl f0)), (pa, .inl (cpa, 710, .inl f1)), (za, .inl (cza, 710, .inl f2)), (va, .inl (cva, 710, .inl f3)), (h0, .inr (12, fs1))] H := hP
  have hD : va_D A [(ka, .inl (cka, 710, .inl f0)), (pa, .inl (cpa, 710, .inl f1)), (za, .inl (cza, 710, .inl f2)), (va, .inl (cva, 710, .inl f3)), (h0, .inr (12, fs1))] := hD
  subst hw
  refine lv_if_eq (tgt := 296) hx hb dX12_readTokens_211 (by decide) (fun _ => ?_) (fun c9 => False.elim (by revert c9; decide))
  refine lv_iload_n hx hb dX12_readTokens_296 rfl (lv_at hl 3 rfl) ?_
  refine lv_iconst (v := (-1)) hx hb dX12_readTokens_297 (by decide +kernel) ?_
  refine lv_icmp_eq (tgt := 350) hx hb dX12_readTokens_298 (by decide) (fun _ => ?_) (fun c9 => False.elim (by revert c9; decide))
  refine lv_aload_n hx hb dX12_readTokens_350 rfl (lv_at hl 6 rfl) ?_
  refine lv_iload hx hb dX12_readTokens_351 (lv_at hl 0 rfl) ?_
  refine lv_iload_n hx hb dX12_readTokens_353 rfl (lv_at hl 4 rfl) ?_
  refine lv_iload hx hb dX12_readTokens_354 (lv_at hl 2 rfl) ?_
  refine lv_iload hx hb dX12_readTokens_356 (lv_at hl 1 rfl) ?_
  have hPc := hP.sub (ws' := [(h0, .inr (12, fs1)), (ka, .inl (cka, 710, .inl f0)), (pa, .inl (cpa, 710, .inl f1)), (za, .inl (cza, 710, .inl f2)), (va, .inl (cva, 710, .inl f3))]) [4, 0, 1, 2, 3] rfl
  have hDc := hD.sub (ws' := [(h0, .inr (12, fs1)), (ka, .inl (cka, 710, .inl f0)), (pa, .inl (cpa, 710, .inl f1)), (za, .inl (cza, 710, .inl f2)), (va, .inl (cva, 710, .inl f3))]) [4, 0, 1, 2, 3] (by decide) rfl
  have hKc := hK.sub (tys' := [(cka, .int), (cpa, .int), (cza, .int), (cva, .int)]) [0, 1, 2, 3] rfl
  have hFc := va_free (wc := [(h0, .inr (12, fs1)), (ka, .inl (cka, 710, .inl f0)), (pa, .inl (cpa, 710, .inl f1)), (za, .inl (cza, 710, .inl f2)), (va, .inl (cva, 710, .inl f3))]) hD hS hA [4, 0, 1, 2, 3] rfl
  refine va_callv (va_runV (As := [.int 0, .int 0, .int 0, .int 0]) (rest := []) ⟨hx, hb, hml, hown, hts⟩ (c_m_put l D h0 ka pa za va cka cpa cza cva fs1 f0 f1 f2 f3 H.size lfs1 gfs1_3 gfs1_4 gfs1_5 gfs1_7 gfs1_6) (cwV 4 hts g_v_c_m_readTokens_4 rfl rfl rfl (by decide +kernel) ⟨Nat.le_of_ble_eq_true rfl, Nat.le_of_ble_eq_true rfl⟩) ⟨st_blind, va_recv hKc hPc (ci := 12) (q0 := 0) rfl rfl, fun U hU hW => ⟨rfl, st_call hU hW hPc hKc hDc hZ hS hFc hE⟩⟩ rfl rfl hl.1 rfl (lv_room (Nat.le_of_ble_eq_true rfl)) dX12_readTokens_358 ⟨Nat.le_of_ble_eq_true rfl, Nat.le_of_ble_eq_true rfl⟩) hS (fun q _ h => hFc q h) hFc (fun  u10 t H1 locs ht hvm hw hB hz1 hk1 hS => ?_)
  have lu10 : u10.length = 139 := by rw [hw, List.length_set]; exact lfs1
  have gu10_0 : u10[0]? = some (.int 0) := by rw [hw]; exact se_ne gfs1_0 (by decide)
  have gu10_2 : u10[2]? = some (.int 0) := by rw [hw]; exact se_ne gfs1_2 (by decide)
  have gu10_42 : u10[42]? = some (.int 0) := by rw [hw]; exact se_ne gfs1_42 (by decide)
  have gu10_25 : u10[25]? = some (.int 0) := by rw [hw]; exact se_ne gfs1_25 (by decide)
  have gu10_26 : u10[26]? = some (.int 0) := by rw [hw]; exact se_ne gfs1_26 (by decide)
  have gu10_27 : u10[27]? = some (.int 0) := by rw [hw]; exact se_ne gfs1_27 (by decide)
  have gu10_4 : u10[4]? = some (.ref ka) := by rw [hw]; exact se_ne gfs1_4 (by decide)
  have gu10_5 : u10[5]? = some (.ref pa) := by rw [hw]; exact se_ne gfs1_5 (by decide)
  have gu10_7 : u10[7]? = some (.ref za) := by rw [hw]; exact se_ne gfs1_7 (by decide)
  have gu10_6 : u10[6]? = some (.ref va) := by rw [hw]; exact se_ne gfs1_6 (by decide)
  obtain ⟨fy11, he0, hB⟩ := hB
  obtain ⟨hP1, hK1, hD1⟩ := hB
  rw [ht] at hP1
  have hK1 := va_K.moved hvm.symm hK1
  obtain ⟨hP, hD⟩ := va_join (wr := []) (w1 := [(h0, .inr (12, u10)), (ka, .inl (cka, 710, .inl fy11))]) hP hD [4, 0, 1, 2, 3] [] rfl rfl (by decide) (by decide) hk1 hFc hP1 hD1
  have hK := (hK.sub (tys' := []) [] rfl).app hK1
  generalize H1 = H at hP hS ⊢
  have hP : va_P D vwCl [(h0, .inr (12, u10)), (ka, .inl (cka, 710, .inl fy11))] H := hP
  have hD : va_D A [(h0, .inr (12, u10)), (ka, .inl (cka, 710, .inl fy11))] := hD
  have hK : va_K D vwCl [(cka, .int)] s := hK
  refine lv_iload hx hb dX12_readTokens_361 (lv_at hl 0 rfl) ?_
  refine lv_if_eq (tgt := 372) hx hb dX12_readTokens_363 (by decide) (fun _ => ?_) (fun c9 => False.elim (by revert c9; decide))
  exact W.vret hx hb hr (fun t ht hW => ⟨⟨u10, rfl, ⟨lu10, gu10_4, gu10_0, gu10_2, gu10_42, gu10_25, gu10_26, gu10_27⟩, fy11, he0, by rw [ht]; exact hP, va_K.moved hW.alike hK, hD⟩, hS.F ht⟩) hS.2.2 dX12_readTokens_372
noncomputable def v_c_m_here : List Cond := .code yX12_here cX12_here 1 (some .int) :: ([.fieldLink RX12 366 "ScheduleHouseModel" "bad" "I", .fieldLink RX12 13 "ScheduleHouseModel" "kind" "[I", .fieldLink RX12 372 "ScheduleHouseModel" "now" "I"] ++ (wsX120 ++ ([])))
theorem i_v_c_m_here_X12 : ∀ w ∈ wsX120, w ∈ v_c_m_here := fun _ h => List.mem_cons_of_mem _ (List.mem_append_right _ (List.mem_append_left _ h))
theorem t_v_c_m_here : ∀ w ∈ v_c_m_here, w ∈ lw_tbl := tb_c (List.mem_of_getElem? (i := 2556) (by decide +kernel)) (tb_a (tb_c (List.mem_of_getElem? (i := 2081) (by decide +kernel)) (tb_c (List.mem_of_getElem? (i := 2076) (by decide +kernel)) (tb_c (List.mem_of_getElem? (i := 2080) (by decide +kernel)) (tb_n)))) (tb_a (tw_wsX120) (tb_n)))
set_option maxHeartbeats 400000 in
set_option maxRecDepth 100000 in
/-- the model's here: the end -/
theorem c_m_here (l : Launch) (D : va_G) (h0 ka : Nat) (cka : ClassId) (fs : List Value) (f0 : Nat → Int32) (sz : Nat) (hlen : fs.length = 139) (hf_bad : fs[9]? = some (.int 0)) (hf_now : fs[8]? = some (.int 0)) (hf_kind : fs[4]? = some (.ref ka)) (he0 : f0 0 = 0) : Met l yX12_here v_c_m_here ({ frames := 1, cells := 0, slots := 0, locals := 12 }) (va_Pc [.ref h0] (st_ D [(h0, .inr (12, fs)), (ka, .inl (cka, 710, .inl f0))] [(cka, .int)] sz)) (va_Qi (fun (r : Int32) (_ : Unit) => r = 0) (fun _ t => va_P D vwCl [(h0, .inr (12, fs)), (ka, .inl (cka, 710, .inl f0))] t.heap ∧ va_K D vwCl [(cka, .int)] t ∧ va_D (va_A [(h0, .inr (12, fs)), (ka, .inl (cka, 710, .inl f0))] sz) [(h0, .inr (12, fs)), (ka, .inl (cka, 710, .inl f0))]) (va_A [(h0, .inr (12, fs)), (ka, .inl (cka, 710, .inl f0))] sz)) 0 0 (va_A [(h0, .inr (12, fs)), (ka, .inl (cka, 710, .inl f0))] sz) := by
  refine Met.ofW (cc := cX12_here) (maxL := 1) (ret := (some .int)) (by decide) rfl ?_
  intro p e s m args below meth c s₁ B hml hv
  obtain ⟨rfl, hsz, hP, hK, hD0, hZ, hE⟩ := hv
  have hx := B.exec
  have hb := B.bytes
  have hr := B.returns
  have hts := atoms_spec (ws := v_c_m_here) B.pre
  have hown : s.vm.findClass RX12 = some m.cls := findClass_of_methodNamed B.named
  have hlocks := B.notSynchronized
  subst hsz
  have hD := hD0.self (sz := s.heap.size)
  generalize hAe : va_A [(h0, .inr (12, fs)), (ka, .inl (cka, 710, .inl f0))] s.heap.size = A at hD hZ ⊢
  have hA : ∀ q : Nat, s.heap.size ≤ q → A q := fun q h => by rw [← hAe]; exact Or.inr h
  have hS : va_S A s.heap s.heap [] := va_S.rf
  have hAO := hE.2.2.2.1
  have hP : va_P D vwCl [(h0, .inr (12, fs)), (ka, .inl (cka, 710, .inl f0))] s.heap := hP
  have hl := lv_entry ([.ref h0]) (n := 1) (Nat.le_of_ble_eq_true rfl)
  rw [lg_entry_eq]
  generalize (lg_sl ([.ref h0]) ++ List.replicate (1 - (lg_sl ([.ref h0])).length) Slot.unset).toArray = ls at hl ⊢
  have hl : lv_has ls 1 [(0, .ref h0)] := hl
  refine lv_aload_n hx hb dX12_here_0 rfl (lv_at hl 0 rfl) ?_
  refine va_get (D := D) (ci := 12) (v := .int 0) (C := RX12) (T := TX12) (N := 139) hx hb hts i_v_c_m_here_X12 hown hK hP 0 rfl rfl 9 (by decide) (hts (.fieldLink RX12 366 "ScheduleHouseModel" "bad" "I") (by decide +kernel)) (fun _ h9 => h9) hf_bad dX12_here_1 ?_
  refine lv_if_le (tgt := 11) hx hb dX12_here_4 (by decide) (fun _ => ?_) (fun c9 => False.elim (by revert c9; decide))
  refine lv_aload_n hx hb dX12_here_11 rfl (lv_at hl 0 rfl) ?_
  refine va_get (D := D) (ci := 12) (v := .ref ka) (C := RX12) (T := TX12) (N := 139) hx hb hts i_v_c_m_here_X12 hown hK hP 0 rfl rfl 4 (by decide) (hts (.fieldLink RX12 13 "ScheduleHouseModel" "kind" "[I") (by decide +kernel)) (fun _ h9 => h9) hf_kind dX12_here_12 ?_
  refine lv_aload_n hx hb dX12_here_15 rfl (lv_at hl 0 rfl) ?_
  refine va_get (D := D) (ci := 12) (v := .int 0) (C := RX12) (T := TX12) (N := 139) hx hb hts i_v_c_m_here_X12 hown hK hP 0 rfl rfl 8 (by decide) (hts (.fieldLink RX12 372 "ScheduleHouseModel" "now" "I") (by decide +kernel)) (fun _ h9 => h9) hf_now dX12_here_16 ?_
  refine va_iald hx hb hK hP 1 0 rfl rfl (i := 0) (by unfold vp_in; decide) dX12_here_19 ?_
  rw [show f0 (0 : Int32).toNatClampNeg = 0 from he0]
  exact W.iret (v := 0) hx hb hr (fun t ht hW => ⟨⟨0, (), rfl, rfl, by rw [ht]; exact hP, va_K.moved hW.alike hK, hD⟩, hS.F ht⟩) hS.2.2 dX12_here_20
noncomputable def v_c_m_judge : List Cond := .code yX12_judge cX12_judge 3 none :: ([.fieldLink RX12 470 "ScheduleHouseModel" "wrong" "I", .fieldLink RX12 483 "ScheduleHouseModel" "works" "I", .fieldLink RX12 502 "ScheduleHouseModel" "steps" "I", .fieldLink RX12 445 "ScheduleHouseModel" "told" "I", .fieldLink RX12 461 "ScheduleHouseModel" "threads" "I", .fieldLink RX12 464 "ScheduleHouseModel" "always" "I", .fieldLink RX12 467 "ScheduleHouseModel" "finals" "I"] ++ (wsX120 ++ ([])))
theorem i_v_c_m_judge_X12 : ∀ w ∈ wsX120, w ∈ v_c_m_judge := fun _ h => List.mem_cons_of_mem _ (List.mem_append_right _ (List.mem_append_left _ h))
theorem t_v_c_m_judge : ∀ w ∈ v_c_m_judge, w ∈ lw_tbl := tb_c (List.mem_of_getElem? (i := 2643) (by decide +kernel)) (tb_a (tb_c (List.mem_of_getElem? (i := 2112) (by decide +kernel)) (tb_c (List.mem_of_getElem? (i := 2120) (by decide +kernel)) (tb_c (List.mem_of_getElem? (i := 2123) (by decide +kernel)) (tb_c (List.mem_of_getElem? (i := 2099) (by decide +kernel)) (tb_c (List.mem_of_getElem? (i := 2096) (by decide +kernel)) (tb_c (List.mem_of_getElem? (i := 2097) (by decide +kernel)) (tb_c (List.mem_of_getElem? (i := 2098) (by decide +kernel)) (tb_n)))))))) (tb_a (tw_wsX120) (tb_n)))
set_option maxHeartbeats 400000 in
set_option maxRecDepth 100000 in
/-- the model's judge of the empty text -/
theorem c_m_judge (l : Launch) (D : va_G) (h0 : Nat) (fs : List Value) (sz : Nat) (hlen : fs.length = 139) (hf_told : fs[28]? = some (.int 0)) (hf_threads : fs[25]? = some (.int 0)) (hf_always : fs[26]? = some (.int 0)) (hf_finals : fs[27]? = some (.int 0)) (hf_wrongPlace : fs[42]? = some (.int 0)) : Met l yX12_judge v_c_m_judge ({ frames := 1, cells := 0, slots := 0, locals := 12 }) (va_Pc [.ref h0] (st_ D [(h0, .inr (12, fs))] [] sz)) (va_Qv (fun u : List Value => u.length = 139 ∧ u[41]? = some (.int 0) ∧ u[42]? = some (.int 0) ∧ u[25]? = some (.int 0)) (fun u t => va_P D vwCl [(h0, .inr (12, u))] t.heap ∧ va_K D vwCl [] t ∧ va_D (va_A [(h0, .inr (12, fs))] sz) [(h0, .inr (12, u))]) (va_A [(h0, .inr (12, fs))] sz)) 0 0 (va_A [(h0, .inr (12, fs))] sz) := by
  refine Met.ofW (cc := cX12_judge) (maxL := 3) (ret := none) (by decide) rfl ?_
  intro p e s m args below meth c s₁ B hml hv
  obtain ⟨rfl, hsz, hP, hK, hD0, hZ, hE⟩ := hv
  have hx := B.exec
  have hb := B.bytes
  have hr := B.returns
  have hts := atoms_spec (ws := v_c_m_judge) B.pre
  have hown : s.vm.findClass RX12 = some m.cls := findClass_of_methodNamed B.named
  have hlocks := B.notSynchronized
  subst hsz
  have hD := hD0.self (sz := s.heap.size)
  generalize hAe : va_A [(h0, .inr (12, fs))] s.heap.size = A at hD hZ ⊢
  have hA : ∀ q : Nat, s.heap.size ≤ q → A q := fun q h => by rw [← hAe]; exact Or.inr h
  have hS : va_S A s.heap s.heap [] := va_S.rf
  have hAO := hE.2.2.2.1
  have hP : va_P D vwCl [(h0, .inr (12, fs))] s.heap := hP
  have hl := lv_entry ([.ref h0]) (n := 3) (Nat.le_of_ble_eq_true rfl)
  rw [lg_entry_eq]
  generalize (lg_sl ([.ref h0]) ++ List.replicate (3 - (lg_sl ([.ref h0])).length) Slot.unset).toArray = ls at hl ⊢
  have hl : lv_has ls 3 [(0, .ref h0)] := hl
  have k0 := kp_0 fs
  refine lv_aload_n hx hb dX12_judge_0 rfl (lv_at hl 0 rfl) ?_
  refine lv_iconst (v := 0) hx hb dX12_judge_1 (by decide +kernel) ?_
  refine va_put (D := D) (ci := 12) (v := .int 0) (ty := .int) (C := RX12) (T := TX12) (N := 139) hx hb hts i_v_c_m_judge_X12 tyX12 tyX12_ok nmX12 hown hK hP hD hS 0 rfl rfl 41 (by decide) (hts (.fieldLink RX12 470 "ScheduleHouseModel" "wrong" "I") (by decide +kernel)) (fun _ h9 => h9) rfl (by decide +kernel) rfl rfl (kp_lt k0 hlen (by decide)) dX12_judge_2 (fun H locs hP hD hS => ?_)
  obtain ⟨fs1, hfs1⟩ : ∃ z, z = fs.set 41 (.int 0) := ⟨_, rfl⟩
  have kfs1 := kp_s 41 (.int 0) k0
  have gfs1_41 : fs1[41]? = some (.int 0) := by rw [hfs1]; exact se_eq (kp_lt k0 hlen (by decide))
  have gfs1_28 : fs1[28]? = some (.int 0) := by rw [hfs1]; exact se_ne hf_told (by decide)
  have gfs1_25 : fs1[25]? = some (.int 0) := by rw [hfs1]; exact se_ne hf_threads (by decide)
  have gfs1_26 : fs1[26]? = some (.int 0) := by rw [hfs1]; exact se_ne hf_always (by decide)
  have gfs1_27 : fs1[27]? = some (.int 0) := by rw [hfs1]; exact se_ne hf_finals (by decide)
  have gfs1_42 : fs1[42]? = some (.int 0) := by rw [hfs1]; exact se_ne hf_wrongPlace (by decide)
  rw [← hfs1] at hP hD kfs1
  have hP : va_P D vwCl [(h0, .inr (12, fs1))] H := hP
  have hD : va_D A [(h0, .inr (12, fs1))] := hD
  refine lv_aload_n hx hb dX12_judge_5 rfl (lv_at hl 0 rfl) ?_
  refine lv_iconst (v := 0) hx hb dX12_judge_6 (by decide +kernel) ?_
  refine va_put (D := D) (ci := 12) (v := .int 0) (ty := .int) (C := RX12) (T := TX12) (N := 139) hx hb hts i_v_c_m_judge_X12 tyX12 tyX12_ok nmX12 hown hK hP hD hS 0 rfl rfl 49 (by decide) (hts (.fieldLink RX12 483 "ScheduleHouseModel" "works" "I") (by decide +kernel)) (fun _ h9 => h9) rfl (by decide +kernel) rfl rfl (kp_lt kfs1 hlen (by decide)) dX12_judge_7 (fun H locs hP hD hS => ?_)
  obtain ⟨fs2, hfs2⟩ : ∃ z, z = fs1.set 49 (.int 0) := ⟨_, rfl⟩
  have kfs2 := kp_s 49 (.int 0) kfs1
  have gfs2_41 : fs2[41]? = some (.int 0) := by rw [hfs2]; exact se_ne gfs1_41 (by decide)
  have gfs2_28 : fs2[28]? = some (.int 0) := by rw [hfs2]; exact se_ne gfs1_28 (by decide)
  have gfs2_25 : fs2[25]? = some (.int 0) := by rw [hfs2]; exact se_ne gfs1_25 (by decide)
  have gfs2_26 : fs2[26]? = some (.int 0) := by rw [hfs2]; exact se_ne gfs1_26 (by decide)
  have gfs2_27 : fs2[27]? = some (.int 0) := by rw [hfs2]; exact se_ne gfs1_27 (by decide)
  have gfs2_42 : fs2[42]? = some (.int 0) := by rw [hfs2]; exact se_ne gfs1_42 (by decide)
  rw [← hfs2] at hP hD kfs2
  have hP : va_P D vwCl [(h0, .inr (12, fs2))] H := hP
  have hD : va_D A [(h0, .inr (12, fs2))] := hD
  refine lv_aload_n hx hb dX12_judge_10 rfl (lv_at hl 0 rfl) ?_
  refine lv_iconst (v := 0) hx hb dX12_judge_11 (by decide +kernel) ?_
  refine va_put (D := D) (ci := 12) (v := .int 0) (ty := .int) (C := RX12) (T := TX12) (N := 139) hx hb hts i_v_c_m_judge_X12 tyX12 tyX12_ok nmX12 hown hK hP hD hS 0 rfl rfl 52 (by decide) (hts (.fieldLink RX12 502 "ScheduleHouseModel" "steps" "I") (by decide +kernel)) (fun _ h9 => h9) rfl (by decide +kernel) rfl rfl (kp_lt kfs2 hlen (by decide)) dX12_judge_12 (fun H locs hP hD hS => ?_)
  obtain ⟨fs3, hfs3⟩ : ∃ z, z = fs2.set 52 (.int 0) := ⟨_, rfl⟩
  have kfs3 := kp_s 52 (.int 0) kfs2
  have gfs3_41 : fs3[41]? = some (.int 0) := by rw [hfs3]; exact se_ne gfs2_41 (by decide)
  have gfs3_28 : fs3[28]? = some (.int 0) := by rw [hfs3]; exact se_ne gfs2_28 (by decide)
  have gfs3_25 : fs3[25]? = some (.int 0) := by rw [hfs3]; exact se_ne gfs2_25 (by decide)
  have gfs3_26 : fs3[26]? = some (.int 0) := by rw [hfs3]; exact se_ne gfs2_26 (by decide)
  have gfs3_27 : fs3[27]? = some (.int 0) := by rw [hfs3]; exact se_ne gfs2_27 (by decide)
  have gfs3_42 : fs3[42]? = some (.int 0) := by rw [hfs3]; exact se_ne gfs2_42 (by decide)
  rw [← hfs3] at hP hD kfs3
  have hP : va_P D vwCl [(h0, .inr (12, fs3))] H := hP
  have hD : va_D A [(h0, .inr (12, fs3))] := hD
  refine lv_iconst (v := 0) hx hb dX12_judge_15 (by decide +kernel) ?_
  refine lv_istore_n (lv' := [(1, .int 0), (0, .ref h0)]) hx hb dX12_judge_16 rfl hl (by decide) rfl (fun ls hl => ?_)
  refine lv_iload_n hx hb dX12_judge_17 rfl (lv_at hl 0 rfl) ?_
  refine lv_aload_n hx hb dX12_judge_18 rfl (lv_at hl 1 rfl) ?_
  refine va_get (D := D) (ci := 12) (v := .int 0) (C := RX12) (T := TX12) (N := 139) hx hb hts i_v_c_m_judge_X12 hown hK hP 0 rfl rfl 28 (by decide) (hts (.fieldLink RX12 445 "ScheduleHouseModel" "told" "I") (by decide +kernel)) (fun _ h9 => h9) gfs3_28 dX12_judge_19 ?_
  refine lv_icmp_ge (tgt := 97) hx hb dX12_judge_22 (by decide) (fun _ => ?_) (fun c9 => False.elim (by revert c9; decide))
  refine lv_iconst (v := 0) hx hb dX12_judge_97 (by decide +kernel) ?_
  refine lv_istore_n (lv' := [(1, .int 0), (0, .ref h0)]) hx hb dX12_judge_98 rfl hl (by decide) rfl (fun ls hl => ?_)
  refine lv_iload_n hx hb dX12_judge_99 rfl (lv_at hl 0 rfl) ?_
  refine lv_aload_n hx hb dX12_judge_100 rfl (lv_at hl 1 rfl) ?_
  refine va_get (D := D) (ci := 12) (v := .int 0) (C := RX12) (T := TX12) (N := 139) hx hb hts i_v_c_m_judge_X12 hown hK hP 0 rfl rfl 25 (by decide) (hts (.fieldLink RX12 461 "ScheduleHouseModel" "threads" "I") (by decide +kernel)) (fun _ h9 => h9) gfs3_25 dX12_judge_101 ?_
  refine lv_icmp_ge (tgt := 150) hx hb dX12_judge_104 (by decide) (fun _ => ?_) (fun c9 => False.elim (by revert c9; decide))
  refine lv_iconst (v := 0) hx hb dX12_judge_150 (by decide +kernel) ?_
  refine lv_istore_n (lv' := [(1, .int 0), (0, .ref h0)]) hx hb dX12_judge_151 rfl hl (by decide) rfl (fun ls hl => ?_)
  refine lv_iload_n hx hb dX12_judge_152 rfl (lv_at hl 0 rfl) ?_
  refine lv_aload_n hx hb dX12_judge_153 rfl (lv_at hl 1 rfl) ?_
  refine va_get (D := D) (ci := 12) (v := .int 0) (C := RX12) (T := TX12) (N := 139) hx hb hts i_v_c_m_judge_X12 hown hK hP 0 rfl rfl 26 (by decide) (hts (.fieldLink RX12 464 "ScheduleHouseModel" "always" "I") (by decide +kernel)) (fun _ h9 => h9) gfs3_26 dX12_judge_154 ?_
  refine lv_icmp_ge (tgt := 183) hx hb dX12_judge_157 (by decide) (fun _ => ?_) (fun c9 => False.elim (by revert c9; decide))
  refine lv_iconst (v := 0) hx hb dX12_judge_183 (by decide +kernel) ?_
  refine lv_istore_n (lv' := [(1, .int 0), (0, .ref h0)]) hx hb dX12_judge_184 rfl hl (by decide) rfl (fun ls hl => ?_)
  refine lv_iload_n hx hb dX12_judge_185 rfl (lv_at hl 0 rfl) ?_
  refine lv_aload_n hx hb dX12_judge_186 rfl (lv_at hl 1 rfl) ?_
  refine va_get (D := D) (ci := 12) (v := .int 0) (C := RX12) (T := TX12) (N := 139) hx hb hts i_v_c_m_judge_X12 hown hK hP 0 rfl rfl 27 (by decide) (hts (.fieldLink RX12 467 "ScheduleHouseModel" "finals" "I") (by decide +kernel)) (fun _ h9 => h9) gfs3_27 dX12_judge_187 ?_
  refine lv_icmp_ge (tgt := 216) hx hb dX12_judge_190 (by decide) (fun _ => ?_) (fun c9 => False.elim (by revert c9; decide))
  exact W.vret hx hb hr (fun t ht hW => ⟨⟨fs3, rfl, ⟨kfs3.1.trans hlen, gfs3_41, gfs3_42, gfs3_25⟩, by rw [ht]; exact hP, va_K.moved hW.alike hK, hD⟩, hS.F ht⟩) hS.2.2 dX12_judge_216
noncomputable def v_c_m_compile : List Cond := .code yX12_compile cX12_compile 1 (some .int) :: ([.fieldLink RX12 316 "ScheduleHouseModel" "thrown" "I", .fieldLink RX12 26 "ScheduleHouseModel" "faultPlace" "I", .fieldLink RX12 30 "ScheduleHouseModel" "faultLine" "I", .fieldLink RX12 372 "ScheduleHouseModel" "now" "I", .fieldLink RX12 366 "ScheduleHouseModel" "bad" "I", .fieldLink RX12 445 "ScheduleHouseModel" "told" "I", .fieldLink RX12 363 "ScheduleHouseModel" "nodes" "I", .fieldLink RX12 527 "ScheduleHouseModel" "blocks" "I", .fieldLink RX12 470 "ScheduleHouseModel" "wrong" "I", .fieldLink RX12 473 "ScheduleHouseModel" "wrongPlace" "I", .fieldLink RX12 369 "ScheduleHouseModel" "badPlace" "I", .fieldLink RX12 565 "ScheduleHouseModel" "isCompiled" "Z", .fieldLink RX12 461 "ScheduleHouseModel" "threads" "I"] ++ (wsX120 ++ ((wsV RX12 562 RX12 yX12_forget v_c_m_forget) ++ ((wsV RX12 572 RX12 yX12_readTokens v_c_m_readTokens) ++ ((wsV RX12 389 RX12 yX12_here v_c_m_here) ++ ((wsV RX12 578 RX12 yX12_judge v_c_m_judge) ++ ([])))))))
theorem i_v_c_m_compile_X12 : ∀ w ∈ wsX120, w ∈ v_c_m_compile := fun _ h => List.mem_cons_of_mem _ (List.mem_append_right _ (List.mem_append_left _ h))
theorem g_v_c_m_compile_1 : GoodIn v_c_m_compile (wsV RX12 562 RX12 yX12_forget v_c_m_forget) := goodIn_sub (fun _ h => List.mem_cons_of_mem _ (List.mem_append_right _ (List.mem_append_right _ (List.mem_append_left _ h)))) (by decide +kernel)
theorem g_v_c_m_compile_2 : GoodIn v_c_m_compile (wsV RX12 572 RX12 yX12_readTokens v_c_m_readTokens) := goodIn_sub (fun _ h => List.mem_cons_of_mem _ (List.mem_append_right _ (List.mem_append_right _ (List.mem_append_right _ (List.mem_append_left _ h))))) (by decide +kernel)
theorem g_v_c_m_compile_3 : GoodIn v_c_m_compile (wsV RX12 389 RX12 yX12_here v_c_m_here) := goodIn_sub (fun _ h => List.mem_cons_of_mem _ (List.mem_append_right _ (List.mem_append_right _ (List.mem_append_right _ (List.mem_append_right _ (List.mem_append_left _ h)))))) (by decide +kernel)
theorem g_v_c_m_compile_4 : GoodIn v_c_m_compile (wsV RX12 578 RX12 yX12_judge v_c_m_judge) := goodIn_sub (fun _ h => List.mem_cons_of_mem _ (List.mem_append_right _ (List.mem_append_right _ (List.mem_append_right _ (List.mem_append_right _ (List.mem_append_right _ (List.mem_append_left _ h))))))) (by decide +kernel)
theorem t_v_c_m_compile : ∀ w ∈ v_c_m_compile, w ∈ lw_tbl := tb_c (List.mem_of_getElem? (i := 2516) (by decide +kernel)) (tb_a (tb_l (ps := [2072, 2083, 2084, 2080, 2081, 2099, 2085, 2118, 2112, 2113, 2082, 2137, 2096]) (by decide +kernel)) (tb_a (tw_wsX120) (tb_a (tb_a (tb_c (List.mem_of_getElem? (i := 2505) (by decide +kernel)) (tb_c (List.mem_of_getElem? (i := 2507) (by decide +kernel)) (tb_c (List.mem_of_getElem? (i := 114) (by decide +kernel)) (tb_c (List.mem_of_getElem? (i := 215) (by decide +kernel)) (tb_n))))) t_v_c_m_forget) (tb_a (tb_a (tb_c (List.mem_of_getElem? (i := 2517) (by decide +kernel)) (tb_c (List.mem_of_getElem? (i := 2519) (by decide +kernel)) (tb_c (List.mem_of_getElem? (i := 115) (by decide +kernel)) (tb_c (List.mem_of_getElem? (i := 215) (by decide +kernel)) (tb_n))))) t_v_c_m_readTokens) (tb_a (tb_a (tb_c (List.mem_of_getElem? (i := 2553) (by decide +kernel)) (tb_c (List.mem_of_getElem? (i := 2555) (by decide +kernel)) (tb_c (List.mem_of_getElem? (i := 120) (by decide +kernel)) (tb_c (List.mem_of_getElem? (i := 215) (by decide +kernel)) (tb_n))))) t_v_c_m_here) (tb_a (tb_a (tb_c (List.mem_of_getElem? (i := 2640) (by decide +kernel)) (tb_c (List.mem_of_getElem? (i := 2642) (by decide +kernel)) (tb_c (List.mem_of_getElem? (i := 141) (by decide +kernel)) (tb_c (List.mem_of_getElem? (i := 215) (by decide +kernel)) (tb_n))))) t_v_c_m_judge) (tb_n)))))))
set_option maxHeartbeats 400000 in
set_option maxRecDepth 100000 in
/-- the model's compile of the empty text -/
theorem c_m_compile (l : Launch) (D : va_G) (h0 ka pa za va wt : Nat) (cka cpa cza cva cw : ClassId) (fs : List Value) (f0 f1 f2 f3 : Nat → Int32) (sz : Nat) (hlen : fs.length = 139) (hf_thrown : fs[0]? = some (.int 0)) (hf_size : fs[2]? = some (.int 0)) (hf_wrongPlace : fs[42]? = some (.int 0)) (hf_tokens : fs[3]? = some (.int 0)) (hf_kind : fs[4]? = some (.ref ka)) (hf_place : fs[5]? = some (.ref pa)) (hf_sizeOf : fs[7]? = some (.ref za)) (hf_valueOf : fs[6]? = some (.ref va)) (hf_wasTried : fs[118]? = some (.ref wt)) : Met l yX12_compile v_c_m_compile ({ frames := 7, cells := 0, slots := 0, locals := 120 }) (va_Pc [.ref h0] (st_ D [(h0, .inr (12, fs)), (ka, .inl (cka, 710, .inl f0)), (pa, .inl (cpa, 710, .inl f1)), (za, .inl (cza, 710, .inl f2)), (va, .inl (cva, 710, .inl f3)), (wt, .inl (cw, 2, .inl (fun _ => 0)))] [(cka, .int), (cpa, .int), (cza, .int), (cva, .int), (cw, .boolean)] sz)) (va_Qi (fun (r : Int32) (_ : Unit) => r = 0) (fun _ _ => True) (va_A [(h0, .inr (12, fs)), (ka, .inl (cka, 710, .inl f0)), (pa, .inl (cpa, 710, .inl f1)), (za, .inl (cza, 710, .inl f2)), (va, .inl (cva, 710, .inl f3)), (wt, .inl (cw, 2, .inl (fun _ => 0)))] sz)) 0 0 (va_A [(h0, .inr (12, fs)), (ka, .inl (cka, 710, .inl f0)), (pa, .inl (cpa, 710, .inl f1)), (za, .inl (cza, 710, .inl f2)), (va, .inl (cva, 710, .inl f3)), (wt, .inl (cw, 2, .inl (fun _ => 0)))] sz) := by
  refine Met.ofW (cc := cX12_compile) (maxL := 1) (ret := (some .int)) (by decide) rfl ?_
  intro p e s m args below meth c s₁ B hml hv
  obtain ⟨rfl, hsz, hP, hK, hD0, hZ, hE⟩ := hv
  have hx := B.exec
  have hb := B.bytes
  have hr := B.returns
  have hts := atoms_spec (ws := v_c_m_compile) B.pre
  have hown : s.vm.findClass RX12 = some m.cls := findClass_of_methodNamed B.named
  have hlocks := B.notSynchronized
  subst hsz
  have hD := hD0.self (sz := s.heap.size)
  generalize hAe : va_A [(h0, .inr (12, fs)), (ka, .inl (cka, 710, .inl f0)), (pa, .inl (cpa, 710, .inl f1)), (za, .inl (cza, 710, .inl f2)), (va, .inl (cva, 710, .inl f3)), (wt, .inl (cw, 2, .inl (fun _ => 0)))] s.heap.size = A at hD hZ ⊢
  have hA : ∀ q : Nat, s.heap.size ≤ q → A q := fun q h => by rw [← hAe]; exact Or.inr h
  have hS : va_S A s.heap s.heap [] := va_S.rf
  have hAO := hE.2.2.2.1
  have hP : va_P D vwCl [(h0, .inr (12, fs)), (ka, .inl (cka, 710, .inl f0)), (pa, .inl (cpa, 710, .inl f1)), (za, .inl (cza, 710, .inl f2)), (va, .inl (cva, 710, .inl f3)), (wt, .inl (cw, 2, .inl (fun _ => 0)))] s.heap := hP
  have hl := lv_entry ([.ref h0]) (n := 1) (Nat.le_of_ble_eq_true rfl)
  rw [lg_entry_eq]
  generalize (lg_sl ([.ref h0]) ++ List.replicate (1 - (lg_sl ([.ref h0])).length) Slot.unset).toArray = ls at hl ⊢
  have hl : lv_has ls 1 [(0, .ref h0)] := hl
  refine lv_aload_n hx hb dX12_compile_0 rfl (lv_at hl 0 rfl) ?_
  refine lv_iconst (v := 0) hx hb dX12_compile_1 (by decide +kernel) ?_
  refine va_put (D := D) (ci := 12) (v := .int 0) (ty := .int) (C := RX12) (T := TX12) (N := 139) hx hb hts i_v_c_m_compile_X12 tyX12 tyX12_ok nmX12 hown hK hP hD hS 0 rfl rfl 0 (by decide) (hts (.fieldLink RX12 316 "ScheduleHouseModel" "thrown" "I") (by decide +kernel)) (fun _ h9 => h9) rfl (by decide +kernel) rfl rfl (by rw [hlen]; decide) dX12_compile_2 (fun H locs hP hD hS => ?_)
  obtain ⟨fs1, hfs1⟩ : ∃ z, z = fs.set 0 (.int 0) := ⟨_, rfl⟩
  rw [← hfs1] at hP hD
  have lfs1 : fs1.length = 139 := by rw [hfs1, List.length_set]; exact hlen
  have gfs1_2 : fs1[2]? = some (.int 0) := by rw [hfs1, List.getElem?_set_ne (by decide)]; exact hf_size
  have gfs1_42 : fs1[42]? = some (.int 0) := by rw [hfs1, List.getElem?_set_ne (by decide)]; exact hf_wrongPlace
  have gfs1_3 : fs1[3]? = some (.int 0) := by rw [hfs1, List.getElem?_set_ne (by decide)]; exact hf_tokens
  have gfs1_4 : fs1[4]? = some (.ref ka) := by rw [hfs1, List.getElem?_set_ne (by decide)]; exact hf_kind
  have gfs1_5 : fs1[5]? = some (.ref pa) := by rw [hfs1, List.getElem?_set_ne (by decide)]; exact hf_place
  have gfs1_7 : fs1[7]? = some (.ref za) := by rw [hfs1, List.getElem?_set_ne (by decide)]; exact hf_sizeOf
  have gfs1_6 : fs1[6]? = some (.ref va) := by rw [hfs1, List.getElem?_set_ne (by decide)]; exact hf_valueOf
  have gfs1_118 : fs1[118]? = some (.ref wt) := by rw [hfs1, List.getElem?_set_ne (by decide)]; exact hf_wasTried
  have gfs1_0 : fs1[0]? = some (.int 0) := by rw [hfs1]; exact List.getElem?_set_self (by rw [hlen]; decide)
  have hP : va_P D vwCl [(h0, .inr (12, fs1)), (ka, .inl (cka, 710, .inl f0)), (pa, .inl (cpa, 710, .inl f1)), (za, .inl (cza, 710, .inl f2)), (va, .inl (cva, 710, .inl f3)), (wt, .inl (cw, 2, .inl (fun _ => 0)))] H := hP
  have hD : va_D A [(h0, .inr (12, fs1)), (ka, .inl (cka, 710, .inl f0)), (pa, .inl (cpa, 710, .inl f1)), (za, .inl (cza, 710, .inl f2)), (va, .inl (cva, 710, .inl f3)), (wt, .inl (cw, 2, .inl (fun _ => 0)))] := hD
  refine lv_aload_n hx hb dX12_compile_5 rfl (lv_at hl 0 rfl) ?_
  have hPc := hP.sub (ws' := [(h0, .inr (12, fs1)), (wt, .inl (cw, 2, .inl (fun _ => 0)))]) [0, 5] rfl
  have hDc := hD.sub (ws' := [(h0, .inr (12, fs1)), (wt, .inl (cw, 2, .inl (fun _ => 0)))]) [0, 5] (by decide) rfl
  have hKc := hK.sub (tys' := [(cw, .boolean)]) [4] rfl
  have hFc := va_free (wc := [(h0, .inr (12, fs1)), (wt, .inl (cw, 2, .inl (fun _ => 0)))]) hD hS hA [0, 5] rfl
  refine va_callv (va_runV (As := []) (rest := []) ⟨hx, hb, hml, hown, hts⟩ (c_m_forget l D h0 wt cw fs1 H.size lfs1 gfs1_118) (cwV 0 hts g_v_c_m_compile_1 rfl rfl rfl (by decide +kernel) ⟨Nat.le_of_ble_eq_true rfl, Nat.le_of_ble_eq_true rfl⟩) ⟨st_blind, va_recv hKc hPc (ci := 12) (q0 := 0) rfl rfl, fun U hU hW => ⟨rfl, st_call hU hW hPc hKc hDc hZ hS hFc hE⟩⟩ rfl rfl hl.1 rfl (lv_room (Nat.le_of_ble_eq_true rfl)) dX12_compile_6 ⟨Nat.le_of_ble_eq_true rfl, Nat.le_of_ble_eq_true rfl⟩) hS (fun q _ h => hFc q h) hFc (fun  u2 t H1 locs ht hvm hw hB hz1 hk1 hS => ?_)
  obtain ⟨ku2, tu2, au2, zu2⟩ := hw
  have lu2 : u2.length = 139 := by rw [ku2.1]; exact lfs1
  have gu2_2 : u2[2]? = some (.int 0) := kp_at ku2 gfs1_2 (by decide)
  have gu2_42 : u2[42]? = some (.int 0) := kp_at ku2 gfs1_42 (by decide)
  have gu2_3 : u2[3]? = some (.int 0) := kp_at ku2 gfs1_3 (by decide)
  have gu2_4 : u2[4]? = some (.ref ka) := kp_at ku2 gfs1_4 (by decide)
  have gu2_5 : u2[5]? = some (.ref pa) := kp_at ku2 gfs1_5 (by decide)
  have gu2_7 : u2[7]? = some (.ref za) := kp_at ku2 gfs1_7 (by decide)
  have gu2_6 : u2[6]? = some (.ref va) := kp_at ku2 gfs1_6 (by decide)
  have gu2_118 : u2[118]? = some (.ref wt) := kp_at ku2 gfs1_118 (by decide)
  have gu2_0 : u2[0]? = some (.int 0) := kp_at ku2 gfs1_0 (by decide)
  obtain ⟨fy3, hP1, hK1, hD1⟩ := hB
  rw [ht] at hP1
  have hK1 := va_K.moved hvm.symm hK1
  obtain ⟨hP, hD⟩ := va_join (wr := [(ka, .inl (cka, 710, .inl f0)), (pa, .inl (cpa, 710, .inl f1)), (za, .inl (cza, 710, .inl f2)), (va, .inl (cva, 710, .inl f3))]) (w1 := [(h0, .inr (12, u2)), (wt, .inl (cw, 2, .inl fy3))]) hP hD [0, 5] [1, 2, 3, 4] rfl rfl (by decide) (by decide) hk1 hFc hP1 hD1
  have hK := (hK.sub (tys' := [(cka, .int), (cpa, .int), (cza, .int), (cva, .int)]) [0, 1, 2, 3] rfl).app hK1
  generalize H1 = H at hP hS ⊢
  have hP : va_P D vwCl [(ka, .inl (cka, 710, .inl f0)), (pa, .inl (cpa, 710, .inl f1)), (za, .inl (cza, 710, .inl f2)), (va, .inl (cva, 710, .inl f3)), (h0, .inr (12, u2)), (wt, .inl (cw, 2, .inl fy3))] H := hP
  have hD : va_D A [(ka, .inl (cka, 710, .inl f0)), (pa, .inl (cpa, 710, .inl f1)), (za, .inl (cza, 710, .inl f2)), (va, .inl (cva, 710, .inl f3)), (h0, .inr (12, u2)), (wt, .inl (cw, 2, .inl fy3))] := hD
  have hK : va_K D vwCl [(cka, .int), (cpa, .int), (cza, .int), (cva, .int), (cw, .boolean)] s := hK
  refine lv_aload_n hx hb dX12_compile_9 rfl (lv_at hl 0 rfl) ?_
  refine lv_iconst (v := (-1)) hx hb dX12_compile_10 (by decide +kernel) ?_
  refine va_put (D := D) (ci := 12) (v := .int (-1)) (ty := .int) (C := RX12) (T := TX12) (N := 139) hx hb hts i_v_c_m_compile_X12 tyX12 tyX12_ok nmX12 hown hK hP hD hS 4 rfl rfl 11 (by decide) (hts (.fieldLink RX12 26 "ScheduleHouseModel" "faultPlace" "I") (by decide +kernel)) (fun _ h9 => h9) rfl (by decide +kernel) rfl rfl (by rw [lu2]; decide) dX12_compile_11 (fun H locs hP hD hS => ?_)
  obtain ⟨fs4, hfs4⟩ : ∃ z, z = u2.set 11 (.int (-1)) := ⟨_, rfl⟩
  rw [← hfs4] at hP hD
  have lfs4 : fs4.length = 139 := by rw [hfs4, List.length_set]; exact lu2
  have gfs4_25 : fs4[25]? = some (.int 0) := by rw [hfs4, List.getElem?_set_ne (by decide)]; exact tu2
  have gfs4_26 : fs4[26]? = some (.int 0) := by rw [hfs4, List.getElem?_set_ne (by decide)]; exact au2
  have gfs4_27 : fs4[27]? = some (.int 0) := by rw [hfs4, List.getElem?_set_ne (by decide)]; exact zu2
  have gfs4_2 : fs4[2]? = some (.int 0) := by rw [hfs4, List.getElem?_set_ne (by decide)]; exact gu2_2
  have gfs4_42 : fs4[42]? = some (.int 0) := by rw [hfs4, List.getElem?_set_ne (by decide)]; exact gu2_42
  have gfs4_3 : fs4[3]? = some (.int 0) := by rw [hfs4, List.getElem?_set_ne (by decide)]; exact gu2_3
  have gfs4_4 : fs4[4]? = some (.ref ka) := by rw [hfs4, List.getElem?_set_ne (by decide)]; exact gu2_4
  have gfs4_5 : fs4[5]? = some (.ref pa) := by rw [hfs4, List.getElem?_set_ne (by decide)]; exact gu2_5
  have gfs4_7 : fs4[7]? = some (.ref za) := by rw [hfs4, List.getElem?_set_ne (by decide)]; exact gu2_7
  have gfs4_6 : fs4[6]? = some (.ref va) := by rw [hfs4, List.getElem?_set_ne (by decide)]; exact gu2_6
  have gfs4_118 : fs4[118]? = some (.ref wt) := by rw [hfs4, List.getElem?_set_ne (by decide)]; exact gu2_118
  have gfs4_0 : fs4[0]? = some (.int 0) := by rw [hfs4, List.getElem?_set_ne (by decide)]; exact gu2_0
  have gfs4_11 : fs4[11]? = some (.int (-1)) := by rw [hfs4]; exact List.getElem?_set_self (by rw [lu2]; decide)
  have hP : va_P D vwCl [(ka, .inl (cka, 710, .inl f0)), (pa, .inl (cpa, 710, .inl f1)), (za, .inl (cza, 710, .inl f2)), (va, .inl (cva, 710, .inl f3)), (h0, .inr (12, fs4)), (wt, .inl (cw, 2, .inl fy3))] H := hP
  have hD : va_D A [(ka, .inl (cka, 710, .inl f0)), (pa, .inl (cpa, 710, .inl f1)), (za, .inl (cza, 710, .inl f2)), (va, .inl (cva, 710, .inl f3)), (h0, .inr (12, fs4)), (wt, .inl (cw, 2, .inl fy3))] := hD
  refine lv_aload_n hx hb dX12_compile_14 rfl (lv_at hl 0 rfl) ?_
  refine lv_iconst (v := (-1)) hx hb dX12_compile_15 (by decide +kernel) ?_
  refine va_put (D := D) (ci := 12) (v := .int (-1)) (ty := .int) (C := RX12) (T := TX12) (N := 139) hx hb hts i_v_c_m_compile_X12 tyX12 tyX12_ok nmX12 hown hK hP hD hS 4 rfl rfl 12 (by decide) (hts (.fieldLink RX12 30 "ScheduleHouseModel" "faultLine" "I") (by decide +kernel)) (fun _ h9 => h9) rfl (by decide +kernel) rfl rfl (by rw [lfs4]; decide) dX12_compile_16 (fun H locs hP hD hS => ?_)
  obtain ⟨fs5, hfs5⟩ : ∃ z, z = fs4.set 12 (.int (-1)) := ⟨_, rfl⟩
  rw [← hfs5] at hP hD
  have lfs5 : fs5.length = 139 := by rw [hfs5, List.length_set]; exact lfs4
  have gfs5_25 : fs5[25]? = some (.int 0) := by rw [hfs5, List.getElem?_set_ne (by decide)]; exact gfs4_25
  have gfs5_26 : fs5[26]? = some (.int 0) := by rw [hfs5, List.getElem?_set_ne (by decide)]; exact gfs4_26
  have gfs5_27 : fs5[27]? = some (.int 0) := by rw [hfs5, List.getElem?_set_ne (by decide)]; exact gfs4_27
  have gfs5_2 : fs5[2]? = some (.int 0) := by rw [hfs5, List.getElem?_set_ne (by decide)]; exact gfs4_2
  have gfs5_42 : fs5[42]? = some (.int 0) := by rw [hfs5, List.getElem?_set_ne (by decide)]; exact gfs4_42
  have gfs5_3 : fs5[3]? = some (.int 0) := by rw [hfs5, List.getElem?_set_ne (by decide)]; exact gfs4_3
  have gfs5_4 : fs5[4]? = some (.ref ka) := by rw [hfs5, List.getElem?_set_ne (by decide)]; exact gfs4_4
  have gfs5_5 : fs5[5]? = some (.ref pa) := by rw [hfs5, List.getElem?_set_ne (by decide)]; exact gfs4_5
  have gfs5_7 : fs5[7]? = some (.ref za) := by rw [hfs5, List.getElem?_set_ne (by decide)]; exact gfs4_7
  have gfs5_6 : fs5[6]? = some (.ref va) := by rw [hfs5, List.getElem?_set_ne (by decide)]; exact gfs4_6
  have gfs5_118 : fs5[118]? = some (.ref wt) := by rw [hfs5, List.getElem?_set_ne (by decide)]; exact gfs4_118
  have gfs5_0 : fs5[0]? = some (.int 0) := by rw [hfs5, List.getElem?_set_ne (by decide)]; exact gfs4_0
  have gfs5_11 : fs5[11]? = some (.int (-1)) := by rw [hfs5, List.getElem?_set_ne (by decide)]; exact gfs4_11
  have gfs5_12 : fs5[12]? = some (.int (-1)) := by rw [hfs5]; exact List.getElem?_set_self (by rw [lfs4]; decide)
  have hP : va_P D vwCl [(ka, .inl (cka, 710, .inl f0)), (pa, .inl (cpa, 710, .inl f1)), (za, .inl (cza, 710, .inl f2)), (va, .inl (cva, 710, .inl f3)), (h0, .inr (12, fs5)), (wt, .inl (cw, 2, .inl fy3))] H := hP
  have hD : va_D A [(ka, .inl (cka, 710, .inl f0)), (pa, .inl (cpa, 710, .inl f1)), (za, .inl (cza, 710, .inl f2)), (va, .inl (cva, 710, .inl f3)), (h0, .inr (12, fs5)), (wt, .inl (cw, 2, .inl fy3))] := hD
  refine lv_aload_n hx hb dX12_compile_19 rfl (lv_at hl 0 rfl) ?_
  have hPc := hP.sub (ws' := [(h0, .inr (12, fs5)), (ka, .inl (cka, 710, .inl f0)), (pa, .inl (cpa, 710, .inl f1)), (za, .inl (cza, 710, .inl f2)), (va, .inl (cva, 710, .inl f3))]) [4, 0, 1, 2, 3] rfl
  have hDc := hD.sub (ws' := [(h0, .inr (12, fs5)), (ka, .inl (cka, 710, .inl f0)), (pa, .inl (cpa, 710, .inl f1)), (za, .inl (cza, 710, .inl f2)), (va, .inl (cva, 710, .inl f3))]) [4, 0, 1, 2, 3] (by decide) rfl
  have hKc := hK.sub (tys' := [(cka, .int), (cpa, .int), (cza, .int), (cva, .int)]) [0, 1, 2, 3] rfl
  have hFc := va_free (wc := [(h0, .inr (12, fs5)), (ka, .inl (cka, 710, .inl f0)), (pa, .inl (cpa, 710, .inl f1)), (za, .inl (cza, 710, .inl f2)), (va, .inl (cva, 710, .inl f3))]) hD hS hA [4, 0, 1, 2, 3] rfl
  refine va_callv (va_runV (As := []) (rest := []) ⟨hx, hb, hml, hown, hts⟩ (c_m_readTokens l D h0 ka pa za va cka cpa cza cva fs5 f0 f1 f2 f3 H.size lfs5 gfs5_0 gfs5_2 gfs5_42 gfs5_25 gfs5_26 gfs5_27 gfs5_4 gfs5_5 gfs5_7 gfs5_6) (cwV 0 hts g_v_c_m_compile_2 rfl rfl rfl (by decide +kernel) ⟨Nat.le_of_ble_eq_true rfl, Nat.le_of_ble_eq_true rfl⟩) ⟨st_blind, va_recv hKc hPc (ci := 12) (q0 := 0) rfl rfl, fun U hU hW => ⟨rfl, st_call hU hW hPc hKc hDc hZ hS hFc hE⟩⟩ rfl rfl hl.1 rfl (lv_room (Nat.le_of_ble_eq_true rfl)) dX12_compile_20 ⟨Nat.le_of_ble_eq_true rfl, Nat.le_of_ble_eq_true rfl⟩) hS (fun q _ h => hFc q h) hFc (fun  u6 t H1 locs ht hvm hw hB hz1 hk1 hS => ?_)
  obtain ⟨lu6, gu6_4, gu6_0, gu6_2, gu6_42, gu6_25, gu6_26, gu6_27⟩ := hw
  obtain ⟨fy7, he0, hB⟩ := hB
  obtain ⟨hP1, hK1, hD1⟩ := hB
  rw [ht] at hP1
  have hK1 := va_K.moved hvm.symm hK1
  obtain ⟨hP, hD⟩ := va_join (wr := [(wt, .inl (cw, 2, .inl fy3))]) (w1 := [(h0, .inr (12, u6)), (ka, .inl (cka, 710, .inl fy7))]) hP hD [4, 0, 1, 2, 3] [5] rfl rfl (by decide) (by decide) hk1 hFc hP1 hD1
  have hK := (hK.sub (tys' := [(cw, .boolean)]) [4] rfl).app hK1
  generalize H1 = H at hP hS ⊢
  have hP : va_P D vwCl [(wt, .inl (cw, 2, .inl fy3)), (h0, .inr (12, u6)), (ka, .inl (cka, 710, .inl fy7))] H := hP
  have hD : va_D A [(wt, .inl (cw, 2, .inl fy3)), (h0, .inr (12, u6)), (ka, .inl (cka, 710, .inl fy7))] := hD
  have hK : va_K D vwCl [(cw, .boolean), (cka, .int)] s := hK
  refine lv_aload_n hx hb dX12_compile_23 rfl (lv_at hl 0 rfl) ?_
  refine lv_iconst (v := 0) hx hb dX12_compile_24 (by decide +kernel) ?_
  refine va_put (D := D) (ci := 12) (v := .int 0) (ty := .int) (C := RX12) (T := TX12) (N := 139) hx hb hts i_v_c_m_compile_X12 tyX12 tyX12_ok nmX12 hown hK hP hD hS 1 rfl rfl 8 (by decide) (hts (.fieldLink RX12 372 "ScheduleHouseModel" "now" "I") (by decide +kernel)) (fun _ h9 => h9) rfl (by decide +kernel) rfl rfl (by rw [lu6]; decide) dX12_compile_25 (fun H locs hP hD hS => ?_)
  obtain ⟨fs8, hfs8⟩ : ∃ z, z = u6.set 8 (.int 0) := ⟨_, rfl⟩
  rw [← hfs8] at hP hD
  have lfs8 : fs8.length = 139 := by rw [hfs8, List.length_set]; exact lu6
  have gfs8_0 : fs8[0]? = some (.int 0) := by rw [hfs8, List.getElem?_set_ne (by decide)]; exact gu6_0
  have gfs8_2 : fs8[2]? = some (.int 0) := by rw [hfs8, List.getElem?_set_ne (by decide)]; exact gu6_2
  have gfs8_42 : fs8[42]? = some (.int 0) := by rw [hfs8, List.getElem?_set_ne (by decide)]; exact gu6_42
  have gfs8_25 : fs8[25]? = some (.int 0) := by rw [hfs8, List.getElem?_set_ne (by decide)]; exact gu6_25
  have gfs8_26 : fs8[26]? = some (.int 0) := by rw [hfs8, List.getElem?_set_ne (by decide)]; exact gu6_26
  have gfs8_27 : fs8[27]? = some (.int 0) := by rw [hfs8, List.getElem?_set_ne (by decide)]; exact gu6_27
  have gfs8_4 : fs8[4]? = some (.ref ka) := by rw [hfs8, List.getElem?_set_ne (by decide)]; exact gu6_4
  have gfs8_8 : fs8[8]? = some (.int 0) := by rw [hfs8]; exact List.getElem?_set_self (by rw [lu6]; decide)
  have hP : va_P D vwCl [(wt, .inl (cw, 2, .inl fy3)), (h0, .inr (12, fs8)), (ka, .inl (cka, 710, .inl fy7))] H := hP
  have hD : va_D A [(wt, .inl (cw, 2, .inl fy3)), (h0, .inr (12, fs8)), (ka, .inl (cka, 710, .inl fy7))] := hD
  refine lv_aload_n hx hb dX12_compile_28 rfl (lv_at hl 0 rfl) ?_
  refine lv_iconst (v := 0) hx hb dX12_compile_29 (by decide +kernel) ?_
  refine va_put (D := D) (ci := 12) (v := .int 0) (ty := .int) (C := RX12) (T := TX12) (N := 139) hx hb hts i_v_c_m_compile_X12 tyX12 tyX12_ok nmX12 hown hK hP hD hS 1 rfl rfl 9 (by decide) (hts (.fieldLink RX12 366 "ScheduleHouseModel" "bad" "I") (by decide +kernel)) (fun _ h9 => h9) rfl (by decide +kernel) rfl rfl (by rw [lfs8]; decide) dX12_compile_30 (fun H locs hP hD hS => ?_)
  obtain ⟨fs9, hfs9⟩ : ∃ z, z = fs8.set 9 (.int 0) := ⟨_, rfl⟩
  rw [← hfs9] at hP hD
  have lfs9 : fs9.length = 139 := by rw [hfs9, List.length_set]; exact lfs8
  have gfs9_0 : fs9[0]? = some (.int 0) := by rw [hfs9, List.getElem?_set_ne (by decide)]; exact gfs8_0
  have gfs9_2 : fs9[2]? = some (.int 0) := by rw [hfs9, List.getElem?_set_ne (by decide)]; exact gfs8_2
  have gfs9_42 : fs9[42]? = some (.int 0) := by rw [hfs9, List.getElem?_set_ne (by decide)]; exact gfs8_42
  have gfs9_25 : fs9[25]? = some (.int 0) := by rw [hfs9, List.getElem?_set_ne (by decide)]; exact gfs8_25
  have gfs9_26 : fs9[26]? = some (.int 0) := by rw [hfs9, List.getElem?_set_ne (by decide)]; exact gfs8_26
  have gfs9_27 : fs9[27]? = some (.int 0) := by rw [hfs9, List.getElem?_set_ne (by decide)]; exact gfs8_27
  have gfs9_4 : fs9[4]? = some (.ref ka) := by rw [hfs9, List.getElem?_set_ne (by decide)]; exact gfs8_4
  have gfs9_8 : fs9[8]? = some (.int 0) := by rw [hfs9, List.getElem?_set_ne (by decide)]; exact gfs8_8
  have gfs9_9 : fs9[9]? = some (.int 0) := by rw [hfs9]; exact List.getElem?_set_self (by rw [lfs8]; decide)
  have hP : va_P D vwCl [(wt, .inl (cw, 2, .inl fy3)), (h0, .inr (12, fs9)), (ka, .inl (cka, 710, .inl fy7))] H := hP
  have hD : va_D A [(wt, .inl (cw, 2, .inl fy3)), (h0, .inr (12, fs9)), (ka, .inl (cka, 710, .inl fy7))] := hD
  refine lv_aload_n hx hb dX12_compile_33 rfl (lv_at hl 0 rfl) ?_
  refine lv_iconst (v := 0) hx hb dX12_compile_34 (by decide +kernel) ?_
  refine va_put (D := D) (ci := 12) (v := .int 0) (ty := .int) (C := RX12) (T := TX12) (N := 139) hx hb hts i_v_c_m_compile_X12 tyX12 tyX12_ok nmX12 hown hK hP hD hS 1 rfl rfl 28 (by decide) (hts (.fieldLink RX12 445 "ScheduleHouseModel" "told" "I") (by decide +kernel)) (fun _ h9 => h9) rfl (by decide +kernel) rfl rfl (by rw [lfs9]; decide) dX12_compile_35 (fun H locs hP hD hS => ?_)
  obtain ⟨fs10, hfs10⟩ : ∃ z, z = fs9.set 28 (.int 0) := ⟨_, rfl⟩
  rw [← hfs10] at hP hD
  have lfs10 : fs10.length = 139 := by rw [hfs10, List.length_set]; exact lfs9
  have gfs10_0 : fs10[0]? = some (.int 0) := by rw [hfs10, List.getElem?_set_ne (by decide)]; exact gfs9_0
  have gfs10_2 : fs10[2]? = some (.int 0) := by rw [hfs10, List.getElem?_set_ne (by decide)]; exact gfs9_2
  have gfs10_42 : fs10[42]? = some (.int 0) := by rw [hfs10, List.getElem?_set_ne (by decide)]; exact gfs9_42
  have gfs10_25 : fs10[25]? = some (.int 0) := by rw [hfs10, List.getElem?_set_ne (by decide)]; exact gfs9_25
  have gfs10_26 : fs10[26]? = some (.int 0) := by rw [hfs10, List.getElem?_set_ne (by decide)]; exact gfs9_26
  have gfs10_27 : fs10[27]? = some (.int 0) := by rw [hfs10, List.getElem?_set_ne (by decide)]; exact gfs9_27
  have gfs10_4 : fs10[4]? = some (.ref ka) := by rw [hfs10, List.getElem?_set_ne (by decide)]; exact gfs9_4
  have gfs10_8 : fs10[8]? = some (.int 0) := by rw [hfs10, List.getElem?_set_ne (by decide)]; exact gfs9_8
  have gfs10_9 : fs10[9]? = some (.int 0) := by rw [hfs10, List.getElem?_set_ne (by decide)]; exact gfs9_9
  have gfs10_28 : fs10[28]? = some (.int 0) := by rw [hfs10]; exact List.getElem?_set_self (by rw [lfs9]; decide)
  have hP : va_P D vwCl [(wt, .inl (cw, 2, .inl fy3)), (h0, .inr (12, fs10)), (ka, .inl (cka, 710, .inl fy7))] H := hP
  have hD : va_D A [(wt, .inl (cw, 2, .inl fy3)), (h0, .inr (12, fs10)), (ka, .inl (cka, 710, .inl fy7))] := hD
  refine lv_aload_n hx hb dX12_compile_38 rfl (lv_at hl 0 rfl) ?_
  refine lv_iconst (v := 0) hx hb dX12_compile_39 (by decide +kernel) ?_
  refine va_put (D := D) (ci := 12) (v := .int 0) (ty := .int) (C := RX12) (T := TX12) (N := 139) hx hb hts i_v_c_m_compile_X12 tyX12 tyX12_ok nmX12 hown hK hP hD hS 1 rfl rfl 13 (by decide) (hts (.fieldLink RX12 363 "ScheduleHouseModel" "nodes" "I") (by decide +kernel)) (fun _ h9 => h9) rfl (by decide +kernel) rfl rfl (by rw [lfs10]; decide) dX12_compile_40 (fun H locs hP hD hS => ?_)
  obtain ⟨fs11, hfs11⟩ : ∃ z, z = fs10.set 13 (.int 0) := ⟨_, rfl⟩
  rw [← hfs11] at hP hD
  have lfs11 : fs11.length = 139 := by rw [hfs11, List.length_set]; exact lfs10
  have gfs11_0 : fs11[0]? = some (.int 0) := by rw [hfs11, List.getElem?_set_ne (by decide)]; exact gfs10_0
  have gfs11_2 : fs11[2]? = some (.int 0) := by rw [hfs11, List.getElem?_set_ne (by decide)]; exact gfs10_2
  have gfs11_42 : fs11[42]? = some (.int 0) := by rw [hfs11, List.getElem?_set_ne (by decide)]; exact gfs10_42
  have gfs11_25 : fs11[25]? = some (.int 0) := by rw [hfs11, List.getElem?_set_ne (by decide)]; exact gfs10_25
  have gfs11_26 : fs11[26]? = some (.int 0) := by rw [hfs11, List.getElem?_set_ne (by decide)]; exact gfs10_26
  have gfs11_27 : fs11[27]? = some (.int 0) := by rw [hfs11, List.getElem?_set_ne (by decide)]; exact gfs10_27
  have gfs11_4 : fs11[4]? = some (.ref ka) := by rw [hfs11, List.getElem?_set_ne (by decide)]; exact gfs10_4
  have gfs11_8 : fs11[8]? = some (.int 0) := by rw [hfs11, List.getElem?_set_ne (by decide)]; exact gfs10_8
  have gfs11_9 : fs11[9]? = some (.int 0) := by rw [hfs11, List.getElem?_set_ne (by decide)]; exact gfs10_9
  have gfs11_28 : fs11[28]? = some (.int 0) := by rw [hfs11, List.getElem?_set_ne (by decide)]; exact gfs10_28
  have gfs11_13 : fs11[13]? = some (.int 0) := by rw [hfs11]; exact List.getElem?_set_self (by rw [lfs10]; decide)
  have hP : va_P D vwCl [(wt, .inl (cw, 2, .inl fy3)), (h0, .inr (12, fs11)), (ka, .inl (cka, 710, .inl fy7))] H := hP
  have hD : va_D A [(wt, .inl (cw, 2, .inl fy3)), (h0, .inr (12, fs11)), (ka, .inl (cka, 710, .inl fy7))] := hD
  refine lv_aload_n hx hb dX12_compile_43 rfl (lv_at hl 0 rfl) ?_
  refine lv_iconst (v := 0) hx hb dX12_compile_44 (by decide +kernel) ?_
  refine va_put (D := D) (ci := 12) (v := .int 0) (ty := .int) (C := RX12) (T := TX12) (N := 139) hx hb hts i_v_c_m_compile_X12 tyX12 tyX12_ok nmX12 hown hK hP hD hS 1 rfl rfl 47 (by decide) (hts (.fieldLink RX12 527 "ScheduleHouseModel" "blocks" "I") (by decide +kernel)) (fun _ h9 => h9) rfl (by decide +kernel) rfl rfl (by rw [lfs11]; decide) dX12_compile_45 (fun H locs hP hD hS => ?_)
  obtain ⟨fs12, hfs12⟩ : ∃ z, z = fs11.set 47 (.int 0) := ⟨_, rfl⟩
  rw [← hfs12] at hP hD
  have lfs12 : fs12.length = 139 := by rw [hfs12, List.length_set]; exact lfs11
  have gfs12_0 : fs12[0]? = some (.int 0) := by rw [hfs12, List.getElem?_set_ne (by decide)]; exact gfs11_0
  have gfs12_2 : fs12[2]? = some (.int 0) := by rw [hfs12, List.getElem?_set_ne (by decide)]; exact gfs11_2
  have gfs12_42 : fs12[42]? = some (.int 0) := by rw [hfs12, List.getElem?_set_ne (by decide)]; exact gfs11_42
  have gfs12_25 : fs12[25]? = some (.int 0) := by rw [hfs12, List.getElem?_set_ne (by decide)]; exact gfs11_25
  have gfs12_26 : fs12[26]? = some (.int 0) := by rw [hfs12, List.getElem?_set_ne (by decide)]; exact gfs11_26
  have gfs12_27 : fs12[27]? = some (.int 0) := by rw [hfs12, List.getElem?_set_ne (by decide)]; exact gfs11_27
  have gfs12_4 : fs12[4]? = some (.ref ka) := by rw [hfs12, List.getElem?_set_ne (by decide)]; exact gfs11_4
  have gfs12_8 : fs12[8]? = some (.int 0) := by rw [hfs12, List.getElem?_set_ne (by decide)]; exact gfs11_8
  have gfs12_9 : fs12[9]? = some (.int 0) := by rw [hfs12, List.getElem?_set_ne (by decide)]; exact gfs11_9
  have gfs12_28 : fs12[28]? = some (.int 0) := by rw [hfs12, List.getElem?_set_ne (by decide)]; exact gfs11_28
  have gfs12_13 : fs12[13]? = some (.int 0) := by rw [hfs12, List.getElem?_set_ne (by decide)]; exact gfs11_13
  have gfs12_47 : fs12[47]? = some (.int 0) := by rw [hfs12]; exact List.getElem?_set_self (by rw [lfs11]; decide)
  have hP : va_P D vwCl [(wt, .inl (cw, 2, .inl fy3)), (h0, .inr (12, fs12)), (ka, .inl (cka, 710, .inl fy7))] H := hP
  have hD : va_D A [(wt, .inl (cw, 2, .inl fy3)), (h0, .inr (12, fs12)), (ka, .inl (cka, 710, .inl fy7))] := hD
  refine lv_aload_n hx hb dX12_compile_48 rfl (lv_at hl 0 rfl) ?_
  refine va_get (D := D) (ci := 12) (v := .int 0) (C := RX12) (T := TX12) (N := 139) hx hb hts i_v_c_m_compile_X12 hown hK hP 1 rfl rfl 9 (by decide) (hts (.fieldLink RX12 366 "ScheduleHouseModel" "bad" "I") (by decide +kernel)) (fun _ h9 => h9) gfs12_9 dX12_compile_49 ?_
  refine lv_if_ne (tgt := 69) hx hb dX12_compile_52 (by decide) (fun c9 => False.elim (by revert c9; decide)) (fun _ => ?_)
  refine lv_aload_n hx hb dX12_compile_55 rfl (lv_at hl 0 rfl) ?_
  have hPc := hP.sub (ws' := [(h0, .inr (12, fs12)), (ka, .inl (cka, 710, .inl fy7))]) [1, 2] rfl
  have hDc := hD.sub (ws' := [(h0, .inr (12, fs12)), (ka, .inl (cka, 710, .inl fy7))]) [1, 2] (by decide) rfl
  have hKc := hK.sub (tys' := [(cka, .int)]) [1] rfl
  have hFc := va_free (wc := [(h0, .inr (12, fs12)), (ka, .inl (cka, 710, .inl fy7))]) hD hS hA [1, 2] rfl
  refine va_calli (va_runV (As := []) (rest := []) ⟨hx, hb, hml, hown, hts⟩ (c_m_here l D h0 ka cka fs12 fy7 H.size lfs12 gfs12_9 gfs12_8 gfs12_4 he0) (cwV 0 hts g_v_c_m_compile_3 rfl rfl rfl (by decide +kernel) ⟨Nat.le_of_ble_eq_true rfl, Nat.le_of_ble_eq_true rfl⟩) ⟨st_blind, va_recv hKc hPc (ci := 12) (q0 := 0) rfl rfl, fun U hU hW => ⟨rfl, st_call hU hW hPc hKc hDc hZ hS hFc hE⟩⟩ rfl rfl hl.1 rfl (lv_room (Nat.le_of_ble_eq_true rfl)) dX12_compile_56 ⟨Nat.le_of_ble_eq_true rfl, Nat.le_of_ble_eq_true rfl⟩) hS (fun q _ h => hFc q h) hFc (fun r13 u14 t H1 locs ht hvm hw hB hz1 hk1 hS => ?_)
  obtain ⟨hP1, hK1, hD1⟩ := hB
  rw [ht] at hP1
  have hK1 := va_K.moved hvm.symm hK1
  obtain ⟨hP, hD⟩ := va_join (wr := [(wt, .inl (cw, 2, .inl fy3))]) (w1 := [(h0, .inr (12, fs12)), (ka, .inl (cka, 710, .inl fy7))]) hP hD [1, 2] [0] rfl rfl (by decide) (by decide) hk1 hFc hP1 hD1
  have hK := (hK.sub (tys' := [(cw, .boolean)]) [0] rfl).app hK1
  generalize H1 = H at hP hS ⊢
  have hP : va_P D vwCl [(wt, .inl (cw, 2, .inl fy3)), (h0, .inr (12, fs12)), (ka, .inl (cka, 710, .inl fy7))] H := hP
  have hD : va_D A [(wt, .inl (cw, 2, .inl fy3)), (h0, .inr (12, fs12)), (ka, .inl (cka, 710, .inl fy7))] := hD
  have hK : va_K D vwCl [(cw, .boolean), (cka, .int)] s := hK
  subst hw
  refine lv_if_eq (tgt := 69) hx hb dX12_compile_59 (by decide) (fun _ => ?_) (fun c9 => False.elim (by revert c9; decide))
  refine lv_aload_n hx hb dX12_compile_69 rfl (lv_at hl 0 rfl) ?_
  refine va_get (D := D) (ci := 12) (v := .int 0) (C := RX12) (T := TX12) (N := 139) hx hb hts i_v_c_m_compile_X12 hown hK hP 1 rfl rfl 9 (by decide) (hts (.fieldLink RX12 366 "ScheduleHouseModel" "bad" "I") (by decide +kernel)) (fun _ h9 => h9) gfs12_9 dX12_compile_70 ?_
  refine lv_if_ne (tgt := 96) hx hb dX12_compile_73 (by decide) (fun c9 => False.elim (by revert c9; decide)) (fun _ => ?_)
  refine lv_aload_n hx hb dX12_compile_76 rfl (lv_at hl 0 rfl) ?_
  have hPc := hP.sub (ws' := [(h0, .inr (12, fs12))]) [1] rfl
  have hDc := hD.sub (ws' := [(h0, .inr (12, fs12))]) [1] (by decide) rfl
  have hKc := hK.sub (tys' := []) [] rfl
  have hFc := va_free (wc := [(h0, .inr (12, fs12))]) hD hS hA [1] rfl
  refine va_callv (va_runV (As := []) (rest := []) ⟨hx, hb, hml, hown, hts⟩ (c_m_judge l D h0 fs12 H.size lfs12 gfs12_28 gfs12_25 gfs12_26 gfs12_27 gfs12_42) (cwV 0 hts g_v_c_m_compile_4 rfl rfl rfl (by decide +kernel) ⟨Nat.le_of_ble_eq_true rfl, Nat.le_of_ble_eq_true rfl⟩) ⟨st_blind, va_recv hKc hPc (ci := 12) (q0 := 0) rfl rfl, fun U hU hW => ⟨rfl, st_call hU hW hPc hKc hDc hZ hS hFc hE⟩⟩ rfl rfl hl.1 rfl (lv_room (Nat.le_of_ble_eq_true rfl)) dX12_compile_77 ⟨Nat.le_of_ble_eq_true rfl, Nat.le_of_ble_eq_true rfl⟩) hS (fun q _ h => hFc q h) hFc (fun  u15 t H1 locs ht hvm hw hB hz1 hk1 hS => ?_)
  obtain ⟨lu15, gu15_41, gu15_42, gu15_25⟩ := hw
  obtain ⟨hP1, hK1, hD1⟩ := hB
  rw [ht] at hP1
  have hK1 := va_K.moved hvm.symm hK1
  obtain ⟨hP, hD⟩ := va_join (wr := [(wt, .inl (cw, 2, .inl fy3)), (ka, .inl (cka, 710, .inl fy7))]) (w1 := [(h0, .inr (12, u15))]) hP hD [1] [0, 2] rfl rfl (by decide) (by decide) hk1 hFc hP1 hD1
  have hK := (hK.sub (tys' := [(cw, .boolean), (cka, .int)]) [0, 1] rfl).app hK1
  generalize H1 = H at hP hS ⊢
  have hP : va_P D vwCl [(wt, .inl (cw, 2, .inl fy3)), (ka, .inl (cka, 710, .inl fy7)), (h0, .inr (12, u15))] H := hP
  have hD : va_D A [(wt, .inl (cw, 2, .inl fy3)), (ka, .inl (cka, 710, .inl fy7)), (h0, .inr (12, u15))] := hD
  have hK : va_K D vwCl [(cw, .boolean), (cka, .int)] s := hK
  refine lv_aload_n hx hb dX12_compile_80 rfl (lv_at hl 0 rfl) ?_
  refine lv_aload_n hx hb dX12_compile_81 rfl (lv_at hl 0 rfl) ?_
  refine va_get (D := D) (ci := 12) (v := .int 0) (C := RX12) (T := TX12) (N := 139) hx hb hts i_v_c_m_compile_X12 hown hK hP 2 rfl rfl 41 (by decide) (hts (.fieldLink RX12 470 "ScheduleHouseModel" "wrong" "I") (by decide +kernel)) (fun _ h9 => h9) gu15_41 dX12_compile_82 ?_
  refine va_put (D := D) (ci := 12) (v := .int 0) (ty := .int) (C := RX12) (T := TX12) (N := 139) hx hb hts i_v_c_m_compile_X12 tyX12 tyX12_ok nmX12 hown hK hP hD hS 2 rfl rfl 9 (by decide) (hts (.fieldLink RX12 366 "ScheduleHouseModel" "bad" "I") (by decide +kernel)) (fun _ h9 => h9) rfl (by decide +kernel) rfl rfl (by rw [lu15]; decide) dX12_compile_85 (fun H locs hP hD hS => ?_)
  obtain ⟨fs16, hfs16⟩ : ∃ z, z = u15.set 9 (.int 0) := ⟨_, rfl⟩
  rw [← hfs16] at hP hD
  have lfs16 : fs16.length = 139 := by rw [hfs16, List.length_set]; exact lu15
  have gfs16_41 : fs16[41]? = some (.int 0) := by rw [hfs16, List.getElem?_set_ne (by decide)]; exact gu15_41
  have gfs16_42 : fs16[42]? = some (.int 0) := by rw [hfs16, List.getElem?_set_ne (by decide)]; exact gu15_42
  have gfs16_25 : fs16[25]? = some (.int 0) := by rw [hfs16, List.getElem?_set_ne (by decide)]; exact gu15_25
  have gfs16_9 : fs16[9]? = some (.int 0) := by rw [hfs16]; exact List.getElem?_set_self (by rw [lu15]; decide)
  have hP : va_P D vwCl [(wt, .inl (cw, 2, .inl fy3)), (ka, .inl (cka, 710, .inl fy7)), (h0, .inr (12, fs16))] H := hP
  have hD : va_D A [(wt, .inl (cw, 2, .inl fy3)), (ka, .inl (cka, 710, .inl fy7)), (h0, .inr (12, fs16))] := hD
  refine lv_aload_n hx hb dX12_compile_88 rfl (lv_at hl 0 rfl) ?_
  refine lv_aload_n hx hb dX12_compile_89 rfl (lv_at hl 0 rfl) ?_
  refine va_get (D := D) (ci := 12) (v := .int 0) (C := RX12) (T := TX12) (N := 139) hx hb hts i_v_c_m_compile_X12 hown hK hP 2 rfl rfl 42 (by decide) (hts (.fieldLink RX12 473 "ScheduleHouseModel" "wrongPlace" "I") (by decide +kernel)) (fun _ h9 => h9) gfs16_42 dX12_compile_90 ?_
  refine va_put (D := D) (ci := 12) (v := .int 0) (ty := .int) (C := RX12) (T := TX12) (N := 139) hx hb hts i_v_c_m_compile_X12 tyX12 tyX12_ok nmX12 hown hK hP hD hS 2 rfl rfl 10 (by decide) (hts (.fieldLink RX12 369 "ScheduleHouseModel" "badPlace" "I") (by decide +kernel)) (fun _ h9 => h9) rfl (by decide +kernel) rfl rfl (by rw [lfs16]; decide) dX12_compile_93 (fun H locs hP hD hS => ?_)
  obtain ⟨fs17, hfs17⟩ : ∃ z, z = fs16.set 10 (.int 0) := ⟨_, rfl⟩
  rw [← hfs17] at hP hD
  have lfs17 : fs17.length = 139 := by rw [hfs17, List.length_set]; exact lfs16
  have gfs17_41 : fs17[41]? = some (.int 0) := by rw [hfs17, List.getElem?_set_ne (by decide)]; exact gfs16_41
  have gfs17_42 : fs17[42]? = some (.int 0) := by rw [hfs17, List.getElem?_set_ne (by decide)]; exact gfs16_42
  have gfs17_25 : fs17[25]? = some (.int 0) := by rw [hfs17, List.getElem?_set_ne (by decide)]; exact gfs16_25
  have gfs17_9 : fs17[9]? = some (.int 0) := by rw [hfs17, List.getElem?_set_ne (by decide)]; exact gfs16_9
  have gfs17_10 : fs17[10]? = some (.int 0) := by rw [hfs17]; exact List.getElem?_set_self (by rw [lfs16]; decide)
  have hP : va_P D vwCl [(wt, .inl (cw, 2, .inl fy3)), (ka, .inl (cka, 710, .inl fy7)), (h0, .inr (12, fs17))] H := hP
  have hD : va_D A [(wt, .inl (cw, 2, .inl fy3)), (ka, .inl (cka, 710, .inl fy7)), (h0, .inr (12, fs17))] := hD
  refine lv_aload_n hx hb dX12_compile_96 rfl (lv_at hl 0 rfl) ?_
  refine va_get (D := D) (ci := 12) (v := .int 0) (C := RX12) (T := TX12) (N := 139) hx hb hts i_v_c_m_compile_X12 hown hK hP 2 rfl rfl 9 (by decide) (hts (.fieldLink RX12 366 "ScheduleHouseModel" "bad" "I") (by decide +kernel)) (fun _ h9 => h9) gfs17_9 dX12_compile_97 ?_
  refine lv_if_le (tgt := 133) hx hb dX12_compile_100 (by decide) (fun _ => ?_) (fun c9 => False.elim (by revert c9; decide))
  refine lv_aload_n hx hb dX12_compile_133 rfl (lv_at hl 0 rfl) ?_
  refine lv_iconst (v := 1) hx hb dX12_compile_134 (by decide +kernel) ?_
  refine va_put (D := D) (ci := 12) (v := .int 1) (ty := .boolean) (C := RX12) (T := TX12) (N := 139) hx hb hts i_v_c_m_compile_X12 tyX12 tyX12_ok nmX12 hown hK hP hD hS 2 rfl rfl 66 (by decide) (hts (.fieldLink RX12 565 "ScheduleHouseModel" "isCompiled" "Z") (by decide +kernel)) (fun _ h9 => h9) rfl (by decide +kernel) rfl rfl (by rw [lfs17]; decide) dX12_compile_135 (fun H locs hP hD hS => ?_)
  obtain ⟨fs18, hfs18⟩ : ∃ z, z = fs17.set 66 (.int 1) := ⟨_, rfl⟩
  rw [← hfs18] at hP hD
  have lfs18 : fs18.length = 139 := by rw [hfs18, List.length_set]; exact lfs17
  have gfs18_41 : fs18[41]? = some (.int 0) := by rw [hfs18, List.getElem?_set_ne (by decide)]; exact gfs17_41
  have gfs18_42 : fs18[42]? = some (.int 0) := by rw [hfs18, List.getElem?_set_ne (by decide)]; exact gfs17_42
  have gfs18_25 : fs18[25]? = some (.int 0) := by rw [hfs18, List.getElem?_set_ne (by decide)]; exact gfs17_25
  have gfs18_9 : fs18[9]? = some (.int 0) := by rw [hfs18, List.getElem?_set_ne (by decide)]; exact gfs17_9
  have gfs18_10 : fs18[10]? = some (.int 0) := by rw [hfs18, List.getElem?_set_ne (by decide)]; exact gfs17_10
  have gfs18_66 : fs18[66]? = some (.int 1) := by rw [hfs18]; exact List.getElem?_set_self (by rw [lfs17]; decide)
  have hP : va_P D vwCl [(wt, .inl (cw, 2, .inl fy3)), (ka, .inl (cka, 710, .inl fy7)), (h0, .inr (12, fs18))] H := hP
  have hD : va_D A [(wt, .inl (cw, 2, .inl fy3)), (ka, .inl (cka, 710, .inl fy7)), (h0, .inr (12, fs18))] := hD
  refine lv_aload_n hx hb dX12_compile_138 rfl (lv_at hl 0 rfl) ?_
  refine va_get (D := D) (ci := 12) (v := .int 0) (C := RX12) (T := TX12) (N := 139) hx hb hts i_v_c_m_compile_X12 hown hK hP 2 rfl rfl 25 (by decide) (hts (.fieldLink RX12 461 "ScheduleHouseModel" "threads" "I") (by decide +kernel)) (fun _ h9 => h9) gfs18_25 dX12_compile_139 ?_
  exact W.iret (v := 0) hx hb hr (fun t ht hW => ⟨⟨0, (), rfl, rfl, trivial⟩, hS.F ht⟩) hS.2.2 dX12_compile_142
