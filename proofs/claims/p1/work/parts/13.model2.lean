noncomputable def v_c_m_count : List Cond := .code yX12_count cX12_count 2 (some .int) :: ([.fieldLink RX12 316 "ScheduleHouseModel" "thrown" "I", .fieldLink RX12 467 "ScheduleHouseModel" "finals" "I", .fieldLink RX12 464 "ScheduleHouseModel" "always" "I", .fieldLink RX12 461 "ScheduleHouseModel" "threads" "I", .fieldLink RX12 458 "ScheduleHouseModel" "locks" "I", .fieldLink RX12 448 "ScheduleHouseModel" "cells" "I"] ++ (wsX120 ++ ((va_wsS RX12 322 yX12_in v_c_m_in) ++ ((wsV RX12 558 RX12 yX12_refuses v_c_m_refuses_no) ++ ((wsV RX12 558 RX12 yX12_refuses v_c_m_refuses_y1) ++ ([]))))))
theorem i_v_c_m_count_X12 : ∀ w ∈ wsX120, w ∈ v_c_m_count := fun _ h => List.mem_cons_of_mem _ (List.mem_append_right _ (List.mem_append_left _ h))
theorem g_v_c_m_count_1 : GoodIn v_c_m_count (va_wsS RX12 322 yX12_in v_c_m_in) := goodIn_sub (fun _ h => List.mem_cons_of_mem _ (List.mem_append_right _ (List.mem_append_right _ (List.mem_append_left _ h)))) (by decide +kernel)
theorem g_v_c_m_count_2 : GoodIn v_c_m_count (wsV RX12 558 RX12 yX12_refuses v_c_m_refuses_no) := goodIn_sub (fun _ h => List.mem_cons_of_mem _ (List.mem_append_right _ (List.mem_append_right _ (List.mem_append_right _ (List.mem_append_left _ h))))) (by decide +kernel)
theorem g_v_c_m_count_3 : GoodIn v_c_m_count (wsV RX12 558 RX12 yX12_refuses v_c_m_refuses_y1) := goodIn_sub (fun _ h => List.mem_cons_of_mem _ (List.mem_append_right _ (List.mem_append_right _ (List.mem_append_right _ (List.mem_append_right _ (List.mem_append_left _ h)))))) (by decide +kernel)
theorem t_v_c_m_count : ∀ w ∈ v_c_m_count, w ∈ lw_tbl := tb_c (List.mem_of_getElem? (i := 2735) (by decide +kernel)) (tb_a (tb_c (List.mem_of_getElem? (i := 2072) (by decide +kernel)) (tb_c (List.mem_of_getElem? (i := 2098) (by decide +kernel)) (tb_c (List.mem_of_getElem? (i := 2097) (by decide +kernel)) (tb_c (List.mem_of_getElem? (i := 2096) (by decide +kernel)) (tb_c (List.mem_of_getElem? (i := 2095) (by decide +kernel)) (tb_c (List.mem_of_getElem? (i := 2094) (by decide +kernel)) (tb_n))))))) (tb_a (tw_wsX120) (tb_a (tb_a (tb_c (List.mem_of_getElem? (i := 2498) (by decide +kernel)) (tb_c (List.mem_of_getElem? (i := 2499) (by decide +kernel)) (tb_c (List.mem_of_getElem? (i := 215) (by decide +kernel)) (tb_n)))) t_v_c_m_in) (tb_a (tb_a (tb_c (List.mem_of_getElem? (i := 2501) (by decide +kernel)) (tb_c (List.mem_of_getElem? (i := 2503) (by decide +kernel)) (tb_c (List.mem_of_getElem? (i := 113) (by decide +kernel)) (tb_c (List.mem_of_getElem? (i := 215) (by decide +kernel)) (tb_n))))) t_v_c_m_refuses_no) (tb_a (tb_a (tb_c (List.mem_of_getElem? (i := 2501) (by decide +kernel)) (tb_c (List.mem_of_getElem? (i := 2503) (by decide +kernel)) (tb_c (List.mem_of_getElem? (i := 113) (by decide +kernel)) (tb_c (List.mem_of_getElem? (i := 215) (by decide +kernel)) (tb_n))))) t_v_c_m_refuses_y1) (tb_n))))))
set_option maxHeartbeats 400000 in
set_option maxRecDepth 100000 in
/-- the model's count -/
theorem c_m_count (l : Launch) (D : va_G) (h0 : Nat) (fs : List Value) (p0 : Int32) (sz : Nat) (hlen : fs.length = 139) (hf_thrown : fs[0]? = some (.int 0)) (hf_cells : fs[23]? = some (.int 0)) (hf_locks : fs[24]? = some (.int 0)) (hf_threads : fs[25]? = some (.int 0)) (hf_always : fs[26]? = some (.int 0)) (hf_finals : fs[27]? = some (.int 0)) : Met l yX12_count v_c_m_count ({ frames := 5, cells := 0, slots := 0, locals := 80 }) (va_Pc [.ref h0, .int p0] (st_ D [(h0, .inr (12, fs))] [] sz)) (va_Qi (fun (r : Int32) (u : List Value) => ∃ t : Int32, u[0]? = some (.int t) ∧ ((t = 0 ∧ r = 0 ∧ (¬ p0 < 0 ∧ ¬ 4 < p0)) ∨ (t = 1 ∧ (p0 < 0 ∨ 4 < p0)) ∨ (t = 2 ∧ False))) (fun u t => va_P D vwCl [(h0, .inr (12, u))] t.heap ∧ va_K D vwCl [] t ∧ va_D (va_A [(h0, .inr (12, fs))] sz) [(h0, .inr (12, u))]) (va_A [(h0, .inr (12, fs))] sz)) 0 0 (va_A [(h0, .inr (12, fs))] sz) := by
  refine Met.ofW (cc := cX12_count) (maxL := 2) (ret := (some .int)) (by decide) rfl ?_
  intro p e s m args below meth c s₁ B hml hv
  obtain ⟨rfl, hsz, hP, hK, hD0, hZ, hE⟩ := hv
  have hx := B.exec
  have hb := B.bytes
  have hr := B.returns
  have hts := atoms_spec (ws := v_c_m_count) B.pre
  have hown : s.vm.findClass RX12 = some m.cls := findClass_of_methodNamed B.named
  have hlocks := B.notSynchronized
  subst hsz
  have hD := hD0.self (sz := s.heap.size)
  generalize hAe : va_A [(h0, .inr (12, fs))] s.heap.size = A at hD hZ ⊢
  have hA : ∀ q : Nat, s.heap.size ≤ q → A q := fun q h => by rw [← hAe]; exact Or.inr h
  have hS : va_S A s.heap s.heap [] := va_S.rf
  have hAO := hE.2.2.2.1
  have hP : va_P D vwCl [(h0, .inr (12, fs))] s.heap := hP
  have hl := lv_entry ([.ref h0, .int p0]) (n := 2) (Nat.le_of_ble_eq_true rfl)
  rw [lg_entry_eq]
  generalize (lg_sl ([.ref h0, .int p0]) ++ List.replicate (2 - (lg_sl ([.ref h0, .int p0])).length) Slot.unset).toArray = ls at hl ⊢
  have hl : lv_has ls 2 [(0, .ref h0), (1, .int p0)] := hl
  refine lv_aload_n hx hb dX12_count_0 rfl (lv_at hl 0 rfl) ?_
  refine lv_iconst (v := 0) hx hb dX12_count_1 (by decide +kernel) ?_
  refine va_put (D := D) (ci := 12) (v := .int 0) (ty := .int) (C := RX12) (T := TX12) (N := 139) hx hb hts i_v_c_m_count_X12 tyX12 tyX12_ok nmX12 hown hK hP hD hS 0 rfl rfl 0 (by decide) (hts (.fieldLink RX12 316 "ScheduleHouseModel" "thrown" "I") (by decide +kernel)) (fun _ h9 => h9) rfl (by decide +kernel) rfl rfl (by rw [hlen]; decide) dX12_count_2 (fun H locs hP hD hS => ?_)
  obtain ⟨fs1, hfs1⟩ : ∃ z, z = fs.set 0 (.int 0) := ⟨_, rfl⟩
  rw [← hfs1] at hP hD
  have lfs1 : fs1.length = 139 := by rw [hfs1, List.length_set]; exact hlen
  have gfs1_23 : fs1[23]? = some (.int 0) := by rw [hfs1, List.getElem?_set_ne (by decide)]; exact hf_cells
  have gfs1_24 : fs1[24]? = some (.int 0) := by rw [hfs1, List.getElem?_set_ne (by decide)]; exact hf_locks
  have gfs1_25 : fs1[25]? = some (.int 0) := by rw [hfs1, List.getElem?_set_ne (by decide)]; exact hf_threads
  have gfs1_26 : fs1[26]? = some (.int 0) := by rw [hfs1, List.getElem?_set_ne (by decide)]; exact hf_always
  have gfs1_27 : fs1[27]? = some (.int 0) := by rw [hfs1, List.getElem?_set_ne (by decide)]; exact hf_finals
  have gfs1_0 : fs1[0]? = some (.int 0) := by rw [hfs1]; exact List.getElem?_set_self (by rw [hlen]; decide)
  have hP : va_P D vwCl [(h0, .inr (12, fs1))] H := hP
  have hD : va_D A [(h0, .inr (12, fs1))] := hD
  refine lv_aload_n hx hb dX12_count_5 rfl (lv_at hl 0 rfl) ?_
  refine lv_iload_n hx hb dX12_count_6 rfl (lv_at hl 1 rfl) ?_
  refine lv_iconst (v := 0) hx hb dX12_count_7 (by decide +kernel) ?_
  refine lv_iconst (v := 4) hx hb dX12_count_8 (by decide +kernel) ?_
  have hPc := hP.sub (ws' := []) [] rfl
  have hDc := hD.sub (ws' := []) [] (by decide) rfl
  have hKc := hK.sub (tys' := []) [] rfl
  have hFc := va_free (wc := []) hD hS hA [] rfl
  refine va_calli (va_runS (As := [.int p0, .int 0, .int 4]) (rest := [.ref h0]) ⟨hx, hb, hml, hown, hts⟩ (c_m_in l D p0 0 4 H.size) (va_cwS 3 hts g_v_c_m_count_1 rfl rfl rfl (by decide +kernel) ⟨Nat.le_of_ble_eq_true rfl, Nat.le_of_ble_eq_true rfl⟩) ⟨st_blind, fun U hU hW => ⟨rfl, st_call hU hW hPc hKc hDc hZ hS hFc hE⟩⟩ rfl rfl hl.1 rfl (lv_room (Nat.le_of_ble_eq_true rfl)) dX12_count_9 ⟨Nat.le_of_ble_eq_true rfl, Nat.le_of_ble_eq_true rfl⟩) hS (fun q _ h => hFc q h) hFc (fun r2 u3 t H1 locs ht hvm hw hB hz1 hk1 hS => ?_)
  obtain ⟨hP, hD⟩ := va_join (wr := [(h0, .inr (12, fs1))]) (w1 := []) hP hD [] [0] rfl rfl (by decide) (by decide) hk1 hFc p_nil d_nil
  generalize H1 = H at hP hS ⊢
  have hP : va_P D vwCl [(h0, .inr (12, fs1))] H := hP
  have hD : va_D A [(h0, .inr (12, fs1))] := hD
  rcases hw with ⟨er2, hi⟩ | ⟨er2, hi⟩
  · subst er2
    refine lv_if_ne (tgt := 19) hx hb dX12_count_12 (by decide) (fun _ => ?_) (fun c9 => False.elim (by revert c9; decide))
    refine lv_iconst (v := 0) hx hb dX12_count_19 (by decide +kernel) ?_
    refine lv_iconst (v := 1) hx hb dX12_count_20 (by decide +kernel) ?_
    have hPc := hP.sub (ws' := [(h0, .inr (12, fs1))]) [0] rfl
    have hDc := hD.sub (ws' := [(h0, .inr (12, fs1))]) [0] (by decide) rfl
    have hKc := hK.sub (tys' := []) [] rfl
    have hFc := va_free (wc := [(h0, .inr (12, fs1))]) hD hS hA [0] rfl
    refine va_calli (va_runV (As := [.int 0, .int 1]) (rest := []) ⟨hx, hb, hml, hown, hts⟩ (c_m_refuses_no l D h0 fs1 1 H.size lfs1 gfs1_0) (cwV 2 hts g_v_c_m_count_2 rfl rfl rfl (by decide +kernel) ⟨Nat.le_of_ble_eq_true rfl, Nat.le_of_ble_eq_true rfl⟩) ⟨st_blind, va_recv hKc hPc (ci := 12) (q0 := 0) rfl rfl, fun U hU hW => ⟨rfl, st_call hU hW hPc hKc hDc hZ hS hFc hE⟩⟩ rfl rfl hl.1 rfl (lv_room (Nat.le_of_ble_eq_true rfl)) dX12_count_21 ⟨Nat.le_of_ble_eq_true rfl, Nat.le_of_ble_eq_true rfl⟩) hS (fun q _ h => hFc q h) hFc (fun r4 u5 t H1 locs ht hvm hw hB hz1 hk1 hS => ?_)
    obtain ⟨er4, eu5⟩ := hw
    rw [eu5] at hB
    obtain ⟨hP1, hK1, hD1⟩ := hB
    rw [ht] at hP1
    have hK1 := va_K.moved hvm.symm hK1
    obtain ⟨hP, hD⟩ := va_join (wr := []) (w1 := [(h0, .inr (12, fs1))]) hP hD [0] [] rfl rfl (by decide) (by decide) hk1 hFc hP1 hD1
    have hK := (hK.sub (tys' := []) [] rfl).app hK1
    generalize H1 = H at hP hS ⊢
    have hP : va_P D vwCl [(h0, .inr (12, fs1))] H := hP
    have hD : va_D A [(h0, .inr (12, fs1))] := hD
    have hK : va_K D vwCl [] s := hK
    subst er4
    refine lv_if_eq (tgt := 29) hx hb dX12_count_24 (by decide) (fun _ => ?_) (fun c9 => False.elim (by revert c9; decide))
    refine lv_iload_n hx hb dX12_count_29 rfl (lv_at hl 1 rfl) ?_
    refine lv_if_ne (tgt := 40) hx hb dX12_count_30 (by decide) (fun c100 => ?_) (fun c100 => ?_)
    · refine lv_iload_n hx hb dX12_count_40 rfl (lv_at hl 1 rfl) ?_
      refine lv_iconst (v := 1) hx hb dX12_count_41 (by decide +kernel) ?_
      refine lv_icmp_ne (tgt := 52) hx hb dX12_count_42 (by decide) (fun c101 => ?_) (fun c101 => ?_)
      · refine lv_iload_n hx hb dX12_count_52 rfl (lv_at hl 1 rfl) ?_
        refine lv_iconst (v := 2) hx hb dX12_count_53 (by decide +kernel) ?_
        refine lv_icmp_ne (tgt := 64) hx hb dX12_count_54 (by decide) (fun c102 => ?_) (fun c102 => ?_)
        · refine lv_iload_n hx hb dX12_count_64 rfl (lv_at hl 1 rfl) ?_
          refine lv_iconst (v := 3) hx hb dX12_count_65 (by decide +kernel) ?_
          refine lv_icmp_ne (tgt := 76) hx hb dX12_count_66 (by decide) (fun c103 => ?_) (fun c103 => ?_)
          · refine lv_aload_n hx hb dX12_count_76 rfl (lv_at hl 0 rfl) ?_
            refine va_get (D := D) (ci := 12) (v := .int 0) (C := RX12) (T := TX12) (N := 139) hx hb hts i_v_c_m_count_X12 hown hK hP 0 rfl rfl 27 (by decide) (hts (.fieldLink RX12 467 "ScheduleHouseModel" "finals" "I") (by decide +kernel)) (fun _ h9 => h9) gfs1_27 dX12_count_77 ?_
            have hP : va_P D vwCl [(h0, .inr (12, fs1))] H := hP.sub [0] rfl
            have hD : va_D A [(h0, .inr (12, fs1))] := hD.sub [0] (by decide) rfl
            have hK : va_K D vwCl [] s := hK.sub [] rfl
            exact W.iret (v := 0) hx hb hr (fun t ht hW => ⟨⟨0, fs1, rfl, ⟨0, gfs1_0, Or.inl ⟨rfl, rfl, hi⟩⟩, by rw [ht]; exact hP, va_K.moved hW.alike hK, hD⟩, hS.F ht⟩) hS.2.2 dX12_count_80
          · refine lv_aload_n hx hb dX12_count_69 rfl (lv_at hl 0 rfl) ?_
            refine va_get (D := D) (ci := 12) (v := .int 0) (C := RX12) (T := TX12) (N := 139) hx hb hts i_v_c_m_count_X12 hown hK hP 0 rfl rfl 26 (by decide) (hts (.fieldLink RX12 464 "ScheduleHouseModel" "always" "I") (by decide +kernel)) (fun _ h9 => h9) gfs1_26 dX12_count_70 ?_
            refine lv_goto (tgt := 80) hx hb dX12_count_73 (by decide) ?_
            have hP : va_P D vwCl [(h0, .inr (12, fs1))] H := hP.sub [0] rfl
            have hD : va_D A [(h0, .inr (12, fs1))] := hD.sub [0] (by decide) rfl
            have hK : va_K D vwCl [] s := hK.sub [] rfl
            exact W.iret (v := 0) hx hb hr (fun t ht hW => ⟨⟨0, fs1, rfl, ⟨0, gfs1_0, Or.inl ⟨rfl, rfl, hi⟩⟩, by rw [ht]; exact hP, va_K.moved hW.alike hK, hD⟩, hS.F ht⟩) hS.2.2 dX12_count_80
        · refine lv_aload_n hx hb dX12_count_57 rfl (lv_at hl 0 rfl) ?_
          refine va_get (D := D) (ci := 12) (v := .int 0) (C := RX12) (T := TX12) (N := 139) hx hb hts i_v_c_m_count_X12 hown hK hP 0 rfl rfl 25 (by decide) (hts (.fieldLink RX12 461 "ScheduleHouseModel" "threads" "I") (by decide +kernel)) (fun _ h9 => h9) gfs1_25 dX12_count_58 ?_
          refine lv_goto (tgt := 80) hx hb dX12_count_61 (by decide) ?_
          have hP : va_P D vwCl [(h0, .inr (12, fs1))] H := hP.sub [0] rfl
          have hD : va_D A [(h0, .inr (12, fs1))] := hD.sub [0] (by decide) rfl
          have hK : va_K D vwCl [] s := hK.sub [] rfl
          exact W.iret (v := 0) hx hb hr (fun t ht hW => ⟨⟨0, fs1, rfl, ⟨0, gfs1_0, Or.inl ⟨rfl, rfl, hi⟩⟩, by rw [ht]; exact hP, va_K.moved hW.alike hK, hD⟩, hS.F ht⟩) hS.2.2 dX12_count_80
      · refine lv_aload_n hx hb dX12_count_45 rfl (lv_at hl 0 rfl) ?_
        refine va_get (D := D) (ci := 12) (v := .int 0) (C := RX12) (T := TX12) (N := 139) hx hb hts i_v_c_m_count_X12 hown hK hP 0 rfl rfl 24 (by decide) (hts (.fieldLink RX12 458 "ScheduleHouseModel" "locks" "I") (by decide +kernel)) (fun _ h9 => h9) gfs1_24 dX12_count_46 ?_
        refine lv_goto (tgt := 80) hx hb dX12_count_49 (by decide) ?_
        have hP : va_P D vwCl [(h0, .inr (12, fs1))] H := hP.sub [0] rfl
        have hD : va_D A [(h0, .inr (12, fs1))] := hD.sub [0] (by decide) rfl
        have hK : va_K D vwCl [] s := hK.sub [] rfl
        exact W.iret (v := 0) hx hb hr (fun t ht hW => ⟨⟨0, fs1, rfl, ⟨0, gfs1_0, Or.inl ⟨rfl, rfl, hi⟩⟩, by rw [ht]; exact hP, va_K.moved hW.alike hK, hD⟩, hS.F ht⟩) hS.2.2 dX12_count_80
    · refine lv_aload_n hx hb dX12_count_33 rfl (lv_at hl 0 rfl) ?_
      refine va_get (D := D) (ci := 12) (v := .int 0) (C := RX12) (T := TX12) (N := 139) hx hb hts i_v_c_m_count_X12 hown hK hP 0 rfl rfl 23 (by decide) (hts (.fieldLink RX12 448 "ScheduleHouseModel" "cells" "I") (by decide +kernel)) (fun _ h9 => h9) gfs1_23 dX12_count_34 ?_
      refine lv_goto (tgt := 80) hx hb dX12_count_37 (by decide) ?_
      have hP : va_P D vwCl [(h0, .inr (12, fs1))] H := hP.sub [0] rfl
      have hD : va_D A [(h0, .inr (12, fs1))] := hD.sub [0] (by decide) rfl
      have hK : va_K D vwCl [] s := hK.sub [] rfl
      exact W.iret (v := 0) hx hb hr (fun t ht hW => ⟨⟨0, fs1, rfl, ⟨0, gfs1_0, Or.inl ⟨rfl, rfl, hi⟩⟩, by rw [ht]; exact hP, va_K.moved hW.alike hK, hD⟩, hS.F ht⟩) hS.2.2 dX12_count_80
  · subst er2
    refine lv_if_ne (tgt := 19) hx hb dX12_count_12 (by decide) (fun c9 => False.elim (by revert c9; decide)) (fun _ => ?_)
    refine lv_iconst (v := 1) hx hb dX12_count_15 (by decide +kernel) ?_
    refine lv_goto (tgt := 20) hx hb dX12_count_16 (by decide) ?_
    refine lv_iconst (v := 1) hx hb dX12_count_20 (by decide +kernel) ?_
    have hPc := hP.sub (ws' := [(h0, .inr (12, fs1))]) [0] rfl
    have hDc := hD.sub (ws' := [(h0, .inr (12, fs1))]) [0] (by decide) rfl
    have hKc := hK.sub (tys' := []) [] rfl
    have hFc := va_free (wc := [(h0, .inr (12, fs1))]) hD hS hA [0] rfl
    refine va_calli (va_runV (As := [.int 1, .int 1]) (rest := []) ⟨hx, hb, hml, hown, hts⟩ (c_m_refuses_y1 l D h0 fs1 H.size lfs1 gfs1_0) (cwV 2 hts g_v_c_m_count_3 rfl rfl rfl (by decide +kernel) ⟨Nat.le_of_ble_eq_true rfl, Nat.le_of_ble_eq_true rfl⟩) ⟨st_blind, va_recv hKc hPc (ci := 12) (q0 := 0) rfl rfl, fun U hU hW => ⟨rfl, st_call hU hW hPc hKc hDc hZ hS hFc hE⟩⟩ rfl rfl hl.1 rfl (lv_room (Nat.le_of_ble_eq_true rfl)) dX12_count_21 ⟨Nat.le_of_ble_eq_true rfl, Nat.le_of_ble_eq_true rfl⟩) hS (fun q _ h => hFc q h) hFc (fun r6 u7 t H1 locs ht hvm hw hB hz1 hk1 hS => ?_)
    obtain ⟨er6, eu7⟩ := hw
    have lu7 : u7.length = 139 := by rw [eu7, List.length_set]; exact lfs1
    have gu7_23 : u7[23]? = some (.int 0) := by rw [eu7]; exact se_ne gfs1_23 (by decide)
    have gu7_24 : u7[24]? = some (.int 0) := by rw [eu7]; exact se_ne gfs1_24 (by decide)
    have gu7_25 : u7[25]? = some (.int 0) := by rw [eu7]; exact se_ne gfs1_25 (by decide)
    have gu7_26 : u7[26]? = some (.int 0) := by rw [eu7]; exact se_ne gfs1_26 (by decide)
    have gu7_27 : u7[27]? = some (.int 0) := by rw [eu7]; exact se_ne gfs1_27 (by decide)
    have gu7_0 : u7[0]? = some (.int 1) := by rw [eu7]; exact se_eq (by rw [lfs1]; decide)
    obtain ⟨hP1, hK1, hD1⟩ := hB
    rw [ht] at hP1
    have hK1 := va_K.moved hvm.symm hK1
    obtain ⟨hP, hD⟩ := va_join (wr := []) (w1 := [(h0, .inr (12, u7))]) hP hD [0] [] rfl rfl (by decide) (by decide) hk1 hFc hP1 hD1
    have hK := (hK.sub (tys' := []) [] rfl).app hK1
    generalize H1 = H at hP hS ⊢
    have hP : va_P D vwCl [(h0, .inr (12, u7))] H := hP
    have hD : va_D A [(h0, .inr (12, u7))] := hD
    have hK : va_K D vwCl [] s := hK
    subst er6
    refine lv_if_eq (tgt := 29) hx hb dX12_count_24 (by decide) (fun c9 => False.elim (by revert c9; decide)) (fun _ => ?_)
    refine lv_iconst (v := 0) hx hb dX12_count_27 (by decide +kernel) ?_
    have hP : va_P D vwCl [(h0, .inr (12, u7))] H := hP.sub [0] rfl
    have hD : va_D A [(h0, .inr (12, u7))] := hD.sub [0] (by decide) rfl
    have hK : va_K D vwCl [] s := hK.sub [] rfl
    exact W.iret (v := 0) hx hb hr (fun t ht hW => ⟨⟨0, u7, rfl, ⟨1, gu7_0, Or.inr (Or.inl ⟨rfl, hi⟩)⟩, by rw [ht]; exact hP, va_K.moved hW.alike hK, hD⟩, hS.F ht⟩) hS.2.2 dX12_count_28
noncomputable def v_c_m_fault_ : List Cond := .code yX12_fault_ cX12_fault_ 2 (some .int) :: ([.fieldLink RX12 316 "ScheduleHouseModel" "thrown" "I", .fieldLink RX12 30 "ScheduleHouseModel" "faultLine" "I", .fieldLink RX12 26 "ScheduleHouseModel" "faultPlace" "I"] ++ (wsX120 ++ ((va_wsS RX12 322 yX12_in v_c_m_in) ++ ((wsV RX12 558 RX12 yX12_refuses v_c_m_refuses_no) ++ ((wsV RX12 558 RX12 yX12_refuses v_c_m_refuses_y1) ++ ([]))))))
theorem i_v_c_m_fault__X12 : ∀ w ∈ wsX120, w ∈ v_c_m_fault_ := fun _ h => List.mem_cons_of_mem _ (List.mem_append_right _ (List.mem_append_left _ h))
theorem g_v_c_m_fault__1 : GoodIn v_c_m_fault_ (va_wsS RX12 322 yX12_in v_c_m_in) := goodIn_sub (fun _ h => List.mem_cons_of_mem _ (List.mem_append_right _ (List.mem_append_right _ (List.mem_append_left _ h)))) (by decide +kernel)
theorem g_v_c_m_fault__2 : GoodIn v_c_m_fault_ (wsV RX12 558 RX12 yX12_refuses v_c_m_refuses_no) := goodIn_sub (fun _ h => List.mem_cons_of_mem _ (List.mem_append_right _ (List.mem_append_right _ (List.mem_append_right _ (List.mem_append_left _ h))))) (by decide +kernel)
theorem g_v_c_m_fault__3 : GoodIn v_c_m_fault_ (wsV RX12 558 RX12 yX12_refuses v_c_m_refuses_y1) := goodIn_sub (fun _ h => List.mem_cons_of_mem _ (List.mem_append_right _ (List.mem_append_right _ (List.mem_append_right _ (List.mem_append_right _ (List.mem_append_left _ h)))))) (by decide +kernel)
theorem t_v_c_m_fault_ : ∀ w ∈ v_c_m_fault_, w ∈ lw_tbl := tb_c (List.mem_of_getElem? (i := 2731) (by decide +kernel)) (tb_a (tb_c (List.mem_of_getElem? (i := 2072) (by decide +kernel)) (tb_c (List.mem_of_getElem? (i := 2084) (by decide +kernel)) (tb_c (List.mem_of_getElem? (i := 2083) (by decide +kernel)) (tb_n)))) (tb_a (tw_wsX120) (tb_a (tb_a (tb_c (List.mem_of_getElem? (i := 2498) (by decide +kernel)) (tb_c (List.mem_of_getElem? (i := 2499) (by decide +kernel)) (tb_c (List.mem_of_getElem? (i := 215) (by decide +kernel)) (tb_n)))) t_v_c_m_in) (tb_a (tb_a (tb_c (List.mem_of_getElem? (i := 2501) (by decide +kernel)) (tb_c (List.mem_of_getElem? (i := 2503) (by decide +kernel)) (tb_c (List.mem_of_getElem? (i := 113) (by decide +kernel)) (tb_c (List.mem_of_getElem? (i := 215) (by decide +kernel)) (tb_n))))) t_v_c_m_refuses_no) (tb_a (tb_a (tb_c (List.mem_of_getElem? (i := 2501) (by decide +kernel)) (tb_c (List.mem_of_getElem? (i := 2503) (by decide +kernel)) (tb_c (List.mem_of_getElem? (i := 113) (by decide +kernel)) (tb_c (List.mem_of_getElem? (i := 215) (by decide +kernel)) (tb_n))))) t_v_c_m_refuses_y1) (tb_n))))))
set_option maxHeartbeats 400000 in
set_option maxRecDepth 100000 in
/-- the model's fault_ -/
theorem c_m_fault_ (l : Launch) (D : va_G) (h0 : Nat) (fs : List Value) (p0 : Int32) (sz : Nat) (hlen : fs.length = 139) (hf_thrown : fs[0]? = some (.int 0)) (hf_faultPlace : fs[11]? = some (.int (-1))) (hf_faultLine : fs[12]? = some (.int (-1))) : Met l yX12_fault_ v_c_m_fault_ ({ frames := 5, cells := 0, slots := 0, locals := 80 }) (va_Pc [.ref h0, .int p0] (st_ D [(h0, .inr (12, fs))] [] sz)) (va_Qi (fun (r : Int32) (u : List Value) => ∃ t : Int32, u[0]? = some (.int t) ∧ ((t = 0 ∧ r = -1 ∧ (¬ p0 < 0 ∧ ¬ 1 < p0)) ∨ (t = 1 ∧ (p0 < 0 ∨ 1 < p0)) ∨ (t = 2 ∧ False))) (fun u t => va_P D vwCl [(h0, .inr (12, u))] t.heap ∧ va_K D vwCl [] t ∧ va_D (va_A [(h0, .inr (12, fs))] sz) [(h0, .inr (12, u))]) (va_A [(h0, .inr (12, fs))] sz)) 0 0 (va_A [(h0, .inr (12, fs))] sz) := by
  refine Met.ofW (cc := cX12_fault_) (maxL := 2) (ret := (some .int)) (by decide) rfl ?_
  intro p e s m args below meth c s₁ B hml hv
  obtain ⟨rfl, hsz, hP, hK, hD0, hZ, hE⟩ := hv
  have hx := B.exec
  have hb := B.bytes
  have hr := B.returns
  have hts := atoms_spec (ws := v_c_m_fault_) B.pre
  have hown : s.vm.findClass RX12 = some m.cls := findClass_of_methodNamed B.named
  have hlocks := B.notSynchronized
  subst hsz
  have hD := hD0.self (sz := s.heap.size)
  generalize hAe : va_A [(h0, .inr (12, fs))] s.heap.size = A at hD hZ ⊢
  have hA : ∀ q : Nat, s.heap.size ≤ q → A q := fun q h => by rw [← hAe]; exact Or.inr h
  have hS : va_S A s.heap s.heap [] := va_S.rf
  have hAO := hE.2.2.2.1
  have hP : va_P D vwCl [(h0, .inr (12, fs))] s.heap := hP
  have hl := lv_entry ([.ref h0, .int p0]) (n := 2) (Nat.le_of_ble_eq_true rfl)
  rw [lg_entry_eq]
  generalize (lg_sl ([.ref h0, .int p0]) ++ List.replicate (2 - (lg_sl ([.ref h0, .int p0])).length) Slot.unset).toArray = ls at hl ⊢
  have hl : lv_has ls 2 [(0, .ref h0), (1, .int p0)] := hl
  refine lv_aload_n hx hb dX12_fault__0 rfl (lv_at hl 0 rfl) ?_
  refine lv_iconst (v := 0) hx hb dX12_fault__1 (by decide +kernel) ?_
  refine va_put (D := D) (ci := 12) (v := .int 0) (ty := .int) (C := RX12) (T := TX12) (N := 139) hx hb hts i_v_c_m_fault__X12 tyX12 tyX12_ok nmX12 hown hK hP hD hS 0 rfl rfl 0 (by decide) (hts (.fieldLink RX12 316 "ScheduleHouseModel" "thrown" "I") (by decide +kernel)) (fun _ h9 => h9) rfl (by decide +kernel) rfl rfl (by rw [hlen]; decide) dX12_fault__2 (fun H locs hP hD hS => ?_)
  obtain ⟨fs1, hfs1⟩ : ∃ z, z = fs.set 0 (.int 0) := ⟨_, rfl⟩
  rw [← hfs1] at hP hD
  have lfs1 : fs1.length = 139 := by rw [hfs1, List.length_set]; exact hlen
  have gfs1_11 : fs1[11]? = some (.int (-1)) := by rw [hfs1, List.getElem?_set_ne (by decide)]; exact hf_faultPlace
  have gfs1_12 : fs1[12]? = some (.int (-1)) := by rw [hfs1, List.getElem?_set_ne (by decide)]; exact hf_faultLine
  have gfs1_0 : fs1[0]? = some (.int 0) := by rw [hfs1]; exact List.getElem?_set_self (by rw [hlen]; decide)
  have hP : va_P D vwCl [(h0, .inr (12, fs1))] H := hP
  have hD : va_D A [(h0, .inr (12, fs1))] := hD
  refine lv_aload_n hx hb dX12_fault__5 rfl (lv_at hl 0 rfl) ?_
  refine lv_iload_n hx hb dX12_fault__6 rfl (lv_at hl 1 rfl) ?_
  refine lv_iconst (v := 0) hx hb dX12_fault__7 (by decide +kernel) ?_
  refine lv_iconst (v := 1) hx hb dX12_fault__8 (by decide +kernel) ?_
  have hPc := hP.sub (ws' := []) [] rfl
  have hDc := hD.sub (ws' := []) [] (by decide) rfl
  have hKc := hK.sub (tys' := []) [] rfl
  have hFc := va_free (wc := []) hD hS hA [] rfl
  refine va_calli (va_runS (As := [.int p0, .int 0, .int 1]) (rest := [.ref h0]) ⟨hx, hb, hml, hown, hts⟩ (c_m_in l D p0 0 1 H.size) (va_cwS 3 hts g_v_c_m_fault__1 rfl rfl rfl (by decide +kernel) ⟨Nat.le_of_ble_eq_true rfl, Nat.le_of_ble_eq_true rfl⟩) ⟨st_blind, fun U hU hW => ⟨rfl, st_call hU hW hPc hKc hDc hZ hS hFc hE⟩⟩ rfl rfl hl.1 rfl (lv_room (Nat.le_of_ble_eq_true rfl)) dX12_fault__9 ⟨Nat.le_of_ble_eq_true rfl, Nat.le_of_ble_eq_true rfl⟩) hS (fun q _ h => hFc q h) hFc (fun r2 u3 t H1 locs ht hvm hw hB hz1 hk1 hS => ?_)
  obtain ⟨hP, hD⟩ := va_join (wr := [(h0, .inr (12, fs1))]) (w1 := []) hP hD [] [0] rfl rfl (by decide) (by decide) hk1 hFc p_nil d_nil
  generalize H1 = H at hP hS ⊢
  have hP : va_P D vwCl [(h0, .inr (12, fs1))] H := hP
  have hD : va_D A [(h0, .inr (12, fs1))] := hD
  rcases hw with ⟨er2, hi⟩ | ⟨er2, hi⟩
  · subst er2
    refine lv_if_ne (tgt := 19) hx hb dX12_fault__12 (by decide) (fun _ => ?_) (fun c9 => False.elim (by revert c9; decide))
    refine lv_iconst (v := 0) hx hb dX12_fault__19 (by decide +kernel) ?_
    refine lv_iconst (v := 1) hx hb dX12_fault__20 (by decide +kernel) ?_
    have hPc := hP.sub (ws' := [(h0, .inr (12, fs1))]) [0] rfl
    have hDc := hD.sub (ws' := [(h0, .inr (12, fs1))]) [0] (by decide) rfl
    have hKc := hK.sub (tys' := []) [] rfl
    have hFc := va_free (wc := [(h0, .inr (12, fs1))]) hD hS hA [0] rfl
    refine va_calli (va_runV (As := [.int 0, .int 1]) (rest := []) ⟨hx, hb, hml, hown, hts⟩ (c_m_refuses_no l D h0 fs1 1 H.size lfs1 gfs1_0) (cwV 2 hts g_v_c_m_fault__2 rfl rfl rfl (by decide +kernel) ⟨Nat.le_of_ble_eq_true rfl, Nat.le_of_ble_eq_true rfl⟩) ⟨st_blind, va_recv hKc hPc (ci := 12) (q0 := 0) rfl rfl, fun U hU hW => ⟨rfl, st_call hU hW hPc hKc hDc hZ hS hFc hE⟩⟩ rfl rfl hl.1 rfl (lv_room (Nat.le_of_ble_eq_true rfl)) dX12_fault__21 ⟨Nat.le_of_ble_eq_true rfl, Nat.le_of_ble_eq_true rfl⟩) hS (fun q _ h => hFc q h) hFc (fun r4 u5 t H1 locs ht hvm hw hB hz1 hk1 hS => ?_)
    obtain ⟨er4, eu5⟩ := hw
    rw [eu5] at hB
    obtain ⟨hP1, hK1, hD1⟩ := hB
    rw [ht] at hP1
    have hK1 := va_K.moved hvm.symm hK1
    obtain ⟨hP, hD⟩ := va_join (wr := []) (w1 := [(h0, .inr (12, fs1))]) hP hD [0] [] rfl rfl (by decide) (by decide) hk1 hFc hP1 hD1
    have hK := (hK.sub (tys' := []) [] rfl).app hK1
    generalize H1 = H at hP hS ⊢
    have hP : va_P D vwCl [(h0, .inr (12, fs1))] H := hP
    have hD : va_D A [(h0, .inr (12, fs1))] := hD
    have hK : va_K D vwCl [] s := hK
    subst er4
    refine lv_if_eq (tgt := 29) hx hb dX12_fault__24 (by decide) (fun _ => ?_) (fun c9 => False.elim (by revert c9; decide))
    refine lv_iload_n hx hb dX12_fault__29 rfl (lv_at hl 1 rfl) ?_
    refine lv_if_ne (tgt := 40) hx hb dX12_fault__30 (by decide) (fun c104 => ?_) (fun c104 => ?_)
    · refine lv_aload_n hx hb dX12_fault__40 rfl (lv_at hl 0 rfl) ?_
      refine va_get (D := D) (ci := 12) (v := .int (-1)) (C := RX12) (T := TX12) (N := 139) hx hb hts i_v_c_m_fault__X12 hown hK hP 0 rfl rfl 12 (by decide) (hts (.fieldLink RX12 30 "ScheduleHouseModel" "faultLine" "I") (by decide +kernel)) (fun _ h9 => h9) gfs1_12 dX12_fault__41 ?_
      have hP : va_P D vwCl [(h0, .inr (12, fs1))] H := hP.sub [0] rfl
      have hD : va_D A [(h0, .inr (12, fs1))] := hD.sub [0] (by decide) rfl
      have hK : va_K D vwCl [] s := hK.sub [] rfl
      exact W.iret (v := (-1)) hx hb hr (fun t ht hW => ⟨⟨(-1), fs1, rfl, ⟨0, gfs1_0, Or.inl ⟨rfl, rfl, hi⟩⟩, by rw [ht]; exact hP, va_K.moved hW.alike hK, hD⟩, hS.F ht⟩) hS.2.2 dX12_fault__44
    · refine lv_aload_n hx hb dX12_fault__33 rfl (lv_at hl 0 rfl) ?_
      refine va_get (D := D) (ci := 12) (v := .int (-1)) (C := RX12) (T := TX12) (N := 139) hx hb hts i_v_c_m_fault__X12 hown hK hP 0 rfl rfl 11 (by decide) (hts (.fieldLink RX12 26 "ScheduleHouseModel" "faultPlace" "I") (by decide +kernel)) (fun _ h9 => h9) gfs1_11 dX12_fault__34 ?_
      refine lv_goto (tgt := 44) hx hb dX12_fault__37 (by decide) ?_
      have hP : va_P D vwCl [(h0, .inr (12, fs1))] H := hP.sub [0] rfl
      have hD : va_D A [(h0, .inr (12, fs1))] := hD.sub [0] (by decide) rfl
      have hK : va_K D vwCl [] s := hK.sub [] rfl
      exact W.iret (v := (-1)) hx hb hr (fun t ht hW => ⟨⟨(-1), fs1, rfl, ⟨0, gfs1_0, Or.inl ⟨rfl, rfl, hi⟩⟩, by rw [ht]; exact hP, va_K.moved hW.alike hK, hD⟩, hS.F ht⟩) hS.2.2 dX12_fault__44
  · subst er2
    refine lv_if_ne (tgt := 19) hx hb dX12_fault__12 (by decide) (fun c9 => False.elim (by revert c9; decide)) (fun _ => ?_)
    refine lv_iconst (v := 1) hx hb dX12_fault__15 (by decide +kernel) ?_
    refine lv_goto (tgt := 20) hx hb dX12_fault__16 (by decide) ?_
    refine lv_iconst (v := 1) hx hb dX12_fault__20 (by decide +kernel) ?_
    have hPc := hP.sub (ws' := [(h0, .inr (12, fs1))]) [0] rfl
    have hDc := hD.sub (ws' := [(h0, .inr (12, fs1))]) [0] (by decide) rfl
    have hKc := hK.sub (tys' := []) [] rfl
    have hFc := va_free (wc := [(h0, .inr (12, fs1))]) hD hS hA [0] rfl
    refine va_calli (va_runV (As := [.int 1, .int 1]) (rest := []) ⟨hx, hb, hml, hown, hts⟩ (c_m_refuses_y1 l D h0 fs1 H.size lfs1 gfs1_0) (cwV 2 hts g_v_c_m_fault__3 rfl rfl rfl (by decide +kernel) ⟨Nat.le_of_ble_eq_true rfl, Nat.le_of_ble_eq_true rfl⟩) ⟨st_blind, va_recv hKc hPc (ci := 12) (q0 := 0) rfl rfl, fun U hU hW => ⟨rfl, st_call hU hW hPc hKc hDc hZ hS hFc hE⟩⟩ rfl rfl hl.1 rfl (lv_room (Nat.le_of_ble_eq_true rfl)) dX12_fault__21 ⟨Nat.le_of_ble_eq_true rfl, Nat.le_of_ble_eq_true rfl⟩) hS (fun q _ h => hFc q h) hFc (fun r6 u7 t H1 locs ht hvm hw hB hz1 hk1 hS => ?_)
    obtain ⟨er6, eu7⟩ := hw
    have lu7 : u7.length = 139 := by rw [eu7, List.length_set]; exact lfs1
    have gu7_11 : u7[11]? = some (.int (-1)) := by rw [eu7]; exact se_ne gfs1_11 (by decide)
    have gu7_12 : u7[12]? = some (.int (-1)) := by rw [eu7]; exact se_ne gfs1_12 (by decide)
    have gu7_0 : u7[0]? = some (.int 1) := by rw [eu7]; exact se_eq (by rw [lfs1]; decide)
    obtain ⟨hP1, hK1, hD1⟩ := hB
    rw [ht] at hP1
    have hK1 := va_K.moved hvm.symm hK1
    obtain ⟨hP, hD⟩ := va_join (wr := []) (w1 := [(h0, .inr (12, u7))]) hP hD [0] [] rfl rfl (by decide) (by decide) hk1 hFc hP1 hD1
    have hK := (hK.sub (tys' := []) [] rfl).app hK1
    generalize H1 = H at hP hS ⊢
    have hP : va_P D vwCl [(h0, .inr (12, u7))] H := hP
    have hD : va_D A [(h0, .inr (12, u7))] := hD
    have hK : va_K D vwCl [] s := hK
    subst er6
    refine lv_if_eq (tgt := 29) hx hb dX12_fault__24 (by decide) (fun c9 => False.elim (by revert c9; decide)) (fun _ => ?_)
    refine lv_iconst (v := 0) hx hb dX12_fault__27 (by decide +kernel) ?_
    have hP : va_P D vwCl [(h0, .inr (12, u7))] H := hP.sub [0] rfl
    have hD : va_D A [(h0, .inr (12, u7))] := hD.sub [0] (by decide) rfl
    have hK : va_K D vwCl [] s := hK.sub [] rfl
    exact W.iret (v := 0) hx hb hr (fun t ht hW => ⟨⟨0, u7, rfl, ⟨1, gu7_0, Or.inr (Or.inl ⟨rfl, hi⟩)⟩, by rw [ht]; exact hP, va_K.moved hW.alike hK, hD⟩, hS.F ht⟩) hS.2.2 dX12_fault__28
theorem in_r2 {w : Int32} (h : ¬ w < 0 ∧ ¬ 1 < w) : vp_in w 2 := by
  rw [vp_in_iff]
  have h1 := h.1
  have h2 := h.2
  rw [Int32.lt_iff_toInt_lt] at h1 h2
  have e0 : (0 : Int32).toInt = 0 := by decide
  have e1 : (1 : Int32).toInt = 1 := by decide
  rw [e0] at h1
  rw [e1] at h2
  omega
noncomputable def v_c_m_tried : List Cond := .code yX12_tried cX12_tried 3 (some .int) :: ([.fieldLink RX12 316 "ScheduleHouseModel" "thrown" "I", .fieldLink RX12 254 "ScheduleHouseModel" "wasTried" "[Z"] ++ (wsX120 ++ ((va_wsS RX12 322 yX12_in v_c_m_in) ++ ((wsV RX12 558 RX12 yX12_refuses v_c_m_refuses_no) ++ ((wsV RX12 558 RX12 yX12_refuses v_c_m_refuses_y2) ++ ((wsV RX12 558 RX12 yX12_refuses v_c_m_refuses_y1) ++ ([])))))))
theorem i_v_c_m_tried_X12 : ∀ w ∈ wsX120, w ∈ v_c_m_tried := fun _ h => List.mem_cons_of_mem _ (List.mem_append_right _ (List.mem_append_left _ h))
theorem g_v_c_m_tried_1 : GoodIn v_c_m_tried (va_wsS RX12 322 yX12_in v_c_m_in) := goodIn_sub (fun _ h => List.mem_cons_of_mem _ (List.mem_append_right _ (List.mem_append_right _ (List.mem_append_left _ h)))) (by decide +kernel)
theorem g_v_c_m_tried_2 : GoodIn v_c_m_tried (wsV RX12 558 RX12 yX12_refuses v_c_m_refuses_no) := goodIn_sub (fun _ h => List.mem_cons_of_mem _ (List.mem_append_right _ (List.mem_append_right _ (List.mem_append_right _ (List.mem_append_left _ h))))) (by decide +kernel)
theorem g_v_c_m_tried_3 : GoodIn v_c_m_tried (wsV RX12 558 RX12 yX12_refuses v_c_m_refuses_y2) := goodIn_sub (fun _ h => List.mem_cons_of_mem _ (List.mem_append_right _ (List.mem_append_right _ (List.mem_append_right _ (List.mem_append_right _ (List.mem_append_left _ h)))))) (by decide +kernel)
theorem g_v_c_m_tried_4 : GoodIn v_c_m_tried (wsV RX12 558 RX12 yX12_refuses v_c_m_refuses_y1) := goodIn_sub (fun _ h => List.mem_cons_of_mem _ (List.mem_append_right _ (List.mem_append_right _ (List.mem_append_right _ (List.mem_append_right _ (List.mem_append_right _ (List.mem_append_left _ h))))))) (by decide +kernel)
theorem t_v_c_m_tried : ∀ w ∈ v_c_m_tried, w ∈ lw_tbl := tb_c (List.mem_of_getElem? (i := 2983) (by decide +kernel)) (tb_a (tb_c (List.mem_of_getElem? (i := 2072) (by decide +kernel)) (tb_c (List.mem_of_getElem? (i := 2189) (by decide +kernel)) (tb_n))) (tb_a (tw_wsX120) (tb_a (tb_a (tb_c (List.mem_of_getElem? (i := 2498) (by decide +kernel)) (tb_c (List.mem_of_getElem? (i := 2499) (by decide +kernel)) (tb_c (List.mem_of_getElem? (i := 215) (by decide +kernel)) (tb_n)))) t_v_c_m_in) (tb_a (tb_a (tb_c (List.mem_of_getElem? (i := 2501) (by decide +kernel)) (tb_c (List.mem_of_getElem? (i := 2503) (by decide +kernel)) (tb_c (List.mem_of_getElem? (i := 113) (by decide +kernel)) (tb_c (List.mem_of_getElem? (i := 215) (by decide +kernel)) (tb_n))))) t_v_c_m_refuses_no) (tb_a (tb_a (tb_c (List.mem_of_getElem? (i := 2501) (by decide +kernel)) (tb_c (List.mem_of_getElem? (i := 2503) (by decide +kernel)) (tb_c (List.mem_of_getElem? (i := 113) (by decide +kernel)) (tb_c (List.mem_of_getElem? (i := 215) (by decide +kernel)) (tb_n))))) t_v_c_m_refuses_y2) (tb_a (tb_a (tb_c (List.mem_of_getElem? (i := 2501) (by decide +kernel)) (tb_c (List.mem_of_getElem? (i := 2503) (by decide +kernel)) (tb_c (List.mem_of_getElem? (i := 113) (by decide +kernel)) (tb_c (List.mem_of_getElem? (i := 215) (by decide +kernel)) (tb_n))))) t_v_c_m_refuses_y1) (tb_n)))))))
set_option maxHeartbeats 400000 in
set_option maxRecDepth 100000 in
/-- the model's tried -/
theorem c_m_tried (l : Launch) (D : va_G) (h0 : Nat) (wt : Nat) (cw : ClassId) (fs : List Value) (p0 p1 : Int32) (sz : Nat) (hlen : fs.length = 139) (hf_thrown : fs[0]? = some (.int 0)) (hf_wt : fs[118]? = some (.ref wt)) : Met l yX12_tried v_c_m_tried ({ frames := 5, cells := 0, slots := 0, locals := 80 }) (va_Pc [.ref h0, .int p0, .int p1] (st_ D [(h0, .inr (12, fs)), (wt, .inl (cw, 2, .inl (fun _ => 0)))] [(cw, .boolean)] sz)) (va_Qi (fun (r : Int32) (u : List Value) => ∃ t : Int32, u[0]? = some (.int t) ∧ ((t = 0 ∧ r = 0 ∧ ((¬ p0 < 0 ∧ ¬ 1 < p0) ∧ (¬ p1 < 0 ∧ ¬ 5 < p1))) ∨ (t = 1 ∧ (p0 < 0 ∨ 1 < p0)) ∨ (t = 2 ∧ ((¬ p0 < 0 ∧ ¬ 1 < p0) ∧ (p1 < 0 ∨ 5 < p1))))) (fun u t => va_P D vwCl [(h0, .inr (12, u))] t.heap ∧ va_K D vwCl [] t ∧ va_D (va_A [(h0, .inr (12, fs)), (wt, .inl (cw, 2, .inl (fun _ => 0)))] sz) [(h0, .inr (12, u))]) (va_A [(h0, .inr (12, fs)), (wt, .inl (cw, 2, .inl (fun _ => 0)))] sz)) 0 0 (va_A [(h0, .inr (12, fs)), (wt, .inl (cw, 2, .inl (fun _ => 0)))] sz) := by
  refine Met.ofW (cc := cX12_tried) (maxL := 3) (ret := (some .int)) (by decide) rfl ?_
  intro p e s m args below meth c s₁ B hml hv
  obtain ⟨rfl, hsz, hP, hK, hD0, hZ, hE⟩ := hv
  have hx := B.exec
  have hb := B.bytes
  have hr := B.returns
  have hts := atoms_spec (ws := v_c_m_tried) B.pre
  have hown : s.vm.findClass RX12 = some m.cls := findClass_of_methodNamed B.named
  have hlocks := B.notSynchronized
  subst hsz
  have hD := hD0.self (sz := s.heap.size)
  generalize hAe : va_A [(h0, .inr (12, fs)), (wt, .inl (cw, 2, .inl (fun _ => 0)))] s.heap.size = A at hD hZ ⊢
  have hA : ∀ q : Nat, s.heap.size ≤ q → A q := fun q h => by rw [← hAe]; exact Or.inr h
  have hS : va_S A s.heap s.heap [] := va_S.rf
  have hAO := hE.2.2.2.1
  have hP : va_P D vwCl [(h0, .inr (12, fs)), (wt, .inl (cw, 2, .inl (fun _ => 0)))] s.heap := hP
  have hl := lv_entry ([.ref h0, .int p0, .int p1]) (n := 3) (Nat.le_of_ble_eq_true rfl)
  rw [lg_entry_eq]
  generalize (lg_sl ([.ref h0, .int p0, .int p1]) ++ List.replicate (3 - (lg_sl ([.ref h0, .int p0, .int p1])).length) Slot.unset).toArray = ls at hl ⊢
  have hl : lv_has ls 3 [(0, .ref h0), (1, .int p0), (2, .int p1)] := hl
  refine lv_aload_n hx hb dX12_tried_0 rfl (lv_at hl 0 rfl) ?_
  refine lv_iconst (v := 0) hx hb dX12_tried_1 (by decide +kernel) ?_
  refine va_put (D := D) (ci := 12) (v := .int 0) (ty := .int) (C := RX12) (T := TX12) (N := 139) hx hb hts i_v_c_m_tried_X12 tyX12 tyX12_ok nmX12 hown hK hP hD hS 0 rfl rfl 0 (by decide) (hts (.fieldLink RX12 316 "ScheduleHouseModel" "thrown" "I") (by decide +kernel)) (fun _ h9 => h9) rfl (by decide +kernel) rfl rfl (by rw [hlen]; decide) dX12_tried_2 (fun H locs hP hD hS => ?_)
  obtain ⟨fs1, hfs1⟩ : ∃ z, z = fs.set 0 (.int 0) := ⟨_, rfl⟩
  rw [← hfs1] at hP hD
  have lfs1 : fs1.length = 139 := by rw [hfs1, List.length_set]; exact hlen
  have gfs1_118 : fs1[118]? = some (.ref wt) := by rw [hfs1, List.getElem?_set_ne (by decide)]; exact hf_wt
  have gfs1_0 : fs1[0]? = some (.int 0) := by rw [hfs1]; exact List.getElem?_set_self (by rw [hlen]; decide)
  have hP : va_P D vwCl [(h0, .inr (12, fs1)), (wt, .inl (cw, 2, .inl (fun _ => 0)))] H := hP
  have hD : va_D A [(h0, .inr (12, fs1)), (wt, .inl (cw, 2, .inl (fun _ => 0)))] := hD
  refine lv_aload_n hx hb dX12_tried_5 rfl (lv_at hl 0 rfl) ?_
  refine lv_iload_n hx hb dX12_tried_6 rfl (lv_at hl 1 rfl) ?_
  refine lv_iconst (v := 0) hx hb dX12_tried_7 (by decide +kernel) ?_
  refine lv_iconst (v := 1) hx hb dX12_tried_8 (by decide +kernel) ?_
  have hPc := hP.sub (ws' := []) [] rfl
  have hDc := hD.sub (ws' := []) [] (by decide) rfl
  have hKc := hK.sub (tys' := []) [] rfl
  have hFc := va_free (wc := []) hD hS hA [] rfl
  refine va_calli (va_runS (As := [.int p0, .int 0, .int 1]) (rest := [.ref h0]) ⟨hx, hb, hml, hown, hts⟩ (c_m_in l D p0 0 1 H.size) (va_cwS 3 hts g_v_c_m_tried_1 rfl rfl rfl (by decide +kernel) ⟨Nat.le_of_ble_eq_true rfl, Nat.le_of_ble_eq_true rfl⟩) ⟨st_blind, fun U hU hW => ⟨rfl, st_call hU hW hPc hKc hDc hZ hS hFc hE⟩⟩ rfl rfl hl.1 rfl (lv_room (Nat.le_of_ble_eq_true rfl)) dX12_tried_9 ⟨Nat.le_of_ble_eq_true rfl, Nat.le_of_ble_eq_true rfl⟩) hS (fun q _ h => hFc q h) hFc (fun r2 u3 t H1 locs ht hvm hw hB hz1 hk1 hS => ?_)
  obtain ⟨hP, hD⟩ := va_join (wr := [(h0, .inr (12, fs1)), (wt, .inl (cw, 2, .inl (fun _ => 0)))]) (w1 := []) hP hD [] [0, 1] rfl rfl (by decide) (by decide) hk1 hFc p_nil d_nil
  generalize H1 = H at hP hS ⊢
  have hP : va_P D vwCl [(h0, .inr (12, fs1)), (wt, .inl (cw, 2, .inl (fun _ => 0)))] H := hP
  have hD : va_D A [(h0, .inr (12, fs1)), (wt, .inl (cw, 2, .inl (fun _ => 0)))] := hD
  rcases hw with ⟨er2, hi⟩ | ⟨er2, hi⟩
  · subst er2
    refine lv_if_ne (tgt := 19) hx hb dX12_tried_12 (by decide) (fun _ => ?_) (fun c9 => False.elim (by revert c9; decide))
    refine lv_iconst (v := 0) hx hb dX12_tried_19 (by decide +kernel) ?_
    refine lv_iconst (v := 1) hx hb dX12_tried_20 (by decide +kernel) ?_
    have hPc := hP.sub (ws' := [(h0, .inr (12, fs1))]) [0] rfl
    have hDc := hD.sub (ws' := [(h0, .inr (12, fs1))]) [0] (by decide) rfl
    have hKc := hK.sub (tys' := []) [] rfl
    have hFc := va_free (wc := [(h0, .inr (12, fs1))]) hD hS hA [0] rfl
    refine va_calli (va_runV (As := [.int 0, .int 1]) (rest := []) ⟨hx, hb, hml, hown, hts⟩ (c_m_refuses_no l D h0 fs1 1 H.size lfs1 gfs1_0) (cwV 2 hts g_v_c_m_tried_2 rfl rfl rfl (by decide +kernel) ⟨Nat.le_of_ble_eq_true rfl, Nat.le_of_ble_eq_true rfl⟩) ⟨st_blind, va_recv hKc hPc (ci := 12) (q0 := 0) rfl rfl, fun U hU hW => ⟨rfl, st_call hU hW hPc hKc hDc hZ hS hFc hE⟩⟩ rfl rfl hl.1 rfl (lv_room (Nat.le_of_ble_eq_true rfl)) dX12_tried_21 ⟨Nat.le_of_ble_eq_true rfl, Nat.le_of_ble_eq_true rfl⟩) hS (fun q _ h => hFc q h) hFc (fun r4 u5 t H1 locs ht hvm hw hB hz1 hk1 hS => ?_)
    obtain ⟨er4, eu5⟩ := hw
    rw [eu5] at hB
    obtain ⟨hP1, hK1, hD1⟩ := hB
    rw [ht] at hP1
    have hK1 := va_K.moved hvm.symm hK1
    obtain ⟨hP, hD⟩ := va_join (wr := [(wt, .inl (cw, 2, .inl (fun _ => 0)))]) (w1 := [(h0, .inr (12, fs1))]) hP hD [0] [1] rfl rfl (by decide) (by decide) hk1 hFc hP1 hD1
    have hK := (hK.sub (tys' := [(cw, .boolean)]) [0] rfl).app hK1
    generalize H1 = H at hP hS ⊢
    have hP : va_P D vwCl [(wt, .inl (cw, 2, .inl (fun _ => 0))), (h0, .inr (12, fs1))] H := hP
    have hD : va_D A [(wt, .inl (cw, 2, .inl (fun _ => 0))), (h0, .inr (12, fs1))] := hD
    have hK : va_K D vwCl [(cw, .boolean)] s := hK
    subst er4
    refine lv_if_ne (tgt := 58) hx hb dX12_tried_24 (by decide) (fun c9 => False.elim (by revert c9; decide)) (fun _ => ?_)
    refine lv_aload_n hx hb dX12_tried_27 rfl (lv_at hl 0 rfl) ?_
    refine lv_iload_n hx hb dX12_tried_28 rfl (lv_at hl 2 rfl) ?_
    refine lv_iconst (v := 0) hx hb dX12_tried_29 (by decide +kernel) ?_
    refine lv_iconst (v := 5) hx hb dX12_tried_30 (by decide +kernel) ?_
    have hPc := hP.sub (ws' := []) [] rfl
    have hDc := hD.sub (ws' := []) [] (by decide) rfl
    have hKc := hK.sub (tys' := []) [] rfl
    have hFc := va_free (wc := []) hD hS hA [] rfl
    refine va_calli (va_runS (As := [.int p1, .int 0, .int 5]) (rest := [.ref h0]) ⟨hx, hb, hml, hown, hts⟩ (c_m_in l D p1 0 5 H.size) (va_cwS 3 hts g_v_c_m_tried_1 rfl rfl rfl (by decide +kernel) ⟨Nat.le_of_ble_eq_true rfl, Nat.le_of_ble_eq_true rfl⟩) ⟨st_blind, fun U hU hW => ⟨rfl, st_call hU hW hPc hKc hDc hZ hS hFc hE⟩⟩ rfl rfl hl.1 rfl (lv_room (Nat.le_of_ble_eq_true rfl)) dX12_tried_31 ⟨Nat.le_of_ble_eq_true rfl, Nat.le_of_ble_eq_true rfl⟩) hS (fun q _ h => hFc q h) hFc (fun r6 u7 t H1 locs ht hvm hw hB hz1 hk1 hS => ?_)
    obtain ⟨hP, hD⟩ := va_join (wr := [(wt, .inl (cw, 2, .inl (fun _ => 0))), (h0, .inr (12, fs1))]) (w1 := []) hP hD [] [0, 1] rfl rfl (by decide) (by decide) hk1 hFc p_nil d_nil
    generalize H1 = H at hP hS ⊢
    have hP : va_P D vwCl [(wt, .inl (cw, 2, .inl (fun _ => 0))), (h0, .inr (12, fs1))] H := hP
    have hD : va_D A [(wt, .inl (cw, 2, .inl (fun _ => 0))), (h0, .inr (12, fs1))] := hD
    rcases hw with ⟨er6, hj⟩ | ⟨er6, hj⟩
    · subst er6
      refine lv_if_ne (tgt := 41) hx hb dX12_tried_34 (by decide) (fun _ => ?_) (fun c9 => False.elim (by revert c9; decide))
      refine lv_iconst (v := 0) hx hb dX12_tried_41 (by decide +kernel) ?_
      refine lv_iconst (v := 2) hx hb dX12_tried_42 (by decide +kernel) ?_
      have hPc := hP.sub (ws' := [(h0, .inr (12, fs1))]) [1] rfl
      have hDc := hD.sub (ws' := [(h0, .inr (12, fs1))]) [1] (by decide) rfl
      have hKc := hK.sub (tys' := []) [] rfl
      have hFc := va_free (wc := [(h0, .inr (12, fs1))]) hD hS hA [1] rfl
      refine va_calli (va_runV (As := [.int 0, .int 2]) (rest := []) ⟨hx, hb, hml, hown, hts⟩ (c_m_refuses_no l D h0 fs1 2 H.size lfs1 gfs1_0) (cwV 2 hts g_v_c_m_tried_2 rfl rfl rfl (by decide +kernel) ⟨Nat.le_of_ble_eq_true rfl, Nat.le_of_ble_eq_true rfl⟩) ⟨st_blind, va_recv hKc hPc (ci := 12) (q0 := 0) rfl rfl, fun U hU hW => ⟨rfl, st_call hU hW hPc hKc hDc hZ hS hFc hE⟩⟩ rfl rfl hl.1 rfl (lv_room (Nat.le_of_ble_eq_true rfl)) dX12_tried_43 ⟨Nat.le_of_ble_eq_true rfl, Nat.le_of_ble_eq_true rfl⟩) hS (fun q _ h => hFc q h) hFc (fun r8 u9 t H1 locs ht hvm hw hB hz1 hk1 hS => ?_)
      obtain ⟨er8, eu9⟩ := hw
      rw [eu9] at hB
      obtain ⟨hP1, hK1, hD1⟩ := hB
      rw [ht] at hP1
      have hK1 := va_K.moved hvm.symm hK1
      obtain ⟨hP, hD⟩ := va_join (wr := [(wt, .inl (cw, 2, .inl (fun _ => 0)))]) (w1 := [(h0, .inr (12, fs1))]) hP hD [1] [0] rfl rfl (by decide) (by decide) hk1 hFc hP1 hD1
      have hK := (hK.sub (tys' := [(cw, .boolean)]) [0] rfl).app hK1
      generalize H1 = H at hP hS ⊢
      have hP : va_P D vwCl [(wt, .inl (cw, 2, .inl (fun _ => 0))), (h0, .inr (12, fs1))] H := hP
      have hD : va_D A [(wt, .inl (cw, 2, .inl (fun _ => 0))), (h0, .inr (12, fs1))] := hD
      have hK : va_K D vwCl [(cw, .boolean)] s := hK
      subst er8
      refine lv_if_ne (tgt := 58) hx hb dX12_tried_46 (by decide) (fun c9 => False.elim (by revert c9; decide)) (fun _ => ?_)
      refine lv_aload_n hx hb dX12_tried_49 rfl (lv_at hl 0 rfl) ?_
      refine va_get (D := D) (ci := 12) (v := .ref wt) (C := RX12) (T := TX12) (N := 139) hx hb hts i_v_c_m_tried_X12 hown hK hP 1 rfl rfl 118 (by decide) (hts (.fieldLink RX12 254 "ScheduleHouseModel" "wasTried" "[Z") (by decide +kernel)) (fun _ h9 => h9) gfs1_118 dX12_tried_50 ?_
      refine lv_iload_n hx hb dX12_tried_53 rfl (lv_at hl 1 rfl) ?_
      refine va_zald hx hb hK hP 0 0 rfl rfl (i := p0) (in_r2 hi) dX12_tried_54 ?_
      refine lv_if_ne (tgt := 60) hx hb dX12_tried_55 (by decide) (fun c9 => False.elim (by revert c9; decide)) (fun _ => ?_)
      refine lv_iconst (v := 0) hx hb dX12_tried_58 (by decide +kernel) ?_
      have hP : va_P D vwCl [(h0, .inr (12, fs1))] H := hP.sub [1] rfl
      have hD : va_D A [(h0, .inr (12, fs1))] := hD.sub [1] (by decide) rfl
      have hK : va_K D vwCl [] s := hK.sub [] rfl
      exact W.iret (v := 0) hx hb hr (fun t ht hW => ⟨⟨0, fs1, rfl, ⟨0, gfs1_0, Or.inl ⟨rfl, rfl, ⟨hi, hj⟩⟩⟩, by rw [ht]; exact hP, va_K.moved hW.alike hK, hD⟩, hS.F ht⟩) hS.2.2 dX12_tried_59
    · subst er6
      refine lv_if_ne (tgt := 41) hx hb dX12_tried_34 (by decide) (fun c9 => False.elim (by revert c9; decide)) (fun _ => ?_)
      refine lv_iconst (v := 1) hx hb dX12_tried_37 (by decide +kernel) ?_
      refine lv_goto (tgt := 42) hx hb dX12_tried_38 (by decide) ?_
      refine lv_iconst (v := 2) hx hb dX12_tried_42 (by decide +kernel) ?_
      have hPc := hP.sub (ws' := [(h0, .inr (12, fs1))]) [1] rfl
      have hDc := hD.sub (ws' := [(h0, .inr (12, fs1))]) [1] (by decide) rfl
      have hKc := hK.sub (tys' := []) [] rfl
      have hFc := va_free (wc := [(h0, .inr (12, fs1))]) hD hS hA [1] rfl
      refine va_calli (va_runV (As := [.int 1, .int 2]) (rest := []) ⟨hx, hb, hml, hown, hts⟩ (c_m_refuses_y2 l D h0 fs1 H.size lfs1 gfs1_0) (cwV 2 hts g_v_c_m_tried_3 rfl rfl rfl (by decide +kernel) ⟨Nat.le_of_ble_eq_true rfl, Nat.le_of_ble_eq_true rfl⟩) ⟨st_blind, va_recv hKc hPc (ci := 12) (q0 := 0) rfl rfl, fun U hU hW => ⟨rfl, st_call hU hW hPc hKc hDc hZ hS hFc hE⟩⟩ rfl rfl hl.1 rfl (lv_room (Nat.le_of_ble_eq_true rfl)) dX12_tried_43 ⟨Nat.le_of_ble_eq_true rfl, Nat.le_of_ble_eq_true rfl⟩) hS (fun q _ h => hFc q h) hFc (fun r10 u11 t H1 locs ht hvm hw hB hz1 hk1 hS => ?_)
      obtain ⟨er10, eu11⟩ := hw
      have lu11 : u11.length = 139 := by rw [eu11, List.length_set]; exact lfs1
      have gu11_118 : u11[118]? = some (.ref wt) := by rw [eu11]; exact se_ne gfs1_118 (by decide)
      have gu11_0 : u11[0]? = some (.int 2) := by rw [eu11]; exact se_eq (by rw [lfs1]; decide)
      obtain ⟨hP1, hK1, hD1⟩ := hB
      rw [ht] at hP1
      have hK1 := va_K.moved hvm.symm hK1
      obtain ⟨hP, hD⟩ := va_join (wr := [(wt, .inl (cw, 2, .inl (fun _ => 0)))]) (w1 := [(h0, .inr (12, u11))]) hP hD [1] [0] rfl rfl (by decide) (by decide) hk1 hFc hP1 hD1
      have hK := (hK.sub (tys' := [(cw, .boolean)]) [0] rfl).app hK1
      generalize H1 = H at hP hS ⊢
      have hP : va_P D vwCl [(wt, .inl (cw, 2, .inl (fun _ => 0))), (h0, .inr (12, u11))] H := hP
      have hD : va_D A [(wt, .inl (cw, 2, .inl (fun _ => 0))), (h0, .inr (12, u11))] := hD
      have hK : va_K D vwCl [(cw, .boolean)] s := hK
      subst er10
      refine lv_if_ne (tgt := 58) hx hb dX12_tried_46 (by decide) (fun _ => ?_) (fun c9 => False.elim (by revert c9; decide))
      refine lv_iconst (v := 0) hx hb dX12_tried_58 (by decide +kernel) ?_
      have hP : va_P D vwCl [(h0, .inr (12, u11))] H := hP.sub [1] rfl
      have hD : va_D A [(h0, .inr (12, u11))] := hD.sub [1] (by decide) rfl
      have hK : va_K D vwCl [] s := hK.sub [] rfl
      exact W.iret (v := 0) hx hb hr (fun t ht hW => ⟨⟨0, u11, rfl, ⟨2, gu11_0, Or.inr (Or.inr ⟨rfl, ⟨hi, hj⟩⟩)⟩, by rw [ht]; exact hP, va_K.moved hW.alike hK, hD⟩, hS.F ht⟩) hS.2.2 dX12_tried_59
  · subst er2
    refine lv_if_ne (tgt := 19) hx hb dX12_tried_12 (by decide) (fun c9 => False.elim (by revert c9; decide)) (fun _ => ?_)
    refine lv_iconst (v := 1) hx hb dX12_tried_15 (by decide +kernel) ?_
    refine lv_goto (tgt := 20) hx hb dX12_tried_16 (by decide) ?_
    refine lv_iconst (v := 1) hx hb dX12_tried_20 (by decide +kernel) ?_
    have hPc := hP.sub (ws' := [(h0, .inr (12, fs1))]) [0] rfl
    have hDc := hD.sub (ws' := [(h0, .inr (12, fs1))]) [0] (by decide) rfl
    have hKc := hK.sub (tys' := []) [] rfl
    have hFc := va_free (wc := [(h0, .inr (12, fs1))]) hD hS hA [0] rfl
    refine va_calli (va_runV (As := [.int 1, .int 1]) (rest := []) ⟨hx, hb, hml, hown, hts⟩ (c_m_refuses_y1 l D h0 fs1 H.size lfs1 gfs1_0) (cwV 2 hts g_v_c_m_tried_4 rfl rfl rfl (by decide +kernel) ⟨Nat.le_of_ble_eq_true rfl, Nat.le_of_ble_eq_true rfl⟩) ⟨st_blind, va_recv hKc hPc (ci := 12) (q0 := 0) rfl rfl, fun U hU hW => ⟨rfl, st_call hU hW hPc hKc hDc hZ hS hFc hE⟩⟩ rfl rfl hl.1 rfl (lv_room (Nat.le_of_ble_eq_true rfl)) dX12_tried_21 ⟨Nat.le_of_ble_eq_true rfl, Nat.le_of_ble_eq_true rfl⟩) hS (fun q _ h => hFc q h) hFc (fun r13 u14 t H1 locs ht hvm hw hB hz1 hk1 hS => ?_)
    obtain ⟨er13, eu14⟩ := hw
    have lu14 : u14.length = 139 := by rw [eu14, List.length_set]; exact lfs1
    have gu14_118 : u14[118]? = some (.ref wt) := by rw [eu14]; exact se_ne gfs1_118 (by decide)
    have gu14_0 : u14[0]? = some (.int 1) := by rw [eu14]; exact se_eq (by rw [lfs1]; decide)
    obtain ⟨hP1, hK1, hD1⟩ := hB
    rw [ht] at hP1
    have hK1 := va_K.moved hvm.symm hK1
    obtain ⟨hP, hD⟩ := va_join (wr := [(wt, .inl (cw, 2, .inl (fun _ => 0)))]) (w1 := [(h0, .inr (12, u14))]) hP hD [0] [1] rfl rfl (by decide) (by decide) hk1 hFc hP1 hD1
    have hK := (hK.sub (tys' := [(cw, .boolean)]) [0] rfl).app hK1
    generalize H1 = H at hP hS ⊢
    have hP : va_P D vwCl [(wt, .inl (cw, 2, .inl (fun _ => 0))), (h0, .inr (12, u14))] H := hP
    have hD : va_D A [(wt, .inl (cw, 2, .inl (fun _ => 0))), (h0, .inr (12, u14))] := hD
    have hK : va_K D vwCl [(cw, .boolean)] s := hK
    subst er13
    refine lv_if_ne (tgt := 58) hx hb dX12_tried_24 (by decide) (fun _ => ?_) (fun c9 => False.elim (by revert c9; decide))
    refine lv_iconst (v := 0) hx hb dX12_tried_58 (by decide +kernel) ?_
    have hP : va_P D vwCl [(h0, .inr (12, u14))] H := hP.sub [1] rfl
    have hD : va_D A [(h0, .inr (12, u14))] := hD.sub [1] (by decide) rfl
    have hK : va_K D vwCl [] s := hK.sub [] rfl
    exact W.iret (v := 0) hx hb hr (fun t ht hW => ⟨⟨0, u14, rfl, ⟨1, gu14_0, Or.inr (Or.inl ⟨rfl, hi⟩)⟩, by rw [ht]; exact hP, va_K.moved hW.alike hK, hD⟩, hS.F ht⟩) hS.2.2 dX12_tried_59
noncomputable def v_c_m_ring : List Cond := .code yX12_ring cX12_ring 8 (some .int) :: ([.fieldLink RX12 316 "ScheduleHouseModel" "thrown" "I", .fieldLink RX12 254 "ScheduleHouseModel" "wasTried" "[Z"] ++ (wsX120 ++ ((va_wsS RX12 322 yX12_in v_c_m_in) ++ ((wsV RX12 558 RX12 yX12_refuses v_c_m_refuses_no) ++ ((wsV RX12 558 RX12 yX12_refuses v_c_m_refuses_y1) ++ ([]))))))
theorem i_v_c_m_ring_X12 : ∀ w ∈ wsX120, w ∈ v_c_m_ring := fun _ h => List.mem_cons_of_mem _ (List.mem_append_right _ (List.mem_append_left _ h))
theorem g_v_c_m_ring_1 : GoodIn v_c_m_ring (va_wsS RX12 322 yX12_in v_c_m_in) := goodIn_sub (fun _ h => List.mem_cons_of_mem _ (List.mem_append_right _ (List.mem_append_right _ (List.mem_append_left _ h)))) (by decide +kernel)
theorem g_v_c_m_ring_2 : GoodIn v_c_m_ring (wsV RX12 558 RX12 yX12_refuses v_c_m_refuses_no) := goodIn_sub (fun _ h => List.mem_cons_of_mem _ (List.mem_append_right _ (List.mem_append_right _ (List.mem_append_right _ (List.mem_append_left _ h))))) (by decide +kernel)
theorem g_v_c_m_ring_3 : GoodIn v_c_m_ring (wsV RX12 558 RX12 yX12_refuses v_c_m_refuses_y1) := goodIn_sub (fun _ h => List.mem_cons_of_mem _ (List.mem_append_right _ (List.mem_append_right _ (List.mem_append_right _ (List.mem_append_right _ (List.mem_append_left _ h)))))) (by decide +kernel)
theorem t_v_c_m_ring : ∀ w ∈ v_c_m_ring, w ∈ lw_tbl := tb_c (List.mem_of_getElem? (i := 3003) (by decide +kernel)) (tb_a (tb_c (List.mem_of_getElem? (i := 2072) (by decide +kernel)) (tb_c (List.mem_of_getElem? (i := 2189) (by decide +kernel)) (tb_n))) (tb_a (tw_wsX120) (tb_a (tb_a (tb_c (List.mem_of_getElem? (i := 2498) (by decide +kernel)) (tb_c (List.mem_of_getElem? (i := 2499) (by decide +kernel)) (tb_c (List.mem_of_getElem? (i := 215) (by decide +kernel)) (tb_n)))) t_v_c_m_in) (tb_a (tb_a (tb_c (List.mem_of_getElem? (i := 2501) (by decide +kernel)) (tb_c (List.mem_of_getElem? (i := 2503) (by decide +kernel)) (tb_c (List.mem_of_getElem? (i := 113) (by decide +kernel)) (tb_c (List.mem_of_getElem? (i := 215) (by decide +kernel)) (tb_n))))) t_v_c_m_refuses_no) (tb_a (tb_a (tb_c (List.mem_of_getElem? (i := 2501) (by decide +kernel)) (tb_c (List.mem_of_getElem? (i := 2503) (by decide +kernel)) (tb_c (List.mem_of_getElem? (i := 113) (by decide +kernel)) (tb_c (List.mem_of_getElem? (i := 215) (by decide +kernel)) (tb_n))))) t_v_c_m_refuses_y1) (tb_n))))))
set_option maxHeartbeats 400000 in
set_option maxRecDepth 100000 in
/-- the model's ring -/
theorem c_m_ring (l : Launch) (D : va_G) (h0 : Nat) (wt : Nat) (cw : ClassId) (fs : List Value) (p0 : Int32) (sz : Nat) (hlen : fs.length = 139) (hf_thrown : fs[0]? = some (.int 0)) (hf_wt : fs[118]? = some (.ref wt)) : Met l yX12_ring v_c_m_ring ({ frames := 5, cells := 0, slots := 0, locals := 80 }) (va_Pc [.ref h0, .int p0] (st_ D [(h0, .inr (12, fs)), (wt, .inl (cw, 2, .inl (fun _ => 0)))] [(cw, .boolean)] sz)) (va_Qi (fun (r : Int32) (u : List Value) => ∃ t : Int32, u[0]? = some (.int t) ∧ ((t = 0 ∧ r = 0 ∧ (¬ p0 < 0 ∧ ¬ 1 < p0)) ∨ (t = 1 ∧ (p0 < 0 ∨ 1 < p0)) ∨ (t = 2 ∧ False))) (fun u t => va_P D vwCl [(h0, .inr (12, u))] t.heap ∧ va_K D vwCl [] t ∧ va_D (va_A [(h0, .inr (12, fs)), (wt, .inl (cw, 2, .inl (fun _ => 0)))] sz) [(h0, .inr (12, u))]) (va_A [(h0, .inr (12, fs)), (wt, .inl (cw, 2, .inl (fun _ => 0)))] sz)) 0 0 (va_A [(h0, .inr (12, fs)), (wt, .inl (cw, 2, .inl (fun _ => 0)))] sz) := by
  refine Met.ofW (cc := cX12_ring) (maxL := 8) (ret := (some .int)) (by decide) rfl ?_
  intro p e s m args below meth c s₁ B hml hv
  obtain ⟨rfl, hsz, hP, hK, hD0, hZ, hE⟩ := hv
  have hx := B.exec
  have hb := B.bytes
  have hr := B.returns
  have hts := atoms_spec (ws := v_c_m_ring) B.pre
  have hown : s.vm.findClass RX12 = some m.cls := findClass_of_methodNamed B.named
  have hlocks := B.notSynchronized
  subst hsz
  have hD := hD0.self (sz := s.heap.size)
  generalize hAe : va_A [(h0, .inr (12, fs)), (wt, .inl (cw, 2, .inl (fun _ => 0)))] s.heap.size = A at hD hZ ⊢
  have hA : ∀ q : Nat, s.heap.size ≤ q → A q := fun q h => by rw [← hAe]; exact Or.inr h
  have hS : va_S A s.heap s.heap [] := va_S.rf
  have hAO := hE.2.2.2.1
  have hP : va_P D vwCl [(h0, .inr (12, fs)), (wt, .inl (cw, 2, .inl (fun _ => 0)))] s.heap := hP
  have hl := lv_entry ([.ref h0, .int p0]) (n := 8) (Nat.le_of_ble_eq_true rfl)
  rw [lg_entry_eq]
  generalize (lg_sl ([.ref h0, .int p0]) ++ List.replicate (8 - (lg_sl ([.ref h0, .int p0])).length) Slot.unset).toArray = ls at hl ⊢
  have hl : lv_has ls 8 [(0, .ref h0), (1, .int p0)] := hl
  refine lv_aload_n hx hb dX12_ring_0 rfl (lv_at hl 0 rfl) ?_
  refine lv_iconst (v := 0) hx hb dX12_ring_1 (by decide +kernel) ?_
  refine va_put (D := D) (ci := 12) (v := .int 0) (ty := .int) (C := RX12) (T := TX12) (N := 139) hx hb hts i_v_c_m_ring_X12 tyX12 tyX12_ok nmX12 hown hK hP hD hS 0 rfl rfl 0 (by decide) (hts (.fieldLink RX12 316 "ScheduleHouseModel" "thrown" "I") (by decide +kernel)) (fun _ h9 => h9) rfl (by decide +kernel) rfl rfl (by rw [hlen]; decide) dX12_ring_2 (fun H locs hP hD hS => ?_)
  obtain ⟨fs1, hfs1⟩ : ∃ z, z = fs.set 0 (.int 0) := ⟨_, rfl⟩
  rw [← hfs1] at hP hD
  have lfs1 : fs1.length = 139 := by rw [hfs1, List.length_set]; exact hlen
  have gfs1_118 : fs1[118]? = some (.ref wt) := by rw [hfs1, List.getElem?_set_ne (by decide)]; exact hf_wt
  have gfs1_0 : fs1[0]? = some (.int 0) := by rw [hfs1]; exact List.getElem?_set_self (by rw [hlen]; decide)
  have hP : va_P D vwCl [(h0, .inr (12, fs1)), (wt, .inl (cw, 2, .inl (fun _ => 0)))] H := hP
  have hD : va_D A [(h0, .inr (12, fs1)), (wt, .inl (cw, 2, .inl (fun _ => 0)))] := hD
  refine lv_aload_n hx hb dX12_ring_5 rfl (lv_at hl 0 rfl) ?_
  refine lv_iload_n hx hb dX12_ring_6 rfl (lv_at hl 1 rfl) ?_
  refine lv_iconst (v := 0) hx hb dX12_ring_7 (by decide +kernel) ?_
  refine lv_iconst (v := 1) hx hb dX12_ring_8 (by decide +kernel) ?_
  have hPc := hP.sub (ws' := []) [] rfl
  have hDc := hD.sub (ws' := []) [] (by decide) rfl
  have hKc := hK.sub (tys' := []) [] rfl
  have hFc := va_free (wc := []) hD hS hA [] rfl
  refine va_calli (va_runS (As := [.int p0, .int 0, .int 1]) (rest := [.ref h0]) ⟨hx, hb, hml, hown, hts⟩ (c_m_in l D p0 0 1 H.size) (va_cwS 3 hts g_v_c_m_ring_1 rfl rfl rfl (by decide +kernel) ⟨Nat.le_of_ble_eq_true rfl, Nat.le_of_ble_eq_true rfl⟩) ⟨st_blind, fun U hU hW => ⟨rfl, st_call hU hW hPc hKc hDc hZ hS hFc hE⟩⟩ rfl rfl hl.1 rfl (lv_room (Nat.le_of_ble_eq_true rfl)) dX12_ring_9 ⟨Nat.le_of_ble_eq_true rfl, Nat.le_of_ble_eq_true rfl⟩) hS (fun q _ h => hFc q h) hFc (fun r2 u3 t H1 locs ht hvm hw hB hz1 hk1 hS => ?_)
  obtain ⟨hP, hD⟩ := va_join (wr := [(h0, .inr (12, fs1)), (wt, .inl (cw, 2, .inl (fun _ => 0)))]) (w1 := []) hP hD [] [0, 1] rfl rfl (by decide) (by decide) hk1 hFc p_nil d_nil
  generalize H1 = H at hP hS ⊢
  have hP : va_P D vwCl [(h0, .inr (12, fs1)), (wt, .inl (cw, 2, .inl (fun _ => 0)))] H := hP
  have hD : va_D A [(h0, .inr (12, fs1)), (wt, .inl (cw, 2, .inl (fun _ => 0)))] := hD
  rcases hw with ⟨er2, hi⟩ | ⟨er2, hi⟩
  · subst er2
    refine lv_if_ne (tgt := 19) hx hb dX12_ring_12 (by decide) (fun _ => ?_) (fun c9 => False.elim (by revert c9; decide))
    refine lv_iconst (v := 0) hx hb dX12_ring_19 (by decide +kernel) ?_
    refine lv_iconst (v := 1) hx hb dX12_ring_20 (by decide +kernel) ?_
    have hPc := hP.sub (ws' := [(h0, .inr (12, fs1))]) [0] rfl
    have hDc := hD.sub (ws' := [(h0, .inr (12, fs1))]) [0] (by decide) rfl
    have hKc := hK.sub (tys' := []) [] rfl
    have hFc := va_free (wc := [(h0, .inr (12, fs1))]) hD hS hA [0] rfl
    refine va_calli (va_runV (As := [.int 0, .int 1]) (rest := []) ⟨hx, hb, hml, hown, hts⟩ (c_m_refuses_no l D h0 fs1 1 H.size lfs1 gfs1_0) (cwV 2 hts g_v_c_m_ring_2 rfl rfl rfl (by decide +kernel) ⟨Nat.le_of_ble_eq_true rfl, Nat.le_of_ble_eq_true rfl⟩) ⟨st_blind, va_recv hKc hPc (ci := 12) (q0 := 0) rfl rfl, fun U hU hW => ⟨rfl, st_call hU hW hPc hKc hDc hZ hS hFc hE⟩⟩ rfl rfl hl.1 rfl (lv_room (Nat.le_of_ble_eq_true rfl)) dX12_ring_21 ⟨Nat.le_of_ble_eq_true rfl, Nat.le_of_ble_eq_true rfl⟩) hS (fun q _ h => hFc q h) hFc (fun r4 u5 t H1 locs ht hvm hw hB hz1 hk1 hS => ?_)
    obtain ⟨er4, eu5⟩ := hw
    rw [eu5] at hB
    obtain ⟨hP1, hK1, hD1⟩ := hB
    rw [ht] at hP1
    have hK1 := va_K.moved hvm.symm hK1
    obtain ⟨hP, hD⟩ := va_join (wr := [(wt, .inl (cw, 2, .inl (fun _ => 0)))]) (w1 := [(h0, .inr (12, fs1))]) hP hD [0] [1] rfl rfl (by decide) (by decide) hk1 hFc hP1 hD1
    have hK := (hK.sub (tys' := [(cw, .boolean)]) [0] rfl).app hK1
    generalize H1 = H at hP hS ⊢
    have hP : va_P D vwCl [(wt, .inl (cw, 2, .inl (fun _ => 0))), (h0, .inr (12, fs1))] H := hP
    have hD : va_D A [(wt, .inl (cw, 2, .inl (fun _ => 0))), (h0, .inr (12, fs1))] := hD
    have hK : va_K D vwCl [(cw, .boolean)] s := hK
    subst er4
    refine lv_if_ne (tgt := 36) hx hb dX12_ring_24 (by decide) (fun c9 => False.elim (by revert c9; decide)) (fun _ => ?_)
    refine lv_aload_n hx hb dX12_ring_27 rfl (lv_at hl 0 rfl) ?_
    refine va_get (D := D) (ci := 12) (v := .ref wt) (C := RX12) (T := TX12) (N := 139) hx hb hts i_v_c_m_ring_X12 hown hK hP 1 rfl rfl 118 (by decide) (hts (.fieldLink RX12 254 "ScheduleHouseModel" "wasTried" "[Z") (by decide +kernel)) (fun _ h9 => h9) gfs1_118 dX12_ring_28 ?_
    refine lv_iload_n hx hb dX12_ring_31 rfl (lv_at hl 1 rfl) ?_
    refine va_zald hx hb hK hP 0 0 rfl rfl (i := p0) (in_r2 hi) dX12_ring_32 ?_
    refine lv_if_ne (tgt := 38) hx hb dX12_ring_33 (by decide) (fun c9 => False.elim (by revert c9; decide)) (fun _ => ?_)
    refine lv_iconst (v := 0) hx hb dX12_ring_36 (by decide +kernel) ?_
    have hP : va_P D vwCl [(h0, .inr (12, fs1))] H := hP.sub [1] rfl
    have hD : va_D A [(h0, .inr (12, fs1))] := hD.sub [1] (by decide) rfl
    have hK : va_K D vwCl [] s := hK.sub [] rfl
    exact W.iret (v := 0) hx hb hr (fun t ht hW => ⟨⟨0, fs1, rfl, ⟨0, gfs1_0, Or.inl ⟨rfl, rfl, hi⟩⟩, by rw [ht]; exact hP, va_K.moved hW.alike hK, hD⟩, hS.F ht⟩) hS.2.2 dX12_ring_37
  · subst er2
    refine lv_if_ne (tgt := 19) hx hb dX12_ring_12 (by decide) (fun c9 => False.elim (by revert c9; decide)) (fun _ => ?_)
    refine lv_iconst (v := 1) hx hb dX12_ring_15 (by decide +kernel) ?_
    refine lv_goto (tgt := 20) hx hb dX12_ring_16 (by decide) ?_
    refine lv_iconst (v := 1) hx hb dX12_ring_20 (by decide +kernel) ?_
    have hPc := hP.sub (ws' := [(h0, .inr (12, fs1))]) [0] rfl
    have hDc := hD.sub (ws' := [(h0, .inr (12, fs1))]) [0] (by decide) rfl
    have hKc := hK.sub (tys' := []) [] rfl
    have hFc := va_free (wc := [(h0, .inr (12, fs1))]) hD hS hA [0] rfl
    refine va_calli (va_runV (As := [.int 1, .int 1]) (rest := []) ⟨hx, hb, hml, hown, hts⟩ (c_m_refuses_y1 l D h0 fs1 H.size lfs1 gfs1_0) (cwV 2 hts g_v_c_m_ring_3 rfl rfl rfl (by decide +kernel) ⟨Nat.le_of_ble_eq_true rfl, Nat.le_of_ble_eq_true rfl⟩) ⟨st_blind, va_recv hKc hPc (ci := 12) (q0 := 0) rfl rfl, fun U hU hW => ⟨rfl, st_call hU hW hPc hKc hDc hZ hS hFc hE⟩⟩ rfl rfl hl.1 rfl (lv_room (Nat.le_of_ble_eq_true rfl)) dX12_ring_21 ⟨Nat.le_of_ble_eq_true rfl, Nat.le_of_ble_eq_true rfl⟩) hS (fun q _ h => hFc q h) hFc (fun r6 u7 t H1 locs ht hvm hw hB hz1 hk1 hS => ?_)
    obtain ⟨er6, eu7⟩ := hw
    have lu7 : u7.length = 139 := by rw [eu7, List.length_set]; exact lfs1
    have gu7_118 : u7[118]? = some (.ref wt) := by rw [eu7]; exact se_ne gfs1_118 (by decide)
    have gu7_0 : u7[0]? = some (.int 1) := by rw [eu7]; exact se_eq (by rw [lfs1]; decide)
    obtain ⟨hP1, hK1, hD1⟩ := hB
    rw [ht] at hP1
    have hK1 := va_K.moved hvm.symm hK1
    obtain ⟨hP, hD⟩ := va_join (wr := [(wt, .inl (cw, 2, .inl (fun _ => 0)))]) (w1 := [(h0, .inr (12, u7))]) hP hD [0] [1] rfl rfl (by decide) (by decide) hk1 hFc hP1 hD1
    have hK := (hK.sub (tys' := [(cw, .boolean)]) [0] rfl).app hK1
    generalize H1 = H at hP hS ⊢
    have hP : va_P D vwCl [(wt, .inl (cw, 2, .inl (fun _ => 0))), (h0, .inr (12, u7))] H := hP
    have hD : va_D A [(wt, .inl (cw, 2, .inl (fun _ => 0))), (h0, .inr (12, u7))] := hD
    have hK : va_K D vwCl [(cw, .boolean)] s := hK
    subst er6
    refine lv_if_ne (tgt := 36) hx hb dX12_ring_24 (by decide) (fun _ => ?_) (fun c9 => False.elim (by revert c9; decide))
    refine lv_iconst (v := 0) hx hb dX12_ring_36 (by decide +kernel) ?_
    have hP : va_P D vwCl [(h0, .inr (12, u7))] H := hP.sub [1] rfl
    have hD : va_D A [(h0, .inr (12, u7))] := hD.sub [1] (by decide) rfl
    have hK : va_K D vwCl [] s := hK.sub [] rfl
    exact W.iret (v := 0) hx hb hr (fun t ht hW => ⟨⟨0, u7, rfl, ⟨1, gu7_0, Or.inr (Or.inl ⟨rfl, hi⟩)⟩, by rw [ht]; exact hP, va_K.moved hW.alike hK, hD⟩, hS.F ht⟩) hS.2.2 dX12_ring_37
noncomputable def v_c_m_outcome : List Cond := .code yX12_outcome cX12_outcome 4 (some .int) :: ([.fieldLink RX12 316 "ScheduleHouseModel" "thrown" "I", .fieldLink RX12 254 "ScheduleHouseModel" "wasTried" "[Z"] ++ (wsX120 ++ ((va_wsS RX12 322 yX12_in v_c_m_in) ++ ((wsV RX12 558 RX12 yX12_refuses v_c_m_refuses_no) ++ ((wsV RX12 558 RX12 yX12_refuses v_c_m_refuses_y2) ++ ((wsV RX12 558 RX12 yX12_refuses v_c_m_refuses_y1) ++ ([])))))))
theorem i_v_c_m_outcome_X12 : ∀ w ∈ wsX120, w ∈ v_c_m_outcome := fun _ h => List.mem_cons_of_mem _ (List.mem_append_right _ (List.mem_append_left _ h))
theorem g_v_c_m_outcome_1 : GoodIn v_c_m_outcome (va_wsS RX12 322 yX12_in v_c_m_in) := goodIn_sub (fun _ h => List.mem_cons_of_mem _ (List.mem_append_right _ (List.mem_append_right _ (List.mem_append_left _ h)))) (by decide +kernel)
theorem g_v_c_m_outcome_2 : GoodIn v_c_m_outcome (wsV RX12 558 RX12 yX12_refuses v_c_m_refuses_no) := goodIn_sub (fun _ h => List.mem_cons_of_mem _ (List.mem_append_right _ (List.mem_append_right _ (List.mem_append_right _ (List.mem_append_left _ h))))) (by decide +kernel)
theorem g_v_c_m_outcome_3 : GoodIn v_c_m_outcome (wsV RX12 558 RX12 yX12_refuses v_c_m_refuses_y2) := goodIn_sub (fun _ h => List.mem_cons_of_mem _ (List.mem_append_right _ (List.mem_append_right _ (List.mem_append_right _ (List.mem_append_right _ (List.mem_append_left _ h)))))) (by decide +kernel)
theorem g_v_c_m_outcome_4 : GoodIn v_c_m_outcome (wsV RX12 558 RX12 yX12_refuses v_c_m_refuses_y1) := goodIn_sub (fun _ h => List.mem_cons_of_mem _ (List.mem_append_right _ (List.mem_append_right _ (List.mem_append_right _ (List.mem_append_right _ (List.mem_append_right _ (List.mem_append_left _ h))))))) (by decide +kernel)
theorem t_v_c_m_outcome : ∀ w ∈ v_c_m_outcome, w ∈ lw_tbl := tb_c (List.mem_of_getElem? (i := 2987) (by decide +kernel)) (tb_a (tb_c (List.mem_of_getElem? (i := 2072) (by decide +kernel)) (tb_c (List.mem_of_getElem? (i := 2189) (by decide +kernel)) (tb_n))) (tb_a (tw_wsX120) (tb_a (tb_a (tb_c (List.mem_of_getElem? (i := 2498) (by decide +kernel)) (tb_c (List.mem_of_getElem? (i := 2499) (by decide +kernel)) (tb_c (List.mem_of_getElem? (i := 215) (by decide +kernel)) (tb_n)))) t_v_c_m_in) (tb_a (tb_a (tb_c (List.mem_of_getElem? (i := 2501) (by decide +kernel)) (tb_c (List.mem_of_getElem? (i := 2503) (by decide +kernel)) (tb_c (List.mem_of_getElem? (i := 113) (by decide +kernel)) (tb_c (List.mem_of_getElem? (i := 215) (by decide +kernel)) (tb_n))))) t_v_c_m_refuses_no) (tb_a (tb_a (tb_c (List.mem_of_getElem? (i := 2501) (by decide +kernel)) (tb_c (List.mem_of_getElem? (i := 2503) (by decide +kernel)) (tb_c (List.mem_of_getElem? (i := 113) (by decide +kernel)) (tb_c (List.mem_of_getElem? (i := 215) (by decide +kernel)) (tb_n))))) t_v_c_m_refuses_y2) (tb_a (tb_a (tb_c (List.mem_of_getElem? (i := 2501) (by decide +kernel)) (tb_c (List.mem_of_getElem? (i := 2503) (by decide +kernel)) (tb_c (List.mem_of_getElem? (i := 113) (by decide +kernel)) (tb_c (List.mem_of_getElem? (i := 215) (by decide +kernel)) (tb_n))))) t_v_c_m_refuses_y1) (tb_n)))))))
set_option maxHeartbeats 400000 in
set_option maxRecDepth 100000 in
/-- the model's outcome -/
theorem c_m_outcome (l : Launch) (D : va_G) (h0 : Nat) (wt : Nat) (cw : ClassId) (fs : List Value) (p0 p1 p2 : Int32) (sz : Nat) (hlen : fs.length = 139) (hf_thrown : fs[0]? = some (.int 0)) (hf_wt : fs[118]? = some (.ref wt)) : Met l yX12_outcome v_c_m_outcome ({ frames := 5, cells := 0, slots := 0, locals := 80 }) (va_Pc [.ref h0, .int p0, .int p1, .int p2] (st_ D [(h0, .inr (12, fs)), (wt, .inl (cw, 2, .inl (fun _ => 0)))] [(cw, .boolean)] sz)) (va_Qi (fun (r : Int32) (u : List Value) => ∃ t : Int32, u[0]? = some (.int t) ∧ ((t = 0 ∧ r = 0 ∧ False) ∨ (t = 1 ∧ (p0 < 0 ∨ 1 < p0)) ∨ (t = 2 ∧ (¬ p0 < 0 ∧ ¬ 1 < p0)))) (fun u t => va_P D vwCl [(h0, .inr (12, u))] t.heap ∧ va_K D vwCl [] t ∧ va_D (va_A [(h0, .inr (12, fs)), (wt, .inl (cw, 2, .inl (fun _ => 0)))] sz) [(h0, .inr (12, u))]) (va_A [(h0, .inr (12, fs)), (wt, .inl (cw, 2, .inl (fun _ => 0)))] sz)) 0 0 (va_A [(h0, .inr (12, fs)), (wt, .inl (cw, 2, .inl (fun _ => 0)))] sz) := by
  refine Met.ofW (cc := cX12_outcome) (maxL := 4) (ret := (some .int)) (by decide) rfl ?_
  intro p e s m args below meth c s₁ B hml hv
  obtain ⟨rfl, hsz, hP, hK, hD0, hZ, hE⟩ := hv
  have hx := B.exec
  have hb := B.bytes
  have hr := B.returns
  have hts := atoms_spec (ws := v_c_m_outcome) B.pre
  have hown : s.vm.findClass RX12 = some m.cls := findClass_of_methodNamed B.named
  have hlocks := B.notSynchronized
  subst hsz
  have hD := hD0.self (sz := s.heap.size)
  generalize hAe : va_A [(h0, .inr (12, fs)), (wt, .inl (cw, 2, .inl (fun _ => 0)))] s.heap.size = A at hD hZ ⊢
  have hA : ∀ q : Nat, s.heap.size ≤ q → A q := fun q h => by rw [← hAe]; exact Or.inr h
  have hS : va_S A s.heap s.heap [] := va_S.rf
  have hAO := hE.2.2.2.1
  have hP : va_P D vwCl [(h0, .inr (12, fs)), (wt, .inl (cw, 2, .inl (fun _ => 0)))] s.heap := hP
  have hl := lv_entry ([.ref h0, .int p0, .int p1, .int p2]) (n := 4) (Nat.le_of_ble_eq_true rfl)
  rw [lg_entry_eq]
  generalize (lg_sl ([.ref h0, .int p0, .int p1, .int p2]) ++ List.replicate (4 - (lg_sl ([.ref h0, .int p0, .int p1, .int p2])).length) Slot.unset).toArray = ls at hl ⊢
  have hl : lv_has ls 4 [(0, .ref h0), (1, .int p0), (2, .int p1), (3, .int p2)] := hl
  refine lv_aload_n hx hb dX12_outcome_0 rfl (lv_at hl 0 rfl) ?_
  refine lv_iconst (v := 0) hx hb dX12_outcome_1 (by decide +kernel) ?_
  refine va_put (D := D) (ci := 12) (v := .int 0) (ty := .int) (C := RX12) (T := TX12) (N := 139) hx hb hts i_v_c_m_outcome_X12 tyX12 tyX12_ok nmX12 hown hK hP hD hS 0 rfl rfl 0 (by decide) (hts (.fieldLink RX12 316 "ScheduleHouseModel" "thrown" "I") (by decide +kernel)) (fun _ h9 => h9) rfl (by decide +kernel) rfl rfl (by rw [hlen]; decide) dX12_outcome_2 (fun H locs hP hD hS => ?_)
  obtain ⟨fs1, hfs1⟩ : ∃ z, z = fs.set 0 (.int 0) := ⟨_, rfl⟩
  rw [← hfs1] at hP hD
  have lfs1 : fs1.length = 139 := by rw [hfs1, List.length_set]; exact hlen
  have gfs1_118 : fs1[118]? = some (.ref wt) := by rw [hfs1, List.getElem?_set_ne (by decide)]; exact hf_wt
  have gfs1_0 : fs1[0]? = some (.int 0) := by rw [hfs1]; exact List.getElem?_set_self (by rw [hlen]; decide)
  have hP : va_P D vwCl [(h0, .inr (12, fs1)), (wt, .inl (cw, 2, .inl (fun _ => 0)))] H := hP
  have hD : va_D A [(h0, .inr (12, fs1)), (wt, .inl (cw, 2, .inl (fun _ => 0)))] := hD
  refine lv_aload_n hx hb dX12_outcome_5 rfl (lv_at hl 0 rfl) ?_
  refine lv_iload_n hx hb dX12_outcome_6 rfl (lv_at hl 1 rfl) ?_
  refine lv_iconst (v := 0) hx hb dX12_outcome_7 (by decide +kernel) ?_
  refine lv_iconst (v := 1) hx hb dX12_outcome_8 (by decide +kernel) ?_
  have hPc := hP.sub (ws' := []) [] rfl
  have hDc := hD.sub (ws' := []) [] (by decide) rfl
  have hKc := hK.sub (tys' := []) [] rfl
  have hFc := va_free (wc := []) hD hS hA [] rfl
  refine va_calli (va_runS (As := [.int p0, .int 0, .int 1]) (rest := [.ref h0]) ⟨hx, hb, hml, hown, hts⟩ (c_m_in l D p0 0 1 H.size) (va_cwS 3 hts g_v_c_m_outcome_1 rfl rfl rfl (by decide +kernel) ⟨Nat.le_of_ble_eq_true rfl, Nat.le_of_ble_eq_true rfl⟩) ⟨st_blind, fun U hU hW => ⟨rfl, st_call hU hW hPc hKc hDc hZ hS hFc hE⟩⟩ rfl rfl hl.1 rfl (lv_room (Nat.le_of_ble_eq_true rfl)) dX12_outcome_9 ⟨Nat.le_of_ble_eq_true rfl, Nat.le_of_ble_eq_true rfl⟩) hS (fun q _ h => hFc q h) hFc (fun r2 u3 t H1 locs ht hvm hw hB hz1 hk1 hS => ?_)
  obtain ⟨hP, hD⟩ := va_join (wr := [(h0, .inr (12, fs1)), (wt, .inl (cw, 2, .inl (fun _ => 0)))]) (w1 := []) hP hD [] [0, 1] rfl rfl (by decide) (by decide) hk1 hFc p_nil d_nil
  generalize H1 = H at hP hS ⊢
  have hP : va_P D vwCl [(h0, .inr (12, fs1)), (wt, .inl (cw, 2, .inl (fun _ => 0)))] H := hP
  have hD : va_D A [(h0, .inr (12, fs1)), (wt, .inl (cw, 2, .inl (fun _ => 0)))] := hD
  rcases hw with ⟨er2, hi⟩ | ⟨er2, hi⟩
  · subst er2
    refine lv_if_ne (tgt := 19) hx hb dX12_outcome_12 (by decide) (fun _ => ?_) (fun c9 => False.elim (by revert c9; decide))
    refine lv_iconst (v := 0) hx hb dX12_outcome_19 (by decide +kernel) ?_
    refine lv_iconst (v := 1) hx hb dX12_outcome_20 (by decide +kernel) ?_
    have hPc := hP.sub (ws' := [(h0, .inr (12, fs1))]) [0] rfl
    have hDc := hD.sub (ws' := [(h0, .inr (12, fs1))]) [0] (by decide) rfl
    have hKc := hK.sub (tys' := []) [] rfl
    have hFc := va_free (wc := [(h0, .inr (12, fs1))]) hD hS hA [0] rfl
    refine va_calli (va_runV (As := [.int 0, .int 1]) (rest := []) ⟨hx, hb, hml, hown, hts⟩ (c_m_refuses_no l D h0 fs1 1 H.size lfs1 gfs1_0) (cwV 2 hts g_v_c_m_outcome_2 rfl rfl rfl (by decide +kernel) ⟨Nat.le_of_ble_eq_true rfl, Nat.le_of_ble_eq_true rfl⟩) ⟨st_blind, va_recv hKc hPc (ci := 12) (q0 := 0) rfl rfl, fun U hU hW => ⟨rfl, st_call hU hW hPc hKc hDc hZ hS hFc hE⟩⟩ rfl rfl hl.1 rfl (lv_room (Nat.le_of_ble_eq_true rfl)) dX12_outcome_21 ⟨Nat.le_of_ble_eq_true rfl, Nat.le_of_ble_eq_true rfl⟩) hS (fun q _ h => hFc q h) hFc (fun r4 u5 t H1 locs ht hvm hw hB hz1 hk1 hS => ?_)
    obtain ⟨er4, eu5⟩ := hw
    rw [eu5] at hB
    obtain ⟨hP1, hK1, hD1⟩ := hB
    rw [ht] at hP1
    have hK1 := va_K.moved hvm.symm hK1
    obtain ⟨hP, hD⟩ := va_join (wr := [(wt, .inl (cw, 2, .inl (fun _ => 0)))]) (w1 := [(h0, .inr (12, fs1))]) hP hD [0] [1] rfl rfl (by decide) (by decide) hk1 hFc hP1 hD1
    have hK := (hK.sub (tys' := [(cw, .boolean)]) [0] rfl).app hK1
    generalize H1 = H at hP hS ⊢
    have hP : va_P D vwCl [(wt, .inl (cw, 2, .inl (fun _ => 0))), (h0, .inr (12, fs1))] H := hP
    have hD : va_D A [(wt, .inl (cw, 2, .inl (fun _ => 0))), (h0, .inr (12, fs1))] := hD
    have hK : va_K D vwCl [(cw, .boolean)] s := hK
    subst er4
    refine lv_if_ne (tgt := 79) hx hb dX12_outcome_24 (by decide) (fun c9 => False.elim (by revert c9; decide)) (fun _ => ?_)
    refine lv_aload_n hx hb dX12_outcome_27 rfl (lv_at hl 0 rfl) ?_
    refine lv_aload_n hx hb dX12_outcome_28 rfl (lv_at hl 0 rfl) ?_
    refine va_get (D := D) (ci := 12) (v := .ref wt) (C := RX12) (T := TX12) (N := 139) hx hb hts i_v_c_m_outcome_X12 hown hK hP 1 rfl rfl 118 (by decide) (hts (.fieldLink RX12 254 "ScheduleHouseModel" "wasTried" "[Z") (by decide +kernel)) (fun _ h9 => h9) gfs1_118 dX12_outcome_29 ?_
    refine lv_iload_n hx hb dX12_outcome_32 rfl (lv_at hl 1 rfl) ?_
    refine va_zald hx hb hK hP 0 0 rfl rfl (i := p0) (in_r2 hi) dX12_outcome_33 ?_
    refine lv_if_eq (tgt := 67) hx hb dX12_outcome_34 (by decide) (fun _ => ?_) (fun c9 => False.elim (by revert c9; decide))
    refine lv_iconst (v := 1) hx hb dX12_outcome_67 (by decide +kernel) ?_
    refine lv_goto (tgt := 72) hx hb dX12_outcome_68 (by decide) ?_
    refine lv_iconst (v := 2) hx hb dX12_outcome_72 (by decide +kernel) ?_
    have hPc := hP.sub (ws' := [(h0, .inr (12, fs1))]) [1] rfl
    have hDc := hD.sub (ws' := [(h0, .inr (12, fs1))]) [1] (by decide) rfl
    have hKc := hK.sub (tys' := []) [] rfl
    have hFc := va_free (wc := [(h0, .inr (12, fs1))]) hD hS hA [1] rfl
    refine va_calli (va_runV (As := [.int 1, .int 2]) (rest := []) ⟨hx, hb, hml, hown, hts⟩ (c_m_refuses_y2 l D h0 fs1 H.size lfs1 gfs1_0) (cwV 2 hts g_v_c_m_outcome_3 rfl rfl rfl (by decide +kernel) ⟨Nat.le_of_ble_eq_true rfl, Nat.le_of_ble_eq_true rfl⟩) ⟨st_blind, va_recv hKc hPc (ci := 12) (q0 := 0) rfl rfl, fun U hU hW => ⟨rfl, st_call hU hW hPc hKc hDc hZ hS hFc hE⟩⟩ rfl rfl hl.1 rfl (lv_room (Nat.le_of_ble_eq_true rfl)) dX12_outcome_73 ⟨Nat.le_of_ble_eq_true rfl, Nat.le_of_ble_eq_true rfl⟩) hS (fun q _ h => hFc q h) hFc (fun r6 u7 t H1 locs ht hvm hw hB hz1 hk1 hS => ?_)
    obtain ⟨er6, eu7⟩ := hw
    have lu7 : u7.length = 139 := by rw [eu7, List.length_set]; exact lfs1
    have gu7_118 : u7[118]? = some (.ref wt) := by rw [eu7]; exact se_ne gfs1_118 (by decide)
    have gu7_0 : u7[0]? = some (.int 2) := by rw [eu7]; exact se_eq (by rw [lfs1]; decide)
    obtain ⟨hP1, hK1, hD1⟩ := hB
    rw [ht] at hP1
    have hK1 := va_K.moved hvm.symm hK1
    obtain ⟨hP, hD⟩ := va_join (wr := [(wt, .inl (cw, 2, .inl (fun _ => 0)))]) (w1 := [(h0, .inr (12, u7))]) hP hD [1] [0] rfl rfl (by decide) (by decide) hk1 hFc hP1 hD1
    have hK := (hK.sub (tys' := [(cw, .boolean)]) [0] rfl).app hK1
    generalize H1 = H at hP hS ⊢
    have hP : va_P D vwCl [(wt, .inl (cw, 2, .inl (fun _ => 0))), (h0, .inr (12, u7))] H := hP
    have hD : va_D A [(wt, .inl (cw, 2, .inl (fun _ => 0))), (h0, .inr (12, u7))] := hD
    have hK : va_K D vwCl [(cw, .boolean)] s := hK
    subst er6
    refine lv_if_eq (tgt := 81) hx hb dX12_outcome_76 (by decide) (fun c9 => False.elim (by revert c9; decide)) (fun _ => ?_)
    refine lv_iconst (v := 0) hx hb dX12_outcome_79 (by decide +kernel) ?_
    have hP : va_P D vwCl [(h0, .inr (12, u7))] H := hP.sub [1] rfl
    have hD : va_D A [(h0, .inr (12, u7))] := hD.sub [1] (by decide) rfl
    have hK : va_K D vwCl [] s := hK.sub [] rfl
    exact W.iret (v := 0) hx hb hr (fun t ht hW => ⟨⟨0, u7, rfl, ⟨2, gu7_0, Or.inr (Or.inr ⟨rfl, hi⟩)⟩, by rw [ht]; exact hP, va_K.moved hW.alike hK, hD⟩, hS.F ht⟩) hS.2.2 dX12_outcome_80
  · subst er2
    refine lv_if_ne (tgt := 19) hx hb dX12_outcome_12 (by decide) (fun c9 => False.elim (by revert c9; decide)) (fun _ => ?_)
    refine lv_iconst (v := 1) hx hb dX12_outcome_15 (by decide +kernel) ?_
    refine lv_goto (tgt := 20) hx hb dX12_outcome_16 (by decide) ?_
    refine lv_iconst (v := 1) hx hb dX12_outcome_20 (by decide +kernel) ?_
    have hPc := hP.sub (ws' := [(h0, .inr (12, fs1))]) [0] rfl
    have hDc := hD.sub (ws' := [(h0, .inr (12, fs1))]) [0] (by decide) rfl
    have hKc := hK.sub (tys' := []) [] rfl
    have hFc := va_free (wc := [(h0, .inr (12, fs1))]) hD hS hA [0] rfl
    refine va_calli (va_runV (As := [.int 1, .int 1]) (rest := []) ⟨hx, hb, hml, hown, hts⟩ (c_m_refuses_y1 l D h0 fs1 H.size lfs1 gfs1_0) (cwV 2 hts g_v_c_m_outcome_4 rfl rfl rfl (by decide +kernel) ⟨Nat.le_of_ble_eq_true rfl, Nat.le_of_ble_eq_true rfl⟩) ⟨st_blind, va_recv hKc hPc (ci := 12) (q0 := 0) rfl rfl, fun U hU hW => ⟨rfl, st_call hU hW hPc hKc hDc hZ hS hFc hE⟩⟩ rfl rfl hl.1 rfl (lv_room (Nat.le_of_ble_eq_true rfl)) dX12_outcome_21 ⟨Nat.le_of_ble_eq_true rfl, Nat.le_of_ble_eq_true rfl⟩) hS (fun q _ h => hFc q h) hFc (fun r9 u10 t H1 locs ht hvm hw hB hz1 hk1 hS => ?_)
    obtain ⟨er9, eu10⟩ := hw
    have lu10 : u10.length = 139 := by rw [eu10, List.length_set]; exact lfs1
    have gu10_118 : u10[118]? = some (.ref wt) := by rw [eu10]; exact se_ne gfs1_118 (by decide)
    have gu10_0 : u10[0]? = some (.int 1) := by rw [eu10]; exact se_eq (by rw [lfs1]; decide)
    obtain ⟨hP1, hK1, hD1⟩ := hB
    rw [ht] at hP1
    have hK1 := va_K.moved hvm.symm hK1
    obtain ⟨hP, hD⟩ := va_join (wr := [(wt, .inl (cw, 2, .inl (fun _ => 0)))]) (w1 := [(h0, .inr (12, u10))]) hP hD [0] [1] rfl rfl (by decide) (by decide) hk1 hFc hP1 hD1
    have hK := (hK.sub (tys' := [(cw, .boolean)]) [0] rfl).app hK1
    generalize H1 = H at hP hS ⊢
    have hP : va_P D vwCl [(wt, .inl (cw, 2, .inl (fun _ => 0))), (h0, .inr (12, u10))] H := hP
    have hD : va_D A [(wt, .inl (cw, 2, .inl (fun _ => 0))), (h0, .inr (12, u10))] := hD
    have hK : va_K D vwCl [(cw, .boolean)] s := hK
    subst er9
    refine lv_if_ne (tgt := 79) hx hb dX12_outcome_24 (by decide) (fun _ => ?_) (fun c9 => False.elim (by revert c9; decide))
    refine lv_iconst (v := 0) hx hb dX12_outcome_79 (by decide +kernel) ?_
    have hP : va_P D vwCl [(h0, .inr (12, u10))] H := hP.sub [1] rfl
    have hD : va_D A [(h0, .inr (12, u10))] := hD.sub [1] (by decide) rfl
    have hK : va_K D vwCl [] s := hK.sub [] rfl
    exact W.iret (v := 0) hx hb hr (fun t ht hW => ⟨⟨0, u10, rfl, ⟨1, gu10_0, Or.inr (Or.inl ⟨rfl, hi⟩)⟩, by rw [ht]; exact hP, va_K.moved hW.alike hK, hD⟩, hS.F ht⟩) hS.2.2 dX12_outcome_80
theorem no_in {w : Int32} (h : ¬ w < 0 ∧ ¬ (0 - 1 : Int32) < w) : False := by
  have h1 := h.1
  have h2 := h.2
  rw [Int32.lt_iff_toInt_lt] at h1 h2
  have e0 : (0 : Int32).toInt = 0 := by decide
  have e1 : (0 - 1 : Int32).toInt = -1 := by decide
  rw [e0] at h1
  rw [e1] at h2
  omega
noncomputable def v_c_m_common : List Cond := .code yX12_common cX12_common 3 (some .int) :: ([.fieldLink RX12 316 "ScheduleHouseModel" "thrown" "I", .fieldLink RX12 448 "ScheduleHouseModel" "cells" "I"] ++ (wsX120 ++ ((va_wsS RX12 322 yX12_in v_c_m_in) ++ ((wsV RX12 558 RX12 yX12_refuses v_c_m_refuses_no) ++ ((wsV RX12 558 RX12 yX12_refuses v_c_m_refuses_y2) ++ ((wsV RX12 558 RX12 yX12_refuses v_c_m_refuses_y1) ++ ([])))))))
theorem i_v_c_m_common_X12 : ∀ w ∈ wsX120, w ∈ v_c_m_common := fun _ h => List.mem_cons_of_mem _ (List.mem_append_right _ (List.mem_append_left _ h))
theorem g_v_c_m_common_1 : GoodIn v_c_m_common (va_wsS RX12 322 yX12_in v_c_m_in) := goodIn_sub (fun _ h => List.mem_cons_of_mem _ (List.mem_append_right _ (List.mem_append_right _ (List.mem_append_left _ h)))) (by decide +kernel)
theorem g_v_c_m_common_2 : GoodIn v_c_m_common (wsV RX12 558 RX12 yX12_refuses v_c_m_refuses_no) := goodIn_sub (fun _ h => List.mem_cons_of_mem _ (List.mem_append_right _ (List.mem_append_right _ (List.mem_append_right _ (List.mem_append_left _ h))))) (by decide +kernel)
theorem g_v_c_m_common_3 : GoodIn v_c_m_common (wsV RX12 558 RX12 yX12_refuses v_c_m_refuses_y2) := goodIn_sub (fun _ h => List.mem_cons_of_mem _ (List.mem_append_right _ (List.mem_append_right _ (List.mem_append_right _ (List.mem_append_right _ (List.mem_append_left _ h)))))) (by decide +kernel)
theorem g_v_c_m_common_4 : GoodIn v_c_m_common (wsV RX12 558 RX12 yX12_refuses v_c_m_refuses_y1) := goodIn_sub (fun _ h => List.mem_cons_of_mem _ (List.mem_append_right _ (List.mem_append_right _ (List.mem_append_right _ (List.mem_append_right _ (List.mem_append_right _ (List.mem_append_left _ h))))))) (by decide +kernel)
theorem t_v_c_m_common : ∀ w ∈ v_c_m_common, w ∈ lw_tbl := tb_c (List.mem_of_getElem? (i := 2999) (by decide +kernel)) (tb_a (tb_c (List.mem_of_getElem? (i := 2072) (by decide +kernel)) (tb_c (List.mem_of_getElem? (i := 2094) (by decide +kernel)) (tb_n))) (tb_a (tw_wsX120) (tb_a (tb_a (tb_c (List.mem_of_getElem? (i := 2498) (by decide +kernel)) (tb_c (List.mem_of_getElem? (i := 2499) (by decide +kernel)) (tb_c (List.mem_of_getElem? (i := 215) (by decide +kernel)) (tb_n)))) t_v_c_m_in) (tb_a (tb_a (tb_c (List.mem_of_getElem? (i := 2501) (by decide +kernel)) (tb_c (List.mem_of_getElem? (i := 2503) (by decide +kernel)) (tb_c (List.mem_of_getElem? (i := 113) (by decide +kernel)) (tb_c (List.mem_of_getElem? (i := 215) (by decide +kernel)) (tb_n))))) t_v_c_m_refuses_no) (tb_a (tb_a (tb_c (List.mem_of_getElem? (i := 2501) (by decide +kernel)) (tb_c (List.mem_of_getElem? (i := 2503) (by decide +kernel)) (tb_c (List.mem_of_getElem? (i := 113) (by decide +kernel)) (tb_c (List.mem_of_getElem? (i := 215) (by decide +kernel)) (tb_n))))) t_v_c_m_refuses_y2) (tb_a (tb_a (tb_c (List.mem_of_getElem? (i := 2501) (by decide +kernel)) (tb_c (List.mem_of_getElem? (i := 2503) (by decide +kernel)) (tb_c (List.mem_of_getElem? (i := 113) (by decide +kernel)) (tb_c (List.mem_of_getElem? (i := 215) (by decide +kernel)) (tb_n))))) t_v_c_m_refuses_y1) (tb_n)))))))
set_option maxHeartbeats 400000 in
set_option maxRecDepth 100000 in
/-- the model's common -/
theorem c_m_common (l : Launch) (D : va_G) (h0 : Nat) (fs : List Value) (p0 p1 : Int32) (sz : Nat) (hlen : fs.length = 139) (hf_thrown : fs[0]? = some (.int 0)) (hf_cells : fs[23]? = some (.int 0)) : Met l yX12_common v_c_m_common ({ frames := 5, cells := 0, slots := 0, locals := 80 }) (va_Pc [.ref h0, .int p0, .int p1] (st_ D [(h0, .inr (12, fs))] [] sz)) (va_Qi (fun (r : Int32) (u : List Value) => ∃ t : Int32, u[0]? = some (.int t) ∧ ((t = 0 ∧ r = 0 ∧ False) ∨ (t = 1 ∧ (p0 < 0 ∨ 1 < p0)) ∨ (t = 2 ∧ (¬ p0 < 0 ∧ ¬ 1 < p0)))) (fun u t => va_P D vwCl [(h0, .inr (12, u))] t.heap ∧ va_K D vwCl [] t ∧ va_D (va_A [(h0, .inr (12, fs))] sz) [(h0, .inr (12, u))]) (va_A [(h0, .inr (12, fs))] sz)) 0 0 (va_A [(h0, .inr (12, fs))] sz) := by
  refine Met.ofW (cc := cX12_common) (maxL := 3) (ret := (some .int)) (by decide) rfl ?_
  intro p e s m args below meth c s₁ B hml hv
  obtain ⟨rfl, hsz, hP, hK, hD0, hZ, hE⟩ := hv
  have hx := B.exec
  have hb := B.bytes
  have hr := B.returns
  have hts := atoms_spec (ws := v_c_m_common) B.pre
  have hown : s.vm.findClass RX12 = some m.cls := findClass_of_methodNamed B.named
  have hlocks := B.notSynchronized
  subst hsz
  have hD := hD0.self (sz := s.heap.size)
  generalize hAe : va_A [(h0, .inr (12, fs))] s.heap.size = A at hD hZ ⊢
  have hA : ∀ q : Nat, s.heap.size ≤ q → A q := fun q h => by rw [← hAe]; exact Or.inr h
  have hS : va_S A s.heap s.heap [] := va_S.rf
  have hAO := hE.2.2.2.1
  have hP : va_P D vwCl [(h0, .inr (12, fs))] s.heap := hP
  have hl := lv_entry ([.ref h0, .int p0, .int p1]) (n := 3) (Nat.le_of_ble_eq_true rfl)
  rw [lg_entry_eq]
  generalize (lg_sl ([.ref h0, .int p0, .int p1]) ++ List.replicate (3 - (lg_sl ([.ref h0, .int p0, .int p1])).length) Slot.unset).toArray = ls at hl ⊢
  have hl : lv_has ls 3 [(0, .ref h0), (1, .int p0), (2, .int p1)] := hl
  refine lv_aload_n hx hb dX12_common_0 rfl (lv_at hl 0 rfl) ?_
  refine lv_iconst (v := 0) hx hb dX12_common_1 (by decide +kernel) ?_
  refine va_put (D := D) (ci := 12) (v := .int 0) (ty := .int) (C := RX12) (T := TX12) (N := 139) hx hb hts i_v_c_m_common_X12 tyX12 tyX12_ok nmX12 hown hK hP hD hS 0 rfl rfl 0 (by decide) (hts (.fieldLink RX12 316 "ScheduleHouseModel" "thrown" "I") (by decide +kernel)) (fun _ h9 => h9) rfl (by decide +kernel) rfl rfl (by rw [hlen]; decide) dX12_common_2 (fun H locs hP hD hS => ?_)
  obtain ⟨fs1, hfs1⟩ : ∃ z, z = fs.set 0 (.int 0) := ⟨_, rfl⟩
  rw [← hfs1] at hP hD
  have lfs1 : fs1.length = 139 := by rw [hfs1, List.length_set]; exact hlen
  have gfs1_23 : fs1[23]? = some (.int 0) := by rw [hfs1, List.getElem?_set_ne (by decide)]; exact hf_cells
  have gfs1_0 : fs1[0]? = some (.int 0) := by rw [hfs1]; exact List.getElem?_set_self (by rw [hlen]; decide)
  have hP : va_P D vwCl [(h0, .inr (12, fs1))] H := hP
  have hD : va_D A [(h0, .inr (12, fs1))] := hD
  refine lv_aload_n hx hb dX12_common_5 rfl (lv_at hl 0 rfl) ?_
  refine lv_iload_n hx hb dX12_common_6 rfl (lv_at hl 1 rfl) ?_
  refine lv_iconst (v := 0) hx hb dX12_common_7 (by decide +kernel) ?_
  refine lv_iconst (v := 1) hx hb dX12_common_8 (by decide +kernel) ?_
  have hPc := hP.sub (ws' := []) [] rfl
  have hDc := hD.sub (ws' := []) [] (by decide) rfl
  have hKc := hK.sub (tys' := []) [] rfl
  have hFc := va_free (wc := []) hD hS hA [] rfl
  refine va_calli (va_runS (As := [.int p0, .int 0, .int 1]) (rest := [.ref h0]) ⟨hx, hb, hml, hown, hts⟩ (c_m_in l D p0 0 1 H.size) (va_cwS 3 hts g_v_c_m_common_1 rfl rfl rfl (by decide +kernel) ⟨Nat.le_of_ble_eq_true rfl, Nat.le_of_ble_eq_true rfl⟩) ⟨st_blind, fun U hU hW => ⟨rfl, st_call hU hW hPc hKc hDc hZ hS hFc hE⟩⟩ rfl rfl hl.1 rfl (lv_room (Nat.le_of_ble_eq_true rfl)) dX12_common_9 ⟨Nat.le_of_ble_eq_true rfl, Nat.le_of_ble_eq_true rfl⟩) hS (fun q _ h => hFc q h) hFc (fun r2 u3 t H1 locs ht hvm hw hB hz1 hk1 hS => ?_)
  obtain ⟨hP, hD⟩ := va_join (wr := [(h0, .inr (12, fs1))]) (w1 := []) hP hD [] [0] rfl rfl (by decide) (by decide) hk1 hFc p_nil d_nil
  generalize H1 = H at hP hS ⊢
  have hP : va_P D vwCl [(h0, .inr (12, fs1))] H := hP
  have hD : va_D A [(h0, .inr (12, fs1))] := hD
  rcases hw with ⟨er2, hi⟩ | ⟨er2, hi⟩
  · subst er2
    refine lv_if_ne (tgt := 19) hx hb dX12_common_12 (by decide) (fun _ => ?_) (fun c9 => False.elim (by revert c9; decide))
    refine lv_iconst (v := 0) hx hb dX12_common_19 (by decide +kernel) ?_
    refine lv_iconst (v := 1) hx hb dX12_common_20 (by decide +kernel) ?_
    have hPc := hP.sub (ws' := [(h0, .inr (12, fs1))]) [0] rfl
    have hDc := hD.sub (ws' := [(h0, .inr (12, fs1))]) [0] (by decide) rfl
    have hKc := hK.sub (tys' := []) [] rfl
    have hFc := va_free (wc := [(h0, .inr (12, fs1))]) hD hS hA [0] rfl
    refine va_calli (va_runV (As := [.int 0, .int 1]) (rest := []) ⟨hx, hb, hml, hown, hts⟩ (c_m_refuses_no l D h0 fs1 1 H.size lfs1 gfs1_0) (cwV 2 hts g_v_c_m_common_2 rfl rfl rfl (by decide +kernel) ⟨Nat.le_of_ble_eq_true rfl, Nat.le_of_ble_eq_true rfl⟩) ⟨st_blind, va_recv hKc hPc (ci := 12) (q0 := 0) rfl rfl, fun U hU hW => ⟨rfl, st_call hU hW hPc hKc hDc hZ hS hFc hE⟩⟩ rfl rfl hl.1 rfl (lv_room (Nat.le_of_ble_eq_true rfl)) dX12_common_21 ⟨Nat.le_of_ble_eq_true rfl, Nat.le_of_ble_eq_true rfl⟩) hS (fun q _ h => hFc q h) hFc (fun r4 u5 t H1 locs ht hvm hw hB hz1 hk1 hS => ?_)
    obtain ⟨er4, eu5⟩ := hw
    rw [eu5] at hB
    obtain ⟨hP1, hK1, hD1⟩ := hB
    rw [ht] at hP1
    have hK1 := va_K.moved hvm.symm hK1
    obtain ⟨hP, hD⟩ := va_join (wr := []) (w1 := [(h0, .inr (12, fs1))]) hP hD [0] [] rfl rfl (by decide) (by decide) hk1 hFc hP1 hD1
    have hK := (hK.sub (tys' := []) [] rfl).app hK1
    generalize H1 = H at hP hS ⊢
    have hP : va_P D vwCl [(h0, .inr (12, fs1))] H := hP
    have hD : va_D A [(h0, .inr (12, fs1))] := hD
    have hK : va_K D vwCl [] s := hK
    subst er4
    refine lv_if_ne (tgt := 54) hx hb dX12_common_24 (by decide) (fun c9 => False.elim (by revert c9; decide)) (fun _ => ?_)
    refine lv_aload_n hx hb dX12_common_27 rfl (lv_at hl 0 rfl) ?_
    refine lv_iload_n hx hb dX12_common_28 rfl (lv_at hl 2 rfl) ?_
    refine lv_iconst (v := 0) hx hb dX12_common_29 (by decide +kernel) ?_
    refine lv_aload_n hx hb dX12_common_30 rfl (lv_at hl 0 rfl) ?_
    refine va_get (D := D) (ci := 12) (v := .int 0) (C := RX12) (T := TX12) (N := 139) hx hb hts i_v_c_m_common_X12 hown hK hP 0 rfl rfl 23 (by decide) (hts (.fieldLink RX12 448 "ScheduleHouseModel" "cells" "I") (by decide +kernel)) (fun _ h9 => h9) gfs1_23 dX12_common_31 ?_
    refine lv_iconst (v := 1) hx hb dX12_common_34 (by decide +kernel) ?_
    refine lv_isub hx hb dX12_common_35 ?_
    rw [show (0 - 1 : Int32) = (-1) by decide]
    have hPc := hP.sub (ws' := []) [] rfl
    have hDc := hD.sub (ws' := []) [] (by decide) rfl
    have hKc := hK.sub (tys' := []) [] rfl
    have hFc := va_free (wc := []) hD hS hA [] rfl
    refine va_calli (va_runS (As := [.int p1, .int 0, .int (-1)]) (rest := [.ref h0]) ⟨hx, hb, hml, hown, hts⟩ (c_m_in l D p1 0 (-1) H.size) (va_cwS 3 hts g_v_c_m_common_1 rfl rfl rfl (by decide +kernel) ⟨Nat.le_of_ble_eq_true rfl, Nat.le_of_ble_eq_true rfl⟩) ⟨st_blind, fun U hU hW => ⟨rfl, st_call hU hW hPc hKc hDc hZ hS hFc hE⟩⟩ rfl rfl hl.1 rfl (lv_room (Nat.le_of_ble_eq_true rfl)) dX12_common_36 ⟨Nat.le_of_ble_eq_true rfl, Nat.le_of_ble_eq_true rfl⟩) hS (fun q _ h => hFc q h) hFc (fun r6 u7 t H1 locs ht hvm hw hB hz1 hk1 hS => ?_)
    obtain ⟨hP, hD⟩ := va_join (wr := [(h0, .inr (12, fs1))]) (w1 := []) hP hD [] [0] rfl rfl (by decide) (by decide) hk1 hFc p_nil d_nil
    generalize H1 = H at hP hS ⊢
    have hP : va_P D vwCl [(h0, .inr (12, fs1))] H := hP
    have hD : va_D A [(h0, .inr (12, fs1))] := hD
    rcases hw with ⟨er6, hj⟩ | ⟨er6, hj⟩
    · subst er6
      exact (no_in hj).elim
    · subst er6
      refine lv_if_ne (tgt := 46) hx hb dX12_common_39 (by decide) (fun c9 => False.elim (by revert c9; decide)) (fun _ => ?_)
      refine lv_iconst (v := 1) hx hb dX12_common_42 (by decide +kernel) ?_
      refine lv_goto (tgt := 47) hx hb dX12_common_43 (by decide) ?_
      refine lv_iconst (v := 2) hx hb dX12_common_47 (by decide +kernel) ?_
      have hPc := hP.sub (ws' := [(h0, .inr (12, fs1))]) [0] rfl
      have hDc := hD.sub (ws' := [(h0, .inr (12, fs1))]) [0] (by decide) rfl
      have hKc := hK.sub (tys' := []) [] rfl
      have hFc := va_free (wc := [(h0, .inr (12, fs1))]) hD hS hA [0] rfl
      refine va_calli (va_runV (As := [.int 1, .int 2]) (rest := []) ⟨hx, hb, hml, hown, hts⟩ (c_m_refuses_y2 l D h0 fs1 H.size lfs1 gfs1_0) (cwV 2 hts g_v_c_m_common_3 rfl rfl rfl (by decide +kernel) ⟨Nat.le_of_ble_eq_true rfl, Nat.le_of_ble_eq_true rfl⟩) ⟨st_blind, va_recv hKc hPc (ci := 12) (q0 := 0) rfl rfl, fun U hU hW => ⟨rfl, st_call hU hW hPc hKc hDc hZ hS hFc hE⟩⟩ rfl rfl hl.1 rfl (lv_room (Nat.le_of_ble_eq_true rfl)) dX12_common_48 ⟨Nat.le_of_ble_eq_true rfl, Nat.le_of_ble_eq_true rfl⟩) hS (fun q _ h => hFc q h) hFc (fun r8 u9 t H1 locs ht hvm hw hB hz1 hk1 hS => ?_)
      obtain ⟨er8, eu9⟩ := hw
      have lu9 : u9.length = 139 := by rw [eu9, List.length_set]; exact lfs1
      have gu9_23 : u9[23]? = some (.int 0) := by rw [eu9]; exact se_ne gfs1_23 (by decide)
      have gu9_0 : u9[0]? = some (.int 2) := by rw [eu9]; exact se_eq (by rw [lfs1]; decide)
      obtain ⟨hP1, hK1, hD1⟩ := hB
      rw [ht] at hP1
      have hK1 := va_K.moved hvm.symm hK1
      obtain ⟨hP, hD⟩ := va_join (wr := []) (w1 := [(h0, .inr (12, u9))]) hP hD [0] [] rfl rfl (by decide) (by decide) hk1 hFc hP1 hD1
      have hK := (hK.sub (tys' := []) [] rfl).app hK1
      generalize H1 = H at hP hS ⊢
      have hP : va_P D vwCl [(h0, .inr (12, u9))] H := hP
      have hD : va_D A [(h0, .inr (12, u9))] := hD
      have hK : va_K D vwCl [] s := hK
      subst er8
      refine lv_if_eq (tgt := 56) hx hb dX12_common_51 (by decide) (fun c9 => False.elim (by revert c9; decide)) (fun _ => ?_)
      refine lv_iconst (v := 0) hx hb dX12_common_54 (by decide +kernel) ?_
      have hP : va_P D vwCl [(h0, .inr (12, u9))] H := hP.sub [0] rfl
      have hD : va_D A [(h0, .inr (12, u9))] := hD.sub [0] (by decide) rfl
      have hK : va_K D vwCl [] s := hK.sub [] rfl
      exact W.iret (v := 0) hx hb hr (fun t ht hW => ⟨⟨0, u9, rfl, ⟨2, gu9_0, Or.inr (Or.inr ⟨rfl, hi⟩)⟩, by rw [ht]; exact hP, va_K.moved hW.alike hK, hD⟩, hS.F ht⟩) hS.2.2 dX12_common_55
  · subst er2
    refine lv_if_ne (tgt := 19) hx hb dX12_common_12 (by decide) (fun c9 => False.elim (by revert c9; decide)) (fun _ => ?_)
    refine lv_iconst (v := 1) hx hb dX12_common_15 (by decide +kernel) ?_
    refine lv_goto (tgt := 20) hx hb dX12_common_16 (by decide) ?_
    refine lv_iconst (v := 1) hx hb dX12_common_20 (by decide +kernel) ?_
    have hPc := hP.sub (ws' := [(h0, .inr (12, fs1))]) [0] rfl
    have hDc := hD.sub (ws' := [(h0, .inr (12, fs1))]) [0] (by decide) rfl
    have hKc := hK.sub (tys' := []) [] rfl
    have hFc := va_free (wc := [(h0, .inr (12, fs1))]) hD hS hA [0] rfl
    refine va_calli (va_runV (As := [.int 1, .int 1]) (rest := []) ⟨hx, hb, hml, hown, hts⟩ (c_m_refuses_y1 l D h0 fs1 H.size lfs1 gfs1_0) (cwV 2 hts g_v_c_m_common_4 rfl rfl rfl (by decide +kernel) ⟨Nat.le_of_ble_eq_true rfl, Nat.le_of_ble_eq_true rfl⟩) ⟨st_blind, va_recv hKc hPc (ci := 12) (q0 := 0) rfl rfl, fun U hU hW => ⟨rfl, st_call hU hW hPc hKc hDc hZ hS hFc hE⟩⟩ rfl rfl hl.1 rfl (lv_room (Nat.le_of_ble_eq_true rfl)) dX12_common_21 ⟨Nat.le_of_ble_eq_true rfl, Nat.le_of_ble_eq_true rfl⟩) hS (fun q _ h => hFc q h) hFc (fun r11 u12 t H1 locs ht hvm hw hB hz1 hk1 hS => ?_)
    obtain ⟨er11, eu12⟩ := hw
    have lu12 : u12.length = 139 := by rw [eu12, List.length_set]; exact lfs1
    have gu12_23 : u12[23]? = some (.int 0) := by rw [eu12]; exact se_ne gfs1_23 (by decide)
    have gu12_0 : u12[0]? = some (.int 1) := by rw [eu12]; exact se_eq (by rw [lfs1]; decide)
    obtain ⟨hP1, hK1, hD1⟩ := hB
    rw [ht] at hP1
    have hK1 := va_K.moved hvm.symm hK1
    obtain ⟨hP, hD⟩ := va_join (wr := []) (w1 := [(h0, .inr (12, u12))]) hP hD [0] [] rfl rfl (by decide) (by decide) hk1 hFc hP1 hD1
    have hK := (hK.sub (tys' := []) [] rfl).app hK1
    generalize H1 = H at hP hS ⊢
    have hP : va_P D vwCl [(h0, .inr (12, u12))] H := hP
    have hD : va_D A [(h0, .inr (12, u12))] := hD
    have hK : va_K D vwCl [] s := hK
    subst er11
    refine lv_if_ne (tgt := 54) hx hb dX12_common_24 (by decide) (fun _ => ?_) (fun c9 => False.elim (by revert c9; decide))
    refine lv_iconst (v := 0) hx hb dX12_common_54 (by decide +kernel) ?_
    have hP : va_P D vwCl [(h0, .inr (12, u12))] H := hP.sub [0] rfl
    have hD : va_D A [(h0, .inr (12, u12))] := hD.sub [0] (by decide) rfl
    have hK : va_K D vwCl [] s := hK.sub [] rfl
    exact W.iret (v := 0) hx hb hr (fun t ht hW => ⟨⟨0, u12, rfl, ⟨1, gu12_0, Or.inr (Or.inl ⟨rfl, hi⟩)⟩, by rw [ht]; exact hP, va_K.moved hW.alike hK, hD⟩, hS.F ht⟩) hS.2.2 dX12_common_55
noncomputable def v_c_m_finding : List Cond := .code yX12_finding cX12_finding 4 (some .int) :: ([.fieldLink RX12 316 "ScheduleHouseModel" "thrown" "I", .fieldLink RX12 254 "ScheduleHouseModel" "wasTried" "[Z"] ++ (wsX120 ++ ((va_wsS RX12 322 yX12_in v_c_m_in) ++ ((wsV RX12 558 RX12 yX12_refuses v_c_m_refuses_no) ++ ((wsV RX12 558 RX12 yX12_refuses v_c_m_refuses_y1) ++ ([]))))))
theorem i_v_c_m_finding_X12 : ∀ w ∈ wsX120, w ∈ v_c_m_finding := fun _ h => List.mem_cons_of_mem _ (List.mem_append_right _ (List.mem_append_left _ h))
theorem g_v_c_m_finding_1 : GoodIn v_c_m_finding (va_wsS RX12 322 yX12_in v_c_m_in) := goodIn_sub (fun _ h => List.mem_cons_of_mem _ (List.mem_append_right _ (List.mem_append_right _ (List.mem_append_left _ h)))) (by decide +kernel)
theorem g_v_c_m_finding_2 : GoodIn v_c_m_finding (wsV RX12 558 RX12 yX12_refuses v_c_m_refuses_no) := goodIn_sub (fun _ h => List.mem_cons_of_mem _ (List.mem_append_right _ (List.mem_append_right _ (List.mem_append_right _ (List.mem_append_left _ h))))) (by decide +kernel)
theorem g_v_c_m_finding_3 : GoodIn v_c_m_finding (wsV RX12 558 RX12 yX12_refuses v_c_m_refuses_y1) := goodIn_sub (fun _ h => List.mem_cons_of_mem _ (List.mem_append_right _ (List.mem_append_right _ (List.mem_append_right _ (List.mem_append_right _ (List.mem_append_left _ h)))))) (by decide +kernel)
theorem t_v_c_m_finding : ∀ w ∈ v_c_m_finding, w ∈ lw_tbl := tb_c (List.mem_of_getElem? (i := 2991) (by decide +kernel)) (tb_a (tb_c (List.mem_of_getElem? (i := 2072) (by decide +kernel)) (tb_c (List.mem_of_getElem? (i := 2189) (by decide +kernel)) (tb_n))) (tb_a (tw_wsX120) (tb_a (tb_a (tb_c (List.mem_of_getElem? (i := 2498) (by decide +kernel)) (tb_c (List.mem_of_getElem? (i := 2499) (by decide +kernel)) (tb_c (List.mem_of_getElem? (i := 215) (by decide +kernel)) (tb_n)))) t_v_c_m_in) (tb_a (tb_a (tb_c (List.mem_of_getElem? (i := 2501) (by decide +kernel)) (tb_c (List.mem_of_getElem? (i := 2503) (by decide +kernel)) (tb_c (List.mem_of_getElem? (i := 113) (by decide +kernel)) (tb_c (List.mem_of_getElem? (i := 215) (by decide +kernel)) (tb_n))))) t_v_c_m_refuses_no) (tb_a (tb_a (tb_c (List.mem_of_getElem? (i := 2501) (by decide +kernel)) (tb_c (List.mem_of_getElem? (i := 2503) (by decide +kernel)) (tb_c (List.mem_of_getElem? (i := 113) (by decide +kernel)) (tb_c (List.mem_of_getElem? (i := 215) (by decide +kernel)) (tb_n))))) t_v_c_m_refuses_y1) (tb_n))))))
set_option maxHeartbeats 400000 in
set_option maxRecDepth 100000 in
/-- the model's finding -/
theorem c_m_finding (l : Launch) (D : va_G) (h0 : Nat) (wt : Nat) (cw : ClassId) (fs : List Value) (p0 p1 : Int32) (sz : Nat) (hlen : fs.length = 139) (hf_thrown : fs[0]? = some (.int 0)) (hf_wt : fs[118]? = some (.ref wt)) : Met l yX12_finding v_c_m_finding ({ frames := 5, cells := 0, slots := 0, locals := 80 }) (va_Pc [.ref h0, .int p0, .int p1] (st_ D [(h0, .inr (12, fs)), (wt, .inl (cw, 2, .inl (fun _ => 0)))] [(cw, .boolean)] sz)) (va_Qi (fun (r : Int32) (u : List Value) => ∃ t : Int32, u[0]? = some (.int t) ∧ ((t = 0 ∧ r = -1 ∧ ((¬ p0 < 0 ∧ ¬ 1 < p0) ∧ (¬ p1 < 0 ∧ ¬ 10 < p1))) ∨ (t = 1 ∧ ((p0 < 0 ∨ 1 < p0) ∨ (p1 < 0 ∨ 10 < p1))) ∨ (t = 2 ∧ False))) (fun u t => va_P D vwCl [(h0, .inr (12, u))] t.heap ∧ va_K D vwCl [] t ∧ va_D (va_A [(h0, .inr (12, fs)), (wt, .inl (cw, 2, .inl (fun _ => 0)))] sz) [(h0, .inr (12, u))]) (va_A [(h0, .inr (12, fs)), (wt, .inl (cw, 2, .inl (fun _ => 0)))] sz)) 0 0 (va_A [(h0, .inr (12, fs)), (wt, .inl (cw, 2, .inl (fun _ => 0)))] sz) := by
  refine Met.ofW (cc := cX12_finding) (maxL := 4) (ret := (some .int)) (by decide) rfl ?_
  intro p e s m args below meth c s₁ B hml hv
  obtain ⟨rfl, hsz, hP, hK, hD0, hZ, hE⟩ := hv
  have hx := B.exec
  have hb := B.bytes
  have hr := B.returns
  have hts := atoms_spec (ws := v_c_m_finding) B.pre
  have hown : s.vm.findClass RX12 = some m.cls := findClass_of_methodNamed B.named
  have hlocks := B.notSynchronized
  subst hsz
  have hD := hD0.self (sz := s.heap.size)
  generalize hAe : va_A [(h0, .inr (12, fs)), (wt, .inl (cw, 2, .inl (fun _ => 0)))] s.heap.size = A at hD hZ ⊢
  have hA : ∀ q : Nat, s.heap.size ≤ q → A q := fun q h => by rw [← hAe]; exact Or.inr h
  have hS : va_S A s.heap s.heap [] := va_S.rf
  have hAO := hE.2.2.2.1
  have hP : va_P D vwCl [(h0, .inr (12, fs)), (wt, .inl (cw, 2, .inl (fun _ => 0)))] s.heap := hP
  have hl := lv_entry ([.ref h0, .int p0, .int p1]) (n := 4) (Nat.le_of_ble_eq_true rfl)
  rw [lg_entry_eq]
  generalize (lg_sl ([.ref h0, .int p0, .int p1]) ++ List.replicate (4 - (lg_sl ([.ref h0, .int p0, .int p1])).length) Slot.unset).toArray = ls at hl ⊢
  have hl : lv_has ls 4 [(0, .ref h0), (1, .int p0), (2, .int p1)] := hl
  refine lv_aload_n hx hb dX12_finding_0 rfl (lv_at hl 0 rfl) ?_
  refine lv_iconst (v := 0) hx hb dX12_finding_1 (by decide +kernel) ?_
  refine va_put (D := D) (ci := 12) (v := .int 0) (ty := .int) (C := RX12) (T := TX12) (N := 139) hx hb hts i_v_c_m_finding_X12 tyX12 tyX12_ok nmX12 hown hK hP hD hS 0 rfl rfl 0 (by decide) (hts (.fieldLink RX12 316 "ScheduleHouseModel" "thrown" "I") (by decide +kernel)) (fun _ h9 => h9) rfl (by decide +kernel) rfl rfl (by rw [hlen]; decide) dX12_finding_2 (fun H locs hP hD hS => ?_)
  obtain ⟨fs1, hfs1⟩ : ∃ z, z = fs.set 0 (.int 0) := ⟨_, rfl⟩
  rw [← hfs1] at hP hD
  have lfs1 : fs1.length = 139 := by rw [hfs1, List.length_set]; exact hlen
  have gfs1_118 : fs1[118]? = some (.ref wt) := by rw [hfs1, List.getElem?_set_ne (by decide)]; exact hf_wt
  have gfs1_0 : fs1[0]? = some (.int 0) := by rw [hfs1]; exact List.getElem?_set_self (by rw [hlen]; decide)
  have hP : va_P D vwCl [(h0, .inr (12, fs1)), (wt, .inl (cw, 2, .inl (fun _ => 0)))] H := hP
  have hD : va_D A [(h0, .inr (12, fs1)), (wt, .inl (cw, 2, .inl (fun _ => 0)))] := hD
  refine lv_aload_n hx hb dX12_finding_5 rfl (lv_at hl 0 rfl) ?_
  refine lv_iload_n hx hb dX12_finding_6 rfl (lv_at hl 1 rfl) ?_
  refine lv_iconst (v := 0) hx hb dX12_finding_7 (by decide +kernel) ?_
  refine lv_iconst (v := 1) hx hb dX12_finding_8 (by decide +kernel) ?_
  have hPc := hP.sub (ws' := []) [] rfl
  have hDc := hD.sub (ws' := []) [] (by decide) rfl
  have hKc := hK.sub (tys' := []) [] rfl
  have hFc := va_free (wc := []) hD hS hA [] rfl
  refine va_calli (va_runS (As := [.int p0, .int 0, .int 1]) (rest := [.ref h0]) ⟨hx, hb, hml, hown, hts⟩ (c_m_in l D p0 0 1 H.size) (va_cwS 3 hts g_v_c_m_finding_1 rfl rfl rfl (by decide +kernel) ⟨Nat.le_of_ble_eq_true rfl, Nat.le_of_ble_eq_true rfl⟩) ⟨st_blind, fun U hU hW => ⟨rfl, st_call hU hW hPc hKc hDc hZ hS hFc hE⟩⟩ rfl rfl hl.1 rfl (lv_room (Nat.le_of_ble_eq_true rfl)) dX12_finding_9 ⟨Nat.le_of_ble_eq_true rfl, Nat.le_of_ble_eq_true rfl⟩) hS (fun q _ h => hFc q h) hFc (fun r2 u3 t H1 locs ht hvm hw hB hz1 hk1 hS => ?_)
  obtain ⟨hP, hD⟩ := va_join (wr := [(h0, .inr (12, fs1)), (wt, .inl (cw, 2, .inl (fun _ => 0)))]) (w1 := []) hP hD [] [0, 1] rfl rfl (by decide) (by decide) hk1 hFc p_nil d_nil
  generalize H1 = H at hP hS ⊢
  have hP : va_P D vwCl [(h0, .inr (12, fs1)), (wt, .inl (cw, 2, .inl (fun _ => 0)))] H := hP
  have hD : va_D A [(h0, .inr (12, fs1)), (wt, .inl (cw, 2, .inl (fun _ => 0)))] := hD
  rcases hw with ⟨er2, hi⟩ | ⟨er2, hi⟩
  · subst er2
    refine lv_if_eq (tgt := 25) hx hb dX12_finding_12 (by decide) (fun c9 => False.elim (by revert c9; decide)) (fun _ => ?_)
    refine lv_iload_n hx hb dX12_finding_15 rfl (lv_at hl 2 rfl) ?_
    refine lv_iconst (v := 0) hx hb dX12_finding_16 (by decide +kernel) ?_
    refine lv_bipush (v := 10) hx hb dX12_finding_17 (by decide +kernel) ?_
    have hPc := hP.sub (ws' := []) [] rfl
    have hDc := hD.sub (ws' := []) [] (by decide) rfl
    have hKc := hK.sub (tys' := []) [] rfl
    have hFc := va_free (wc := []) hD hS hA [] rfl
    refine va_calli (va_runS (As := [.int p1, .int 0, .int 10]) (rest := [.ref h0]) ⟨hx, hb, hml, hown, hts⟩ (c_m_in l D p1 0 10 H.size) (va_cwS 3 hts g_v_c_m_finding_1 rfl rfl rfl (by decide +kernel) ⟨Nat.le_of_ble_eq_true rfl, Nat.le_of_ble_eq_true rfl⟩) ⟨st_blind, fun U hU hW => ⟨rfl, st_call hU hW hPc hKc hDc hZ hS hFc hE⟩⟩ rfl rfl hl.1 rfl (lv_room (Nat.le_of_ble_eq_true rfl)) dX12_finding_19 ⟨Nat.le_of_ble_eq_true rfl, Nat.le_of_ble_eq_true rfl⟩) hS (fun q _ h => hFc q h) hFc (fun r4 u5 t H1 locs ht hvm hw hB hz1 hk1 hS => ?_)
    obtain ⟨hP, hD⟩ := va_join (wr := [(h0, .inr (12, fs1)), (wt, .inl (cw, 2, .inl (fun _ => 0)))]) (w1 := []) hP hD [] [0, 1] rfl rfl (by decide) (by decide) hk1 hFc p_nil d_nil
    generalize H1 = H at hP hS ⊢
    have hP : va_P D vwCl [(h0, .inr (12, fs1)), (wt, .inl (cw, 2, .inl (fun _ => 0)))] H := hP
    have hD : va_D A [(h0, .inr (12, fs1)), (wt, .inl (cw, 2, .inl (fun _ => 0)))] := hD
    rcases hw with ⟨er4, hj⟩ | ⟨er4, hj⟩
    · subst er4
      refine lv_if_ne (tgt := 29) hx hb dX12_finding_22 (by decide) (fun _ => ?_) (fun c9 => False.elim (by revert c9; decide))
      refine lv_iconst (v := 0) hx hb dX12_finding_29 (by decide +kernel) ?_
      refine lv_iconst (v := 1) hx hb dX12_finding_30 (by decide +kernel) ?_
      have hPc := hP.sub (ws' := [(h0, .inr (12, fs1))]) [0] rfl
      have hDc := hD.sub (ws' := [(h0, .inr (12, fs1))]) [0] (by decide) rfl
      have hKc := hK.sub (tys' := []) [] rfl
      have hFc := va_free (wc := [(h0, .inr (12, fs1))]) hD hS hA [0] rfl
      refine va_calli (va_runV (As := [.int 0, .int 1]) (rest := []) ⟨hx, hb, hml, hown, hts⟩ (c_m_refuses_no l D h0 fs1 1 H.size lfs1 gfs1_0) (cwV 2 hts g_v_c_m_finding_2 rfl rfl rfl (by decide +kernel) ⟨Nat.le_of_ble_eq_true rfl, Nat.le_of_ble_eq_true rfl⟩) ⟨st_blind, va_recv hKc hPc (ci := 12) (q0 := 0) rfl rfl, fun U hU hW => ⟨rfl, st_call hU hW hPc hKc hDc hZ hS hFc hE⟩⟩ rfl rfl hl.1 rfl (lv_room (Nat.le_of_ble_eq_true rfl)) dX12_finding_31 ⟨Nat.le_of_ble_eq_true rfl, Nat.le_of_ble_eq_true rfl⟩) hS (fun q _ h => hFc q h) hFc (fun r6 u7 t H1 locs ht hvm hw hB hz1 hk1 hS => ?_)
      obtain ⟨er6, eu7⟩ := hw
      rw [eu7] at hB
      obtain ⟨hP1, hK1, hD1⟩ := hB
      rw [ht] at hP1
      have hK1 := va_K.moved hvm.symm hK1
      obtain ⟨hP, hD⟩ := va_join (wr := [(wt, .inl (cw, 2, .inl (fun _ => 0)))]) (w1 := [(h0, .inr (12, fs1))]) hP hD [0] [1] rfl rfl (by decide) (by decide) hk1 hFc hP1 hD1
      have hK := (hK.sub (tys' := [(cw, .boolean)]) [0] rfl).app hK1
      generalize H1 = H at hP hS ⊢
      have hP : va_P D vwCl [(wt, .inl (cw, 2, .inl (fun _ => 0))), (h0, .inr (12, fs1))] H := hP
      have hD : va_D A [(wt, .inl (cw, 2, .inl (fun _ => 0))), (h0, .inr (12, fs1))] := hD
      have hK : va_K D vwCl [(cw, .boolean)] s := hK
      subst er6
      refine lv_if_eq (tgt := 39) hx hb dX12_finding_34 (by decide) (fun _ => ?_) (fun c9 => False.elim (by revert c9; decide))
      refine lv_aload_n hx hb dX12_finding_39 rfl (lv_at hl 0 rfl) ?_
      refine va_get (D := D) (ci := 12) (v := .ref wt) (C := RX12) (T := TX12) (N := 139) hx hb hts i_v_c_m_finding_X12 hown hK hP 1 rfl rfl 118 (by decide) (hts (.fieldLink RX12 254 "ScheduleHouseModel" "wasTried" "[Z") (by decide +kernel)) (fun _ h9 => h9) gfs1_118 dX12_finding_40 ?_
      refine lv_iload_n hx hb dX12_finding_43 rfl (lv_at hl 1 rfl) ?_
      refine va_zald hx hb hK hP 0 0 rfl rfl (i := p0) (in_r2 hi) dX12_finding_44 ?_
      refine lv_if_eq (tgt := 62) hx hb dX12_finding_45 (by decide) (fun _ => ?_) (fun c9 => False.elim (by revert c9; decide))
      refine lv_iconst (v := (-1)) hx hb dX12_finding_62 (by decide +kernel) ?_
      refine lv_istore_n (lv' := [(3, .int (-1)), (0, .ref h0), (1, .int p0), (2, .int p1)]) hx hb dX12_finding_63 rfl hl (by decide) rfl (fun ls hl => ?_)
      refine lv_iload_n hx hb dX12_finding_64 rfl (lv_at hl 0 rfl) ?_
      refine lv_iconst (v := (-1)) hx hb dX12_finding_65 (by decide +kernel) ?_
      refine lv_icmp_ne (tgt := 73) hx hb dX12_finding_66 (by decide) (fun c9 => False.elim (by revert c9; decide)) (fun _ => ?_)
      refine lv_iconst (v := (-1)) hx hb dX12_finding_69 (by decide +kernel) ?_
      refine lv_goto (tgt := 85) hx hb dX12_finding_70 (by decide) ?_
      have hP : va_P D vwCl [(h0, .inr (12, fs1))] H := hP.sub [1] rfl
      have hD : va_D A [(h0, .inr (12, fs1))] := hD.sub [1] (by decide) rfl
      have hK : va_K D vwCl [] s := hK.sub [] rfl
      exact W.iret (v := (-1)) hx hb hr (fun t ht hW => ⟨⟨(-1), fs1, rfl, ⟨0, gfs1_0, Or.inl ⟨rfl, rfl, ⟨hi, hj⟩⟩⟩, by rw [ht]; exact hP, va_K.moved hW.alike hK, hD⟩, hS.F ht⟩) hS.2.2 dX12_finding_85
    · subst er4
      refine lv_if_ne (tgt := 29) hx hb dX12_finding_22 (by decide) (fun c9 => False.elim (by revert c9; decide)) (fun _ => ?_)
      refine lv_iconst (v := 1) hx hb dX12_finding_25 (by decide +kernel) ?_
      refine lv_goto (tgt := 30) hx hb dX12_finding_26 (by decide) ?_
      refine lv_iconst (v := 1) hx hb dX12_finding_30 (by decide +kernel) ?_
      have hPc := hP.sub (ws' := [(h0, .inr (12, fs1))]) [0] rfl
      have hDc := hD.sub (ws' := [(h0, .inr (12, fs1))]) [0] (by decide) rfl
      have hKc := hK.sub (tys' := []) [] rfl
      have hFc := va_free (wc := [(h0, .inr (12, fs1))]) hD hS hA [0] rfl
      refine va_calli (va_runV (As := [.int 1, .int 1]) (rest := []) ⟨hx, hb, hml, hown, hts⟩ (c_m_refuses_y1 l D h0 fs1 H.size lfs1 gfs1_0) (cwV 2 hts g_v_c_m_finding_3 rfl rfl rfl (by decide +kernel) ⟨Nat.le_of_ble_eq_true rfl, Nat.le_of_ble_eq_true rfl⟩) ⟨st_blind, va_recv hKc hPc (ci := 12) (q0 := 0) rfl rfl, fun U hU hW => ⟨rfl, st_call hU hW hPc hKc hDc hZ hS hFc hE⟩⟩ rfl rfl hl.1 rfl (lv_room (Nat.le_of_ble_eq_true rfl)) dX12_finding_31 ⟨Nat.le_of_ble_eq_true rfl, Nat.le_of_ble_eq_true rfl⟩) hS (fun q _ h => hFc q h) hFc (fun r8 u9 t H1 locs ht hvm hw hB hz1 hk1 hS => ?_)
      obtain ⟨er8, eu9⟩ := hw
      have lu9 : u9.length = 139 := by rw [eu9, List.length_set]; exact lfs1
      have gu9_118 : u9[118]? = some (.ref wt) := by rw [eu9]; exact se_ne gfs1_118 (by decide)
      have gu9_0 : u9[0]? = some (.int 1) := by rw [eu9]; exact se_eq (by rw [lfs1]; decide)
      obtain ⟨hP1, hK1, hD1⟩ := hB
      rw [ht] at hP1
      have hK1 := va_K.moved hvm.symm hK1
      obtain ⟨hP, hD⟩ := va_join (wr := [(wt, .inl (cw, 2, .inl (fun _ => 0)))]) (w1 := [(h0, .inr (12, u9))]) hP hD [0] [1] rfl rfl (by decide) (by decide) hk1 hFc hP1 hD1
      have hK := (hK.sub (tys' := [(cw, .boolean)]) [0] rfl).app hK1
      generalize H1 = H at hP hS ⊢
      have hP : va_P D vwCl [(wt, .inl (cw, 2, .inl (fun _ => 0))), (h0, .inr (12, u9))] H := hP
      have hD : va_D A [(wt, .inl (cw, 2, .inl (fun _ => 0))), (h0, .inr (12, u9))] := hD
      have hK : va_K D vwCl [(cw, .boolean)] s := hK
      subst er8
      refine lv_if_eq (tgt := 39) hx hb dX12_finding_34 (by decide) (fun c9 => False.elim (by revert c9; decide)) (fun _ => ?_)
      refine lv_iconst (v := 0) hx hb dX12_finding_37 (by decide +kernel) ?_
      have hP : va_P D vwCl [(h0, .inr (12, u9))] H := hP.sub [1] rfl
      have hD : va_D A [(h0, .inr (12, u9))] := hD.sub [1] (by decide) rfl
      have hK : va_K D vwCl [] s := hK.sub [] rfl
      exact W.iret (v := 0) hx hb hr (fun t ht hW => ⟨⟨0, u9, rfl, ⟨1, gu9_0, Or.inr (Or.inl ⟨rfl, Or.inr hj⟩)⟩, by rw [ht]; exact hP, va_K.moved hW.alike hK, hD⟩, hS.F ht⟩) hS.2.2 dX12_finding_38
  · subst er2
    refine lv_if_eq (tgt := 25) hx hb dX12_finding_12 (by decide) (fun _ => ?_) (fun c9 => False.elim (by revert c9; decide))
    refine lv_iconst (v := 1) hx hb dX12_finding_25 (by decide +kernel) ?_
    refine lv_goto (tgt := 30) hx hb dX12_finding_26 (by decide) ?_
    refine lv_iconst (v := 1) hx hb dX12_finding_30 (by decide +kernel) ?_
    have hPc := hP.sub (ws' := [(h0, .inr (12, fs1))]) [0] rfl
    have hDc := hD.sub (ws' := [(h0, .inr (12, fs1))]) [0] (by decide) rfl
    have hKc := hK.sub (tys' := []) [] rfl
    have hFc := va_free (wc := [(h0, .inr (12, fs1))]) hD hS hA [0] rfl
    refine va_calli (va_runV (As := [.int 1, .int 1]) (rest := []) ⟨hx, hb, hml, hown, hts⟩ (c_m_refuses_y1 l D h0 fs1 H.size lfs1 gfs1_0) (cwV 2 hts g_v_c_m_finding_3 rfl rfl rfl (by decide +kernel) ⟨Nat.le_of_ble_eq_true rfl, Nat.le_of_ble_eq_true rfl⟩) ⟨st_blind, va_recv hKc hPc (ci := 12) (q0 := 0) rfl rfl, fun U hU hW => ⟨rfl, st_call hU hW hPc hKc hDc hZ hS hFc hE⟩⟩ rfl rfl hl.1 rfl (lv_room (Nat.le_of_ble_eq_true rfl)) dX12_finding_31 ⟨Nat.le_of_ble_eq_true rfl, Nat.le_of_ble_eq_true rfl⟩) hS (fun q _ h => hFc q h) hFc (fun r11 u12 t H1 locs ht hvm hw hB hz1 hk1 hS => ?_)
    obtain ⟨er11, eu12⟩ := hw
    have lu12 : u12.length = 139 := by rw [eu12, List.length_set]; exact lfs1
    have gu12_118 : u12[118]? = some (.ref wt) := by rw [eu12]; exact se_ne gfs1_118 (by decide)
    have gu12_0 : u12[0]? = some (.int 1) := by rw [eu12]; exact se_eq (by rw [lfs1]; decide)
    obtain ⟨hP1, hK1, hD1⟩ := hB
    rw [ht] at hP1
    have hK1 := va_K.moved hvm.symm hK1
    obtain ⟨hP, hD⟩ := va_join (wr := [(wt, .inl (cw, 2, .inl (fun _ => 0)))]) (w1 := [(h0, .inr (12, u12))]) hP hD [0] [1] rfl rfl (by decide) (by decide) hk1 hFc hP1 hD1
    have hK := (hK.sub (tys' := [(cw, .boolean)]) [0] rfl).app hK1
    generalize H1 = H at hP hS ⊢
    have hP : va_P D vwCl [(wt, .inl (cw, 2, .inl (fun _ => 0))), (h0, .inr (12, u12))] H := hP
    have hD : va_D A [(wt, .inl (cw, 2, .inl (fun _ => 0))), (h0, .inr (12, u12))] := hD
    have hK : va_K D vwCl [(cw, .boolean)] s := hK
    subst er11
    refine lv_if_eq (tgt := 39) hx hb dX12_finding_34 (by decide) (fun c9 => False.elim (by revert c9; decide)) (fun _ => ?_)
    refine lv_iconst (v := 0) hx hb dX12_finding_37 (by decide +kernel) ?_
    have hP : va_P D vwCl [(h0, .inr (12, u12))] H := hP.sub [1] rfl
    have hD : va_D A [(h0, .inr (12, u12))] := hD.sub [1] (by decide) rfl
    have hK : va_K D vwCl [] s := hK.sub [] rfl
    exact W.iret (v := 0) hx hb hr (fun t ht hW => ⟨⟨0, u12, rfl, ⟨1, gu12_0, Or.inr (Or.inl ⟨rfl, Or.inl hi⟩)⟩, by rw [ht]; exact hP, va_K.moved hW.alike hK, hD⟩, hS.F ht⟩) hS.2.2 dX12_finding_38
noncomputable def v_c_m_show : List Cond := .code yX12_show cX12_show 6 (some .int) :: ([.fieldLink RX12 316 "ScheduleHouseModel" "thrown" "I", .fieldLink RX12 254 "ScheduleHouseModel" "wasTried" "[Z"] ++ (wsX120 ++ ((va_wsS RX12 322 yX12_in v_c_m_in) ++ ((wsV RX12 558 RX12 yX12_refuses v_c_m_refuses_no) ++ ((wsV RX12 558 RX12 yX12_refuses v_c_m_refuses_y2) ++ ((wsV RX12 558 RX12 yX12_refuses v_c_m_refuses_y1) ++ ([])))))))
theorem i_v_c_m_show_X12 : ∀ w ∈ wsX120, w ∈ v_c_m_show := fun _ h => List.mem_cons_of_mem _ (List.mem_append_right _ (List.mem_append_left _ h))
theorem g_v_c_m_show_1 : GoodIn v_c_m_show (va_wsS RX12 322 yX12_in v_c_m_in) := goodIn_sub (fun _ h => List.mem_cons_of_mem _ (List.mem_append_right _ (List.mem_append_right _ (List.mem_append_left _ h)))) (by decide +kernel)
theorem g_v_c_m_show_2 : GoodIn v_c_m_show (wsV RX12 558 RX12 yX12_refuses v_c_m_refuses_no) := goodIn_sub (fun _ h => List.mem_cons_of_mem _ (List.mem_append_right _ (List.mem_append_right _ (List.mem_append_right _ (List.mem_append_left _ h))))) (by decide +kernel)
theorem g_v_c_m_show_3 : GoodIn v_c_m_show (wsV RX12 558 RX12 yX12_refuses v_c_m_refuses_y2) := goodIn_sub (fun _ h => List.mem_cons_of_mem _ (List.mem_append_right _ (List.mem_append_right _ (List.mem_append_right _ (List.mem_append_right _ (List.mem_append_left _ h)))))) (by decide +kernel)
theorem g_v_c_m_show_4 : GoodIn v_c_m_show (wsV RX12 558 RX12 yX12_refuses v_c_m_refuses_y1) := goodIn_sub (fun _ h => List.mem_cons_of_mem _ (List.mem_append_right _ (List.mem_append_right _ (List.mem_append_right _ (List.mem_append_right _ (List.mem_append_right _ (List.mem_append_left _ h))))))) (by decide +kernel)
theorem t_v_c_m_show : ∀ w ∈ v_c_m_show, w ∈ lw_tbl := tb_c (List.mem_of_getElem? (i := 2995) (by decide +kernel)) (tb_a (tb_c (List.mem_of_getElem? (i := 2072) (by decide +kernel)) (tb_c (List.mem_of_getElem? (i := 2189) (by decide +kernel)) (tb_n))) (tb_a (tw_wsX120) (tb_a (tb_a (tb_c (List.mem_of_getElem? (i := 2498) (by decide +kernel)) (tb_c (List.mem_of_getElem? (i := 2499) (by decide +kernel)) (tb_c (List.mem_of_getElem? (i := 215) (by decide +kernel)) (tb_n)))) t_v_c_m_in) (tb_a (tb_a (tb_c (List.mem_of_getElem? (i := 2501) (by decide +kernel)) (tb_c (List.mem_of_getElem? (i := 2503) (by decide +kernel)) (tb_c (List.mem_of_getElem? (i := 113) (by decide +kernel)) (tb_c (List.mem_of_getElem? (i := 215) (by decide +kernel)) (tb_n))))) t_v_c_m_refuses_no) (tb_a (tb_a (tb_c (List.mem_of_getElem? (i := 2501) (by decide +kernel)) (tb_c (List.mem_of_getElem? (i := 2503) (by decide +kernel)) (tb_c (List.mem_of_getElem? (i := 113) (by decide +kernel)) (tb_c (List.mem_of_getElem? (i := 215) (by decide +kernel)) (tb_n))))) t_v_c_m_refuses_y2) (tb_a (tb_a (tb_c (List.mem_of_getElem? (i := 2501) (by decide +kernel)) (tb_c (List.mem_of_getElem? (i := 2503) (by decide +kernel)) (tb_c (List.mem_of_getElem? (i := 113) (by decide +kernel)) (tb_c (List.mem_of_getElem? (i := 215) (by decide +kernel)) (tb_n))))) t_v_c_m_refuses_y1) (tb_n)))))))
set_option maxHeartbeats 400000 in
set_option maxRecDepth 100000 in
/-- the model's show -/
theorem c_m_show (l : Launch) (D : va_G) (h0 : Nat) (wt : Nat) (cw : ClassId) (fs : List Value) (p0 p1 : Int32) (sz : Nat) (hlen : fs.length = 139) (hf_thrown : fs[0]? = some (.int 0)) (hf_wt : fs[118]? = some (.ref wt)) : Met l yX12_show v_c_m_show ({ frames := 5, cells := 0, slots := 0, locals := 80 }) (va_Pc [.ref h0, .int p0, .int p1] (st_ D [(h0, .inr (12, fs)), (wt, .inl (cw, 2, .inl (fun _ => 0)))] [(cw, .boolean)] sz)) (va_Qi (fun (r : Int32) (u : List Value) => ∃ t : Int32, u[0]? = some (.int t) ∧ ((t = 0 ∧ r = 0 ∧ False) ∨ (t = 1 ∧ ((p0 < 0 ∨ 1 < p0) ∨ (p1 < 0 ∨ 10 < p1))) ∨ (t = 2 ∧ ((¬ p0 < 0 ∧ ¬ 1 < p0) ∧ (¬ p1 < 0 ∧ ¬ 10 < p1))))) (fun u t => va_P D vwCl [(h0, .inr (12, u))] t.heap ∧ va_K D vwCl [] t ∧ va_D (va_A [(h0, .inr (12, fs)), (wt, .inl (cw, 2, .inl (fun _ => 0)))] sz) [(h0, .inr (12, u))]) (va_A [(h0, .inr (12, fs)), (wt, .inl (cw, 2, .inl (fun _ => 0)))] sz)) 0 0 (va_A [(h0, .inr (12, fs)), (wt, .inl (cw, 2, .inl (fun _ => 0)))] sz) := by
  refine Met.ofW (cc := cX12_show) (maxL := 6) (ret := (some .int)) (by decide) rfl ?_
  intro p e s m args below meth c s₁ B hml hv
  obtain ⟨rfl, hsz, hP, hK, hD0, hZ, hE⟩ := hv
  have hx := B.exec
  have hb := B.bytes
  have hr := B.returns
  have hts := atoms_spec (ws := v_c_m_show) B.pre
  have hown : s.vm.findClass RX12 = some m.cls := findClass_of_methodNamed B.named
  have hlocks := B.notSynchronized
  subst hsz
  have hD := hD0.self (sz := s.heap.size)
  generalize hAe : va_A [(h0, .inr (12, fs)), (wt, .inl (cw, 2, .inl (fun _ => 0)))] s.heap.size = A at hD hZ ⊢
  have hA : ∀ q : Nat, s.heap.size ≤ q → A q := fun q h => by rw [← hAe]; exact Or.inr h
  have hS : va_S A s.heap s.heap [] := va_S.rf
  have hAO := hE.2.2.2.1
  have hP : va_P D vwCl [(h0, .inr (12, fs)), (wt, .inl (cw, 2, .inl (fun _ => 0)))] s.heap := hP
  have hl := lv_entry ([.ref h0, .int p0, .int p1]) (n := 6) (Nat.le_of_ble_eq_true rfl)
  rw [lg_entry_eq]
  generalize (lg_sl ([.ref h0, .int p0, .int p1]) ++ List.replicate (6 - (lg_sl ([.ref h0, .int p0, .int p1])).length) Slot.unset).toArray = ls at hl ⊢
  have hl : lv_has ls 6 [(0, .ref h0), (1, .int p0), (2, .int p1)] := hl
  refine lv_aload_n hx hb dX12_show_0 rfl (lv_at hl 0 rfl) ?_
  refine lv_iconst (v := 0) hx hb dX12_show_1 (by decide +kernel) ?_
  refine va_put (D := D) (ci := 12) (v := .int 0) (ty := .int) (C := RX12) (T := TX12) (N := 139) hx hb hts i_v_c_m_show_X12 tyX12 tyX12_ok nmX12 hown hK hP hD hS 0 rfl rfl 0 (by decide) (hts (.fieldLink RX12 316 "ScheduleHouseModel" "thrown" "I") (by decide +kernel)) (fun _ h9 => h9) rfl (by decide +kernel) rfl rfl (by rw [hlen]; decide) dX12_show_2 (fun H locs hP hD hS => ?_)
  obtain ⟨fs1, hfs1⟩ : ∃ z, z = fs.set 0 (.int 0) := ⟨_, rfl⟩
  rw [← hfs1] at hP hD
  have lfs1 : fs1.length = 139 := by rw [hfs1, List.length_set]; exact hlen
  have gfs1_118 : fs1[118]? = some (.ref wt) := by rw [hfs1, List.getElem?_set_ne (by decide)]; exact hf_wt
  have gfs1_0 : fs1[0]? = some (.int 0) := by rw [hfs1]; exact List.getElem?_set_self (by rw [hlen]; decide)
  have hP : va_P D vwCl [(h0, .inr (12, fs1)), (wt, .inl (cw, 2, .inl (fun _ => 0)))] H := hP
  have hD : va_D A [(h0, .inr (12, fs1)), (wt, .inl (cw, 2, .inl (fun _ => 0)))] := hD
  refine lv_aload_n hx hb dX12_show_5 rfl (lv_at hl 0 rfl) ?_
  refine lv_iload_n hx hb dX12_show_6 rfl (lv_at hl 1 rfl) ?_
  refine lv_iconst (v := 0) hx hb dX12_show_7 (by decide +kernel) ?_
  refine lv_iconst (v := 1) hx hb dX12_show_8 (by decide +kernel) ?_
  have hPc := hP.sub (ws' := []) [] rfl
  have hDc := hD.sub (ws' := []) [] (by decide) rfl
  have hKc := hK.sub (tys' := []) [] rfl
  have hFc := va_free (wc := []) hD hS hA [] rfl
  refine va_calli (va_runS (As := [.int p0, .int 0, .int 1]) (rest := [.ref h0]) ⟨hx, hb, hml, hown, hts⟩ (c_m_in l D p0 0 1 H.size) (va_cwS 3 hts g_v_c_m_show_1 rfl rfl rfl (by decide +kernel) ⟨Nat.le_of_ble_eq_true rfl, Nat.le_of_ble_eq_true rfl⟩) ⟨st_blind, fun U hU hW => ⟨rfl, st_call hU hW hPc hKc hDc hZ hS hFc hE⟩⟩ rfl rfl hl.1 rfl (lv_room (Nat.le_of_ble_eq_true rfl)) dX12_show_9 ⟨Nat.le_of_ble_eq_true rfl, Nat.le_of_ble_eq_true rfl⟩) hS (fun q _ h => hFc q h) hFc (fun r2 u3 t H1 locs ht hvm hw hB hz1 hk1 hS => ?_)
  obtain ⟨hP, hD⟩ := va_join (wr := [(h0, .inr (12, fs1)), (wt, .inl (cw, 2, .inl (fun _ => 0)))]) (w1 := []) hP hD [] [0, 1] rfl rfl (by decide) (by decide) hk1 hFc p_nil d_nil
  generalize H1 = H at hP hS ⊢
  have hP : va_P D vwCl [(h0, .inr (12, fs1)), (wt, .inl (cw, 2, .inl (fun _ => 0)))] H := hP
  have hD : va_D A [(h0, .inr (12, fs1)), (wt, .inl (cw, 2, .inl (fun _ => 0)))] := hD
  rcases hw with ⟨er2, hi⟩ | ⟨er2, hi⟩
  · subst er2
    refine lv_if_eq (tgt := 25) hx hb dX12_show_12 (by decide) (fun c9 => False.elim (by revert c9; decide)) (fun _ => ?_)
    refine lv_iload_n hx hb dX12_show_15 rfl (lv_at hl 2 rfl) ?_
    refine lv_iconst (v := 0) hx hb dX12_show_16 (by decide +kernel) ?_
    refine lv_bipush (v := 10) hx hb dX12_show_17 (by decide +kernel) ?_
    have hPc := hP.sub (ws' := []) [] rfl
    have hDc := hD.sub (ws' := []) [] (by decide) rfl
    have hKc := hK.sub (tys' := []) [] rfl
    have hFc := va_free (wc := []) hD hS hA [] rfl
    refine va_calli (va_runS (As := [.int p1, .int 0, .int 10]) (rest := [.ref h0]) ⟨hx, hb, hml, hown, hts⟩ (c_m_in l D p1 0 10 H.size) (va_cwS 3 hts g_v_c_m_show_1 rfl rfl rfl (by decide +kernel) ⟨Nat.le_of_ble_eq_true rfl, Nat.le_of_ble_eq_true rfl⟩) ⟨st_blind, fun U hU hW => ⟨rfl, st_call hU hW hPc hKc hDc hZ hS hFc hE⟩⟩ rfl rfl hl.1 rfl (lv_room (Nat.le_of_ble_eq_true rfl)) dX12_show_19 ⟨Nat.le_of_ble_eq_true rfl, Nat.le_of_ble_eq_true rfl⟩) hS (fun q _ h => hFc q h) hFc (fun r4 u5 t H1 locs ht hvm hw hB hz1 hk1 hS => ?_)
    obtain ⟨hP, hD⟩ := va_join (wr := [(h0, .inr (12, fs1)), (wt, .inl (cw, 2, .inl (fun _ => 0)))]) (w1 := []) hP hD [] [0, 1] rfl rfl (by decide) (by decide) hk1 hFc p_nil d_nil
    generalize H1 = H at hP hS ⊢
    have hP : va_P D vwCl [(h0, .inr (12, fs1)), (wt, .inl (cw, 2, .inl (fun _ => 0)))] H := hP
    have hD : va_D A [(h0, .inr (12, fs1)), (wt, .inl (cw, 2, .inl (fun _ => 0)))] := hD
    rcases hw with ⟨er4, hj⟩ | ⟨er4, hj⟩
    · subst er4
      refine lv_if_ne (tgt := 29) hx hb dX12_show_22 (by decide) (fun _ => ?_) (fun c9 => False.elim (by revert c9; decide))
      refine lv_iconst (v := 0) hx hb dX12_show_29 (by decide +kernel) ?_
      refine lv_iconst (v := 1) hx hb dX12_show_30 (by decide +kernel) ?_
      have hPc := hP.sub (ws' := [(h0, .inr (12, fs1))]) [0] rfl
      have hDc := hD.sub (ws' := [(h0, .inr (12, fs1))]) [0] (by decide) rfl
      have hKc := hK.sub (tys' := []) [] rfl
      have hFc := va_free (wc := [(h0, .inr (12, fs1))]) hD hS hA [0] rfl
      refine va_calli (va_runV (As := [.int 0, .int 1]) (rest := []) ⟨hx, hb, hml, hown, hts⟩ (c_m_refuses_no l D h0 fs1 1 H.size lfs1 gfs1_0) (cwV 2 hts g_v_c_m_show_2 rfl rfl rfl (by decide +kernel) ⟨Nat.le_of_ble_eq_true rfl, Nat.le_of_ble_eq_true rfl⟩) ⟨st_blind, va_recv hKc hPc (ci := 12) (q0 := 0) rfl rfl, fun U hU hW => ⟨rfl, st_call hU hW hPc hKc hDc hZ hS hFc hE⟩⟩ rfl rfl hl.1 rfl (lv_room (Nat.le_of_ble_eq_true rfl)) dX12_show_31 ⟨Nat.le_of_ble_eq_true rfl, Nat.le_of_ble_eq_true rfl⟩) hS (fun q _ h => hFc q h) hFc (fun r6 u7 t H1 locs ht hvm hw hB hz1 hk1 hS => ?_)
      obtain ⟨er6, eu7⟩ := hw
      rw [eu7] at hB
      obtain ⟨hP1, hK1, hD1⟩ := hB
      rw [ht] at hP1
      have hK1 := va_K.moved hvm.symm hK1
      obtain ⟨hP, hD⟩ := va_join (wr := [(wt, .inl (cw, 2, .inl (fun _ => 0)))]) (w1 := [(h0, .inr (12, fs1))]) hP hD [0] [1] rfl rfl (by decide) (by decide) hk1 hFc hP1 hD1
      have hK := (hK.sub (tys' := [(cw, .boolean)]) [0] rfl).app hK1
      generalize H1 = H at hP hS ⊢
      have hP : va_P D vwCl [(wt, .inl (cw, 2, .inl (fun _ => 0))), (h0, .inr (12, fs1))] H := hP
      have hD : va_D A [(wt, .inl (cw, 2, .inl (fun _ => 0))), (h0, .inr (12, fs1))] := hD
      have hK : va_K D vwCl [(cw, .boolean)] s := hK
      subst er6
      refine lv_if_eq (tgt := 39) hx hb dX12_show_34 (by decide) (fun _ => ?_) (fun c9 => False.elim (by revert c9; decide))
      refine lv_aload_n hx hb dX12_show_39 rfl (lv_at hl 0 rfl) ?_
      refine va_get (D := D) (ci := 12) (v := .ref wt) (C := RX12) (T := TX12) (N := 139) hx hb hts i_v_c_m_show_X12 hown hK hP 1 rfl rfl 118 (by decide) (hts (.fieldLink RX12 254 "ScheduleHouseModel" "wasTried" "[Z") (by decide +kernel)) (fun _ h9 => h9) gfs1_118 dX12_show_40 ?_
      refine lv_iload_n hx hb dX12_show_43 rfl (lv_at hl 1 rfl) ?_
      refine va_zald hx hb hK hP 0 0 rfl rfl (i := p0) (in_r2 hi) dX12_show_44 ?_
      refine lv_if_eq (tgt := 62) hx hb dX12_show_45 (by decide) (fun _ => ?_) (fun c9 => False.elim (by revert c9; decide))
      refine lv_iconst (v := (-1)) hx hb dX12_show_62 (by decide +kernel) ?_
      refine lv_istore_n (lv' := [(3, .int (-1)), (0, .ref h0), (1, .int p0), (2, .int p1)]) hx hb dX12_show_63 rfl hl (by decide) rfl (fun ls hl => ?_)
      refine lv_aload_n hx hb dX12_show_64 rfl (lv_at hl 1 rfl) ?_
      refine lv_iload_n hx hb dX12_show_65 rfl (lv_at hl 0 rfl) ?_
      refine lv_iconst (v := (-1)) hx hb dX12_show_66 (by decide +kernel) ?_
      refine lv_icmp_ne (tgt := 74) hx hb dX12_show_67 (by decide) (fun c9 => False.elim (by revert c9; decide)) (fun _ => ?_)
      refine lv_iconst (v := 1) hx hb dX12_show_70 (by decide +kernel) ?_
      refine lv_goto (tgt := 75) hx hb dX12_show_71 (by decide) ?_
      refine lv_iconst (v := 2) hx hb dX12_show_75 (by decide +kernel) ?_
      have hPc := hP.sub (ws' := [(h0, .inr (12, fs1))]) [1] rfl
      have hDc := hD.sub (ws' := [(h0, .inr (12, fs1))]) [1] (by decide) rfl
      have hKc := hK.sub (tys' := []) [] rfl
      have hFc := va_free (wc := [(h0, .inr (12, fs1))]) hD hS hA [1] rfl
      refine va_calli (va_runV (As := [.int 1, .int 2]) (rest := []) ⟨hx, hb, hml, hown, hts⟩ (c_m_refuses_y2 l D h0 fs1 H.size lfs1 gfs1_0) (cwV 2 hts g_v_c_m_show_3 rfl rfl rfl (by decide +kernel) ⟨Nat.le_of_ble_eq_true rfl, Nat.le_of_ble_eq_true rfl⟩) ⟨st_blind, va_recv hKc hPc (ci := 12) (q0 := 0) rfl rfl, fun U hU hW => ⟨rfl, st_call hU hW hPc hKc hDc hZ hS hFc hE⟩⟩ rfl rfl hl.1 rfl (lv_room (Nat.le_of_ble_eq_true rfl)) dX12_show_76 ⟨Nat.le_of_ble_eq_true rfl, Nat.le_of_ble_eq_true rfl⟩) hS (fun q _ h => hFc q h) hFc (fun r8 u9 t H1 locs ht hvm hw hB hz1 hk1 hS => ?_)
      obtain ⟨er8, eu9⟩ := hw
      have lu9 : u9.length = 139 := by rw [eu9, List.length_set]; exact lfs1
      have gu9_118 : u9[118]? = some (.ref wt) := by rw [eu9]; exact se_ne gfs1_118 (by decide)
      have gu9_0 : u9[0]? = some (.int 2) := by rw [eu9]; exact se_eq (by rw [lfs1]; decide)
      obtain ⟨hP1, hK1, hD1⟩ := hB
      rw [ht] at hP1
      have hK1 := va_K.moved hvm.symm hK1
      obtain ⟨hP, hD⟩ := va_join (wr := [(wt, .inl (cw, 2, .inl (fun _ => 0)))]) (w1 := [(h0, .inr (12, u9))]) hP hD [1] [0] rfl rfl (by decide) (by decide) hk1 hFc hP1 hD1
      have hK := (hK.sub (tys' := [(cw, .boolean)]) [0] rfl).app hK1
      generalize H1 = H at hP hS ⊢
      have hP : va_P D vwCl [(wt, .inl (cw, 2, .inl (fun _ => 0))), (h0, .inr (12, u9))] H := hP
      have hD : va_D A [(wt, .inl (cw, 2, .inl (fun _ => 0))), (h0, .inr (12, u9))] := hD
      have hK : va_K D vwCl [(cw, .boolean)] s := hK
      subst er8
      refine lv_if_ne (tgt := 113) hx hb dX12_show_79 (by decide) (fun _ => ?_) (fun c9 => False.elim (by revert c9; decide))
      refine lv_iconst (v := 0) hx hb dX12_show_113 (by decide +kernel) ?_
      have hP : va_P D vwCl [(h0, .inr (12, u9))] H := hP.sub [1] rfl
      have hD : va_D A [(h0, .inr (12, u9))] := hD.sub [1] (by decide) rfl
      have hK : va_K D vwCl [] s := hK.sub [] rfl
      exact W.iret (v := 0) hx hb hr (fun t ht hW => ⟨⟨0, u9, rfl, ⟨2, gu9_0, Or.inr (Or.inr ⟨rfl, ⟨hi, hj⟩⟩)⟩, by rw [ht]; exact hP, va_K.moved hW.alike hK, hD⟩, hS.F ht⟩) hS.2.2 dX12_show_114
    · subst er4
      refine lv_if_ne (tgt := 29) hx hb dX12_show_22 (by decide) (fun c9 => False.elim (by revert c9; decide)) (fun _ => ?_)
      refine lv_iconst (v := 1) hx hb dX12_show_25 (by decide +kernel) ?_
      refine lv_goto (tgt := 30) hx hb dX12_show_26 (by decide) ?_
      refine lv_iconst (v := 1) hx hb dX12_show_30 (by decide +kernel) ?_
      have hPc := hP.sub (ws' := [(h0, .inr (12, fs1))]) [0] rfl
      have hDc := hD.sub (ws' := [(h0, .inr (12, fs1))]) [0] (by decide) rfl
      have hKc := hK.sub (tys' := []) [] rfl
      have hFc := va_free (wc := [(h0, .inr (12, fs1))]) hD hS hA [0] rfl
      refine va_calli (va_runV (As := [.int 1, .int 1]) (rest := []) ⟨hx, hb, hml, hown, hts⟩ (c_m_refuses_y1 l D h0 fs1 H.size lfs1 gfs1_0) (cwV 2 hts g_v_c_m_show_4 rfl rfl rfl (by decide +kernel) ⟨Nat.le_of_ble_eq_true rfl, Nat.le_of_ble_eq_true rfl⟩) ⟨st_blind, va_recv hKc hPc (ci := 12) (q0 := 0) rfl rfl, fun U hU hW => ⟨rfl, st_call hU hW hPc hKc hDc hZ hS hFc hE⟩⟩ rfl rfl hl.1 rfl (lv_room (Nat.le_of_ble_eq_true rfl)) dX12_show_31 ⟨Nat.le_of_ble_eq_true rfl, Nat.le_of_ble_eq_true rfl⟩) hS (fun q _ h => hFc q h) hFc (fun r11 u12 t H1 locs ht hvm hw hB hz1 hk1 hS => ?_)
      obtain ⟨er11, eu12⟩ := hw
      have lu12 : u12.length = 139 := by rw [eu12, List.length_set]; exact lfs1
      have gu12_118 : u12[118]? = some (.ref wt) := by rw [eu12]; exact se_ne gfs1_118 (by decide)
      have gu12_0 : u12[0]? = some (.int 1) := by rw [eu12]; exact se_eq (by rw [lfs1]; decide)
      obtain ⟨hP1, hK1, hD1⟩ := hB
      rw [ht] at hP1
      have hK1 := va_K.moved hvm.symm hK1
      obtain ⟨hP, hD⟩ := va_join (wr := [(wt, .inl (cw, 2, .inl (fun _ => 0)))]) (w1 := [(h0, .inr (12, u12))]) hP hD [0] [1] rfl rfl (by decide) (by decide) hk1 hFc hP1 hD1
      have hK := (hK.sub (tys' := [(cw, .boolean)]) [0] rfl).app hK1
      generalize H1 = H at hP hS ⊢
      have hP : va_P D vwCl [(wt, .inl (cw, 2, .inl (fun _ => 0))), (h0, .inr (12, u12))] H := hP
      have hD : va_D A [(wt, .inl (cw, 2, .inl (fun _ => 0))), (h0, .inr (12, u12))] := hD
      have hK : va_K D vwCl [(cw, .boolean)] s := hK
      subst er11
      refine lv_if_eq (tgt := 39) hx hb dX12_show_34 (by decide) (fun c9 => False.elim (by revert c9; decide)) (fun _ => ?_)
      refine lv_iconst (v := 0) hx hb dX12_show_37 (by decide +kernel) ?_
      have hP : va_P D vwCl [(h0, .inr (12, u12))] H := hP.sub [1] rfl
      have hD : va_D A [(h0, .inr (12, u12))] := hD.sub [1] (by decide) rfl
      have hK : va_K D vwCl [] s := hK.sub [] rfl
      exact W.iret (v := 0) hx hb hr (fun t ht hW => ⟨⟨0, u12, rfl, ⟨1, gu12_0, Or.inr (Or.inl ⟨rfl, Or.inr hj⟩)⟩, by rw [ht]; exact hP, va_K.moved hW.alike hK, hD⟩, hS.F ht⟩) hS.2.2 dX12_show_38
  · subst er2
    refine lv_if_eq (tgt := 25) hx hb dX12_show_12 (by decide) (fun _ => ?_) (fun c9 => False.elim (by revert c9; decide))
    refine lv_iconst (v := 1) hx hb dX12_show_25 (by decide +kernel) ?_
    refine lv_goto (tgt := 30) hx hb dX12_show_26 (by decide) ?_
    refine lv_iconst (v := 1) hx hb dX12_show_30 (by decide +kernel) ?_
    have hPc := hP.sub (ws' := [(h0, .inr (12, fs1))]) [0] rfl
    have hDc := hD.sub (ws' := [(h0, .inr (12, fs1))]) [0] (by decide) rfl
    have hKc := hK.sub (tys' := []) [] rfl
    have hFc := va_free (wc := [(h0, .inr (12, fs1))]) hD hS hA [0] rfl
    refine va_calli (va_runV (As := [.int 1, .int 1]) (rest := []) ⟨hx, hb, hml, hown, hts⟩ (c_m_refuses_y1 l D h0 fs1 H.size lfs1 gfs1_0) (cwV 2 hts g_v_c_m_show_4 rfl rfl rfl (by decide +kernel) ⟨Nat.le_of_ble_eq_true rfl, Nat.le_of_ble_eq_true rfl⟩) ⟨st_blind, va_recv hKc hPc (ci := 12) (q0 := 0) rfl rfl, fun U hU hW => ⟨rfl, st_call hU hW hPc hKc hDc hZ hS hFc hE⟩⟩ rfl rfl hl.1 rfl (lv_room (Nat.le_of_ble_eq_true rfl)) dX12_show_31 ⟨Nat.le_of_ble_eq_true rfl, Nat.le_of_ble_eq_true rfl⟩) hS (fun q _ h => hFc q h) hFc (fun r14 u15 t H1 locs ht hvm hw hB hz1 hk1 hS => ?_)
    obtain ⟨er14, eu15⟩ := hw
    have lu15 : u15.length = 139 := by rw [eu15, List.length_set]; exact lfs1
    have gu15_118 : u15[118]? = some (.ref wt) := by rw [eu15]; exact se_ne gfs1_118 (by decide)
    have gu15_0 : u15[0]? = some (.int 1) := by rw [eu15]; exact se_eq (by rw [lfs1]; decide)
    obtain ⟨hP1, hK1, hD1⟩ := hB
    rw [ht] at hP1
    have hK1 := va_K.moved hvm.symm hK1
    obtain ⟨hP, hD⟩ := va_join (wr := [(wt, .inl (cw, 2, .inl (fun _ => 0)))]) (w1 := [(h0, .inr (12, u15))]) hP hD [0] [1] rfl rfl (by decide) (by decide) hk1 hFc hP1 hD1
    have hK := (hK.sub (tys' := [(cw, .boolean)]) [0] rfl).app hK1
    generalize H1 = H at hP hS ⊢
    have hP : va_P D vwCl [(wt, .inl (cw, 2, .inl (fun _ => 0))), (h0, .inr (12, u15))] H := hP
    have hD : va_D A [(wt, .inl (cw, 2, .inl (fun _ => 0))), (h0, .inr (12, u15))] := hD
    have hK : va_K D vwCl [(cw, .boolean)] s := hK
    subst er14
    refine lv_if_eq (tgt := 39) hx hb dX12_show_34 (by decide) (fun c9 => False.elim (by revert c9; decide)) (fun _ => ?_)
    refine lv_iconst (v := 0) hx hb dX12_show_37 (by decide +kernel) ?_
    have hP : va_P D vwCl [(h0, .inr (12, u15))] H := hP.sub [1] rfl
    have hD : va_D A [(h0, .inr (12, u15))] := hD.sub [1] (by decide) rfl
    have hK : va_K D vwCl [] s := hK.sub [] rfl
    exact W.iret (v := 0) hx hb hr (fun t ht hW => ⟨⟨0, u15, rfl, ⟨1, gu15_0, Or.inr (Or.inl ⟨rfl, Or.inl hi⟩)⟩, by rw [ht]; exact hP, va_K.moved hW.alike hK, hD⟩, hS.F ht⟩) hS.2.2 dX12_show_38
noncomputable def v_c_m_alike : List Cond := .code yX12_alike cX12_alike 2 (some .int) :: ([.fieldLink RX12 316 "ScheduleHouseModel" "thrown" "I", .fieldLink RX12 254 "ScheduleHouseModel" "wasTried" "[Z"] ++ (wsX120 ++ ([])))
theorem i_v_c_m_alike_X12 : ∀ w ∈ wsX120, w ∈ v_c_m_alike := fun _ h => List.mem_cons_of_mem _ (List.mem_append_right _ (List.mem_append_left _ h))
theorem t_v_c_m_alike : ∀ w ∈ v_c_m_alike, w ∈ lw_tbl := tb_c (List.mem_of_getElem? (i := 3007) (by decide +kernel)) (tb_a (tb_c (List.mem_of_getElem? (i := 2072) (by decide +kernel)) (tb_c (List.mem_of_getElem? (i := 2189) (by decide +kernel)) (tb_n))) (tb_a (tw_wsX120) (tb_n)))
set_option maxHeartbeats 400000 in
set_option maxRecDepth 100000 in
/-- the model's alike -/
theorem c_m_alike (l : Launch) (D : va_G) (h0 wt : Nat) (cw : ClassId) (fs : List Value) (sz : Nat) (hlen : fs.length = 139) (hf_thrown : fs[0]? = some (.int 0)) (hf_wt : fs[118]? = some (.ref wt)) : Met l yX12_alike v_c_m_alike ({ frames := 1, cells := 0, slots := 0, locals := 12 }) (va_Pc [.ref h0] (st_ D [(h0, .inr (12, fs)), (wt, .inl (cw, 2, .inl (fun _ => 0)))] [(cw, .boolean)] sz)) (va_Qi (fun (r : Int32) (_ : Unit) => r = -1) (fun _ _ => True) (va_A [(h0, .inr (12, fs)), (wt, .inl (cw, 2, .inl (fun _ => 0)))] sz)) 0 0 (va_A [(h0, .inr (12, fs)), (wt, .inl (cw, 2, .inl (fun _ => 0)))] sz) := by
  refine Met.ofW (cc := cX12_alike) (maxL := 2) (ret := (some .int)) (by decide) rfl ?_
  intro p e s m args below meth c s₁ B hml hv
  obtain ⟨rfl, hsz, hP, hK, hD0, hZ, hE⟩ := hv
  have hx := B.exec
  have hb := B.bytes
  have hr := B.returns
  have hts := atoms_spec (ws := v_c_m_alike) B.pre
  have hown : s.vm.findClass RX12 = some m.cls := findClass_of_methodNamed B.named
  have hlocks := B.notSynchronized
  subst hsz
  have hD := hD0.self (sz := s.heap.size)
  generalize hAe : va_A [(h0, .inr (12, fs)), (wt, .inl (cw, 2, .inl (fun _ => 0)))] s.heap.size = A at hD hZ ⊢
  have hA : ∀ q : Nat, s.heap.size ≤ q → A q := fun q h => by rw [← hAe]; exact Or.inr h
  have hS : va_S A s.heap s.heap [] := va_S.rf
  have hAO := hE.2.2.2.1
  have hP : va_P D vwCl [(h0, .inr (12, fs)), (wt, .inl (cw, 2, .inl (fun _ => 0)))] s.heap := hP
  have hl := lv_entry ([.ref h0]) (n := 2) (Nat.le_of_ble_eq_true rfl)
  rw [lg_entry_eq]
  generalize (lg_sl ([.ref h0]) ++ List.replicate (2 - (lg_sl ([.ref h0])).length) Slot.unset).toArray = ls at hl ⊢
  have hl : lv_has ls 2 [(0, .ref h0)] := hl
  refine lv_aload_n hx hb dX12_alike_0 rfl (lv_at hl 0 rfl) ?_
  refine lv_iconst (v := 0) hx hb dX12_alike_1 (by decide +kernel) ?_
  refine va_put (D := D) (ci := 12) (v := .int 0) (ty := .int) (C := RX12) (T := TX12) (N := 139) hx hb hts i_v_c_m_alike_X12 tyX12 tyX12_ok nmX12 hown hK hP hD hS 0 rfl rfl 0 (by decide) (hts (.fieldLink RX12 316 "ScheduleHouseModel" "thrown" "I") (by decide +kernel)) (fun _ h9 => h9) rfl (by decide +kernel) rfl rfl (by rw [hlen]; decide) dX12_alike_2 (fun H locs hP hD hS => ?_)
  obtain ⟨fs1, hfs1⟩ : ∃ z, z = fs.set 0 (.int 0) := ⟨_, rfl⟩
  rw [← hfs1] at hP hD
  have lfs1 : fs1.length = 139 := by rw [hfs1, List.length_set]; exact hlen
  have gfs1_118 : fs1[118]? = some (.ref wt) := by rw [hfs1, List.getElem?_set_ne (by decide)]; exact hf_wt
  have gfs1_0 : fs1[0]? = some (.int 0) := by rw [hfs1]; exact List.getElem?_set_self (by rw [hlen]; decide)
  have hP : va_P D vwCl [(h0, .inr (12, fs1)), (wt, .inl (cw, 2, .inl (fun _ => 0)))] H := hP
  have hD : va_D A [(h0, .inr (12, fs1)), (wt, .inl (cw, 2, .inl (fun _ => 0)))] := hD
  refine lv_aload_n hx hb dX12_alike_5 rfl (lv_at hl 0 rfl) ?_
  refine va_get (D := D) (ci := 12) (v := .ref wt) (C := RX12) (T := TX12) (N := 139) hx hb hts i_v_c_m_alike_X12 hown hK hP 0 rfl rfl 118 (by decide) (hts (.fieldLink RX12 254 "ScheduleHouseModel" "wasTried" "[Z") (by decide +kernel)) (fun _ h9 => h9) gfs1_118 dX12_alike_6 ?_
  refine lv_iconst (v := 0) hx hb dX12_alike_9 (by decide +kernel) ?_
  refine va_zald hx hb hK hP 1 0 rfl rfl (i := 0) (by unfold vp_in; decide) dX12_alike_10 ?_
  refine lv_if_eq (tgt := 41) hx hb dX12_alike_11 (by decide) (fun _ => ?_) (fun c9 => False.elim (by revert c9; decide))
  refine lv_iconst (v := (-1)) hx hb dX12_alike_41 (by decide +kernel) ?_
  exact W.iret (v := (-1)) hx hb hr (fun t ht hW => ⟨⟨-1, (), rfl, rfl, trivial⟩, hS.F ht⟩) hS.2.2 dX12_alike_42
